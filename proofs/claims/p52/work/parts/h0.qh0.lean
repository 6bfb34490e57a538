/-! THE LAW'S PURE SIDE 46: a bath is drawn: the text builder, with what stands beside it -/
def plain (W : List Int) : Prop := ∀ c, c ∈ W → 0 ≤ c ∧ c < 128
theorem plain_app {W V : List Int} (h : plain W) (g : plain V) : plain (W ++ V) := fun c hc => (List.mem_append.mp hc).elim (h c) (g c)
theorem plain_one {c : Int} (h0 : 0 ≤ c) (h1 : c < 128) : plain [c] := fun x hx => by
  have : x = c := List.mem_singleton.mp hx
  omega
theorem plain_num {x : Int} (hx : 0 ≤ x ∧ x < 10000) : plain (numI x) := fun c hc => by
  obtain ⟨i, hi, e⟩ := List.mem_iff_getElem.mp hc
  have := (numI_d hx).2.2 i hi
  rw [List.getD_eq_getElem?_getD, List.getElem?_eq_getElem hi] at this
  have : 48 ≤ (numI x)[i] ∧ (numI x)[i] ≤ 57 := this
  omega
theorem plain_dec {x : Int} (hx : -9999 ≤ x ∧ x ≤ 9999) : plain (decI x) := by
  unfold decI
  split
  · exact plain_app (W := [45]) (plain_one (by omega) (by omega)) (plain_num (by omega))
  · exact plain_num (by omega)
theorem decI_nn {x : Int} (h : 0 ≤ x) : decI x = numI x := if_neg (by omega)
theorem numI_map (x : Int) : (numI x).map zo = decN x := by
  unfold numI decN dgt
  split
  · rfl
  · split
    · rfl
    · split <;> rfl
theorem decI_map (x : Int) : (decI x).map zo = dec x := by
  unfold decI dec
  split
  · rw [List.map_cons, numI_map]
  · exact numI_map x
theorem numI_len (x : Int) : (numI x).length ≤ 4 := by
  unfold numI
  split
  · simp
  · split
    · simp
    · split <;> simp
theorem decI_len (x : Int) : (decI x).length ≤ 5 := by
  unfold decI
  split
  · rw [List.length_cons]; have := numI_len (-x); omega
  · have := numI_len x; omega
/-- the builder at k holds W; T0: before; at most A cells more; pr: one more cell that stays -/
def BB (T0 T : qS) (k : Nat) (W : List Int) (A : Nat) (pr : Option (Nat × qC)) : Prop := plain W ∧ ∃ j bs, SB T k j (W.map zo) bs ∧ T0.2.length ≤ k ∧ T0.2.length ≤ j ∧ NF T0 T A ∧ ∀ q c, pr = some (q, c) → (q ≠ k ∧ q ≠ j ∧ T0.2.length ≤ q) ∧ zx_nth T.2 q = some c
section BU
variable {T0 T : qS} {k A t d L q : Nat} {W B : List Int} {pr : Option (Nat × qC)} {c x : Int} {xs : List Int32}
theorem BB.up {A2 : Nat} (h : BB T0 T k W A pr) (hA : A ≤ A2) : BB T0 T k W A2 pr := by
  obtain ⟨h0, j, bs, h1, h2, h3, h4, h5⟩ := h
  exact ⟨h0, j, bs, h1, h2, h3, h4.up hA, h5⟩
theorem BB.st1 (h : BB T0 T k W A pr) : T.1 = T0.1 := by
  obtain ⟨h0, j, bs, h1, h2, h3, h4, h5⟩ := h
  exact h4.1
theorem BB.nx {T' : qS} {j j' : Nat} {bs bs' : List Int32} (h0 : plain W) (h1 : SB T k j (W.map zo) bs) (h2 : T0.2.length ≤ k) (h3 : T0.2.length ≤ j) (h4 : NF T0 T A) (h5 : ∀ q c, pr = some (q, c) → (q ≠ k ∧ q ≠ j ∧ T0.2.length ≤ q) ∧ zx_nth T.2 q = some c) (hB : plain B) (g : SB T' k j' ((W ++ B).map zo) bs') (f : SBF T T' k j j' 1) : BB T0 T' k (W ++ B) (A + 1) pr := by
  refine ⟨plain_app h0 hB, j', bs', g, h2, ?_, h4.sb h2 h3 f, fun q c hq => ?_⟩
  · have := h4.2.1
    rcases f.2.2.2.2.1 with e | e <;> omega
  · obtain ⟨⟨q1, q2, q3⟩, q4⟩ := h5 q c hq
    have := qn_lt q4
    refine ⟨⟨q1, ?_, q3⟩, f.2.2.2.2.2 q c q1 q2 q4⟩
    rcases f.2.2.2.2.1 with e | e <;> omega
theorem BB.tt (h : BB T0 T k W A pr) (ht : zx_nth zt_texts t = some (B.map zo)) (hB : plain B) (hm : W.length + B.length ≤ 1000) : ∃ T', BB T0 T' k (W ++ B) (A + 1) pr ∧ ∀ (st : List zV) (nx : List zV → qS → Option qO), zx_if (qx_rc (8, k, 0) 11 T) (qx_ret 5 (q_sem zF (d + 11) 21 [za 8 k 0, za 6 t 0] T) st nx) = nx (za 8 k 0 :: st) T' := by
  obtain ⟨h0, j, bs, h1, h2, h3, h4, h5⟩ := h
  obtain ⟨T', j', bs', e, g, f⟩ := Q21 (d := d + 6) h1 ht (by rw [List.length_map, List.length_map]; exact hm)
  rw [← List.map_append] at g
  exact ⟨T', BB.nx h0 h1 h2 h3 h4 h5 hB g f, fun st nx => by rw [qp_rc h1.1]; exact qr_r e⟩
theorem BB.cc (h : BB T0 T k W A pr) (c0 : 0 ≤ c) (c1 : c < 128) (hm : W.length ≤ 990) : ∃ T', BB T0 T' k (W ++ [c]) (A + 1) pr ∧ ∀ (st : List zV) (nx : List zV → qS → Option qO), zx_if (qx_rc (8, k, 0) 11 T) (qx_ret 5 (q_sem zF (d + 11) 22 [za 8 k 0, zi (zo c)] T) st nx) = nx (za 8 k 0 :: st) T' := by
  obtain ⟨h0, j, bs, h1, h2, h3, h4, h5⟩ := h
  obtain ⟨T', j', bs', e, g, f⟩ := Q22 (d := d + 6) h1 c0 c1 (by rw [List.length_map]; omega)
  rw [show [zo c] = [c].map zo from rfl, ← List.map_append] at g
  exact ⟨T', BB.nx h0 h1 h2 h3 h4 h5 (plain_one c0 c1) g f, fun st nx => by rw [qp_rc h1.1]; exact qr_r e⟩
theorem BB.nn (h : BB T0 T k W A pr) (x0 : -9999 ≤ x) (x1 : x ≤ 9999) (hm : W.length ≤ 990) : ∃ T', BB T0 T' k (W ++ decI x) (A + 1) pr ∧ ∀ (st : List zV) (nx : List zV → qS → Option qO), zx_if (qx_rc (8, k, 0) 11 T) (qx_ret 5 (q_sem zF (d + 11) 23 [za 8 k 0, zi (zo x)] T) st nx) = nx (za 8 k 0 :: st) T' := by
  obtain ⟨h0, j, bs, h1, h2, h3, h4, h5⟩ := h
  have dl := decI_len x
  have dl2 : (dec x).length = (decI x).length := by rw [← decI_map, List.length_map]
  obtain ⟨T', j', bs', e, g, f⟩ := Q23 (d := d + 6) h1 x0 x1 (by rw [List.length_map]; omega)
  rw [← decI_map, ← List.map_append] at g
  exact ⟨T', BB.nx h0 h1 h2 h3 h4 h5 (plain_dec ⟨x0, x1⟩) g f, fun st nx => by rw [qp_rc h1.1]; exact qr_r e⟩
/-- a word of the script -/
theorem BB.s (h : BB T0 T k W A pr) (hL : T0.1.1 5 0 1 0 = zo (L : Int)) (hL2 : L ≤ 10000) (hq : q ≤ 10000) (st : List zV) (nx : List zV → qS → Option qO) : qx_ret 1 (q_sem zF (d + 11) 35 [za 5 0 0, zi (zo (q : Int))] T) st nx = nx (zi (scl T0.1 L q) :: st) T := by
  have e := Q35 (d := d + 10) (T := T) (L := L) (k := q) (by rw [h.st1]; exact hL) hL2 hq
  rw [h.st1] at e
  exact qr_1 e
/-- an array of truths is made -/
theorem BB.new (h : BB T0 T k W A pr) {n : Int} (n0 : 0 ≤ n) (n1 : n ≤ 3000) : ∃ q T', BB T0 T' k W (A + 1) (some (q, .inr (.inl (6, List.replicate n.toNat 0)))) ∧ ∀ (nx : zV → qS → Option qO), qa_new (zo n) 6 T nx = nx (za 8 q 0) T' := by
  obtain ⟨h0, j, bs, h1, h2, h3, h4, h5⟩ := h
  have hk := qn_lt h1.1
  have hj := qn_lt h1.2.1
  have n2 := h4.tr (NF.push T (.inr (.inl (6, List.replicate n.toNat 0))) (by show (List.replicate _ _).length ≤ 3000; rw [List.length_replicate]; omega))
  refine ⟨T.2.length, (T.1, T.2 ++ [.inr (.inl (6, List.replicate n.toNat 0))]), ⟨h0, j, bs, ⟨qn_app h1.1, qn_app h1.2.1, h1.2.2⟩, h2, h3, n2, fun q c hq => ?_⟩, fun nx => qp_new n0 (by omega)⟩
  have e := Option.some.inj hq
  have e1 : T.2.length = q := congrArg Prod.fst e
  have e2 : (.inr (.inl (6, List.replicate n.toNat 0)) : qC) = c := congrArg Prod.snd e
  subst e1
  subst e2
  have := h4.2.1
  exact ⟨⟨by omega, by omega, by omega⟩, qn_last _ _⟩
theorem BB.ld (h : BB T0 T k W A (some (q, .inr (.inl (6, xs))))) {i : Nat} (hi : i < xs.length) (hl : xs.length ≤ 1000) (nx : Int32 → Option qO) : qa_bld (8, q, 0) (zo (i : Int)) T nx = nx (xs.getD i 0) := by
  obtain ⟨h0, j, bs, h1, h2, h3, h4, h5⟩ := h
  rw [qp_bld (h5 q _ rfl).2 (Or.inr rfl) (by omega) (by omega) (by omega), Int.toNat_natCast]
theorem BB.wr (h : BB T0 T k W A (some (q, .inr (.inl (6, xs))))) {i : Nat} (hi : i < xs.length) (hl : xs.length ≤ 1000) : ∃ T', BB T0 T' k W A (some (q, .inr (.inl (6, xs.set i 1)))) ∧ ∀ nx : qS → Option qO, qa_bst (8, q, 0) (zo (i : Int)) (zo 1) T nx = nx T' := by
  obtain ⟨h0, j, bs, h1, h2, h3, h4, h5⟩ := h
  obtain ⟨⟨q1, q2, q3⟩, q4⟩ := h5 q _ rfl
  have hls : (xs.set i (zo 1)).length = xs.length := List.length_set
  refine ⟨(T.1, T.2.set q (.inr (.inl (6, xs.set i (zo 1))))), ⟨h0, j, bs, ⟨?_, ?_, h1.2.2⟩, h2, h3, h4.set q3 q4 (by show (xs.set i (zo 1)).length = xs.length; exact hls), fun q' c hq => ?_⟩, fun nx => ?_⟩
  · show zx_nth (T.2.set q _) k = _
    rw [qn_ne q1]; exact h1.1
  · show zx_nth (T.2.set q _) j = _
    rw [qn_ne q2]; exact h1.2.1
  · have e := Option.some.inj hq
    have e1 : q = q' := congrArg Prod.fst e
    have e2 : (.inr (.inl (6, xs.set i 1)) : qC) = c := congrArg Prod.snd e
    subst e1
    subst e2
    exact ⟨⟨q1, q2, q3⟩, qn_eq q4⟩
  · rw [qp_bstz q4 (by decide) (by omega) (by omega) (by omega), Int.toNat_natCast]
/-- without the other cell -/
theorem BB.no (h : BB T0 T k W A pr) : BB T0 T k W A none := by
  obtain ⟨h0, j, bs, h1, h2, h3, h4, h5⟩ := h
  exact ⟨h0, j, bs, h1, h2, h3, h4, fun q c hq => nomatch hq⟩
end BU
theorem tx_27 : zx_nth zt_texts 27 = some ((32 :: (txw 6 ++ [32])).map zo) := by decide
theorem tx_28 : zx_nth zt_texts 28 = some ((32 :: (txw 16 ++ [32])).map zo) := by decide
theorem tx_29 : zx_nth zt_texts 29 = some ((32 :: (txw 23 ++ [32])).map zo) := by decide
theorem tx_30 : zx_nth zt_texts 30 = some ((32 :: (txw 24 ++ [32])).map zo) := by decide
theorem tx_31 : zx_nth zt_texts 31 = some ((txw 1 ++ [32]).map zo) := by decide
theorem tx_32 : zx_nth zt_texts 32 = some ((txw 2 ++ [32]).map zo) := by decide
theorem tx_33 : zx_nth zt_texts 33 = some ((txw 3 ++ [32]).map zo) := by decide
theorem tx_34 : zx_nth zt_texts 34 = some ((txw 17 ++ [32]).map zo) := by decide
theorem tx_35 : zx_nth zt_texts 35 = some ((txw 20 ++ [32]).map zo) := by decide

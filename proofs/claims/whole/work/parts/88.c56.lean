/-! THE PURE SIDE 56: queries: the stack; model -/
def Fs (S S' : zS) : Prop := S'.2 = S.2 ∧ ∀ k m o j, ¬(k = 3 ∧ m = 0 ∧ o = 9) → S'.1 k m o j = S.1 k m o j
def Cg (a : Rw) (b : Nat) (C : List Int) (v : Int) : Prop := 0 < C.length ∧ ∀ (d t k f : Nat) (S : zS) (L : List Int), Md S 0 a → Cd S L → (∀ i, i < C.length → L.getD (k + i) 0 = C.getD i 0) → k + C.length ≤ L.length → t + C.length ≤ 200 → ∃ S', zy zF (d + 4) 289 (f + C.length) 4 [some (za 3 0 0), some (zi (zo b)), some (zi (zo t)), some (zi (zo k)), none] S = zy zF (d + 4) 289 f 4 [some (za 3 0 0), some (zi (zo b)), some (zi (zo ((t + 1 : Nat) : Int))), some (zi (zo ((k + C.length : Nat) : Int))), none] S' ∧ S'.1 3 0 9 t = zo v ∧ (∀ i, i < t → S'.1 3 0 9 i = S.1 3 0 9 i) ∧ Fs S S'
def GF (a : Rw) (f : Et → Rq) : Prop := ∀ st, isO (f st).1 = true → ∀ b : Nat, (b : Int) < a 9 → Cg a b (f st).2.1 (bI ((f st).2.2 b))
section DQ
variable {S : zS} {d n p k m t b : Nat} {tx : Nat → Int} {a : Rw} {st : Et} {T : Int} {f : Et → Rq} {L C C1 C2 : List Int} {c o v v1 v2 r : Int}
theorem Fs_refl (S : zS) : Fs S S := ⟨rfl, fun _ _ _ _ _ => rfl⟩
theorem Fs_trans {S S1 S2 : zS} (h1 : Fs S S1) (h2 : Fs S1 S2) : Fs S S2 := ⟨h2.1.trans h1.1, fun k m o j a => (h2.2 k m o j a).trans (h1.2 k m o j a)⟩
theorem Fs_set {S S' : zS} (h : Fs S S') (j : Nat) (v : Int32) : Fs S (zs_set S' 3 0 9 j v) := ⟨h.1, fun k m o i b => by rw [zs_oth (by omega)]; exact h.2 k m o i b⟩
theorem Fs_Md {S S' : zS} {q : Nat} (h : Fs S S') (hM : Md S q a) : Md S' q a := ⟨by rw [h.2 _ _ _ _ (by omega)]; exact hM.1, hM.2.1, fun j hj => by rw [h.2 _ _ _ _ (by omega)]; exact hM.2.2 j hj⟩
theorem Fs_Cd {S S' : zS} (h : Fs S S') (hC : Cd S L) : Cd S' L := Cd_x hC (h.2 _ _ _ _ (by omega)) (fun j => h.2 _ _ _ _ (by omega))
theorem n280 (h : Md S 0 a) (hw : WF T a) (hb : (b : Int) < a 9) {w : Nat} (hw2 : w ≤ 9) : zr_sem zF (d + 3) 280 [za 3 0 0, zi (zo b), zi (zo w)] S = some (.inl (some (zi (zo (pv a b (-1 - (w : Int)))))), S) := by
  have u9 := hw.1.2.2.2.2.2.2.2.2.2
  have hb12 : b < 12 := by omega
  have uN := WF_nc hw
  have gB := hw.2.2.2.1 b hb
  have : w = 0 ∨ w = 1 ∨ w = 2 ∨ w = 3 ∨ w = 4 ∨ w = 5 ∨ w = 6 ∨ w = 7 ∨ w = 8 ∨ w = 9 := by omega
  rw [ze_280]
  rcases this with x | x | x | x | x | x | x | x | x | x <;> subst x
  · rw [if_pos (by decide), show (-1 - ((0 : Nat) : Int)) = -1 from rfl, pv_1]
  · rw [if_neg (by decide), if_pos (by decide), show (-1 - ((1 : Nat) : Int)) = -2 from rfl, pv_2, zo_sub, show (((1 : Nat) : Int) - 1) = ((0 : Nat) : Int) from rfl, m194 (d := d) (w := 0) h hw hb (by omega), zr1]
  · rw [if_neg (by decide), if_neg (by decide), if_pos (by decide), show (-1 - ((2 : Nat) : Int)) = -3 from rfl, pv_3, zo_sub, show (((2 : Nat) : Int) - 1) = ((1 : Nat) : Int) from rfl, m194 (d := d) (w := 1) h hw hb (by omega), zr1]
  · rw [if_neg (by decide), if_neg (by decide), if_neg (by decide), if_pos (by decide), show (-1 - ((3 : Nat) : Int)) = -4 from rfl, pv_4, m160_1 (d := d + 1) h hb12, zr1]
  · rw [if_neg (by decide), if_neg (by decide), if_neg (by decide), if_neg (by decide), if_pos (by decide), show (-1 - ((4 : Nat) : Int)) = -5 from rfl, pv_5, m160_2 (d := d + 1) h hb12, zr1]
  · rw [if_neg (by decide), if_neg (by decide), if_neg (by decide), if_neg (by decide), if_neg (by decide), if_pos (by decide), show (-1 - ((5 : Nat) : Int)) = -6 from rfl, pv_6, m160_3 (d := d + 1) h hb12, zr1]
  · rw [if_neg (by decide), if_neg (by decide), if_neg (by decide), if_neg (by decide), if_neg (by decide), if_neg (by decide), if_pos (by decide), show (-1 - ((6 : Nat) : Int)) = -7 from rfl, pv_7, m160_6 (d := d + 1) h hb12, zr1]
  · have e := m_ix h (i := 160 + a (40 + 10 * b)) (j := 160 + (a (40 + 10 * b)).toNat) (by omega) (by omega)
    rw [if_neg (by decide), if_neg (by decide), if_neg (by decide), if_neg (by decide), if_neg (by decide), if_neg (by decide), if_neg (by decide), if_pos (by decide), show (-1 - ((7 : Nat) : Int)) = -8 from rfl, pv_8, h.1, if_pos (by decide), m160_0 (d := d + 1) h hb12, zr1, zo_add, zin_ok (by omega) (by omega) (by omega), zo_nn (by omega) (by omega), e]
  · rw [if_neg (by decide), if_neg (by decide), if_neg (by decide), if_neg (by decide), if_neg (by decide), if_neg (by decide), if_neg (by decide), if_neg (by decide), if_pos (by decide), show (-1 - ((8 : Nat) : Int)) = -9 from rfl, pv_9, m160_8 (d := d + 1) h hb12, zr1]
  · rw [if_neg (by decide), if_neg (by decide), if_neg (by decide), if_neg (by decide), if_neg (by decide), if_neg (by decide), if_neg (by decide), if_neg (by decide), if_neg (by decide), show (-1 - ((9 : Nat) : Int)) = -10 from rfl, pv_10, m160_9 (d := d + 1) h hb12, zr1]
/-- an operator's result -/
def opR (c v1 v2 r : Int) : Prop := (c = -20 ∨ c = -21 ∨ c = -22 ∨ c = -24 ∨ c = -25) ∧ ∀ (d : Nat) (S : zS), zr_sem zF (d + 1) 288 [zi (zo c), zi (zo v1), zi (zo v2)] S = some (.inl (some (zi (zo r))), S)
theorem opR_c {s x y : Int} (hs : s = 60 ∨ s = 61 ∨ s = 62) (hx : -1 ≤ x ∧ x ≤ 2000000) (hy : -1 ≤ y ∧ y ≤ 2000000) : opR (opC s) x y (bI (cmO s x y)) := by
  rcases hs with e | e | e <;> subst e
  · refine ⟨by decide, fun d S => ?_⟩
    rw [ze_288, show opC 60 = -20 from rfl, if_neg (by decide), if_neg (by decide), if_neg (by decide), if_neg (by decide), if_pos (by decide)]
    show _ = some (Sum.inl (some (zi (zo (bI (decide (x < y)))))), S)
    by_cases c : x < y
    · rw [if_neg (by rw [zo_le (by omega) (by omega) (by omega) (by omega)]; omega), bI_dt c]
    · rw [if_pos (by rw [zo_le (by omega) (by omega) (by omega) (by omega)]; omega), bI_df c]
  · refine ⟨by decide, fun d S => ?_⟩
    rw [ze_288, show opC 61 = -21 from rfl, if_neg (by decide), if_neg (by decide), if_neg (by decide), if_pos (by decide)]
    show _ = some (Sum.inl (some (zi (zo (bI (decide (x = y)))))), S)
    by_cases c : x = y
    · rw [if_pos (by rw [zo_eq (by omega) (by omega) (by omega) (by omega)]; omega), bI_dt c]
    · rw [if_neg (by rw [zo_eq (by omega) (by omega) (by omega) (by omega)]; omega), bI_df c]
  · refine ⟨by decide, fun d S => ?_⟩
    rw [ze_288, show opC 62 = -22 from rfl, if_neg (by decide), if_neg (by decide), if_pos (by decide)]
    show _ = some (Sum.inl (some (zi (zo (bI (decide (y < x)))))), S)
    by_cases c : y < x
    · rw [if_neg (by rw [zo_le (by omega) (by omega) (by omega) (by omega)]; omega), bI_dt c]
    · rw [if_pos (by rw [zo_le (by omega) (by omega) (by omega) (by omega)]; omega), bI_df c]
theorem opR_and {x y : Bool} : opR (-24) (bI x) (bI y) (bI (x && y)) := by
  refine ⟨by decide, fun d S => ?_⟩
  rw [ze_288, if_pos (by decide)]
  cases x <;> cases y <;> rfl
theorem opR_or {x y : Bool} : opR (-25) (bI x) (bI y) (bI (x || y)) := by
  refine ⟨by decide, fun d S => ?_⟩
  rw [ze_288, if_neg (by decide), if_neg (by decide), if_neg (by decide), if_neg (by decide), if_neg (by decide)]
  cases x <;> cases y <;> rfl
theorem Cg_v (hw : WF T a) (hb : (b : Int) < a 9) (hv : -10 ≤ c ∧ c ≤ 9999) : Cg a b [c] (pv a b c) := by
  refine ⟨Nat.zero_lt_one, fun d t k f S L hM hC hi hk ht => ?_⟩
  have hk : k + 1 ≤ L.length := hk
  have ht : t + 1 ≤ 200 := ht
  have hl := hC.2.1
  have e8 : S.1 3 0 8 (zo (k : Int)).toNatClampNeg = zo c := by
    rw [zo_nn (by omega) (by omega), Int.toNat_natCast, hC.2.2 k (by omega)]
    congr 1
    exact hi 0 (show 0 < [c].length from Nat.zero_lt_one)
  have en : (zo (t : Int)).toNatClampNeg = t := by rw [zo_nn (by omega) (by omega)]; exact Int.toNat_natCast _
  have e1 : zo (k : Int) + zo 1 = zo ((k + 1 : Nat) : Int) := by rw [zo_add]; rfl
  have e2 : zo (t : Int) + zo 1 = zo ((t + 1 : Nat) : Int) := by rw [zo_add]; rfl
  show ∃ S', zy zF (d + 4) 289 (f + 1) 4 _ S = _ ∧ _
  rw [ze_289_4, hC.1, if_neg (by rw [zo_le (by omega) (by omega) (by omega) (by omega)]; omega), zin_ok (by omega) (by omega) (by omega), e8, if_neg (by rw [zo_eq (by omega) (by omega) (by omega) (by omega)]; omega), if_neg (by rw [zo_le (by omega) (by omega) (by omega) (by omega)]; omega)]
  have fin : ∀ v, ∃ S', zlt (zs_set S 3 0 9 t (zo v)) (fun S8 => zy zF (d + 4) 289 f 4 [some (za 3 0 0), some (zi (zo b)), some (zi (zo t + zo 1)), some (zi (zo k + zo 1)), none] S8) = zy zF (d + 4) 289 f 4 [some (za 3 0 0), some (zi (zo b)), some (zi (zo ((t + 1 : Nat) : Int))), some (zi (zo ((k + 1 : Nat) : Int))), none] S' ∧ S'.1 3 0 9 t = zo v ∧ (∀ i, i < t → S'.1 3 0 9 i = S.1 3 0 9 i) ∧ Fs S S' := by
    intro v
    rw [zlt_eq, e1, e2]
    exact ⟨_, rfl, zs_self, fun i hi => zs_oth (by omega), Fs_set (Fs_refl S) _ _⟩
  by_cases c0 : c < 0
  · obtain ⟨w, rfl⟩ : ∃ w : Nat, c = -1 - (w : Int) := ⟨(-1 - c).toNat, by omega⟩
    rw [if_pos (by rw [zo_lt (by omega) (by omega) (by omega) (by omega)]; exact c0), zo_sub, show -1 - (-1 - (w : Int)) = (w : Int) by omega, n280 (d := d + 1) hM hw hb (by omega), zr1, zin_ok (by omega) (by omega) (by omega), en]
    exact fin _
  · rw [if_neg (by rw [zo_lt (by omega) (by omega) (by omega) (by omega)]; exact c0), zin_ok (by omega) (by omega) (by omega), en, pv_n (by omega)]
    exact fin _
theorem gD_ap {i : Nat} : (C1 ++ C2).getD i 0 = if i < C1.length then C1.getD i 0 else C2.getD (i - C1.length) 0 := by
  show (C1 ++ C2)[i]?.getD 0 = _
  split
  · rw [List.getElem?_append_left (by assumption)]; rfl
  · rw [List.getElem?_append_right (by omega)]; rfl
theorem Cg_op (h1 : Cg a b C1 v1) (h2 : Cg a b C2 v2) (ho : opR c v1 v2 r) : Cg a b (C1 ++ C2 ++ [c]) r := by
  have ll : (C1 ++ C2 ++ [c]).length = C1.length + C2.length + 1 := by rw [List.length_append, List.length_append, List.length_singleton]
  refine ⟨by omega, fun d t k f S L hM hC hi hk ht => ?_⟩
  have p0 := h1.1
  rw [ll] at hi hk ht ⊢
  have hl := hC.2.1
  obtain ⟨S1, p1, p2, p3, p4⟩ := h1.2 d t k (f + 1 + C2.length) S L hM hC (fun i h => by rw [hi i (by omega), gD_ap, if_pos (by rw [List.length_append]; omega), gD_ap, if_pos h]) (by omega) (by omega)
  obtain ⟨S2, q1, q2, q3, q4⟩ := h2.2 d (t + 1) (k + C1.length) (f + 1) S1 L (Fs_Md p4 hM) (Fs_Cd p4 hC) (fun i h => by
    rw [show k + C1.length + i = k + (C1.length + i) by omega, hi _ (by omega), gD_ap, if_pos (by rw [List.length_append]; omega), gD_ap, if_neg (by omega)]
    congr 1
    omega) (by omega) (by omega)
  have hC2 := Fs_Cd q4 (Fs_Cd p4 hC)
  have e8 : S2.1 3 0 8 (zo ((k + C1.length + C2.length : Nat) : Int)).toNatClampNeg = zo c := by
    rw [zo_nn (by omega) (by omega), Int.toNat_natCast, hC2.2.2 _ (by omega)]
    congr 1
    rw [show k + C1.length + C2.length = k + (C1.length + C2.length) by omega, hi _ (by omega), gD_ap, if_neg (by rw [List.length_append]; omega)]
    rw [List.length_append, Nat.sub_self]; rfl
  have en : (zo (t : Int)).toNatClampNeg = t := by rw [zo_nn (by omega) (by omega)]; exact Int.toNat_natCast _
  have en1 : (zo ((t + 1 : Nat) : Int)).toNatClampNeg = t + 1 := by rw [zo_nn (by omega) (by omega)]; exact Int.toNat_natCast _
  have e2 : zo ((t + 1 + 1 : Nat) : Int) + zo (-1) = zo ((t + 1 : Nat) : Int) := by rw [zo_add]; congr 1; omega
  have e3 : zo ((t + 1 : Nat) : Int) - zo 1 = zo (t : Int) := by rw [zo_sub]; congr 1; omega
  have e4 : zo ((k + C1.length + C2.length : Nat) : Int) + zo 1 = zo ((k + (C1.length + C2.length + 1) : Nat) : Int) := by rw [zo_add]; congr 1; omega
  rw [show f + (C1.length + C2.length + 1) = f + 1 + C2.length + C1.length by omega, p1, q1, ze_289_4, hC2.1, if_neg (by rw [zo_le (by omega) (by omega) (by omega) (by omega)]; omega), zin_ok (by omega) (by omega) (by omega), e8]
  have co := ho.1
  rw [if_neg (by rw [zo_eq (by omega) (by omega) (by omega) (by omega)]; omega), if_pos (by rw [zo_le (by omega) (by omega) (by omega) (by omega)]; omega), e2, e3, zin_ok (by omega) (by omega) (by omega), zin_ok (by omega) (by omega) (by omega), en, en1, q2, q3 t (by omega), p2, ho.2 (d + 3), zr1, zin_ok (by omega) (by omega) (by omega), zlt_eq, e4]
  exact ⟨_, rfl, zs_self, fun i h => by rw [zs_oth (by omega), q3 i (by omega), p3 i h], Fs_set (Fs_trans p4 q4) _ _⟩
theorem Cg_not {x : Bool} (h1 : Cg a b C (bI x)) : Cg a b (C ++ [-23]) (bI !x) := by
  have ll : (C ++ [-23]).length = C.length + 1 := by rw [List.length_append, List.length_singleton]
  refine ⟨by omega, fun d t k f S L hM hC hi hk ht => ?_⟩
  rw [ll] at hi hk ht ⊢
  have hl := hC.2.1
  obtain ⟨S1, p1, p2, p3, p4⟩ := h1.2 d t k (f + 1) S L hM hC (fun i h => by rw [hi i (by omega), gD_ap, if_pos h]) (by omega) (by omega)
  have hC2 := Fs_Cd p4 hC
  have e8 : S1.1 3 0 8 (zo ((k + C.length : Nat) : Int)).toNatClampNeg = zo (-23) := by
    rw [zo_nn (by omega) (by omega), Int.toNat_natCast, hC2.2.2 _ (by omega)]
    congr 1
    rw [hi _ (by omega), gD_ap, if_neg (by omega), Nat.sub_self]; rfl
  have en : (zo (t : Int)).toNatClampNeg = t := by rw [zo_nn (by omega) (by omega)]; exact Int.toNat_natCast _
  have e3 : zo ((t + 1 : Nat) : Int) - zo 1 = zo (t : Int) := by rw [zo_sub]; congr 1; omega
  have e4 : zo ((k + C.length : Nat) : Int) + zo 1 = zo ((k + (C.length + 1) : Nat) : Int) := by rw [zo_add]; congr 1
  rw [show f + (C.length + 1) = f + 1 + C.length by omega, p1, ze_289_4, hC2.1, if_neg (by rw [zo_le (by omega) (by omega) (by omega) (by omega)]; omega), zin_ok (by omega) (by omega) (by omega), e8, if_pos rfl, e3, zin_ok (by omega) (by omega) (by omega), zin_ok (by omega) (by omega) (by omega), en, p2, zlt_eq, e4]
  refine ⟨_, rfl, ?_, fun i h => by rw [zs_oth (by omega), p3 i h], Fs_set p4 _ _⟩
  rw [zs_self]
  cases x <;> rfl
theorem cmq_G (hw : WF T a) : GF a (cmq tx n a) := by
  intro st _ b hb
  have b1 := pv_b hw hb (valC_b (tx := tx) (n := n) (st := st))
  have b2 := pv_b hw hb (valC_b (tx := tx) (n := n) (st := sgX tx n (valE tx n st)))
  exact Cg_op (Cg_v hw hb valC_b) (Cg_v hw hb valC_b) (opR_c sgC_b b1 b2)
theorem cjL_G (hf : GF a f) (hA : Af n f) : ∀ (m : Nat) (r : Rq), (isO r.1 = true → ∀ b : Nat, (b : Int) < a 9 → Cg a b r.2.1 (bI (r.2.2 b))) → isO (cjL tx n f m r).1 = true → ∀ b : Nat, (b : Int) < a 9 → Cg a b (cjL tx n f m r).2.1 (bI ((cjL tx n f m r).2.2 b)) := by
  intro m
  induction m with
  | zero => intro r h z; exact h z
  | succ m ih =>
    intro r h z
    unfold cjL at z ⊢
    split at z
    · rename_i g
      rw [if_pos g]
      refine ih _ (fun z2 b hb => ?_) z
      obtain ⟨p, e, _⟩ := kwO_ok g
      exact Cg_op (h (by rw [e]; rfl) b hb) (hf _ z2 b hb) opR_and
    · rename_i g
      rw [if_neg g]
      exact h z
theorem cnj_G (hf : GF a f) (hA : Af n f) : GF a (cnj tx n f) := fun st z => cjL_G hf hA 200 (f st) (hf st) z
theorem tsL_G (hf : GF a f) (hA : Af n f) : ∀ (m : Nat) (r : Rq), (isO r.1 = true → ∀ b : Nat, (b : Int) < a 9 → Cg a b r.2.1 (bI (r.2.2 b))) → isO (tsL tx n f m r).1 = true → ∀ b : Nat, (b : Int) < a 9 → Cg a b (tsL tx n f m r).2.1 (bI ((tsL tx n f m r).2.2 b)) := by
  intro m
  induction m with
  | zero => intro r h z; exact h z
  | succ m ih =>
    intro r h z
    unfold tsL at z ⊢
    split at z
    · rename_i g
      rw [if_pos g]
      refine ih _ (fun z2 b hb => ?_) z
      obtain ⟨p, e, _⟩ := kwO_ok g
      exact Cg_op (h (by rw [e]; rfl) b hb) (cnj_G hf hA _ z2 b hb) opR_or
    · rename_i g
      rw [if_neg g]
      exact h z
theorem tst_G (hf : GF a f) (hA : Af n f) : GF a (tst tx n f) := fun st z => tsL_G hf hA 200 (cnj tx n f st) (cnj_G hf hA st) z
theorem fac_G (hw : WF T a) : ∀ k : Nat, GF a (fac tx n a k) := by
  intro k
  induction k with
  | zero =>
    intro st z
    unfold fac at z ⊢
    split at z
    · rw [isO_ert] at z; exact (Bool.false_ne_true z).elim
    · rename_i c1
      rw [if_neg c1]
      split at z
      · rw [isO_ert] at z; exact (Bool.false_ne_true z).elim
      · rename_i c2
        rw [if_neg c2]
        exact cmq_G hw st z
  | succ k ih =>
    intro st z
    unfold fac at z ⊢
    split at z
    · rename_i c1
      rw [if_pos c1]
      exact fun b hb => Cg_not (ih _ z b hb)
    · rename_i c1
      rw [if_neg c1]
      split at z
      · rename_i c2
        rw [if_pos c2]
        exact fun b hb => tst_G (tx := tx) ih (fac_A k) _ (isO_ceE z) b hb
      · rename_i c2
        rw [if_neg c2]
        exact cmq_G hw st z
theorem n289 {x : Bool} (hM : Md S 0 a) (hC : Cd S L) (h : Cg a b L (bI x)) : ∃ S', zr_sem zF (d + 5) 289 [za 3 0 0, zi (zo b)] S = some (.inl (some (zi (zo (bI x)))), S') ∧ Fs S S' := by
  have hb := zF1_big
  have hl := hC.2.1
  obtain ⟨S1, p1, p2, p3, p4⟩ := h.2 d 0 0 (zF1 - L.length - 1 + 1) S L hM hC (fun i _ => by rw [Nat.zero_add]) (by omega) (by omega)
  rw [show zF1 - L.length - 1 + 1 + L.length = zF1 by omega] at p1
  have p1' : zy zF (d + 4) 289 zF1 4 [some (za 3 0 0), some (zi (zo b)), some (zi (zo 0)), some (zi (zo 0)), none] S = _ := p1
  rw [ze_289, p1', ze_289_4, (Fs_Cd p4 hC).1, if_pos (by rw [zo_le (by omega) (by omega) (by omega) (by omega)]; omega), zin_ok (by omega) (by omega) (by omega), show (zo 0).toNatClampNeg = 0 from rfl, p2]
  refine ⟨S1, ?_, p4⟩
  cases x <;> rfl
end DQ

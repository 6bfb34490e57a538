/-! THE LAW'S PURE SIDE 34: the dearest cell again; what the boats had is kept in rows -/
theorem qy44 {d n pc : Nat} {lv : zL} {st : List zV} {T : qS} : qy d 44 (n + 1) pc lv st T = qz d 44 n 33 pc lv st T := qy_z (M := (qm_44, 1, 3, 33)) rfl
theorem qy45 {d n pc : Nat} {lv : zL} {st : List zV} {T : qS} : qy d 45 (n + 1) pc lv st T = qz d 45 n 313 pc lv st T := qy_z (M := (qm_45, 2, 12, 313)) rfl
section LV
variable {S : zS} {w : qW} {d f : Nat} {a : Rw} {Tm : Int}
theorem d44 (h : Cb (S.1 0 0) a) (hw : WF Tm a) : ∀ (m q : Nat), q + m = (a 0 * a 1).toNat → qy (d + 4) 44 (f + m + 1) 4 [some (za 1 0 0), some (zi (zo (mxS a q))), some (zi (zo (q : Int)))] [] (S, w) = some (some (zi (zo (mxS a (a 0 * a 1).toNat))), (S, w)) := by
  have wn := WF_nc hw
  have w0 := hw.1.1
  have w1 := hw.1.2.1
  intro m
  induction m with
  | zero =>
    intro q hq
    rw [qy44]
    simp (disch := omega) only [qe_44_4_1ii__33, qe_44_10_1ii_ii_29, qe_44_15_1ii_iii_26, ps_0 h hw, ps_1 h hw, zo_mul, ↓ie_p, ↓ie_n]
    rw [show q = (a 0 * a 1).toNat by omega]
  | succ m ih =>
    intro q hq
    have hq9 : 0 ≤ (q : Int) ∧ (q : Int) < a 0 * a 1 := by omega
    obtain ⟨cb1, cb2⟩ := cellr hw hq9
    have mr := mxS_r hw q (by omega)
    have sr := hw.2.2.2.2.1 q (by omega)
    rw [show f + (m + 1) + 1 = (f + m + 1) + 1 by omega, qy44]
    simp (disch := omega) only [qe_44_4_1ii__33, qe_44_10_1ii_ii_29, qe_44_15_1ii_iii_26, qe_44_27_1ii_ii1i_18, qe_44_34_1ii_iii1i_13, qe_44_38_1ii_ii_11, ps_0 h hw, ps_1 h hw, pc_0 h hw cb1, cb2, Int.toNat_natCast, zo_mul, ↓zo_mod, zo_div, zo_add, zmax_o, ↓ie_p, ↓ie_n, ↓iq_n]
    exact ih (q + 1) (by omega)
theorem px_44 (h : Cb (S.1 0 0) a) (hw : WF Tm a) {st : List zV} {nx : List zV → qS → Option qO} : qx_ret 1 (q_sem zF (d + 5) 44 [za 1 0 0] (S, w)) st nx = nx (zi (zo (mxS a (a 0 * a 1).toNat)) :: st) (S, w) := by
  refine qr_1 ?_
  obtain ⟨f, hf⟩ : ∃ f, zF1 = f + (a 0 * a 1).toNat + 1 := ⟨zF1 - (a 0 * a 1).toNat - 1, by have := zF1_big; have := WF_nc hw; omega⟩
  rw [qn_44_1oo, qe_44_0_1oo__33, hf]
  exact d44 h hw (a 0 * a 1).toNat 0 (by omega)
theorem lmp_get (f : Nat → Int32) {t : Nat} : ∀ n, t < n → (lmp f n).getD t 0 = f t
  | 0, h => absurd h (Nat.not_lt_zero _)
  | n + 1, h => by
    show (lmp f n ++ [f n]).getD t 0 = f t
    rw [List.getD_eq_getElem?_getD]
    by_cases e : t = n
    · subst e
      rw [List.getElem?_append_right (by rw [lmp_len]; exact Nat.le_refl _), lmp_len, Nat.sub_self]
      rfl
    · rw [List.getElem?_append_left (by rw [lmp_len]; omega), ← List.getD_eq_getElem?_getD]
      exact lmp_get f n (by omega)
/-- rows of numbers behind w0: n of them, row i holds A i -/
def HD (w0 : qW) (n : Nat) (A : Nat → List Int32) (W : qW) : Prop := W.length = w0.length + 1 + n ∧ q_sl W = q_sl w0 + n + 11 * n ∧ zx_nth W w0.length = some (.inr (.inr ((List.range n).map (fun i => some (8, w0.length + 1 + i, 0))))) ∧ (∀ i, i < n → zx_nth W (w0.length + 1 + i) = some (.inr (.inl (0, A i)))) ∧ ∀ i c, zx_nth w0 i = some c → zx_nth W i = some c
theorem HD.ldr {w0 W : qW} {n : Nat} {A : Nat → List Int32} (H : HD w0 n A W) {b : Nat} (hb : b < n) (hn : n ≤ 100) {nx : zV → Option qO} : qa_ldr (8, w0.length, 0) (zo (b : Int)) (S, W) nx = nx (za 8 (w0.length + 1 + b) 0) := by
  show (match (generalizing := false) zx_nth W w0.length with
    | some (.inr (.inr l)) => qa_in (zo (b : Int)) (Int32.ofNat l.length) (match l.getD (zo (b : Int)).toNatClampNeg none with
      | some q => nx (.inr (.inl (some q)))
      | none => none)
    | _ => none) = _
  rw [H.2.2.1]
  have e : ((List.range n).map (fun i => (some (8, w0.length + 1 + i, 0) : Option zR))).getD (zo (b : Int)).toNatClampNeg none = some (8, w0.length + 1 + b, 0) := by
    rw [zo_nn (by omega) (by omega), Int.toNat_natCast, List.getD_eq_getElem?_getD, List.getElem?_map, List.getElem?_range hb]
    rfl
  show qa_in (zo (b : Int)) (Int32.ofNat ((List.range n).map _).length) (match (generalizing := false) ((List.range n).map (fun i => (some (8, w0.length + 1 + i, 0) : Option zR))).getD (zo (b : Int)).toNatClampNeg none with
      | some q => nx (.inr (.inl (some q)))
      | none => none) = _
  rw [e, List.length_map, List.length_range, qp_on, qp_in (by omega) (by omega) (by omega)]
theorem HD.ld {w0 W : qW} {n : Nat} {A : Nat → List Int32} (H : HD w0 n A W) {b : Nat} (hb : b < n) {t : Nat} (ht : t < (A b).length) (hl : (A b).length ≤ 1000) {nx : Int32 → Option qO} : qa_ld (8, w0.length + 1 + b, 0) (zo (t : Int)) (S, W) nx = nx ((A b).getD t 0) := by
  rw [qp_ld (T := (S, W)) (H.2.2.2.1 b hb) (by omega) (by omega) (by omega), Int.toNat_natCast]
theorem HD.set {w0 W : qW} {n : Nat} {A : Nat → List Int32} (H : HD w0 n A W) {b : Nat} (hb : b < n) {ys : List Int32} (hl : ys.length = (A b).length) : HD w0 n (fun i => if i = b then ys else A i) (W.set (w0.length + 1 + b) (.inr (.inl (0, ys)))) := by
  obtain ⟨h1, h2, h3, h4, h5⟩ := H
  have hb4 := h4 b hb
  refine ⟨by rw [List.length_set]; exact h1, ?_, ?_, fun i hi => ?_, fun i c hc => ?_⟩
  · rw [← h2]
    exact q_sl_set W _ (.inr (.inl (0, ys))) (.inr (.inl (0, A b))) (by rw [← zx_nth_get]; exact hb4) hl
  · rw [qn_ne (by omega)]; exact h3
  · show zx_nth _ _ = some (.inr (.inl (0, if i = b then ys else A i)) : qC)
    by_cases e : i = b
    · subst e
      rw [if_pos rfl]
      exact qn_eq hb4
    · rw [if_neg e, qn_ne (by omega)]
      exact h4 i hi
  · have := qn_lt hc
    rw [qn_ne (by omega)]
    exact h5 i c hc
theorem qp_new2 {w0 : qW} {n : Nat} (hn : n ≤ 100) {nx : zV → qS → Option qO} : ∃ W, HD w0 n (fun _ => List.replicate 11 0) W ∧ qa_new2 (zo (n : Int)) (zo 11) (S, w0) nx = nx (za 8 w0.length 0) (S, W) := by
  have h9 : zo 0 = (0 : Int32) := rfl
  refine ⟨w0 ++ (.inr (.inr ((List.range n).map (fun i => some (8, w0.length + 1 + i, 0)))) :: List.replicate n (.inr (.inl (0, List.replicate 11 0)))), ⟨?_, ?_, ?_, fun i hi => ?_, fun i c hc => qn_app hc⟩, ?_⟩
  · rw [List.length_append, List.length_cons, List.length_replicate]
    omega
  · rw [q_sl_app, show ((.inr (.inr ((List.range n).map (fun i => some (8, w0.length + 1 + i, 0)))) : qC) :: List.replicate n (.inr (.inl (0, List.replicate 11 0)))) = [(.inr (.inr ((List.range n).map (fun i => some (8, w0.length + 1 + i, 0)))) : qC)] ++ List.replicate n (.inr (.inl (0, List.replicate 11 0))) from rfl, q_sl_app, q_sl_one, q_sl_rep]
    show q_sl w0 + (((List.range n).map _).length + n * (List.replicate 11 _).length) = _
    rw [List.length_map, List.length_range, List.length_replicate]
    omega
  · have := qn_app_r (w := w0) (v := (.inr (.inr ((List.range n).map (fun i => some (8, w0.length + 1 + i, 0)))) :: List.replicate n (.inr (.inl (0, List.replicate 11 0))) : qW)) (k := 0) (c := .inr (.inr ((List.range n).map (fun i => some (8, w0.length + 1 + i, 0))))) rfl
    exact this
  · have := qn_app_r (w := w0) (v := (.inr (.inr ((List.range n).map (fun i => some (8, w0.length + 1 + i, 0)))) :: List.replicate n (.inr (.inl (0, List.replicate 11 0))) : qW)) (k := 1 + i) (c := .inr (.inl (0, List.replicate 11 0))) (by
      rw [zx_nth_get, show 1 + i = i + 1 by omega, List.getElem?_cons_succ, List.getElem?_replicate, if_pos hi])
    rw [← Nat.add_assoc] at this
    exact this
  · unfold qa_new2
    have g1 : ¬ zo (n : Int) < 0 := by rw [← h9, zo_lt (by omega) (by omega) (by omega) (by omega)]; omega
    have g2 : ¬ zo 11 < 0 := by decide
    rw [if_neg g1, if_neg g2, zo_nn (by omega) (by omega), Int.toNat_natCast, if_neg (by omega), if_neg (by decide)]
    rfl
end LV

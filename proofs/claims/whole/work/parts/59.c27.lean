/-! THE PURE SIDE 27: more operations -/
section CS
variable {S : zS} {n d k mi : Nat} {a a2 : Rw} {T p r x : Int} {u : Nat → Rw} {av : List zV}
def spPush (t : Nat) (a : Rw) (p : Int) : Sp := if 0 ≤ p ∧ p ≤ 9 then (0, a 3, true, up a 3 p) else (t + 1, 0, false, a)
theorem A130 (H : HC S k u a) (hw : WF T a) (g1 : -2147483648 ≤ p) (g2 : p < 2147483648) : OC (d + 4) 130 [za 1 0 0, zi (zo p)] S k u a (spPush 1 a p) := by
  unfold spPush
  have e := ze_130 (d := d + 3) (S := S) (xa := zo p)
  rw [c141 g1 g2 (by omega) (by omega) (by omega) (by omega)] at e
  by_cases c : 0 ≤ p ∧ p ≤ 9
  · rw [if_pos c]
    obtain ⟨S1, e1, M1, cl⟩ := crec (d := d) H hw
    rw [if_pos c, zr0, e1, zr0, M1.2.1.2.2.2.1] at e
    exact cl _ _ _ _ _ _ (Fc_set (Fc_refl 0 S1) _ _ _) (Cb_n3 M1 hw) e
  · rw [if_neg c] at e
    rw [if_neg c]
    exact OC_x (t := 1) H (e.trans rfl)
theorem B241 (H : HM S k u a) (hw : WF T a) (g1 : -2147483648 ≤ p) (g2 : p < 2147483648) : OM (d + 4) 241 [za 3 0 0, zi (zo p)] S k u a (spPush 0 a p) := by
  unfold spPush
  have e := ze_241 (d := d + 3) (S := S) (xa := zo p)
  rw [m147 g1 g2 (by omega) (by omega) (by omega) (by omega), zr1, m148_b, zr1] at e
  by_cases c : 0 ≤ p ∧ p ≤ 9
  · rw [if_pos c]
    obtain ⟨S1, r1, M1, cl⟩ := m236 (d := d) (v := p) (j := 3) H (by omega)
    rw [show ((3 : Nat) : Int) = 3 from rfl] at r1
    rw [decide_eq_true c, if_pos (show zo (bI !true) = zo 0 from rfl), show bI (!true) = 0 from rfl, r1, zr1] at e
    exact cl _ _ _ _ _ _ (Fm_refl 0 S1) M1 e
  · rw [decide_eq_false c] at e
    rw [if_neg c]
    exact OM_x (t := 0) (w := 0) H (e.trans rfl)
def spLev (t : Nat) (a : Rw) (p : Int) : Sp := if 0 ≤ p ∧ p ≤ 1000 then (0, a 2, true, up a 2 p) else (t + 1, 0, false, a)
theorem A132 (H : HC S k u a) (hw : WF T a) (g1 : -2147483648 ≤ p) (g2 : p < 2147483648) : OC (d + 4) 132 [za 1 0 0, zi (zo p)] S k u a (spLev 1 a p) := by
  unfold spLev
  have e := ze_132 (d := d + 3) (S := S) (xa := zo p)
  rw [c141 g1 g2 (by omega) (by omega) (by omega) (by omega)] at e
  by_cases c : 0 ≤ p ∧ p ≤ 1000
  · rw [if_pos c]
    obtain ⟨S1, e1, M1, cl⟩ := crec (d := d) H hw
    rw [if_pos c, zr0, e1, zr0, M1.2.1.2.2.1] at e
    exact cl _ _ _ _ _ _ (Fc_set (Fc_refl 0 S1) _ _ _) (Cb_n2 M1 hw) e
  · rw [if_neg c] at e
    rw [if_neg c]
    exact OC_x (t := 1) H (e.trans rfl)
theorem B243 (H : HM S k u a) (hw : WF T a) (g1 : -2147483648 ≤ p) (g2 : p < 2147483648) : OM (d + 4) 243 [za 3 0 0, zi (zo p)] S k u a (spLev 0 a p) := by
  unfold spLev
  have e := ze_243 (d := d + 3) (S := S) (xa := zo p)
  rw [m147 g1 g2 (by omega) (by omega) (by omega) (by omega), zr1, m148_b, zr1] at e
  by_cases c : 0 ≤ p ∧ p ≤ 1000
  · rw [if_pos c]
    obtain ⟨S1, r1, M1, cl⟩ := m236 (d := d) (v := p) (j := 2) H (by omega)
    rw [show ((2 : Nat) : Int) = 2 from rfl] at r1
    rw [decide_eq_true c, if_pos (show zo (bI !true) = zo 0 from rfl), show bI (!true) = 0 from rfl, r1, zr1] at e
    exact cl _ _ _ _ _ _ (Fm_refl 0 S1) M1 e
  · rw [decide_eq_false c] at e
    rw [if_neg c]
    exact OM_x (t := 0) (w := 0) H (e.trans rfl)
def spWind (t : Nat) (a : Rw) (p r : Int) : Sp := if (-99 ≤ p ∧ p ≤ 99) ∧ (-99 ≤ r ∧ r ≤ 99) then (0, iab (a 4) + iab (a 5), true, up (up a 4 p) 5 r) else (t + 1, 0, false, a)
theorem A131 (H : HC S k u a) (hw : WF T a) (g1 : -2147483648 ≤ p) (g2 : p < 2147483648) (g3 : -2147483648 ≤ r) (g4 : r < 2147483648) : OC (d + 4) 131 [za 1 0 0, zi (zo p), zi (zo r)] S k u a (spWind 1 a p r) := by
  have u4 := hw.1.2.2.2.2
  unfold spWind
  have e := ze_131 (d := d + 3) (S := S) (xa := zo p) (xb := zo r)
  rw [c141 g1 g2 (by omega) (by omega) (by omega) (by omega)] at e
  by_cases c : -99 ≤ p ∧ p ≤ 99
  · rw [if_pos c, zr0, c141 g3 g4 (by omega) (by omega) (by omega) (by omega)] at e
    by_cases c2 : -99 ≤ r ∧ r ≤ 99
    · rw [if_pos ⟨c, c2⟩]
      obtain ⟨S1, e1, M1, cl⟩ := crec (d := d) H hw
      rw [if_pos c2, zr0, e1, zr0, M1.2.1.2.2.2.2.1, M1.2.1.2.2.2.2.2.1, zabs_o (by omega) (by omega), zabs_o (by omega) (by omega), zo_add] at e
      exact cl _ _ _ _ _ _ (Fc_set (Fc_set (Fc_refl 0 S1) _ _ _) _ _ _) (Cb_n5 (Cb_n4 M1 hw) (WF_h4 hw c)) e
    · rw [if_neg c2] at e
      rw [if_neg (fun z => c2 z.2)]
      exact OC_x (t := 1) H (e.trans rfl)
  · rw [if_neg c] at e
    rw [if_neg (fun z => c z.1)]
    exact OC_x (t := 1) H (e.trans rfl)
theorem B242 (H : HM S k u a) (hw : WF T a) (g1 : -2147483648 ≤ p) (g2 : p < 2147483648) (g3 : -2147483648 ≤ r) (g4 : r < 2147483648) : OM (d + 4) 242 [za 3 0 0, zi (zo p), zi (zo r)] S k u a (spWind 0 a p r) := by
  have u4 := hw.1.2.2.2.2
  have h0 := Md_mt H.1 0
  have h1 := h0.1
  have hq := h0.2.1
  have r4 := h0.2.2 4 (by omega)
  unfold spWind
  by_cases c : -99 ≤ p ∧ p ≤ 99
  · have d1 : decide (-99 ≤ p ∧ p ≤ 99) = true := decide_eq_true c
    by_cases c2 : -99 ≤ r ∧ r ≤ 99
    · have d2 : decide (-99 ≤ r ∧ r ≤ 99) = true := decide_eq_true c2
      rw [if_pos ⟨c, c2⟩]
      obtain ⟨S1, q1, M1, cl⟩ := m236 (d := d) (v := r) (j := 5) H (by omega)
      rw [show ((5 : Nat) : Int) = 5 from rfl] at q1
      have p1 := M1.1
      have pq := M1.2.1
      have hA := Md_set M1 4 p
      rw [up_comm a r p (by omega)] at hA
      refine cl _ _ _ _ _ _ (Fm_row (Fm_refl 0 S1) 4 (zo p)) hA ?_
      rw [ze_242]
      simp (maxSteps := 10000000) (disch := omega) only [m147, d1, d2, bI_t, m148_1, h1, hq, r4, m150, q1, p1, zo_add, zo_sub, zo_mul, zo_neg, zo_lt, zo_le, zo_eq, zo_nn, zin_ok, zlt_eq, zr0, zr1, zr3, zr4, zr0x, zr1x, zr3x, zr4x, zb_and, zb_0, zmin_o, zmax_o, zabs_o, zo_div, zo_mod, ↓reduceIte, Int.reduceToNat, Int.reduceNeg, Int.reduceAdd, Int.reduceMul, Int.reduceSub, Int.reduceEq, Int.reduceLT, Int.reduceLE, if_true, if_false, Nat.reduceAdd, Nat.reduceMul]
    · have d2 : decide (-99 ≤ r ∧ r ≤ 99) = false := decide_eq_false c2
      rw [if_neg (fun z => c2 z.2)]
      refine OM_x (t := 0) (w := 0) H ?_
      rw [ze_242]
      simp (maxSteps := 10000000) (disch := omega) only [m147, d1, d2, bI_t, bI_f, m148_0, zo_add, zo_sub, zo_mul, zo_neg, zo_lt, zo_le, zo_eq, zo_nn, zin_ok, zlt_eq, zr0, zr1, zr3, zr4, zr0x, zr1x, zr3x, zr4x, zb_and, zb_0, zmin_o, zmax_o, zabs_o, zo_div, zo_mod, ↓reduceIte, Int.reduceToNat, Int.reduceNeg, Int.reduceAdd, Int.reduceMul, Int.reduceSub, Int.reduceEq, Int.reduceLT, Int.reduceLE, if_true, if_false, Nat.reduceAdd, Nat.reduceMul]
      rfl
  · have d1 : decide (-99 ≤ p ∧ p ≤ 99) = false := decide_eq_false c
    rw [if_neg (fun z => c z.1)]
    refine OM_x (t := 0) (w := 0) H ?_
    rw [ze_242]
    simp (maxSteps := 10000000) (disch := omega) only [m147, d1, bI_f, m148_0, zo_add, zo_sub, zo_mul, zo_neg, zo_lt, zo_le, zo_eq, zo_nn, zin_ok, zlt_eq, zr0, zr1, zr3, zr4, zr0x, zr1x, zr3x, zr4x, zb_and, zb_0, zmin_o, zmax_o, zabs_o, zo_div, zo_mod, ↓reduceIte, Int.reduceToNat, Int.reduceNeg, Int.reduceAdd, Int.reduceMul, Int.reduceSub, Int.reduceEq, Int.reduceLT, Int.reduceLE, if_true, if_false, Nat.reduceAdd, Nat.reduceMul]
    rfl
theorem nen_cnt (h : 0 ≤ a 9) : nen a + cnt a 0 = a 9 := by
  have : ∀ m : Nat, zsum (fun k => if a (40 + 10 * k + 6) = 0 then 0 else 1) m + zsum (fun k => if a (40 + 10 * k + 6) = 0 then 1 else 0) m = m := by
    intro m
    induction m with
    | zero => rfl
    | succ m ih => unfold zsum; split <;> omega
  have := this (a 9).toNat
  unfold nen cnt
  omega
def spTurn (t : Nat) (a : Rw) (p : Int) : Sp := if 1 ≤ p ∧ p ≤ 200 then (0, cnt a 0 - cnt (pasN p.toNat a) 0, true, pasN p.toNat a) else (t + 1, 0, false, a)
theorem A133 (H : HC S k u a) (hw : WF T a) (hT : T + 400 ≤ 1000000) (g1 : -2147483648 ≤ p) (g2 : p < 2147483648) : OC (d + 8) 133 [za 1 0 0, zi (zo p)] S k u a (spTurn 1 a p) := by
  have u9 := hw.1.2.2.2.2.2.2.2.2.2
  unfold spTurn
  have e := ze_133 (d := d + 7) (S := S) (xa := zo p)
  rw [c141 g1 g2 (by omega) (by omega) (by omega) (by omega)] at e
  by_cases c : 1 ≤ p ∧ p ≤ 200
  · rw [if_pos c]
    obtain ⟨t, rfl⟩ : ∃ t : Nat, p = t := ⟨p.toNat, by omega⟩
    rw [Int.toNat_natCast]
    obtain ⟨S1, e1, M1, cl⟩ := crec (d := d + 4) H hw
    obtain ⟨S2, e2, M2, F2⟩ := c142 (d := d) M1 hw (m := t) (by omega) (by omega)
    obtain ⟨p1, p2, p3⟩ := pasN_ok hw t (by omega)
    have p9 := p3 9 (by omega) (by omega) (by omega)
    rw [if_pos c, zr0, e1, zr0, e2, zr0, M2.2.2.2.2.2.2.2.1, M1.2.2.2.2.2.2.2.1, zo_sub] at e
    have n1 := nen_cnt (a := a) (by omega)
    have n2 := nen_cnt (a := pasN t a) (by omega)
    rw [show nen (pasN t a) - nen a = cnt a 0 - cnt (pasN t a) 0 by omega] at e
    exact cl _ _ _ _ _ _ F2 M2 e
  · rw [if_neg c] at e
    rw [if_neg c]
    exact OC_x (t := 1) H (e.trans rfl)
theorem B244 (H : HM S k u a) (hw : WF T a) (hT : T + 400 ≤ 1000000) (g1 : -2147483648 ≤ p) (g2 : p < 2147483648) : OM (d + 10) 244 [za 3 0 0, zi (zo p)] S k u a (spTurn 0 a p) := by
  unfold spTurn
  have e := ze_244 (d := d + 9) (S := S) (xa := zo p)
  rw [m147 g1 g2 (by omega) (by omega) (by omega) (by omega), zr1, m148_b, zr1] at e
  by_cases c : 1 ≤ p ∧ p ≤ 200
  · rw [if_pos c]
    obtain ⟨t, rfl⟩ : ∃ t : Nat, p = t := ⟨p.toNat, by omega⟩
    rw [Int.toNat_natCast]
    obtain ⟨S1, r1, M1, cl⟩ := mrec (d := d + 7) H
    obtain ⟨S2, e2, M2, F2⟩ := m190 (d := d) M1 hw (m := t) (by omega) (by omega)
    obtain ⟨p1, p2, p3⟩ := pasN_ok hw t (by omega)
    rw [decide_eq_true c, if_pos (show zo (bI !true) = zo 0 from rfl), show bI (!true) = 0 from rfl, r1, zr0, m172 M1 hw (by omega) (by omega), zr1, e2, zr0, m172 M2 p1 (by omega) (by omega), zr1, zo_sub] at e
    exact cl _ _ _ _ _ _ F2 M2 e
  · rw [decide_eq_false c] at e
    rw [if_neg c]
    exact OM_x (t := 0) (w := 0) H (e.trans rfl)
def spCarry (a : Rw) (p x y : Int) : Sp := if vB a p ∧ vC a x y then (if a (40 + 10 * p.toNat + 6) = 0 then (if occ a (a 0 * y + x) p = -1 then (0, a (40 + 10 * p.toNat), true, putR a p.toNat (a 0 * y + x)) else (0, -3, false, a)) else (0, -2, false, a)) else (1, 0, false, a)
theorem zc6 (h : Cb (S.1 0 n) a) (hw : WF T a) {b : Nat} (hb : (b : Int) < a 9) : zr_sem zF (d + 2) 6 [za 0 n 0, zi (zo b)] S = some (.inl (some (zi (zo (a (40 + 10 * b))))), S) := c6 h hw hb
theorem A123 (H : HC S k u a) (hw : WF T a) (g1 : -2147483648 ≤ p) (g2 : p < 2147483648) (g3 : -2147483648 ≤ r) (g4 : r < 2147483648) (g5 : -2147483648 ≤ x) (g6 : x < 2147483648) : OC (d + 4) 123 [za 1 0 0, zi (zo p), zi (zo r), zi (zo x)] S k u a (spCarry a p r x) := by
  have h := H.1
  have u9 := hw.1.2.2.2.2.2.2.2.2.2
  have uN := WF_nc hw
  unfold spCarry
  have e := ze_123 (d := d + 3) (S := S) (xa := zo p) (xb := zo r) (xc := zo x)
  rw [c138 h hw g1 g2] at e
  by_cases c : vB a p
  · rw [if_pos c, zr0, c139 h hw g3 g4 g5 g6] at e
    by_cases c2 : vC a r x
    · have l := cel_lt c2
      rw [if_pos ⟨c, c2⟩]
      obtain ⟨b, rfl⟩ : ∃ b : Nat, p = b := ⟨p.toNat, by omega⟩
      have gB := hw.2.2.2.1 b c.2
      rw [Int.toNat_natCast]
      rw [if_pos c2, zr0, c7 h hw c.2, zr1] at e
      by_cases c6 : a (40 + 10 * b + 6) = 0
      · rw [decide_eq_true c6, if_neg (by decide), c3 h hw g3 g4 g5 g6, zr1, cAt_in c2, c8 h hw l c.2, zr1] at e
        rw [if_pos c6]
        by_cases co : occ a (a 0 * x + r) b = -1
        · rw [if_pos co]
          obtain ⟨S1, e1, M1, cl⟩ := crec (d := d) H hw
          obtain ⟨S2, e2, M2, F2⟩ := c21 (d := d + 1) M1 hw c.2 c6 c2 (fun j hj hjb => occ_free co j hj (by omega))
          have w1 := WF_cell hw c.2 l (fun j hj hjb => occ_free co j hj (by omega))
          obtain ⟨S3, e3, M3, F3⟩ := c22 (d := d + 1) M2 w1 (b := b) (by simp (maxSteps := 10000000) (disch := omega) only [up_ne, up_self]; exact c.2)
          rw [decide_eq_false (show ¬ occ a (a 0 * x + r) b ≠ -1 by omega), if_pos (show zo (bI false) = zo 0 from rfl), e1, zr0, zc6 M1 hw c.2, zr1, e2, zr0, e3, zr0] at e
          exact cl _ _ _ _ _ _ (Fc_trans F2 F3) M3 e
        · rw [decide_eq_true co, if_neg (by decide)] at e
          rw [if_neg co]
          exact OC_n H e
      · rw [decide_eq_false c6, if_pos (show zo (bI false) = zo 0 from rfl)] at e
        rw [if_neg c6]
        exact OC_n H e
    · rw [if_neg c2] at e
      rw [if_neg (fun z => c2 z.2)]
      exact OC_x (t := 0) H (e.trans rfl)
  · rw [if_neg c] at e
    rw [if_neg (fun z => c z.1)]
    exact OC_x (t := 0) H (e.trans rfl)
theorem B232 (H : HM S k u a) (hw : WF T a) (g1 : -2147483648 ≤ p) (g2 : p < 2147483648) (g3 : -2147483648 ≤ r) (g4 : r < 2147483648) (g5 : -2147483648 ≤ x) (g6 : x < 2147483648) : OM (d + 5) 232 [za 3 0 0, zi (zo p), zi (zo r), zi (zo x)] S k u a (spCarry a p r x) := by
  have h := H.1
  have u9 := hw.1.2.2.2.2.2.2.2.2.2
  have uN := WF_nc hw
  have h0 := Md_mt h 0
  unfold spCarry
  by_cases c : vB a p
  · have d1 : decide (0 ≤ p ∧ p ≤ a 9 - 1) = true := decide_eq_true (by omega)
    by_cases c2 : vC a r x
    · have d2 : decide ((0 ≤ r ∧ r < a 0) ∧ 0 ≤ x ∧ x < a 1) = true := decide_eq_true c2
      have l := cel_lt c2
      rw [if_pos ⟨c, c2⟩]
      obtain ⟨b, rfl⟩ : ∃ b : Nat, p = b := ⟨p.toNat, by omega⟩
      have gB := hw.2.2.2.1 b c.2
      have o1 := occ_ge a (a 0 * x + r) b
      have o2 := occ_lt (a := a) (a 0 * x + r) b (by omega)
      rw [Int.toNat_natCast]
      by_cases c6 : a (40 + 10 * b + 6) = 0
      · have d6 : decide (a (40 + 10 * b + 6) = 0) = true := decide_eq_true c6
        rw [if_pos c6]
        by_cases co : occ a (a 0 * x + r) b = -1
        · rw [if_pos co]
          obtain ⟨S1, r1, M1, cl⟩ := mrec (d := d + 2) H
          obtain ⟨S2, r2, M2, F2⟩ := m229 (d := d + 2) M1 (b := b) (c := a 0 * x + r) (by omega)
          refine cl _ _ _ _ _ _ F2 M2 ?_
          rw [ze_232]
          simp (maxSteps := 10000000) (disch := omega) only [m157 h hw, d1, m153 h hw, d2, bI_t, m148_1, m164 h0 hw c.2, d6, m154 h0, m170 h0 hw, co, r1, m160_0 M1, m154 M1, r2, Bool.true_eq_false, zo_add, zo_sub, zo_mul, zo_neg, zo_lt, zo_le, zo_eq, zo_nn, zin_ok, zlt_eq, zr0, zr1, zr3, zr4, zr0x, zr1x, zr3x, zr4x, zb_and, zb_0, zmin_o, zmax_o, zabs_o, zo_div, zo_mod, ↓reduceIte, Int.reduceToNat, Int.reduceNeg, Int.reduceAdd, Int.reduceMul, Int.reduceSub, Int.reduceEq, Int.reduceLT, Int.reduceLE, if_true, if_false, Nat.reduceAdd, Nat.reduceMul]
        · rw [if_neg co]
          refine OM_n H ?_
          rw [ze_232]
          simp (maxSteps := 10000000) (disch := omega) only [m157 h hw, d1, m153 h hw, d2, bI_t, m148_1, m164 h0 hw c.2, d6, m154 h0, m170 h0 hw, Bool.true_eq_false, zo_add, zo_sub, zo_mul, zo_neg, zo_lt, zo_le, zo_eq, zo_nn, zin_ok, zlt_eq, zr0, zr1, zr3, zr4, zr0x, zr1x, zr3x, zr4x, zb_and, zb_0, zmin_o, zmax_o, zabs_o, zo_div, zo_mod, ↓reduceIte, Int.reduceToNat, Int.reduceNeg, Int.reduceAdd, Int.reduceMul, Int.reduceSub, Int.reduceEq, Int.reduceLT, Int.reduceLE, if_true, if_false, Nat.reduceAdd, Nat.reduceMul]
          rw [if_neg co]
      · have d6 : decide (a (40 + 10 * b + 6) = 0) = false := decide_eq_false c6
        rw [if_neg c6]
        refine OM_n H ?_
        rw [ze_232]
        simp (maxSteps := 10000000) (disch := omega) only [m157 h hw, d1, m153 h hw, d2, bI_t, bI_f, m148_1, m164 h0 hw c.2, d6, zo_add, zo_sub, zo_mul, zo_neg, zo_lt, zo_le, zo_eq, zo_nn, zin_ok, zlt_eq, zr0, zr1, zr3, zr4, zr0x, zr1x, zr3x, zr4x, zb_and, zb_0, zmin_o, zmax_o, zabs_o, zo_div, zo_mod, ↓reduceIte, Int.reduceToNat, Int.reduceNeg, Int.reduceAdd, Int.reduceMul, Int.reduceSub, Int.reduceEq, Int.reduceLT, Int.reduceLE, if_true, if_false, Nat.reduceAdd, Nat.reduceMul]
    · have d2 : decide ((0 ≤ r ∧ r < a 0) ∧ 0 ≤ x ∧ x < a 1) = false := decide_eq_false c2
      rw [if_neg (fun z => c2 z.2)]
      refine OM_x (t := 0) (w := 0) H ?_
      rw [ze_232]
      simp (maxSteps := 10000000) (disch := omega) only [m157 h hw, d1, m153 h hw, d2, bI_t, bI_f, m148_0, zo_add, zo_sub, zo_mul, zo_neg, zo_lt, zo_le, zo_eq, zo_nn, zin_ok, zlt_eq, zr0, zr1, zr3, zr4, zr0x, zr1x, zr3x, zr4x, zb_and, zb_0, zmin_o, zmax_o, zabs_o, zo_div, zo_mod, ↓reduceIte, Int.reduceToNat, Int.reduceNeg, Int.reduceAdd, Int.reduceMul, Int.reduceSub, Int.reduceEq, Int.reduceLT, Int.reduceLE, if_true, if_false, Nat.reduceAdd, Nat.reduceMul]
      rfl
  · have d1 : decide (0 ≤ p ∧ p ≤ a 9 - 1) = false := decide_eq_false (by omega)
    rw [if_neg (fun z => c z.1)]
    refine OM_x (t := 0) (w := 0) H ?_
    rw [ze_232]
    simp (maxSteps := 10000000) (disch := omega) only [m157 h hw, d1, bI_f, m148_0, zo_add, zo_sub, zo_mul, zo_neg, zo_lt, zo_le, zo_eq, zo_nn, zin_ok, zlt_eq, zr0, zr1, zr3, zr4, zr0x, zr1x, zr3x, zr4x, zb_and, zb_0, zmin_o, zmax_o, zabs_o, zo_div, zo_mod, ↓reduceIte, Int.reduceToNat, Int.reduceNeg, Int.reduceAdd, Int.reduceMul, Int.reduceSub, Int.reduceEq, Int.reduceLT, Int.reduceLE, if_true, if_false, Nat.reduceAdd, Nat.reduceMul]
    rfl
def bloR (a : Rw) (b : Nat) (x y : Int) : Rw := up (up a (40 + 10 * b + 4) (limI (a (40 + 10 * b + 4) + x))) (40 + 10 * b + 5) (limI (a (40 + 10 * b + 5) + y))
def spBlow (a : Rw) (p x y : Int) : Sp := if vB a p then (if (-300 ≤ x ∧ x ≤ 300) ∧ (-300 ≤ y ∧ y ≤ 300) then (if a (40 + 10 * p.toNat + 6) = 0 then (0, iab (limI (a (40 + 10 * p.toNat + 4) + x)) + iab (limI (a (40 + 10 * p.toNat + 5) + y)), true, bloR a p.toNat x y) else (0, -2, false, a)) else (2, 0, false, a)) else (1, 0, false, a)
theorem A124 (H : HC S k u a) (hw : WF T a) (g1 : -2147483648 ≤ p) (g2 : p < 2147483648) (g3 : -2147483648 ≤ r) (g4 : r < 2147483648) (g5 : -2147483648 ≤ x) (g6 : x < 2147483648) : OC (d + 4) 124 [za 1 0 0, zi (zo p), zi (zo r), zi (zo x)] S k u a (spBlow a p r x) := by
  have h := H.1
  have u9 := hw.1.2.2.2.2.2.2.2.2.2
  unfold spBlow
  have e := ze_124 (d := d + 3) (S := S) (xa := zo p) (xb := zo r) (xc := zo x)
  rw [c138 h hw g1 g2] at e
  by_cases c : vB a p
  · rw [if_pos c, zr0, c141 g3 g4 (by omega) (by omega) (by omega) (by omega)] at e
    rw [if_pos c]
    by_cases c2 : -300 ≤ r ∧ r ≤ 300
    · rw [if_pos c2, zr0, c141 g5 g6 (by omega) (by omega) (by omega) (by omega)] at e
      by_cases c3 : -300 ≤ x ∧ x ≤ 300
      · rw [if_pos ⟨c2, c3⟩]
        obtain ⟨b, rfl⟩ : ∃ b : Nat, p = b := ⟨p.toNat, by omega⟩
        have gB := hw.2.2.2.1 b c.2
        rw [Int.toNat_natCast]
        rw [if_pos c3, zr0, c7 h hw c.2, zr1] at e
        by_cases c6 : a (40 + 10 * b + 6) = 0
        · rw [if_pos c6]
          obtain ⟨S1, e1, M1, cl⟩ := crec (d := d) H hw
          have l4 := limI_b (a (40 + 10 * b + 4) + r)
          have l5 := limI_b (a (40 + 10 * b + 5) + x)
          have hA := Cb_b4 (v := limI (a (40 + 10 * b + 4) + r)) M1 hw c.2
          have wA := WF_b4 hw c.2 l4
          have hB := Cb_b5 (v := limI (a (40 + 10 * b + 5) + x)) (b := b) hA wA (by simp (maxSteps := 10000000) (disch := omega) only [up_ne, up_self]; exact c.2)
          have wB := WF_b5 (b := b) wA (by simp (maxSteps := 10000000) (disch := omega) only [up_ne, up_self]; exact c.2) l5
          have r6 := c24_6 (d := d + 1) (b := b) (v := zo x) hA wA (by simp (maxSteps := 10000000) (disch := omega) only [up_ne, up_self]; exact c.2)
          have q5 := c67b_5 (d := d + 2) (b := b) hB wB (by simp (maxSteps := 10000000) (disch := omega) only [up_ne, up_self]; exact c.2)
          have q6 := c67b_6 (d := d + 2) (b := b) hB wB (by simp (maxSteps := 10000000) (disch := omega) only [up_ne, up_self]; exact c.2)
          rw [up_ne _ _ (by omega), zo_add, limI_lim (by omega) (by omega)] at r6
          rw [up_ne _ _ (by omega), up_self] at q5
          rw [up_self] at q6
          have r5 := c24_5 (d := d + 1) (v := zo r) M1 hw c.2
          rw [zo_add, limI_lim (by omega) (by omega)] at r5
          rw [decide_eq_true c6, if_neg (by decide), e1, zr0, r5, zr0, r6, zr0, q5, zr1, q6, zr1, zabs_o (by omega) (by omega), zabs_o (by omega) (by omega), zo_add] at e
          exact cl _ _ _ _ _ _ (Fc_set (Fc_set (Fc_refl 0 S1) _ _ _) _ _ _) hB e
        · rw [decide_eq_false c6, if_pos (show zo (bI false) = zo 0 from rfl)] at e
          rw [if_neg c6]
          exact OC_n H e
      · rw [if_neg c3] at e
        rw [if_neg (fun z => c3 z.2)]
        exact OC_x (t := 1) H (e.trans rfl)
    · rw [if_neg c2] at e
      rw [if_neg (fun z => c2 z.1)]
      exact OC_x (t := 1) H (e.trans rfl)
  · rw [if_neg c] at e
    rw [if_neg c]
    exact OC_x (t := 0) H (e.trans rfl)
theorem B234 (H : HM S k u a) (hw : WF T a) (g1 : -2147483648 ≤ p) (g2 : p < 2147483648) (g3 : -2147483648 ≤ r) (g4 : r < 2147483648) (g5 : -2147483648 ≤ x) (g6 : x < 2147483648) : OM (d + 4) 234 [za 3 0 0, zi (zo p), zi (zo r), zi (zo x)] S k u a (spBlow a p r x) := by
  have h := H.1
  have u9 := hw.1.2.2.2.2.2.2.2.2.2
  have h0 := Md_mt h 0
  unfold spBlow
  have e := ze_234 (d := d + 3) (S := S) (xa := zo p) (xb := zo r) (xc := zo x)
  rw [m157 h hw g1 g2, zr1, m148_b, zr1] at e
  by_cases c : vB a p
  · have d1 : decide (0 ≤ p ∧ p ≤ a 9 - 1) = true := decide_eq_true (by omega)
    rw [d1, if_pos (show zo (bI !true) = zo 0 from rfl), show bI (!true) = 0 from rfl, m147 g3 g4 (by omega) (by omega) (by omega) (by omega), zr1] at e
    rw [if_pos c]
    by_cases c2 : -300 ≤ r ∧ r ≤ 300
    · rw [decide_eq_true c2, if_neg (by decide), m147 g5 g6 (by omega) (by omega) (by omega) (by omega), zr1] at e
      by_cases c3 : -300 ≤ x ∧ x ≤ 300
      · rw [if_pos ⟨c2, c3⟩]
        obtain ⟨b, rfl⟩ : ∃ b : Nat, p = b := ⟨p.toNat, by omega⟩
        have gB := hw.2.2.2.1 b c.2
        rw [Int.toNat_natCast]
        rw [decide_eq_true c3, if_neg (by decide), m164 h0 hw c.2, zr1] at e
        by_cases c6 : a (40 + 10 * b + 6) = 0
        · rw [if_pos c6]
          obtain ⟨S1, e1, M1, cl⟩ := mrec (d := d + 1) H
          have l4 := limI_b (a (40 + 10 * b + 4) + r)
          have l5 := limI_b (a (40 + 10 * b + 5) + x)
          have hA := Md_set M1 (40 + 10 * b + 4) (limI (a (40 + 10 * b + 4) + r))
          have hB := Md_set hA (40 + 10 * b + 5) (limI (a (40 + 10 * b + 5) + x))
          have q0 := m160_5 (d := d + 2) hA (b := b) (by omega)
          have q4 := m160_4 (d := d + 2) hB (b := b) (by omega)
          have q5 := m160_5 (d := d + 2) hB (b := b) (by omega)
          rw [up_ne _ _ (by omega)] at q0
          rw [up_ne _ _ (by omega), up_self] at q4
          rw [up_self] at q5
          rw [decide_eq_true c6, if_neg (by decide), e1, zr0, m160_4 M1 (by omega), zr1, zo_add, m149L, limI_lim (by omega) (by omega), zr1, m161_4 M1 (by omega), zr0, q0, zr1, zo_add, m149L, limI_lim (by omega) (by omega), zr1, m161_5 hA (by omega), zr0, q4, zr1, m150 (by omega) (by omega), zr1, q5, zr1, m150 (by omega) (by omega), zr1, zo_add] at e
          exact cl _ _ _ _ _ _ (Fm_row (Fm_row (Fm_refl 0 S1) _ _) _ _) hB e
        · rw [decide_eq_false c6, if_pos (show zo (bI false) = zo 0 from rfl)] at e
          rw [if_neg c6]
          exact OM_n H e
      · rw [decide_eq_false c3, if_pos (show zo (bI false) = zo 0 from rfl), m146, zr1, mt_mt] at e
        rw [if_neg (fun z => c3 z.2)]
        exact OM_x (t := 1) (w := 0) H e
    · rw [decide_eq_false c2, if_pos (show zo (bI false) = zo 0 from rfl), m146, zr1, mt_mt] at e
      rw [if_neg (fun z => c2 z.1)]
      exact OM_x (t := 1) (w := 0) H e
  · have d1 : decide (0 ≤ p ∧ p ≤ a 9 - 1) = false := decide_eq_false (by omega)
    rw [d1] at e
    rw [if_neg c]
    exact OM_x (t := 0) (w := 0) H (e.trans rfl)
end CS

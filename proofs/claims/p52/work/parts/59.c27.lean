/-! THE PURE SIDE 27: more operations -/
section CS
variable {S : zS} {n d k mi : Nat} {a a2 : Rw} {T p r x : Int} {u : Nat → Rw} {av : List zV}
def spLev (t : Nat) (a : Rw) (p : Int) : Sp := if 0 ≤ p ∧ p ≤ 1000 then (0, a 2, true, up a 2 p) else (t + 1, 0, false, a)
theorem A132 (H : HC S k u a) (hw : WF T a) (g1 : -2147483648 ≤ p) (g2 : p < 2147483648) : OC (d + 4) 132 [za 1 0 0, zi (zo p)] S k u a (spLev 1 a p) := by
  unfold spLev
  have e := ze_132 (d := d + 3) (S := S) (xa := zo p)
  rw [c141 g1 g2 (by omega) (by omega) (by omega) (by omega)] at e
  by_cases c : 0 ≤ p ∧ p ≤ 1000
  · rw [if_pos c]
    obtain ⟨S1, e1, M1, cl⟩ := crec (d := d) H hw
    rw [if_pos c, zr0, e1, zr0, M1.2.1.2.2.1] at e
    exact cl _ _ _ _ _ _ (Fc_set (Fc_refl 0 S1) _ _ _) (Cb_n2 M1 hw) e
  · rw [if_neg c] at e
    rw [if_neg c]
    exact OC_x (t := 1) H (e.trans rfl)
theorem nen_cnt (h : 0 ≤ a 9) : nen a + cnt a 0 = a 9 := by
  have : ∀ m : Nat, zsum (fun k => if a (40 + 10 * k + 6) = 0 then 0 else 1) m + zsum (fun k => if a (40 + 10 * k + 6) = 0 then 1 else 0) m = m := by
    intro m
    induction m with
    | zero => rfl
    | succ m ih => unfold zsum; split <;> omega
  have := this (a 9).toNat
  unfold nen cnt
  omega
def spTurn (t : Nat) (a : Rw) (p : Int) : Sp := if 1 ≤ p ∧ p ≤ 200 then (0, cnt a 0 - cnt (pasN p.toNat a) 0, true, pasN p.toNat a) else (t + 1, 0, false, a)
theorem A133 (H : HC S k u a) (hw : WF T a) (hT : T + 400 ≤ 1000000) (g1 : -2147483648 ≤ p) (g2 : p < 2147483648) : OC (d + 8) 133 [za 1 0 0, zi (zo p)] S k u a (spTurn 1 a p) := by
  have u9 := hw.1.2.2.2.2.2.2.2.2.2
  unfold spTurn
  have e := ze_133 (d := d + 7) (S := S) (xa := zo p)
  rw [c141 g1 g2 (by omega) (by omega) (by omega) (by omega)] at e
  by_cases c : 1 ≤ p ∧ p ≤ 200
  · rw [if_pos c]
    obtain ⟨t, rfl⟩ : ∃ t : Nat, p = t := ⟨p.toNat, by omega⟩
    rw [Int.toNat_natCast]
    obtain ⟨S1, e1, M1, cl⟩ := crec (d := d + 4) H hw
    obtain ⟨S2, e2, M2, F2⟩ := c142 (d := d) M1 hw (m := t) (by omega) (by omega)
    obtain ⟨p1, p2, p3⟩ := pasN_ok hw t (by omega)
    have p9 := p3 9 (by omega) (by omega) (by omega)
    rw [if_pos c, zr0, e1, zr0, e2, zr0, M2.2.2.2.2.2.2.2.1, M1.2.2.2.2.2.2.2.1, zo_sub] at e
    have n1 := nen_cnt (a := a) (by omega)
    have n2 := nen_cnt (a := pasN t a) (by omega)
    rw [show nen (pasN t a) - nen a = cnt a 0 - cnt (pasN t a) 0 by omega] at e
    exact cl _ _ _ _ _ _ F2 M2 e
  · rw [if_neg c] at e
    rw [if_neg c]
    exact OC_x (t := 1) H (e.trans rfl)
def spCarry (a : Rw) (p x y : Int) : Sp := if vB a p ∧ vC a x y then (if a (40 + 10 * p.toNat + 6) = 0 then (if occ a (a 0 * y + x) p = -1 then (0, a (40 + 10 * p.toNat), true, putR a p.toNat (a 0 * y + x)) else (0, -3, false, a)) else (0, -2, false, a)) else (1, 0, false, a)
theorem zc6 (h : Cb (S.1 0 n) a) (hw : WF T a) {b : Nat} (hb : (b : Int) < a 9) : zr_sem zF (d + 2) 6 [za 0 n 0, zi (zo b)] S = some (.inl (some (zi (zo (a (40 + 10 * b))))), S) := c6 h hw hb
theorem A123 (H : HC S k u a) (hw : WF T a) (g1 : -2147483648 ≤ p) (g2 : p < 2147483648) (g3 : -2147483648 ≤ r) (g4 : r < 2147483648) (g5 : -2147483648 ≤ x) (g6 : x < 2147483648) : OC (d + 4) 123 [za 1 0 0, zi (zo p), zi (zo r), zi (zo x)] S k u a (spCarry a p r x) := by
  have h := H.1
  have u9 := hw.1.2.2.2.2.2.2.2.2.2
  have uN := WF_nc hw
  unfold spCarry
  have e := ze_123 (d := d + 3) (S := S) (xa := zo p) (xb := zo r) (xc := zo x)
  rw [c138 h hw g1 g2] at e
  by_cases c : vB a p
  · rw [if_pos c, zr0, c139 h hw g3 g4 g5 g6] at e
    by_cases c2 : vC a r x
    · have l := cel_lt c2
      rw [if_pos ⟨c, c2⟩]
      obtain ⟨b, rfl⟩ : ∃ b : Nat, p = b := ⟨p.toNat, by omega⟩
      have gB := hw.2.2.2.1 b c.2
      rw [Int.toNat_natCast]
      rw [if_pos c2, zr0, c7 h hw c.2, zr1] at e
      by_cases c6 : a (40 + 10 * b + 6) = 0
      · rw [decide_eq_true c6, if_neg (by decide), c3 h hw g3 g4 g5 g6, zr1, cAt_in c2, c8 h hw l c.2, zr1] at e
        rw [if_pos c6]
        by_cases co : occ a (a 0 * x + r) b = -1
        · rw [if_pos co]
          obtain ⟨S1, e1, M1, cl⟩ := crec (d := d) H hw
          obtain ⟨S2, e2, M2, F2⟩ := c21 (d := d + 1) M1 hw c.2 c6 c2 (fun j hj hjb => occ_free co j hj (by omega))
          have w1 := WF_cell hw c.2 l (fun j hj hjb => occ_free co j hj (by omega))
          obtain ⟨S3, e3, M3, F3⟩ := c22 (d := d + 1) M2 w1 (b := b) (by simp (maxSteps := 10000000) (disch := omega) only [up_ne, up_self]; exact c.2)
          rw [decide_eq_false (show ¬ occ a (a 0 * x + r) b ≠ -1 by omega), if_pos (show zo (bI false) = zo 0 from rfl), e1, zr0, zc6 M1 hw c.2, zr1, e2, zr0, e3, zr0] at e
          exact cl _ _ _ _ _ _ (Fc_trans F2 F3) M3 e
        · rw [decide_eq_true co, if_neg (by decide)] at e
          rw [if_neg co]
          exact OC_n H e
      · rw [decide_eq_false c6, if_pos (show zo (bI false) = zo 0 from rfl)] at e
        rw [if_neg c6]
        exact OC_n H e
    · rw [if_neg c2] at e
      rw [if_neg (fun z => c2 z.2)]
      exact OC_x (t := 0) H (e.trans rfl)
  · rw [if_neg c] at e
    rw [if_neg (fun z => c z.1)]
    exact OC_x (t := 0) H (e.trans rfl)
def bloR (a : Rw) (b : Nat) (x y : Int) : Rw := up (up a (40 + 10 * b + 4) (limI (a (40 + 10 * b + 4) + x))) (40 + 10 * b + 5) (limI (a (40 + 10 * b + 5) + y))
def spBlow (a : Rw) (p x y : Int) : Sp := if vB a p then (if (-300 ≤ x ∧ x ≤ 300) ∧ (-300 ≤ y ∧ y ≤ 300) then (if a (40 + 10 * p.toNat + 6) = 0 then (0, iab (limI (a (40 + 10 * p.toNat + 4) + x)) + iab (limI (a (40 + 10 * p.toNat + 5) + y)), true, bloR a p.toNat x y) else (0, -2, false, a)) else (2, 0, false, a)) else (1, 0, false, a)
theorem A124 (H : HC S k u a) (hw : WF T a) (g1 : -2147483648 ≤ p) (g2 : p < 2147483648) (g3 : -2147483648 ≤ r) (g4 : r < 2147483648) (g5 : -2147483648 ≤ x) (g6 : x < 2147483648) : OC (d + 4) 124 [za 1 0 0, zi (zo p), zi (zo r), zi (zo x)] S k u a (spBlow a p r x) := by
  have h := H.1
  have u9 := hw.1.2.2.2.2.2.2.2.2.2
  unfold spBlow
  have e := ze_124 (d := d + 3) (S := S) (xa := zo p) (xb := zo r) (xc := zo x)
  rw [c138 h hw g1 g2] at e
  by_cases c : vB a p
  · rw [if_pos c, zr0, c141 g3 g4 (by omega) (by omega) (by omega) (by omega)] at e
    rw [if_pos c]
    by_cases c2 : -300 ≤ r ∧ r ≤ 300
    · rw [if_pos c2, zr0, c141 g5 g6 (by omega) (by omega) (by omega) (by omega)] at e
      by_cases c3 : -300 ≤ x ∧ x ≤ 300
      · rw [if_pos ⟨c2, c3⟩]
        obtain ⟨b, rfl⟩ : ∃ b : Nat, p = b := ⟨p.toNat, by omega⟩
        have gB := hw.2.2.2.1 b c.2
        rw [Int.toNat_natCast]
        rw [if_pos c3, zr0, c7 h hw c.2, zr1] at e
        by_cases c6 : a (40 + 10 * b + 6) = 0
        · rw [if_pos c6]
          obtain ⟨S1, e1, M1, cl⟩ := crec (d := d) H hw
          have l4 := limI_b (a (40 + 10 * b + 4) + r)
          have l5 := limI_b (a (40 + 10 * b + 5) + x)
          have hA := Cb_b4 (v := limI (a (40 + 10 * b + 4) + r)) M1 hw c.2
          have wA := WF_b4 hw c.2 l4
          have hB := Cb_b5 (v := limI (a (40 + 10 * b + 5) + x)) (b := b) hA wA (by simp (maxSteps := 10000000) (disch := omega) only [up_ne, up_self]; exact c.2)
          have wB := WF_b5 (b := b) wA (by simp (maxSteps := 10000000) (disch := omega) only [up_ne, up_self]; exact c.2) l5
          have r6 := c24_6 (d := d + 1) (b := b) (v := zo x) hA wA (by simp (maxSteps := 10000000) (disch := omega) only [up_ne, up_self]; exact c.2)
          have q5 := c67b_5 (d := d + 2) (b := b) hB wB (by simp (maxSteps := 10000000) (disch := omega) only [up_ne, up_self]; exact c.2)
          have q6 := c67b_6 (d := d + 2) (b := b) hB wB (by simp (maxSteps := 10000000) (disch := omega) only [up_ne, up_self]; exact c.2)
          rw [up_ne _ _ (by omega), zo_add, limI_lim (by omega) (by omega)] at r6
          rw [up_ne _ _ (by omega), up_self] at q5
          rw [up_self] at q6
          have r5 := c24_5 (d := d + 1) (v := zo r) M1 hw c.2
          rw [zo_add, limI_lim (by omega) (by omega)] at r5
          rw [decide_eq_true c6, if_neg (by decide), e1, zr0, r5, zr0, r6, zr0, q5, zr1, q6, zr1, zabs_o (by omega) (by omega), zabs_o (by omega) (by omega), zo_add] at e
          exact cl _ _ _ _ _ _ (Fc_set (Fc_set (Fc_refl 0 S1) _ _ _) _ _ _) hB e
        · rw [decide_eq_false c6, if_pos (show zo (bI false) = zo 0 from rfl)] at e
          rw [if_neg c6]
          exact OC_n H e
      · rw [if_neg c3] at e
        rw [if_neg (fun z => c3 z.2)]
        exact OC_x (t := 1) H (e.trans rfl)
    · rw [if_neg c2] at e
      rw [if_neg (fun z => c2 z.1)]
      exact OC_x (t := 1) H (e.trans rfl)
  · rw [if_neg c] at e
    rw [if_neg c]
    exact OC_x (t := 0) H (e.trans rfl)
end CS

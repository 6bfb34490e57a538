/-! THE PURE SIDE 26: operations -/
/-- what an operation comes to: exception, answer, whether it is recorded, the row -/
abbrev Sp : Type := Nat × (Int × (Bool × Rw))
def PC (S S' : zS) (k : Nat) (u : Nat → Rw) (a : Rw) (sp : Sp) : Prop := Cb (S'.1 0 0) sp.2.2.2 ∧ UdC S' (if sp.2.2.1 = true then recK k else k) (if sp.2.2.1 = true then recU k u a else u) ∧ (∀ n, n < 14 → CbF (S'.1 0 n)) ∧ (∀ k n o j, ¬(k = 0 ∧ (n = 0 ∨ (4 ≤ n ∧ n < 14))) → ¬(k = 1 ∧ n = 0 ∧ ((o = 1 ∧ (j = 1 ∨ j = 2)) ∨ (o = 4 ∧ j ≠ 0) ∨ o = 6 ∨ o = 8 ∨ o = 11 ∨ o = 13)) → S'.1 k n o j = S.1 k n o j)
def OC (d mi : Nat) (av : List zV) (S : zS) (k : Nat) (u : Nat → Rw) (a : Rw) (sp : Sp) : Prop := ∃ S', zr_sem zF d mi av S = some (zans sp.1 sp.2.1, S') ∧ PC S S' k u a sp
def HC (S : zS) (k : Nat) (u : Nat → Rw) (a : Rw) : Prop := Cb (S.1 0 0) a ∧ UdC S k u ∧ k ≤ 10 ∧ ∀ n, n < 14 → CbF (S.1 0 n)
section CR
variable {S : zS} {n d k mi : Nat} {a a2 : Rw} {T p r x : Int} {u : Nat → Rw} {av : List zV}
theorem OC_x {t : Nat} {v : Int} (H : HC S k u a) (h : zr_sem zF d mi av S = some (.inr (t + 1), zsn S)) : OC d mi av S k u a (t + 1, v, false, a) := ⟨zsn S, h, H.1, H.2.1, H.2.2.2, fun _ _ _ _ _ _ => rfl⟩
theorem OC_n {v : Int} (H : HC S k u a) (h : zr_sem zF d mi av S = some (.inl (some (zi (zo v))), S)) : OC d mi av S k u a (0, v, false, a) := ⟨S, h, H.1, H.2.1, H.2.2.2, fun _ _ _ _ _ _ => rfl⟩
theorem crec (H : HC S k u a) (hw : WF T a) : ∃ S1, zr_sem zF (d + 3) 43 [za 1 0 1, za 0 0 0] S = some (.inl none, S1) ∧ Cb (S1.1 0 0) a ∧ (∀ (S2 : zS) (v : Int) (a2 : Rw) (d mi : Nat) (av : List zV), Fc 0 S1 S2 → Cb (S2.1 0 0) a2 → zr_sem zF d mi av S = some (.inl (some (zi (zo v))), S2) → OC d mi av S k u a (0, v, true, a2)) := by
  obtain ⟨S1, e1, q1, q2, q3⟩ := c43 (d := d) H.1 hw H.2.1 H.2.2.1 H.2.2.2
  have e0 : S1.1 0 0 = S.1 0 0 := by funext o j; exact q3.2 0 0 o j (by omega) (by omega)
  refine ⟨S1, e1, by rw [e0]; exact H.1, fun S2 v a2 d mi av hF hC h => ⟨S2, h, hC, ?_, fun n hn => ?_, fun k n o j x y => ?_⟩⟩
  · obtain ⟨x, x1, x2, x3, x4⟩ := q1
    refine ⟨x, x1, by rw [hF.2 _ _ _ _ (by omega) (by omega)]; exact x2, by rw [hF.2 _ _ _ _ (by omega) (by omega)]; exact x3, fun i hi => ?_⟩
    have : S2.1 0 (4 + (x + 10 - recK k + i) % 10) = S1.1 0 (4 + (x + 10 - recK k + i) % 10) := by funext o j; exact hF.2 0 _ o j (by omega) (by omega)
    show Cb (S2.1 0 (4 + (x + 10 - recK k + i) % 10)) _
    rw [this]; exact x4 i hi
  · by_cases e : n = 0
    · subst e; exact hC.1
    · have : S2.1 0 n = S1.1 0 n := by funext o j; exact hF.2 0 n o j (by omega) (by omega)
      rw [this]; exact q2 n hn
  · rw [hF.2 k n o j (by omega) (by omega)]
    exact q3.2 k n o j (by omega) (by omega)
def spSetD (a : Rw) (p r : Int) : Sp := if vD a p then (if 0 ≤ r ∧ r ≤ 99 then (0, a (10 + 4 * p.toNat + 2), true, up a (10 + 4 * p.toNat + 2) r) else (2, 0, false, a)) else (1, 0, false, a)
theorem A126 (H : HC S k u a) (hw : WF T a) (g1 : -2147483648 ≤ p) (g2 : p < 2147483648) (g3 : -2147483648 ≤ r) (g4 : r < 2147483648) : OC (d + 4) 126 [za 1 0 0, zi (zo p), zi (zo r)] S k u a (spSetD a p r) := by
  have h := H.1
  have u7 := hw.1.2.2.2.2.2.2.2.1
  have n14 := h.2.1.2.2.2.2.2.2.2.2.1
  unfold spSetD
  by_cases c : vD a p
  · obtain ⟨b, rfl⟩ : ∃ b : Nat, p = b := ⟨p.toNat, by omega⟩
    rw [if_pos c, Int.toNat_natCast]
    have e := ze_126 (d := d + 3) (S := S) (xa := zo b) (xb := zo r)
    rw [n14, c140 g1 g2 (by omega) (by omega), if_pos c, zr0, c141 g3 g4 (by omega) (by omega) (by omega) (by omega)] at e
    by_cases c2 : 0 ≤ r ∧ r ≤ 99
    · rw [if_pos c2, zr0] at e
      rw [if_pos c2]
      obtain ⟨S1, e1, M1, cl⟩ := crec (d := d) H hw
      rw [e1, zr0, c67d_3 M1 hw c.2, zr1, c68d_3 M1.1 (by omega), zr0] at e
      exact cl _ _ _ _ _ _ (Fc_set (Fc_refl 0 S1) _ _ _) (Cb_d2 M1 hw c.2) e
    · rw [if_neg c2] at e
      rw [if_neg c2]
      exact OC_x (t := 1) H (e.trans rfl)
  · rw [if_neg c]
    refine OC_x (t := 0) H ?_
    rw [ze_126, n14, c140 g1 g2 (by omega) (by omega), if_neg c]; rfl
def spSetT (a : Rw) (p r : Int) : Sp := if vT a p then (if 0 ≤ r ∧ r ≤ 99 then (0, a (30 + 2 * p.toNat + 1), true, up a (30 + 2 * p.toNat + 1) r) else (2, 0, false, a)) else (1, 0, false, a)
theorem A127 (H : HC S k u a) (hw : WF T a) (g1 : -2147483648 ≤ p) (g2 : p < 2147483648) (g3 : -2147483648 ≤ r) (g4 : r < 2147483648) : OC (d + 4) 127 [za 1 0 0, zi (zo p), zi (zo r)] S k u a (spSetT a p r) := by
  have h := H.1
  have u7 := hw.1.2.2.2.2.2.2.2.2.1
  have n15 := h.2.1.2.2.2.2.2.2.2.2.2
  unfold spSetT
  by_cases c : vT a p
  · obtain ⟨b, rfl⟩ : ∃ b : Nat, p = b := ⟨p.toNat, by omega⟩
    rw [if_pos c, Int.toNat_natCast]
    have e := ze_127 (d := d + 3) (S := S) (xa := zo b) (xb := zo r)
    rw [n15, c140 g1 g2 (by omega) (by omega), if_pos c, zr0, c141 g3 g4 (by omega) (by omega) (by omega) (by omega)] at e
    by_cases c2 : 0 ≤ r ∧ r ≤ 99
    · rw [if_pos c2, zr0] at e
      rw [if_pos c2]
      obtain ⟨S1, e1, M1, cl⟩ := crec (d := d) H hw
      rw [e1, zr0, c67t_2 M1 hw c.2, zr1, c68t_2 M1.1 (by omega), zr0] at e
      exact cl _ _ _ _ _ _ (Fc_set (Fc_refl 0 S1) _ _ _) (Cb_t1 M1 hw c.2) e
    · rw [if_neg c2] at e
      rw [if_neg c2]
      exact OC_x (t := 1) H (e.trans rfl)
  · rw [if_neg c]
    refine OC_x (t := 0) H ?_
    rw [ze_127, n15, c140 g1 g2 (by omega) (by omega), if_neg c]; rfl
def spDrop (a : Rw) (p r v : Int) : Sp := if vC a p r then (if 1 ≤ v ∧ v ≤ 99 then (0, soaR a (a 0 * r + p).toNat v (160 + (a 0 * r + p).toNat), true, soaR a (a 0 * r + p).toNat v) else (2, 0, false, a)) else (1, 0, false, a)
theorem A128 (H : HC S k u a) (hw : WF T a) (g1 : -2147483648 ≤ p) (g2 : p < 2147483648) (g3 : -2147483648 ≤ r) (g4 : r < 2147483648) (g5 : -2147483648 ≤ x) (g6 : x < 2147483648) : OC (d + 4) 128 [za 1 0 0, zi (zo p), zi (zo r), zi (zo x)] S k u a (spDrop a p r x) := by
  have h := H.1
  have uN := WF_nc hw
  unfold spDrop
  have e := ze_128 (d := d + 3) (S := S) (xa := zo p) (xb := zo r) (xc := zo x)
  rw [c139 h hw g1 g2 g3 g4] at e
  by_cases c : vC a p r
  · have l := cel_lt c
    obtain ⟨q, hq⟩ : ∃ q : Nat, a 0 * r + p = q := ⟨(a 0 * r + p).toNat, by omega⟩
    have ec : cAt a p r = q := by rw [cAt_in c, hq]
    rw [if_pos c, zr0, c141 g5 g6 (by omega) (by omega) (by omega) (by omega)] at e
    rw [if_pos c, hq, Int.toNat_natCast]
    by_cases c2 : 1 ≤ x ∧ x ≤ 99
    · rw [if_pos c2, zr0] at e
      rw [if_pos c2]
      obtain ⟨S1, e1, M1, cl⟩ := crec (d := d) H hw
      have w := WF_soaR hw (k := q) (by omega) c2
      have hA : Cb ((zs_set S1 0 0 8 q (zo (if 99 < a (160 + q) + x then 99 else a (160 + q) + x))).1 0 0) (soaR a q x) := Cb_s M1 hw (by omega)
      have e8 : spC (soaR a q x) (q : Int) = soaR a q x (160 + q) := by unfold spC; rw [if_neg (by omega), Int.toNat_natCast]
      have e0 : soaR a q x 0 = a 0 := by unfold soaR; simp (maxSteps := 10000000) (disch := omega) only [up_ne, up_self]
      have e11 : soaR a q x 1 = a 1 := by unfold soaR; simp (maxSteps := 10000000) (disch := omega) only [up_ne, up_self]
      rw [e1, zr0, c3 M1 hw g1 g2 g3 g4, zr1, ec, c17 M1 hw (by omega) (by omega), zr0, c63s hA w (by rw [e0, e11]; omega), zr1, e8] at e
      exact cl _ _ _ _ _ _ (Fc_set (Fc_refl 0 S1) _ _ _) hA e
    · rw [if_neg c2] at e
      rw [if_neg c2]
      exact OC_x (t := 1) H (e.trans rfl)
  · rw [if_neg c] at e
    rw [if_neg c]
    exact OC_x (t := 0) H (e.trans rfl)
def spWipe (a : Rw) (p r : Int) : Sp := if vC a p r then (0, a (160 + (a 0 * r + p).toNat), true, up a (160 + (a 0 * r + p).toNat) 0) else (1, 0, false, a)
theorem A129 (H : HC S k u a) (hw : WF T a) (g1 : -2147483648 ≤ p) (g2 : p < 2147483648) (g3 : -2147483648 ≤ r) (g4 : r < 2147483648) : OC (d + 4) 129 [za 1 0 0, zi (zo p), zi (zo r)] S k u a (spWipe a p r) := by
  have h := H.1
  have uN := WF_nc hw
  unfold spWipe
  have e := ze_129 (d := d + 3) (S := S) (xa := zo p) (xb := zo r)
  rw [c139 h hw g1 g2 g3 g4] at e
  by_cases c : vC a p r
  · have l := cel_lt c
    obtain ⟨q, hq⟩ : ∃ q : Nat, a 0 * r + p = q := ⟨(a 0 * r + p).toNat, by omega⟩
    have ec : cAt a p r = q := by rw [cAt_in c, hq]
    rw [if_pos c, zr0] at e
    rw [if_pos c, hq, Int.toNat_natCast]
    obtain ⟨S1, e1, M1, cl⟩ := crec (d := d) H hw
    have e8 : spC a (q : Int) = a (160 + q) := by unfold spC; rw [if_neg (by omega), Int.toNat_natCast]
    rw [e1, zr0, c3 M1 hw g1 g2 g3 g4, zr1, ec, c63s M1 hw (by omega), zr1, e8, c64s (by omega), zr0] at e
    exact cl _ _ _ _ _ _ (Fc_set (Fc_refl 0 S1) _ _ _) (Cb_s M1 hw (by omega)) e
  · rw [if_neg c] at e
    rw [if_neg c]
    exact OC_x (t := 0) H (e.trans rfl)
end CR

/-! THE PURE SIDE 26: operations -/
/-- what an operation comes to: exception, answer, whether it is recorded, the row -/
abbrev Sp : Type := Nat × (Int × (Bool × Rw))
def PC (S S' : zS) (k : Nat) (u : Nat → Rw) (a : Rw) (sp : Sp) : Prop := Cb (S'.1 0 0) sp.2.2.2 ∧ UdC S' (if sp.2.2.1 = true then recK k else k) (if sp.2.2.1 = true then recU k u a else u) ∧ (∀ n, n < 14 → CbF (S'.1 0 n)) ∧ (∀ k n o j, ¬(k = 0 ∧ (n = 0 ∨ (4 ≤ n ∧ n < 14))) → ¬(k = 1 ∧ n = 0 ∧ ((o = 1 ∧ (j = 1 ∨ j = 2)) ∨ (o = 4 ∧ j ≠ 0) ∨ o = 6 ∨ o = 8 ∨ o = 11 ∨ o = 13)) → S'.1 k n o j = S.1 k n o j)
def PM (S S' : zS) (k : Nat) (u : Nat → Rw) (a : Rw) (sp : Sp) : Prop := Md S' 0 sp.2.2.2 ∧ UdM S' (if sp.2.2.1 = true then recK k else k) (if sp.2.2.1 = true then recU k u a else u) ∧ S'.2 = S.2 ∧ (∀ k n o j, ¬(k = 2 ∧ n = 0) → ¬(k = 3 ∧ n = 0 ∧ (o = 1 ∨ o = 2 ∨ o = 3 ∨ o = 4 ∨ (o = 0 ∧ (j = 9 ∨ j = 10)))) → S'.1 k n o j = S.1 k n o j)
def OC (d mi : Nat) (av : List zV) (S : zS) (k : Nat) (u : Nat → Rw) (a : Rw) (sp : Sp) : Prop := ∃ S', zr_sem zF d mi av S = some (zans sp.1 sp.2.1, S') ∧ PC S S' k u a sp
def OM (d mi : Nat) (av : List zV) (S : zS) (k : Nat) (u : Nat → Rw) (a : Rw) (sp : Sp) : Prop := ∃ S' w, zr_sem zF d mi av S = some (.inl (some (zi (zo w))), S') ∧ S'.1 3 0 0 10 = zo sp.1 ∧ (sp.1 = 0 → w = sp.2.1) ∧ PM S S' k u a sp
def HC (S : zS) (k : Nat) (u : Nat → Rw) (a : Rw) : Prop := Cb (S.1 0 0) a ∧ UdC S k u ∧ k ≤ 10 ∧ ∀ n, n < 14 → CbF (S.1 0 n)
def HM (S : zS) (k : Nat) (u : Nat → Rw) (a : Rw) : Prop := Md S 0 a ∧ UdM S k u
theorem up_comm (a : Rw) {i j : Nat} (v w : Int) (h : i ≠ j) : up (up a i v) j w = up (up a j w) i v := by
  funext x
  unfold up
  by_cases e : x = j
  · subst e; rw [if_pos rfl, if_neg (fun z => h z.symm), if_pos rfl]
  · rw [if_neg e, if_neg e]
section CR
variable {S : zS} {n d k mi : Nat} {a a2 : Rw} {T p r x : Int} {u : Nat → Rw} {av : List zV}
theorem OC_x {t : Nat} {v : Int} (H : HC S k u a) (h : zr_sem zF d mi av S = some (.inr (t + 1), zsn S)) : OC d mi av S k u a (t + 1, v, false, a) := ⟨zsn S, h, H.1, H.2.1, H.2.2.2, fun _ _ _ _ _ _ => rfl⟩
theorem OC_n {v : Int} (H : HC S k u a) (h : zr_sem zF d mi av S = some (.inl (some (zi (zo v))), S)) : OC d mi av S k u a (0, v, false, a) := ⟨S, h, H.1, H.2.1, H.2.2.2, fun _ _ _ _ _ _ => rfl⟩
theorem UdM_mt (t : Int) (h : UdM S k u) : UdM (mt S t) k u := by
  unfold mt
  exact ⟨by rw [zs_oth (by omega)]; exact h.1, h.2.1, fun i j hi hj => by rw [zs_oth (by omega)]; exact h.2.2 i j hi hj⟩
theorem OM_x {t : Nat} {v w : Int} (H : HM S k u a) (h : zr_sem zF d mi av S = some (.inl (some (zi (zo w))), mt S ((t + 1 : Nat) : Int))) : OM d mi av S k u a (t + 1, v, false, a) := ⟨_, w, h, mt_10 S _, fun e => by simp at e, Md_mt H.1 _, UdM_mt _ H.2, rfl, fun k n o j _ b => zs_oth (by omega)⟩
theorem OM_n {v : Int} (H : HM S k u a) (h : zr_sem zF d mi av S = some (.inl (some (zi (zo v))), mt S 0)) : OM d mi av S k u a (0, v, false, a) := ⟨_, v, h, mt_10 S 0, fun _ => rfl, Md_mt H.1 _, UdM_mt _ H.2, rfl, fun k n o j _ b => zs_oth (by omega)⟩
theorem crec (H : HC S k u a) (hw : WF T a) : ∃ S1, zr_sem zF (d + 3) 43 [za 1 0 1, za 0 0 0] S = some (.inl none, S1) ∧ Cb (S1.1 0 0) a ∧ (∀ (S2 : zS) (v : Int) (a2 : Rw) (d mi : Nat) (av : List zV), Fc 0 S1 S2 → Cb (S2.1 0 0) a2 → zr_sem zF d mi av S = some (.inl (some (zi (zo v))), S2) → OC d mi av S k u a (0, v, true, a2)) := by
  obtain ⟨S1, e1, q1, q2, q3⟩ := c43 (d := d) H.1 hw H.2.1 H.2.2.1 H.2.2.2
  have e0 : S1.1 0 0 = S.1 0 0 := by funext o j; exact q3.2 0 0 o j (by omega) (by omega)
  refine ⟨S1, e1, by rw [e0]; exact H.1, fun S2 v a2 d mi av hF hC h => ⟨S2, h, hC, ?_, fun n hn => ?_, fun k n o j x y => ?_⟩⟩
  · obtain ⟨x, x1, x2, x3, x4⟩ := q1
    refine ⟨x, x1, by rw [hF.2 _ _ _ _ (by omega) (by omega)]; exact x2, by rw [hF.2 _ _ _ _ (by omega) (by omega)]; exact x3, fun i hi => ?_⟩
    have : S2.1 0 (4 + (x + 10 - recK k + i) % 10) = S1.1 0 (4 + (x + 10 - recK k + i) % 10) := by funext o j; exact hF.2 0 _ o j (by omega) (by omega)
    show Cb (S2.1 0 (4 + (x + 10 - recK k + i) % 10)) _
    rw [this]; exact x4 i hi
  · by_cases e : n = 0
    · subst e; exact hC.1
    · have : S2.1 0 n = S1.1 0 n := by funext o j; exact hF.2 0 n o j (by omega) (by omega)
      rw [this]; exact q2 n hn
  · rw [hF.2 k n o j (by omega) (by omega)]
    exact q3.2 k n o j (by omega) (by omega)
theorem mrec (H : HM S k u a) : ∃ S1, zr_sem zF (d + 2) 249 [za 3 0 0] (mt S 0) = some (.inl none, S1) ∧ Md S1 0 a ∧ (∀ (S2 : zS) (v : Int) (a2 : Rw) (d mi : Nat) (av : List zV), Fm 0 S1 S2 → Md S2 0 a2 → zr_sem zF d mi av S = some (.inl (some (zi (zo v))), S2) → OM d mi av S k u a (0, v, true, a2)) := by
  obtain ⟨S1, e1, q1, q2⟩ := m249 (d := d) (Md_mt H.1 0) (UdM_mt 0 H.2)
  have h0 := Md_mt H.1 0
  refine ⟨S1, e1, ⟨by rw [q2.2 _ _ _ _ (by omega)]; exact h0.1, h0.2.1, fun j hj => by rw [q2.2 _ _ _ _ (by omega)]; exact h0.2.2 j hj⟩, fun S2 v a2 d mi av hF hM h => ⟨S2, v, h, ?_, fun _ => rfl, hM, ?_, ?_, fun k n o j x y => ?_⟩⟩
  · rw [hF.2 _ _ _ _ (by omega) (by omega), q2.2 _ _ _ _ (by omega)]; exact mt_10 S 0
  · refine ⟨by rw [hF.2 _ _ _ _ (by omega) (by omega)]; exact q1.1, q1.2.1, fun i j hi hj => by rw [hF.2 _ _ _ _ (by omega) (by omega)]; exact q1.2.2 i j hi hj⟩
  · rw [hF.1, q2.1]; rfl
  · rw [hF.2 k n o j (by omega) (by omega), q2.2 k n o j (by omega)]
    unfold mt
    exact zs_oth (by omega)
/-- a place of the row is set -/
theorem m236 (H : HM S k u a) {j : Nat} (hj : j < 260) {v : Int} : ∃ S1, zr_sem zF (d + 3) 236 [za 3 0 0, zi (zo j), zi (zo v)] (mt S 0) = some (.inl (some (zi (zo (a j)))), S1) ∧ Md S1 0 (up a j v) ∧ (∀ (S2 : zS) (v : Int) (a2 : Rw) (d mi : Nat) (av : List zV), Fm 0 S1 S2 → Md S2 0 a2 → zr_sem zF d mi av S = some (.inl (some (zi (zo v))), S2) → OM d mi av S k u a (0, v, true, a2)) := by
  obtain ⟨S1, e1, M1, c1⟩ := mrec (d := d) H
  have h1 := M1.1
  have hq := M1.2.1
  have hj2 := M1.2.2 j hj
  refine ⟨zs_set S1 2 0 0 j (zo v), ?_, Md_set M1 j v, fun S2 v2 a2 d mi av hF hM h => c1 S2 v2 a2 d mi av (Fm_trans (Fm_row (Fm_refl 0 S1) j (zo v)) hF) hM h⟩
  rw [ze_236, e1, zr0]
  simp (maxSteps := 10000000) (disch := omega) only [h1, hq, Int.toNat_natCast, hj2, zo_add, zo_sub, zo_mul, zo_neg, zo_lt, zo_le, zo_eq, zo_nn, zin_ok, zlt_eq, zr0, zr1, zr3, zr4, zr0x, zr1x, zr3x, zr4x, zb_and, zb_0, zmin_o, zmax_o, zabs_o, zo_div, zo_mod, ↓reduceIte, Int.reduceToNat, Int.reduceNeg, Int.reduceAdd, Int.reduceMul, Int.reduceSub, Int.reduceEq, Int.reduceLT, Int.reduceLE, if_true, if_false, Nat.reduceAdd, Nat.reduceMul]
def spDry (a : Rw) (p : Int) : Sp := if vB a p then (if a (40 + 10 * p.toNat + 6) = 0 then (0, a (40 + 10 * p.toNat + 3), true, up a (40 + 10 * p.toNat + 3) 0) else (0, -2, false, a)) else (1, 0, false, a)
theorem A125 (H : HC S k u a) (hw : WF T a) (g1 : -2147483648 ≤ p) (g2 : p < 2147483648) : OC (d + 4) 125 [za 1 0 0, zi (zo p)] S k u a (spDry a p) := by
  have h := H.1
  have u9 := hw.1.2.2.2.2.2.2.2.2.2
  unfold spDry
  by_cases c : vB a p
  · obtain ⟨b, rfl⟩ : ∃ b : Nat, p = b := ⟨p.toNat, by omega⟩
    rw [if_pos c, Int.toNat_natCast]
    have e := ze_125 (d := d + 3) (S := S) (xa := zo b)
    rw [c138 h hw g1 g2, if_pos c, zr0, c7 h hw c.2, zr1] at e
    by_cases c6 : a (40 + 10 * b + 6) = 0
    · rw [decide_eq_true c6, if_neg (by decide)] at e
      rw [if_pos c6]
      obtain ⟨S1, e1, M1, cl⟩ := crec (d := d) H hw
      rw [e1, zr0, c67b_4 M1 hw c.2, zr1, c68b_4 M1.1 (by omega), zr0] at e
      exact cl _ _ _ _ _ _ (Fc_set (Fc_refl 0 S1) _ _ _) (Cb_b3 M1 hw c.2) e
    · rw [decide_eq_false c6, if_pos (show zo (bI false) = zo 0 from rfl)] at e
      rw [if_neg c6]
      exact OC_n H e
  · rw [if_neg c]
    refine OC_x (t := 0) H ?_
    rw [ze_125, c138 h hw g1 g2, if_neg c]; rfl
theorem B235 (H : HM S k u a) (hw : WF T a) (g1 : -2147483648 ≤ p) (g2 : p < 2147483648) : OM (d + 4) 235 [za 3 0 0, zi (zo p)] S k u a (spDry a p) := by
  have u9 := hw.1.2.2.2.2.2.2.2.2.2
  have h := H.1
  have h0 := Md_mt h 0
  unfold spDry
  by_cases c : vB a p
  · have e1 : decide (0 ≤ p ∧ p ≤ a 9 - 1) = true := decide_eq_true (by omega)
    obtain ⟨b, rfl⟩ : ∃ b : Nat, p = b := ⟨p.toNat, by omega⟩
    rw [if_pos c, Int.toNat_natCast]
    have e := ze_235 (d := d + 3) (S := S) (xa := zo b)
    rw [m157 h hw g1 g2, e1, zr1, m148_b, zr1, if_pos (show zo (bI !true) = zo 0 from rfl), show bI (!true) = 0 from rfl, m164 h0 hw c.2, zr1] at e
    by_cases c6 : a (40 + 10 * b + 6) = 0
    · rw [decide_eq_true c6, if_neg (by decide)] at e
      rw [if_pos c6]
      obtain ⟨S1, r1, M1, cl⟩ := mrec (d := d + 1) H
      rw [r1, zr0, m160_3 M1 (by omega), zr1, m161_3 M1 (by omega), zr0] at e
      exact cl _ _ _ _ _ _ (Fm_row (Fm_refl 0 S1) _ _) (Md_set M1 _ 0) e
    · rw [decide_eq_false c6, if_pos (show zo (bI false) = zo 0 from rfl)] at e
      rw [if_neg c6]
      exact OM_n H e
  · have e1 : decide (0 ≤ p ∧ p ≤ a 9 - 1) = false := decide_eq_false (by omega)
    rw [if_neg c]
    refine OM_x (t := 0) (w := 0) H ?_
    rw [ze_235, m157 h hw g1 g2, e1, zr1, m148_b, zr1]
    rfl
def spSetD (a : Rw) (p r : Int) : Sp := if vD a p then (if 0 ≤ r ∧ r ≤ 99 then (0, a (10 + 4 * p.toNat + 2), true, up a (10 + 4 * p.toNat + 2) r) else (2, 0, false, a)) else (1, 0, false, a)
theorem A126 (H : HC S k u a) (hw : WF T a) (g1 : -2147483648 ≤ p) (g2 : p < 2147483648) (g3 : -2147483648 ≤ r) (g4 : r < 2147483648) : OC (d + 4) 126 [za 1 0 0, zi (zo p), zi (zo r)] S k u a (spSetD a p r) := by
  have h := H.1
  have u7 := hw.1.2.2.2.2.2.2.2.1
  have n14 := h.2.1.2.2.2.2.2.2.2.2.1
  unfold spSetD
  by_cases c : vD a p
  · obtain ⟨b, rfl⟩ : ∃ b : Nat, p = b := ⟨p.toNat, by omega⟩
    rw [if_pos c, Int.toNat_natCast]
    have e := ze_126 (d := d + 3) (S := S) (xa := zo b) (xb := zo r)
    rw [n14, c140 g1 g2 (by omega) (by omega), if_pos c, zr0, c141 g3 g4 (by omega) (by omega) (by omega) (by omega)] at e
    by_cases c2 : 0 ≤ r ∧ r ≤ 99
    · rw [if_pos c2, zr0] at e
      rw [if_pos c2]
      obtain ⟨S1, e1, M1, cl⟩ := crec (d := d) H hw
      rw [e1, zr0, c67d_3 M1 hw c.2, zr1, c68d_3 M1.1 (by omega), zr0] at e
      exact cl _ _ _ _ _ _ (Fc_set (Fc_refl 0 S1) _ _ _) (Cb_d2 M1 hw c.2) e
    · rw [if_neg c2] at e
      rw [if_neg c2]
      exact OC_x (t := 1) H (e.trans rfl)
  · rw [if_neg c]
    refine OC_x (t := 0) H ?_
    rw [ze_126, n14, c140 g1 g2 (by omega) (by omega), if_neg c]; rfl
theorem B237 (H : HM S k u a) (hw : WF T a) (g1 : -2147483648 ≤ p) (g2 : p < 2147483648) (g3 : -2147483648 ≤ r) (g4 : r < 2147483648) : OM (d + 4) 237 [za 3 0 0, zi (zo p), zi (zo r)] S k u a (spSetD a p r) := by
  have u7 := hw.1.2.2.2.2.2.2.2.1
  have h := H.1
  unfold spSetD
  by_cases c : vD a p
  · have e1 : decide (0 ≤ p ∧ p ≤ a 7 - 1) = true := decide_eq_true (by omega)
    obtain ⟨b, rfl⟩ : ∃ b : Nat, p = b := ⟨p.toNat, by omega⟩
    rw [if_pos c, Int.toNat_natCast]
    have e := ze_237 (d := d + 3) (S := S) (xa := zo b) (xb := zo r)
    rw [m158 h hw g1 g2, e1, zr1, m148_b, zr1, if_pos (show zo (bI !true) = zo 0 from rfl), show bI (!true) = 0 from rfl, m147 g3 g4 (by omega) (by omega) (by omega) (by omega), zr1] at e
    by_cases c2 : 0 ≤ r ∧ r ≤ 99
    · rw [decide_eq_true c2, if_neg (by decide)] at e
      rw [if_pos c2]
      obtain ⟨S1, r1, M1, cl⟩ := m236 (d := d) (v := r) (j := 10 + 4 * b + 2) H (by omega)
      rw [zo_mul, zo_add, zo_add, show (10 : Int) + 4 * b + 2 = ((10 + 4 * b + 2 : Nat) : Int) by omega, r1, zr1] at e
      exact cl _ _ _ _ _ _ (Fm_refl 0 S1) M1 e
    · rw [decide_eq_false c2, if_pos (show zo (bI false) = zo 0 from rfl), m146, zr1, mt_mt] at e
      rw [if_neg c2]
      exact OM_x (t := 1) (w := 0) H e
  · have e1 : decide (0 ≤ p ∧ p ≤ a 7 - 1) = false := decide_eq_false (by omega)
    rw [if_neg c]
    refine OM_x (t := 0) (w := 0) H ?_
    rw [ze_237, m158 h hw g1 g2, e1, zr1, m148_b, zr1]
    rfl
def spSetT (a : Rw) (p r : Int) : Sp := if vT a p then (if 0 ≤ r ∧ r ≤ 99 then (0, a (30 + 2 * p.toNat + 1), true, up a (30 + 2 * p.toNat + 1) r) else (2, 0, false, a)) else (1, 0, false, a)
theorem A127 (H : HC S k u a) (hw : WF T a) (g1 : -2147483648 ≤ p) (g2 : p < 2147483648) (g3 : -2147483648 ≤ r) (g4 : r < 2147483648) : OC (d + 4) 127 [za 1 0 0, zi (zo p), zi (zo r)] S k u a (spSetT a p r) := by
  have h := H.1
  have u7 := hw.1.2.2.2.2.2.2.2.2.1
  have n15 := h.2.1.2.2.2.2.2.2.2.2.2
  unfold spSetT
  by_cases c : vT a p
  · obtain ⟨b, rfl⟩ : ∃ b : Nat, p = b := ⟨p.toNat, by omega⟩
    rw [if_pos c, Int.toNat_natCast]
    have e := ze_127 (d := d + 3) (S := S) (xa := zo b) (xb := zo r)
    rw [n15, c140 g1 g2 (by omega) (by omega), if_pos c, zr0, c141 g3 g4 (by omega) (by omega) (by omega) (by omega)] at e
    by_cases c2 : 0 ≤ r ∧ r ≤ 99
    · rw [if_pos c2, zr0] at e
      rw [if_pos c2]
      obtain ⟨S1, e1, M1, cl⟩ := crec (d := d) H hw
      rw [e1, zr0, c67t_2 M1 hw c.2, zr1, c68t_2 M1.1 (by omega), zr0] at e
      exact cl _ _ _ _ _ _ (Fc_set (Fc_refl 0 S1) _ _ _) (Cb_t1 M1 hw c.2) e
    · rw [if_neg c2] at e
      rw [if_neg c2]
      exact OC_x (t := 1) H (e.trans rfl)
  · rw [if_neg c]
    refine OC_x (t := 0) H ?_
    rw [ze_127, n15, c140 g1 g2 (by omega) (by omega), if_neg c]; rfl
theorem B238 (H : HM S k u a) (hw : WF T a) (g1 : -2147483648 ≤ p) (g2 : p < 2147483648) (g3 : -2147483648 ≤ r) (g4 : r < 2147483648) : OM (d + 4) 238 [za 3 0 0, zi (zo p), zi (zo r)] S k u a (spSetT a p r) := by
  have u7 := hw.1.2.2.2.2.2.2.2.2.1
  have h := H.1
  unfold spSetT
  by_cases c : vT a p
  · have e1 : decide (0 ≤ p ∧ p ≤ a 8 - 1) = true := decide_eq_true (by omega)
    obtain ⟨b, rfl⟩ : ∃ b : Nat, p = b := ⟨p.toNat, by omega⟩
    rw [if_pos c, Int.toNat_natCast]
    have e := ze_238 (d := d + 3) (S := S) (xa := zo b) (xb := zo r)
    rw [m159 h hw g1 g2, e1, zr1, m148_b, zr1, if_pos (show zo (bI !true) = zo 0 from rfl), show bI (!true) = 0 from rfl, m147 g3 g4 (by omega) (by omega) (by omega) (by omega), zr1] at e
    by_cases c2 : 0 ≤ r ∧ r ≤ 99
    · rw [decide_eq_true c2, if_neg (by decide)] at e
      rw [if_pos c2]
      obtain ⟨S1, r1, M1, cl⟩ := m236 (d := d) (v := r) (j := 30 + 2 * b + 1) H (by omega)
      rw [zo_mul, zo_add, zo_add, show (30 : Int) + 2 * b + 1 = ((30 + 2 * b + 1 : Nat) : Int) by omega, r1, zr1] at e
      exact cl _ _ _ _ _ _ (Fm_refl 0 S1) M1 e
    · rw [decide_eq_false c2, if_pos (show zo (bI false) = zo 0 from rfl), m146, zr1, mt_mt] at e
      rw [if_neg c2]
      exact OM_x (t := 1) (w := 0) H e
  · have e1 : decide (0 ≤ p ∧ p ≤ a 8 - 1) = false := decide_eq_false (by omega)
    rw [if_neg c]
    refine OM_x (t := 0) (w := 0) H ?_
    rw [ze_238, m159 h hw g1 g2, e1, zr1, m148_b, zr1]
    rfl
def spDrop (a : Rw) (p r v : Int) : Sp := if vC a p r then (if 1 ≤ v ∧ v ≤ 99 then (0, soaR a (a 0 * r + p).toNat v (160 + (a 0 * r + p).toNat), true, soaR a (a 0 * r + p).toNat v) else (2, 0, false, a)) else (1, 0, false, a)
theorem A128 (H : HC S k u a) (hw : WF T a) (g1 : -2147483648 ≤ p) (g2 : p < 2147483648) (g3 : -2147483648 ≤ r) (g4 : r < 2147483648) (g5 : -2147483648 ≤ x) (g6 : x < 2147483648) : OC (d + 4) 128 [za 1 0 0, zi (zo p), zi (zo r), zi (zo x)] S k u a (spDrop a p r x) := by
  have h := H.1
  have uN := WF_nc hw
  unfold spDrop
  have e := ze_128 (d := d + 3) (S := S) (xa := zo p) (xb := zo r) (xc := zo x)
  rw [c139 h hw g1 g2 g3 g4] at e
  by_cases c : vC a p r
  · have l := cel_lt c
    obtain ⟨q, hq⟩ : ∃ q : Nat, a 0 * r + p = q := ⟨(a 0 * r + p).toNat, by omega⟩
    have ec : cAt a p r = q := by rw [cAt_in c, hq]
    rw [if_pos c, zr0, c141 g5 g6 (by omega) (by omega) (by omega) (by omega)] at e
    rw [if_pos c, hq, Int.toNat_natCast]
    by_cases c2 : 1 ≤ x ∧ x ≤ 99
    · rw [if_pos c2, zr0] at e
      rw [if_pos c2]
      obtain ⟨S1, e1, M1, cl⟩ := crec (d := d) H hw
      have w := WF_soaR hw (k := q) (by omega) c2
      have hA : Cb ((zs_set S1 0 0 8 q (zo (if 99 < a (160 + q) + x then 99 else a (160 + q) + x))).1 0 0) (soaR a q x) := Cb_s M1 hw (by omega)
      have e8 : spC (soaR a q x) (q : Int) = soaR a q x (160 + q) := by unfold spC; rw [if_neg (by omega), Int.toNat_natCast]
      have e0 : soaR a q x 0 = a 0 := by unfold soaR; simp (maxSteps := 10000000) (disch := omega) only [up_ne, up_self]
      have e11 : soaR a q x 1 = a 1 := by unfold soaR; simp (maxSteps := 10000000) (disch := omega) only [up_ne, up_self]
      rw [e1, zr0, c3 M1 hw g1 g2 g3 g4, zr1, ec, c17 M1 hw (by omega) (by omega), zr0, c63s hA w (by rw [e0, e11]; omega), zr1, e8] at e
      exact cl _ _ _ _ _ _ (Fc_set (Fc_refl 0 S1) _ _ _) hA e
    · rw [if_neg c2] at e
      rw [if_neg c2]
      exact OC_x (t := 1) H (e.trans rfl)
  · rw [if_neg c] at e
    rw [if_neg c]
    exact OC_x (t := 0) H (e.trans rfl)
theorem B239 (H : HM S k u a) (hw : WF T a) (g1 : -2147483648 ≤ p) (g2 : p < 2147483648) (g3 : -2147483648 ≤ r) (g4 : r < 2147483648) (g5 : -2147483648 ≤ x) (g6 : x < 2147483648) : OM (d + 4) 239 [za 3 0 0, zi (zo p), zi (zo r), zi (zo x)] S k u a (spDrop a p r x) := by
  have h := H.1
  have uN := WF_nc hw
  unfold spDrop
  have e := ze_239 (d := d + 3) (S := S) (xa := zo p) (xb := zo r) (xc := zo x)
  rw [m153 h hw g1 g2 g3 g4, zr1, m148_b, zr1] at e
  by_cases c : vC a p r
  · have l := cel_lt c
    have e1 : decide ((0 ≤ p ∧ p < a 0) ∧ 0 ≤ r ∧ r < a 1) = true := decide_eq_true c
    obtain ⟨q, hq⟩ : ∃ q : Nat, a 0 * r + p = q := ⟨(a 0 * r + p).toNat, by omega⟩
    rw [e1, if_pos (show zo (bI !true) = zo 0 from rfl), show bI (!true) = 0 from rfl, m147 g5 g6 (by omega) (by omega) (by omega) (by omega), zr1] at e
    rw [if_pos c, hq, Int.toNat_natCast]
    by_cases c2 : 1 ≤ x ∧ x ≤ 99
    · rw [decide_eq_true c2, if_neg (by decide)] at e
      rw [if_pos c2]
      obtain ⟨S1, r1, M1, cl⟩ := mrec (d := d + 1) H
      obtain ⟨S2, r2, M2, F2⟩ := m230 (d := d + 2) M1 hw (k := q) (by omega) c2
      have m1 := M2.1
      have mq := M2.2.1
      have m160 := M2.2.2 (160 + q) (by omega)
      have e0 : soaR a q x 0 = a 0 := by unfold soaR; simp (maxSteps := 10000000) (disch := omega) only [up_ne, up_self]
      have ix : (160 + (q : Int)).toNat = 160 + q := by omega
      have r154 := m154 (d := d + 2) M2 (x := p) (y := r)
      rw [e0, hq] at r154
      rw [r1, zr0, m154 M1, zr1, hq, r2, zr0, if_pos (by rw [m1]; omega), r154, zr1, zo_add] at e
      rw [zin_ok (by omega) (by omega) (by omega), m1, zo_nn (by omega) (by omega), ix, m160] at e
      exact cl _ _ _ _ _ _ F2 M2 e
    · rw [decide_eq_false c2, if_pos (show zo (bI false) = zo 0 from rfl), m146, zr1, mt_mt] at e
      rw [if_neg c2]
      exact OM_x (t := 1) (w := 0) H e
  · have e1 : decide ((0 ≤ p ∧ p < a 0) ∧ 0 ≤ r ∧ r < a 1) = false := decide_eq_false c
    rw [e1] at e
    rw [if_neg c]
    exact OM_x (t := 0) (w := 0) H (e.trans rfl)
def spWipe (a : Rw) (p r : Int) : Sp := if vC a p r then (0, a (160 + (a 0 * r + p).toNat), true, up a (160 + (a 0 * r + p).toNat) 0) else (1, 0, false, a)
theorem A129 (H : HC S k u a) (hw : WF T a) (g1 : -2147483648 ≤ p) (g2 : p < 2147483648) (g3 : -2147483648 ≤ r) (g4 : r < 2147483648) : OC (d + 4) 129 [za 1 0 0, zi (zo p), zi (zo r)] S k u a (spWipe a p r) := by
  have h := H.1
  have uN := WF_nc hw
  unfold spWipe
  have e := ze_129 (d := d + 3) (S := S) (xa := zo p) (xb := zo r)
  rw [c139 h hw g1 g2 g3 g4] at e
  by_cases c : vC a p r
  · have l := cel_lt c
    obtain ⟨q, hq⟩ : ∃ q : Nat, a 0 * r + p = q := ⟨(a 0 * r + p).toNat, by omega⟩
    have ec : cAt a p r = q := by rw [cAt_in c, hq]
    rw [if_pos c, zr0] at e
    rw [if_pos c, hq, Int.toNat_natCast]
    obtain ⟨S1, e1, M1, cl⟩ := crec (d := d) H hw
    have e8 : spC a (q : Int) = a (160 + q) := by unfold spC; rw [if_neg (by omega), Int.toNat_natCast]
    rw [e1, zr0, c3 M1 hw g1 g2 g3 g4, zr1, ec, c63s M1 hw (by omega), zr1, e8, c64s (by omega), zr0] at e
    exact cl _ _ _ _ _ _ (Fc_set (Fc_refl 0 S1) _ _ _) (Cb_s M1 hw (by omega)) e
  · rw [if_neg c] at e
    rw [if_neg c]
    exact OC_x (t := 0) H (e.trans rfl)
theorem B240 (H : HM S k u a) (hw : WF T a) (g1 : -2147483648 ≤ p) (g2 : p < 2147483648) (g3 : -2147483648 ≤ r) (g4 : r < 2147483648) : OM (d + 4) 240 [za 3 0 0, zi (zo p), zi (zo r)] S k u a (spWipe a p r) := by
  have h := H.1
  have uN := WF_nc hw
  unfold spWipe
  have e := ze_240 (d := d + 3) (S := S) (xa := zo p) (xb := zo r)
  rw [m153 h hw g1 g2 g3 g4, zr1, m148_b, zr1] at e
  by_cases c : vC a p r
  · have l := cel_lt c
    have e1 : decide ((0 ≤ p ∧ p < a 0) ∧ 0 ≤ r ∧ r < a 1) = true := decide_eq_true c
    obtain ⟨q, hq⟩ : ∃ q : Nat, a 0 * r + p = q := ⟨(a 0 * r + p).toNat, by omega⟩
    obtain ⟨S1, r1, M1, cl⟩ := m236 (d := d) (v := 0) (j := 160 + q) H (by omega)
    rw [e1, if_pos (show zo (bI !true) = zo 0 from rfl), show bI (!true) = 0 from rfl, m154 (Md_mt h 0), zr1, hq, zo_add, show (160 : Int) + q = ((160 + q : Nat) : Int) by omega, r1, zr1] at e
    rw [if_pos c, hq, Int.toNat_natCast]
    exact cl _ _ _ _ _ _ (Fm_refl 0 S1) M1 e
  · have e1 : decide ((0 ≤ p ∧ p < a 0) ∧ 0 ≤ r ∧ r < a 1) = false := decide_eq_false c
    rw [e1] at e
    rw [if_neg c]
    exact OM_x (t := 0) (w := 0) H (e.trans rfl)
end CR

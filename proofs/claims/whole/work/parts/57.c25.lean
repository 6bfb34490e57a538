/-! THE PURE SIDE 25: forecasts: model -/
/-- what holds away from home: the row aside is worked on -/
def RAw (S S' : zS) : Prop := S'.2 = S.2 ∧ ∀ k n o j, ¬(k = 2 ∧ n = 2) → ¬(k = 3 ∧ n = 0 ∧ (o = 2 ∨ o = 3 ∨ o = 4 ∨ (o = 0 ∧ (j = 10 ∨ j = 8)))) → S'.1 k n o j = S.1 k n o j
theorem RAw_Fm {S S1 S2 : zS} (h1 : RAw S S1) (h2 : Fm 2 S1 S2) : RAw S S2 := ⟨h2.1.trans h1.1, fun k n o j a b => (h2.2 k n o j a (by omega)).trans (h1.2 k n o j a b)⟩
/-- home again -/
def hom (S : zS) : zS := zs_set S 3 0 0 8 (Int32.ofNat 0)
section CQ
variable {S : zS} {n d : Nat} {a : Rw} {T p r : Int}
theorem m189 : zr_sem zF (d + 1) 189 [za 3 0 0] S = some (.inl none, hom S) := ze_189
theorem Md_of0 (hp : S.1 3 0 0 8 = zo 0) (h : ∀ j, j < 260 → S.1 2 0 0 j = zo (a j)) : Md S 0 a := ⟨by rw [hp]; rfl, by omega, h⟩
/-- back home: a question's frame -/
theorem hom_RM {S' : zS} (h : RAw S S') (hp : S.1 3 0 0 8 = zo 0) (h10 : S'.1 3 0 0 10 = S.1 3 0 0 10) : RM S (hom S') ∧ (hom S').1 3 0 0 10 = S.1 3 0 0 10 ∧ (hom S').1 3 0 0 8 = zo 0 := by
  unfold hom
  refine ⟨⟨h.1, fun k n o j a b => ?_⟩, by rw [zs_oth (by omega)]; exact h10, zs_self⟩
  by_cases c : k = 3 ∧ n = 0 ∧ o = 0 ∧ j = 8
  · obtain ⟨c1, c2, c3, c4⟩ := c
    subst c1; subst c2; subst c3; subst c4
    rw [zs_self, hp]; rfl
  · rw [zs_oth c]; exact h.2 k n o j a (by omega)
theorem RM_Md {S' : zS} (h : RM S S') (hM : Md S 0 a) (hp : S.1 3 0 0 8 = zo 0) : Md S' 0 a ∧ S'.1 3 0 0 8 = zo 0 := by
  have e8 : S'.1 3 0 0 8 = S.1 3 0 0 8 := h.2 3 0 0 8 (by omega) (by omega)
  refine ⟨⟨by rw [e8]; exact hM.1, hM.2.1, fun j hj => ?_⟩, by rw [e8]; exact hp⟩
  rw [h.2 2 0 0 j (by omega) (by omega)]; exact hM.2.2 j hj
theorem m188 (h : Md S 0 a) : ∃ S', zr_sem zF (d + 2) 188 [za 3 0 0] S = some (.inl none, S') ∧ Md S' 2 a ∧ RAw S S' ∧ S'.1 3 0 0 10 = S.1 3 0 0 10 := by
  obtain ⟨S1, e1, q1, q2, q3⟩ := m248na (S := S) (d := d) (r1 := 0) (r2 := 0) rfl rfl
  refine ⟨zs_set S1 3 0 0 8 (Int32.ofNat 2), ?_, ⟨?_, by omega, fun j hj => ?_⟩, ⟨q3, fun k n o j x y => ?_⟩, ?_⟩
  · have e0 : zr_sem zF (d + 1) 248 [za 2 0 0, zi (zo 0), za 2 2 0, zi (zo 0)] S = some (.inl none, S1) := e1
    rw [ze_188, e0, zr0]
  · rw [zs_self]; rfl
  · rw [zs_oth (by omega)]
    have := q1 j hj
    rw [Nat.mul_zero, Nat.zero_add] at this
    rw [this]
    exact h.2.2 j hj
  · rw [zs_oth (by omega), q2 _ _ _ _ (by omega)]
  · rw [zs_oth (by omega), q2 _ _ _ _ (by omega)]
theorem Fm2_10 {S S' : zS} (h : Fm 2 S S') : S'.1 3 0 0 10 = S.1 3 0 0 10 := h.2 3 0 0 10 (by omega) (by omega)
set_option maxRecDepth 8000 in
theorem m220_l {b : Nat} : ∀ (m k f : Nat) (S1 : zS) (z : Rw) (T : Int), k + m = 300 → m + 1 < f → RAw S S1 → S1.1 3 0 0 10 = S.1 3 0 0 10 → S.1 3 0 0 8 = zo 0 → Md S1 2 z → WF T z → T + m + 1 ≤ 1000000 → (b : Int) < z 9 → ∃ S', zy zF (d + 8) 220 f 20 [some (za 3 0 0), some (zi (zo b)), some (zi (zo k))] S1 = some (.inl (some (zi (zo (if enG (pAf b) m z = -1 then -1 else k + enG (pAf b) m z)))), S') ∧ RM S S' ∧ S'.1 3 0 0 10 = S.1 3 0 0 10 := by
  intro m
  induction m with
  | zero =>
    intro k f S1 z T hk hf hR h10 hp hz hw hT hb
    obtain ⟨f, rfl⟩ : ∃ f', f = f' + 2 := ⟨f - 2, by omega⟩
    rw [ze_220_20]
    simp (maxSteps := 10000000) (disch := omega) only [m164 hz hw hb, m189, zo_add, zo_sub, zo_mul, zo_neg, zo_lt, zo_le, zo_eq, zo_nn, zin_ok, zlt_eq, zr0, zr1, zr3, zr4, zr0x, zr1x, zr3x, zr4x, zb_and, zb_0, zmin_o, zmax_o, zabs_o, zo_div, zo_mod, ↓reduceIte, Int.reduceToNat, Int.reduceNeg, Int.reduceAdd, Int.reduceMul, Int.reduceSub, Int.reduceEq, Int.reduceLT, Int.reduceLE, if_true, if_false, Nat.reduceAdd, Nat.reduceMul]
    rw [if_neg (show ¬ (300 : Int) < k by omega), if_pos (show (k : Int) ≤ 300 by omega)]
    by_cases c : z (40 + 10 * b + 6) = 0
    · have ep : enG (pAf b) 0 z = -1 := if_pos (decide_eq_true c)
      obtain ⟨S2, e2, M2, F2⟩ := m187 (d := d) hz hw (by omega)
      obtain ⟨p1, p2, p3⟩ := pas_ok hw (by omega)
      have p9 := p3 9 (by omega) (by omega) (by omega)
      have H := hom_RM (RAw_Fm hR F2) hp ((Fm2_10 F2).trans h10)
      refine ⟨hom S2, ?_, H.1, H.2.1⟩
      rw [if_neg (show ¬ decide (z (40 + 10 * b + 6) = 0) = false by simp [c]), e2, zr0, ze_220_20]
      simp (maxSteps := 10000000) (disch := omega) only [m164 M2 p1 (b := b), m189, zo_add, zo_sub, zo_mul, zo_neg, zo_lt, zo_le, zo_eq, zo_nn, zin_ok, zlt_eq, zr0, zr1, zr3, zr4, zr0x, zr1x, zr3x, zr4x, zb_and, zb_0, zmin_o, zmax_o, zabs_o, zo_div, zo_mod, ↓reduceIte, Int.reduceToNat, Int.reduceNeg, Int.reduceAdd, Int.reduceMul, Int.reduceSub, Int.reduceEq, Int.reduceLT, Int.reduceLE, if_true, if_false, Nat.reduceAdd, Nat.reduceMul]
      rw [if_pos (show (300 : Int) < k + 1 by omega), if_neg (show ¬ (k : Int) + 1 ≤ 300 by omega), ep, if_pos rfl]
      split <;> rfl
    · have ep : enG (pAf b) 0 z = 0 := if_neg (fun h => c (of_decide_eq_true h))
      have H := hom_RM hR hp h10
      refine ⟨hom S1, ?_, H.1, H.2.1⟩
      rw [if_pos (show decide (z (40 + 10 * b + 6) = 0) = false by simp [c]), ep, if_neg (show ¬ (0 : Int) = -1 by omega), Int.add_zero]
  | succ m ih =>
    intro k f S1 z T hk hf hR h10 hp hz hw hT hb
    obtain ⟨f, rfl⟩ : ∃ f', f = f' + 1 := ⟨f - 1, by omega⟩
    rw [ze_220_20]
    simp (maxSteps := 10000000) (disch := omega) only [m164 hz hw hb, m189, zo_add, zo_sub, zo_mul, zo_neg, zo_lt, zo_le, zo_eq, zo_nn, zin_ok, zlt_eq, zr0, zr1, zr3, zr4, zr0x, zr1x, zr3x, zr4x, zb_and, zb_0, zmin_o, zmax_o, zabs_o, zo_div, zo_mod, ↓reduceIte, Int.reduceToNat, Int.reduceNeg, Int.reduceAdd, Int.reduceMul, Int.reduceSub, Int.reduceEq, Int.reduceLT, Int.reduceLE, if_true, if_false, Nat.reduceAdd, Nat.reduceMul]
    rw [if_neg (show ¬ (300 : Int) < k by omega), if_pos (show (k : Int) ≤ 300 by omega)]
    by_cases c : z (40 + 10 * b + 6) = 0
    · obtain ⟨S2, e2, M2, F2⟩ := m187 (d := d) hz hw (by omega)
      obtain ⟨p1, p2, p3⟩ := pas_ok hw (by omega)
      have p9 := p3 9 (by omega) (by omega) (by omega)
      have ep : enG (pAf b) (m + 1) z = if enG (pAf b) m (pas z) = -1 then -1 else enG (pAf b) m (pas z) + 1 := if_pos (decide_eq_true c)
      obtain ⟨S3, e3, R3, t3⟩ := ih (k + 1) f S2 (pas z) (T + 1) (by omega) (by omega) (RAw_Fm hR F2) ((Fm2_10 F2).trans h10) hp M2 p1 (by omega) (by omega)
      refine ⟨S3, ?_, R3, t3⟩
      rw [if_neg (show ¬ decide (z (40 + 10 * b + 6) = 0) = false by simp [c]), e2, zr0, ep]
      refine e3.trans ?_
      have : (if enG (pAf b) m (pas z) = -1 then -1 else ((k + 1 : Nat) : Int) + enG (pAf b) m (pas z)) = (if (if enG (pAf b) m (pas z) = -1 then -1 else enG (pAf b) m (pas z) + 1) = -1 then -1 else (k : Int) + (if enG (pAf b) m (pas z) = -1 then -1 else enG (pAf b) m (pas z) + 1)) := by
        have := enG_b (pAf b) m (pas z)
        split <;> (try split) <;> omega
      rw [this]
    · have ep : enG (pAf b) (m + 1) z = 0 := if_neg (fun h => c (of_decide_eq_true h))
      have H := hom_RM hR hp h10
      refine ⟨hom S1, ?_, H.1, H.2.1⟩
      rw [if_pos (show decide (z (40 + 10 * b + 6) = 0) = false by simp [c]), ep, if_neg (show ¬ (0 : Int) = -1 by omega), Int.add_zero]
theorem mt_8 (t : Int) (hp : S.1 3 0 0 8 = zo 0) : (mt S t).1 3 0 0 8 = zo 0 := by unfold mt; rw [zs_oth (by omega)]; exact hp
theorem MA_r {mi : Nat} {av : List zV} {v : Int} {S' : zS} (h : zr_sem zF d mi av S = some (.inl (some (zi (zo v))), S')) (hR : RM (mt S 0) S') (h10 : S'.1 3 0 0 10 = (mt S 0).1 3 0 0 10) : MA d mi av S 0 v := ⟨S', v, h, h10.trans (mt_10 S 0), fun _ => rfl, RM_trans (RM_mt S 0) hR⟩
theorem B220 (h : Md S 0 a) (hp : S.1 3 0 0 8 = zo 0) (hw : WF T a) (hT : T + 400 ≤ 1000000) (g1 : -2147483648 ≤ p) (g2 : p < 2147483648) : MA (d + 9) 220 [za 3 0 0, zi (zo p)] S (if vB a p then 0 else 1) (enG (pAf p.toNat) 300 a) := by
  have hb2 := zF1_big
  have h0 := Md_mt h 0
  by_cases c : vB a p
  · have e1 : decide (0 ≤ p ∧ p ≤ a 9 - 1) = true := decide_eq_true (by omega)
    obtain ⟨b, rfl⟩ : ∃ b : Nat, p = b := ⟨p.toNat, by omega⟩
    rw [if_pos c, Int.toNat_natCast]
    obtain ⟨S1, q1, q2, q3, q4⟩ := m188 (d := d + 6) h0
    obtain ⟨S2, e2, R2, t2⟩ := m220_l (S := mt S 0) (d := d) (b := b) 300 0 zF1 S1 a T (by omega) (by omega) q3 q4 (mt_8 0 hp) q2 hw (by omega) c.2
    refine MA_r ?_ R2 t2
    rw [ze_220, m157 h hw g1 g2, e1, zr1, m148_b, zr1, if_pos (show zo (bI !true) = zo 0 from rfl)]
    rw [show bI (!true) = 0 from rfl, q1, zr0]
    refine e2.trans ?_
    have := enG_b (pAf b) 300 a
    have e : (if enG (pAf b) 300 a = -1 then -1 else ((0 : Nat) : Int) + enG (pAf b) 300 a) = enG (pAf b) 300 a := by split <;> omega
    rw [e]
  · have e1 : decide (0 ≤ p ∧ p ≤ a 9 - 1) = false := decide_eq_false (by omega)
    rw [if_neg c]
    refine MA_x (t := 0) (w := 0) ?_
    rw [ze_220, m157 h hw g1 g2, e1, zr1, m148_b, zr1]
    rfl
set_option maxRecDepth 8000 in
theorem m221_l : ∀ (m k f : Nat) (S1 : zS) (z : Rw) (T : Int), k + m = 300 → m + 1 < f → RAw S S1 → S1.1 3 0 0 10 = S.1 3 0 0 10 → S.1 3 0 0 8 = zo 0 → Md S1 2 z → WF T z → T + m + 1 ≤ 1000000 → ∃ S', zy zF (d + 8) 221 f 11 [some (za 3 0 0), some (zi (zo k))] S1 = some (.inl (some (zi (zo (if enG pLv m z = -1 then -1 else k + enG pLv m z)))), S') ∧ RM S S' ∧ S'.1 3 0 0 10 = S.1 3 0 0 10 := by
  intro m
  induction m with
  | zero =>
    intro k f S1 z T hk hf hR h10 hp hz hw hT
    obtain ⟨f, rfl⟩ : ∃ f', f = f' + 2 := ⟨f - 2, by omega⟩
    have u2 := hw.1.2.2.1
    have z1 := hz.1
    have zq := hz.2.1
    have z2 := hz.2.2 2 (by omega)
    rw [ze_221_11]
    simp (maxSteps := 10000000) (disch := omega) only [z1, zq, z2, m189, zo_add, zo_sub, zo_mul, zo_neg, zo_lt, zo_le, zo_eq, zo_nn, zin_ok, zlt_eq, zr0, zr1, zr3, zr4, zr0x, zr1x, zr3x, zr4x, zb_and, zb_0, zmin_o, zmax_o, zabs_o, zo_div, zo_mod, ↓reduceIte, Int.reduceToNat, Int.reduceNeg, Int.reduceAdd, Int.reduceMul, Int.reduceSub, Int.reduceEq, Int.reduceLT, Int.reduceLE, if_true, if_false, Nat.reduceAdd, Nat.reduceMul]
    rw [if_neg (show ¬ (300 : Int) < k by omega), if_pos (show (k : Int) ≤ 300 by omega)]
    by_cases c : 0 < z 2
    · have ep : enG pLv 0 z = -1 := if_pos (decide_eq_true c)
      obtain ⟨S2, e2, M2, F2⟩ := m187 (d := d) hz hw (by omega)
      have y1 := M2.1
      have y2 := M2.2.2 2 (by omega)
      obtain ⟨p1, p2, p3⟩ := pas_ok hw (by omega)
      have v2 := p1.1.2.2.1
      have H := hom_RM (RAw_Fm hR F2) hp ((Fm2_10 F2).trans h10)
      refine ⟨hom S2, ?_, H.1, H.2.1⟩
      rw [if_neg (show ¬ z 2 ≤ 0 by omega), e2, zr0, ze_221_11]
      simp (maxSteps := 10000000) (disch := omega) only [y1, y2, m189, zo_add, zo_sub, zo_mul, zo_neg, zo_lt, zo_le, zo_eq, zo_nn, zin_ok, zlt_eq, zr0, zr1, zr3, zr4, zr0x, zr1x, zr3x, zr4x, zb_and, zb_0, zmin_o, zmax_o, zabs_o, zo_div, zo_mod, ↓reduceIte, Int.reduceToNat, Int.reduceNeg, Int.reduceAdd, Int.reduceMul, Int.reduceSub, Int.reduceEq, Int.reduceLT, Int.reduceLE, if_true, if_false, Nat.reduceAdd, Nat.reduceMul]
      rw [if_pos (show (300 : Int) < k + 1 by omega), if_neg (show ¬ (k : Int) + 1 ≤ 300 by omega), ep, if_pos rfl]
      simp
    · have ep : enG pLv 0 z = 0 := if_neg (fun h => c (of_decide_eq_true h))
      have H := hom_RM hR hp h10
      refine ⟨hom S1, ?_, H.1, H.2.1⟩
      rw [if_pos (show z 2 ≤ 0 by omega), ep, if_neg (show ¬ (0 : Int) = -1 by omega), Int.add_zero]
  | succ m ih =>
    intro k f S1 z T hk hf hR h10 hp hz hw hT
    obtain ⟨f, rfl⟩ : ∃ f', f = f' + 1 := ⟨f - 1, by omega⟩
    have u2 := hw.1.2.2.1
    have z1 := hz.1
    have zq := hz.2.1
    have z2 := hz.2.2 2 (by omega)
    rw [ze_221_11]
    simp (maxSteps := 10000000) (disch := omega) only [z1, zq, z2, m189, zo_add, zo_sub, zo_mul, zo_neg, zo_lt, zo_le, zo_eq, zo_nn, zin_ok, zlt_eq, zr0, zr1, zr3, zr4, zr0x, zr1x, zr3x, zr4x, zb_and, zb_0, zmin_o, zmax_o, zabs_o, zo_div, zo_mod, ↓reduceIte, Int.reduceToNat, Int.reduceNeg, Int.reduceAdd, Int.reduceMul, Int.reduceSub, Int.reduceEq, Int.reduceLT, Int.reduceLE, if_true, if_false, Nat.reduceAdd, Nat.reduceMul]
    rw [if_neg (show ¬ (300 : Int) < k by omega), if_pos (show (k : Int) ≤ 300 by omega)]
    by_cases c : 0 < z 2
    · obtain ⟨S2, e2, M2, F2⟩ := m187 (d := d) hz hw (by omega)
      obtain ⟨p1, p2, p3⟩ := pas_ok hw (by omega)
      have ep : enG pLv (m + 1) z = if enG pLv m (pas z) = -1 then -1 else enG pLv m (pas z) + 1 := if_pos (decide_eq_true c)
      obtain ⟨S3, e3, R3, t3⟩ := ih (k + 1) f S2 (pas z) (T + 1) (by omega) (by omega) (RAw_Fm hR F2) ((Fm2_10 F2).trans h10) hp M2 p1 (by omega)
      refine ⟨S3, ?_, R3, t3⟩
      rw [if_neg (show ¬ z 2 ≤ 0 by omega), e2, zr0, ep]
      refine e3.trans ?_
      have : (if enG pLv m (pas z) = -1 then -1 else ((k + 1 : Nat) : Int) + enG pLv m (pas z)) = (if (if enG pLv m (pas z) = -1 then -1 else enG pLv m (pas z) + 1) = -1 then -1 else (k : Int) + (if enG pLv m (pas z) = -1 then -1 else enG pLv m (pas z) + 1)) := by
        have := enG_b pLv m (pas z)
        split <;> (try split) <;> omega
      rw [this]
    · have ep : enG pLv (m + 1) z = 0 := if_neg (fun h => c (of_decide_eq_true h))
      have H := hom_RM hR hp h10
      refine ⟨hom S1, ?_, H.1, H.2.1⟩
      rw [if_pos (show z 2 ≤ 0 by omega), ep, if_neg (show ¬ (0 : Int) = -1 by omega), Int.add_zero]
theorem B221 (h : Md S 0 a) (hp : S.1 3 0 0 8 = zo 0) (hw : WF T a) (hT : T + 400 ≤ 1000000) : MA (d + 9) 221 [za 3 0 0] S 0 (enG pLv 300 a) := by
  have hb2 := zF1_big
  have h0 := Md_mt h 0
  obtain ⟨S1, q1, q2, q3, q4⟩ := m188 (d := d + 6) h0
  obtain ⟨S2, e2, R2, t2⟩ := m221_l (S := mt S 0) (d := d) 300 0 zF1 S1 a T (by omega) (by omega) q3 q4 (mt_8 0 hp) q2 hw (by omega)
  refine MA_r ?_ R2 t2
  rw [ze_221, mt_def, q1, zr0]
  refine e2.trans ?_
  have := enG_b pLv 300 a
  have e : (if enG pLv 300 a = -1 then -1 else ((0 : Nat) : Int) + enG pLv 300 a) = enG pLv 300 a := by split <;> omega
  rw [e]
/-- turns on the row aside, and home -/
theorem m190h (h : Md S 0 a) (hp : S.1 3 0 0 8 = zo 0) (hw : WF T a) {t : Nat} (ht : t ≤ 10000) (hT : T + t ≤ 1000000) : ∃ S1 S2, zr_sem zF (d + 9) 188 [za 3 0 0] S = some (.inl none, S1) ∧ zr_sem zF (d + 9) 190 [za 3 0 0, zi (zo t)] S1 = some (.inl none, S2) ∧ Md S2 2 (pasN t a) ∧ RM S (hom S2) ∧ (hom S2).1 3 0 0 10 = S.1 3 0 0 10 := by
  obtain ⟨S1, q1, q2, q3, q4⟩ := m188 (d := d + 7) h
  obtain ⟨S2, e2, M2, F2⟩ := m190 (d := d) q2 hw ht hT
  have H := hom_RM (RAw_Fm q3 F2) hp ((Fm2_10 F2).trans q4)
  exact ⟨S1, S2, q1, e2, M2, H.1, H.2.1⟩
theorem B222 {q : Int} (h : Md S 0 a) (hp : S.1 3 0 0 8 = zo 0) (hw : WF T a) (hT : T + 400 ≤ 1000000) (g1 : -2147483648 ≤ p) (g2 : p < 2147483648) (g3 : -2147483648 ≤ r) (g4 : r < 2147483648) (g5 : -2147483648 ≤ q) (g6 : q < 2147483648) : MA (d + 10) 222 [za 3 0 0, zi (zo p), zi (zo r), zi (zo q)] S (if vB a p ∧ (0 ≤ r ∧ r ≤ 10) then (if 0 ≤ q ∧ q ≤ 300 then 0 else 2) else 1) (bnum (pasN q.toNat a) p.toNat r.toNat) := by
  have u9 := hw.1.2.2.2.2.2.2.2.2.2
  have h0 := Md_mt h 0
  by_cases c : vB a p
  · have e1 : decide (0 ≤ p ∧ p ≤ a 9 - 1) = true := decide_eq_true (by omega)
    by_cases c2 : 0 ≤ r ∧ r ≤ 10
    · have e2 : decide (0 ≤ r ∧ r ≤ 10) = true := decide_eq_true c2
      rw [if_pos ⟨c, c2⟩]
      by_cases c3 : 0 ≤ q ∧ q ≤ 300
      · have e3 : decide (0 ≤ q ∧ q ≤ 300) = true := decide_eq_true c3
        obtain ⟨b, rfl⟩ : ∃ b : Nat, p = b := ⟨p.toNat, by omega⟩
        obtain ⟨w, rfl⟩ : ∃ w : Nat, r = w := ⟨r.toNat, by omega⟩
        obtain ⟨t, rfl⟩ : ∃ t : Nat, q = t := ⟨q.toNat, by omega⟩
        rw [if_pos c3, Int.toNat_natCast, Int.toNat_natCast, Int.toNat_natCast]
        obtain ⟨S1, S2, q1, q2, M2, R2, t2⟩ := m190h (d := d) h0 (mt_8 0 hp) hw (t := t) (by omega) (by omega)
        obtain ⟨p1, p2, p3⟩ := pasN_ok hw t (by omega)
        have p9 := p3 9 (by omega) (by omega) (by omega)
        refine MA_r ?_ R2 t2
        rw [ze_222]
        simp (maxSteps := 10000000) (disch := omega) only [m157 h hw, e1, m147, e2, e3, bI_t, m148_1, q1, q2, m194 M2 p1 (b := b) (w := w), m189, zo_add, zo_sub, zo_mul, zo_neg, zo_lt, zo_le, zo_eq, zo_nn, zin_ok, zlt_eq, zr0, zr1, zr3, zr4, zr0x, zr1x, zr3x, zr4x, zb_and, zb_0, zmin_o, zmax_o, zabs_o, zo_div, zo_mod, ↓reduceIte, Int.reduceToNat, Int.reduceNeg, Int.reduceAdd, Int.reduceMul, Int.reduceSub, Int.reduceEq, Int.reduceLT, Int.reduceLE, if_true, if_false, Nat.reduceAdd, Nat.reduceMul]
      · have e3 : decide (0 ≤ q ∧ q ≤ 300) = false := decide_eq_false c3
        rw [if_neg c3]
        refine MA_x (t := 1) (w := 0) ?_
        rw [ze_222]
        simp (maxSteps := 10000000) (disch := omega) only [m157 h hw, e1, m147, e2, e3, bI_t, bI_f, m148_1, m146, mt_mt, zo_add, zo_sub, zo_mul, zo_neg, zo_lt, zo_le, zo_eq, zo_nn, zin_ok, zlt_eq, zr0, zr1, zr3, zr4, zr0x, zr1x, zr3x, zr4x, zb_and, zb_0, zmin_o, zmax_o, zabs_o, zo_div, zo_mod, ↓reduceIte, Int.reduceToNat, Int.reduceNeg, Int.reduceAdd, Int.reduceMul, Int.reduceSub, Int.reduceEq, Int.reduceLT, Int.reduceLE, if_true, if_false, Nat.reduceAdd, Nat.reduceMul]
        rfl
    · have e2 : decide (0 ≤ r ∧ r ≤ 10) = false := decide_eq_false c2
      rw [if_neg (fun z => c2 z.2)]
      refine MA_x (t := 0) (w := 0) ?_
      rw [ze_222]
      simp (maxSteps := 10000000) (disch := omega) only [m157 h hw, e1, m147, e2, bI_t, bI_f, m148_0, zo_add, zo_sub, zo_mul, zo_neg, zo_lt, zo_le, zo_eq, zo_nn, zin_ok, zlt_eq, zr0, zr1, zr3, zr4, zr0x, zr1x, zr3x, zr4x, zb_and, zb_0, zmin_o, zmax_o, zabs_o, zo_div, zo_mod, ↓reduceIte, Int.reduceToNat, Int.reduceNeg, Int.reduceAdd, Int.reduceMul, Int.reduceSub, Int.reduceEq, Int.reduceLT, Int.reduceLE, if_true, if_false, Nat.reduceAdd, Nat.reduceMul]
      rfl
  · have e1 : decide (0 ≤ p ∧ p ≤ a 9 - 1) = false := decide_eq_false (by omega)
    rw [if_neg (fun z => c z.1)]
    refine MA_x (t := 0) (w := 0) ?_
    rw [ze_222]
    simp (maxSteps := 10000000) (disch := omega) only [m157 h hw, e1, bI_f, m148_0, zo_add, zo_sub, zo_mul, zo_neg, zo_lt, zo_le, zo_eq, zo_nn, zin_ok, zlt_eq, zr0, zr1, zr3, zr4, zr0x, zr1x, zr3x, zr4x, zb_and, zb_0, zmin_o, zmax_o, zabs_o, zo_div, zo_mod, ↓reduceIte, Int.reduceToNat, Int.reduceNeg, Int.reduceAdd, Int.reduceMul, Int.reduceSub, Int.reduceEq, Int.reduceLT, Int.reduceLE, if_true, if_false, Nat.reduceAdd, Nat.reduceMul]
    rfl
/-- lacks(inRange): the first exception is thrown -/
theorem B223 (h : Md S 0 a) (hp : S.1 3 0 0 8 = zo 0) (hw : WF T a) (hT : T + 400 ≤ 1000000) (g1 : -2147483648 ≤ p) (g2 : p < 2147483648) : MA (d + 10) 223 [za 3 0 0, zi (zo p)] S (if 0 ≤ p ∧ p ≤ 300 then 0 else 1) (cnt (pasN p.toNat a) 0) := by
  have h0 := Md_mt h 0
  by_cases c : 0 ≤ p ∧ p ≤ 300
  · have e1 : decide (0 ≤ p ∧ p ≤ 300) = true := decide_eq_true c
    obtain ⟨t, rfl⟩ : ∃ t : Nat, p = t := ⟨p.toNat, by omega⟩
    rw [if_pos c, Int.toNat_natCast]
    obtain ⟨S1, S2, q1, q2, M2, R2, t2⟩ := m190h (d := d) h0 (mt_8 0 hp) hw (t := t) (by omega) (by omega)
    obtain ⟨p1, p2, p3⟩ := pasN_ok hw t (by omega)
    refine MA_r ?_ R2 t2
    rw [ze_223, m147 (by omega) (by omega) (by omega) (by omega) (by omega) (by omega), zr1, e1, m148_b, zr1, if_pos (show zo (bI !true) = zo 0 from rfl), show bI (!true) = 0 from rfl, q1, zr0, q2, zr0, m172 M2 p1 (by omega) (by omega), zr1, m189, zr0]
  · have e1 : decide (0 ≤ p ∧ p ≤ 300) = false := decide_eq_false c
    rw [if_neg c]
    refine MA_x (t := 0) (w := 0) ?_
    rw [ze_223, m147 (by omega) (by omega) (by omega) (by omega) (by omega) (by omega), zr1, e1, m148_b, zr1]
    rfl
theorem m230 {q : Nat} (h : Md S q a) (hw : WF T a) {k : Nat} (hk : (k : Int) < a 0 * a 1) {v : Int} (hv : 1 ≤ v ∧ v ≤ 99) : ∃ S', zr_sem zF (d + 1) 230 [za 3 0 0, zi (zo k), zi (zo v)] S = some (.inl none, S') ∧ Md S' q (soaR a k v) ∧ Fm q S S' := by
  have uN := WF_nc hw
  have gS := hw.2.2.2.2.1 k hk
  have h1 := h.1
  have hq := h.2.1
  have e := h.2.2 (160 + k) (by omega)
  have ix : (160 + (k : Int)).toNat = 160 + k := by omega
  refine ⟨_, ?_, Md_set h (160 + k) (if 99 < a (160 + k) + v then 99 else a (160 + k) + v), Fm_row (Fm_refl q S) _ _⟩
  rw [ze_230]
  simp (maxSteps := 10000000) (disch := omega) only [h1, hq, e, ix, zo_add, zo_sub, zo_mul, zo_neg, zo_lt, zo_le, zo_eq, zo_nn, zin_ok, zlt_eq, zr0, zr1, zr3, zr4, zr0x, zr1x, zr3x, zr4x, zb_and, zb_0, zmin_o, zmax_o, zabs_o, zo_div, zo_mod, ↓reduceIte, Int.reduceToNat, Int.reduceNeg, Int.reduceAdd, Int.reduceMul, Int.reduceSub, Int.reduceEq, Int.reduceLT, Int.reduceLE, if_true, if_false, Nat.reduceAdd, Nat.reduceMul]
  by_cases c : a (160 + k) + v ≤ 99
  · rw [if_pos c, if_neg (by omega)]
  · rw [if_neg c, if_pos (by omega)]
theorem m229 {q : Nat} (h : Md S q a) {b : Nat} (hb : b < 12) {c : Int} : ∃ S', zr_sem zF (d + 2) 229 [za 3 0 0, zi (zo b), zi (zo c)] S = some (.inl none, S') ∧ Md S' q (putR a b c) ∧ Fm q S S' := by
  have hA := Md_set h (40 + 10 * b) c
  have hB := Md_set hA (40 + 10 * b + 4) 0
  have hC := Md_set hB (40 + 10 * b + 5) 0
  refine ⟨_, ?_, hC, Fm_row (Fm_row (Fm_row (Fm_refl q S) _ _) _ _) _ _⟩
  rw [ze_229]
  simp (maxSteps := 10000000) (disch := omega) only [m161_0 h, m161_4 hA, m161_5 hB, zr0]
theorem m192 (h : Md S 0 a) (hp : S.1 3 0 0 8 = zo 0) (hw : WF T a) (hT : T + 400 ≤ 1000000) {b : Nat} (hb : (b : Int) < a 9) : ∃ S', zr_sem zF (d + 10) 192 [za 3 0 0, zi (zo b)] S = some (.inl (some (zi (zo (lifG b 40 a)))), S') ∧ RM S S' ∧ S'.1 3 0 0 10 = S.1 3 0 0 10 := by
  obtain ⟨S1, q1, q2, q3, q4⟩ := m188 (d := d + 7) h
  obtain ⟨S2, e2, F2⟩ := m191 (d := d) q2 hw (by omega) hb
  have H := hom_RM (RAw_Fm q3 F2) hp ((Fm2_10 F2).trans q4)
  refine ⟨hom S2, ?_, H.1, H.2.1⟩
  rw [ze_192, q1, zr0, e2, zr1, m189, zr0]
theorem m224_l {S0 : zS} (hw : WF T a) (hT : T + 400 ≤ 1000000) {b : Nat} (hb : (b : Int) < a 9) {v : Int} (hv : 1 ≤ v ∧ v ≤ 99) {L0 : Int} (hL : 0 ≤ L0 ∧ L0 ≤ 40) : ∀ (m k f : Nat) (S : zS), k + m = (a 0 * a 1).toNat → m < f → Md S 0 a → S.1 3 0 0 8 = zo 0 → RM S0 S → S.1 3 0 0 10 = S0.1 3 0 0 10 → ∃ S', zy zF (d + 10) 224 f 52 [some (za 3 0 0), some (zi (zo b)), some (zi (zo v)), some (zi (zo (bstF (resV a b v) noS L0 k).1)), some (zi (zo (bstF (resV a b v) noS L0 k).2)), some (zi (zo k)), none] S = some (.inl (some (zi (zo (bstF (resV a b v) noS L0 (a 0 * a 1).toNat).2))), S') ∧ RM S0 S' ∧ S'.1 3 0 0 10 = S0.1 3 0 0 10 := by
  have uN := WF_nc hw
  have hvv : ∀ i, 0 ≤ resV a b v i ∧ resV a b v i ≤ 40 := fun i => by have := lifG_b b 40 (soaR a i v); unfold resV; omega
  intro m
  induction m with
  | zero =>
    intro k f S hk hf h hp R t
    obtain ⟨f, rfl⟩ : ∃ f', f = f' + 1 := ⟨f - 1, by omega⟩
    refine ⟨S, ?_, R, t⟩
    rw [ze_224_52]
    simp (maxSteps := 10000000) (disch := omega) only [m152 h, zo_add, zo_sub, zo_mul, zo_neg, zo_lt, zo_le, zo_eq, zo_nn, zin_ok, zlt_eq, zr0, zr1, zr3, zr4, zr0x, zr1x, zr3x, zr4x, zb_and, zb_0, zmin_o, zmax_o, zabs_o, zo_div, zo_mod, ↓reduceIte, Int.reduceToNat, Int.reduceNeg, Int.reduceAdd, Int.reduceMul, Int.reduceSub, Int.reduceEq, Int.reduceLT, Int.reduceLE, if_true, if_false, Nat.reduceAdd, Nat.reduceMul]
    rw [if_pos (by omega), show k = (a 0 * a 1).toNat by omega]
  | succ m ih =>
    intro k f S hk hf h hp R t
    obtain ⟨f, rfl⟩ : ∃ f', f = f' + 1 := ⟨f - 1, by omega⟩
    have rg := bstF_rng (resV a b v) noS L0 0 40 hL k (fun i _ _ => hvv i)
    obtain ⟨S1, q1, q2, q3, q4⟩ := m188 (d := d + 8) h
    obtain ⟨S2, e2, M2, F2⟩ := m230 (d := d + 9) q2 hw (k := k) (by omega) hv
    have wA := WF_soaR hw (k := k) (by omega) hv
    obtain ⟨S3, e3, F3⟩ := m191 (d := d + 1) M2 wA (by omega) (b := b) (by rw [soaR_9]; exact hb)
    have H := hom_RM (RAw_Fm (RAw_Fm q3 F2) F3) hp ((Fm2_10 F3).trans ((Fm2_10 F2).trans q4))
    have HM := RM_Md H.1 h hp
    obtain ⟨S4, e4, R4, t4⟩ := ih (k + 1) f (hom S3) (by omega) (by omega) HM.1 HM.2 (RM_trans R H.1) (H.2.1.trans t)
    refine ⟨S4, ?_, R4, t4⟩
    rw [ze_224_52]
    simp (maxSteps := 10000000) (disch := omega) only [m152 h, zo_add, zo_sub, zo_mul, zo_neg, zo_lt, zo_le, zo_eq, zo_nn, zin_ok, zlt_eq, zr0, zr1, zr3, zr4, zr0x, zr1x, zr3x, zr4x, zb_and, zb_0, zmin_o, zmax_o, zabs_o, zo_div, zo_mod, ↓reduceIte, Int.reduceToNat, Int.reduceNeg, Int.reduceAdd, Int.reduceMul, Int.reduceSub, Int.reduceEq, Int.reduceLT, Int.reduceLE, if_true, if_false, Nat.reduceAdd, Nat.reduceMul]
    rw [if_neg (show ¬ a 0 * a 1 ≤ (k : Int) by omega), q1, zr0, e2, zr0, e3, zr1, m189, zr0]
    rw [bstF_succ, show noS k = false from rfl, if_neg (by decide)] at e4
    have eV : resV a b v k = lifG b 40 (soaR a k v) := rfl
    rw [eV] at e4
    have lb := lifG_b b 40 (soaR a k v)
    rw [show ((k + 1 : Nat) : Int) = (k : Int) + 1 from rfl] at e4
    simp (maxSteps := 10000000) (disch := omega) only [zo_add, zo_sub, zo_mul, zo_neg, zo_lt, zo_le, zo_eq, zo_nn, zin_ok, zlt_eq, zr0, zr1, zr3, zr4, zr0x, zr1x, zr3x, zr4x, zb_and, zb_0, zmin_o, zmax_o, zabs_o, zo_div, zo_mod, ↓reduceIte, Int.reduceToNat, Int.reduceNeg, Int.reduceAdd, Int.reduceMul, Int.reduceSub, Int.reduceEq, Int.reduceLT, Int.reduceLE, if_true, if_false, Nat.reduceAdd, Nat.reduceMul]
    generalize lifG b 40 (soaR a k v) = V at *
    by_cases c2 : (bstF (resV a b v) noS L0 k).1 < V
    · rw [if_pos c2] at e4
      rw [if_neg (by omega)]; exact e4
    · rw [if_neg c2] at e4
      rw [if_pos (by omega)]; exact e4
theorem B224 (h : Md S 0 a) (hp : S.1 3 0 0 8 = zo 0) (hw : WF T a) (hT : T + 400 ≤ 1000000) (g1 : -2147483648 ≤ p) (g2 : p < 2147483648) (g3 : -2147483648 ≤ r) (g4 : r < 2147483648) : MA (d + 11) 224 [za 3 0 0, zi (zo p), zi (zo r)] S (if vB a p then (if 1 ≤ r ∧ r ≤ 99 then 0 else 2) else 1) (if a (40 + 10 * p.toNat + 6) = 0 then (bstF (resV a p.toNat r) noS (lifG p.toNat 40 a) (a 0 * a 1).toNat).2 else -1) := by
  have hb2 := zF1_big
  have uN := WF_nc hw
  have h0 := Md_mt h 0
  by_cases c : vB a p
  · have e1 : decide (0 ≤ p ∧ p ≤ a 9 - 1) = true := decide_eq_true (by omega)
    rw [if_pos c]
    have e := ze_224 (d := d + 10) (S := S) (xa := zo p) (xb := zo r)
    rw [m157 h hw g1 g2, e1, zr1, m148_b, zr1, if_pos (show zo (bI !true) = zo 0 from rfl), show bI (!true) = 0 from rfl, m147 (by omega) (by omega) (by omega) (by omega) (by omega) (by omega), zr1] at e
    by_cases c2 : 1 ≤ r ∧ r ≤ 99
    · obtain ⟨b, rfl⟩ : ∃ b : Nat, p = b := ⟨p.toNat, by omega⟩
      rw [if_pos c2, Int.toNat_natCast]
      rw [decide_eq_true c2, if_neg (by decide), m164 h0 hw c.2, zr1] at e
      by_cases c3 : a (40 + 10 * b + 6) = 0
      · rw [if_pos c3]
        rw [decide_eq_true c3, if_neg (by decide)] at e
        obtain ⟨S1, q1, R1, t1⟩ := m192 (d := d) h0 (mt_8 0 hp) hw hT c.2
        rw [q1, zr1] at e
        have HM := RM_Md R1 h0 (mt_8 0 hp)
        have lb := lifG_b b 40 a
        generalize lifG b 40 a = L0 at *
        obtain ⟨S2, e2, R2, t2⟩ := m224_l (S0 := mt S 0) (d := d) (L0 := L0) hw hT c.2 c2 lb (a 0 * a 1).toNat 0 zF1 S1 (by omega) (by omega) HM.1 HM.2 R1 t1
        exact MA_r (e.trans e2) R2 t2
      · rw [if_neg c3]
        rw [decide_eq_false c3, if_pos (show zo (bI false) = zo 0 from rfl)] at e
        exact MA_v e
    · rw [if_neg c2]
      rw [decide_eq_false c2, if_pos (show zo (bI false) = zo 0 from rfl), m146, zr1, mt_mt] at e
      exact MA_x (t := 1) (w := 0) e
  · have e1 : decide (0 ≤ p ∧ p ≤ a 9 - 1) = false := decide_eq_false (by omega)
    rw [if_neg c]
    refine MA_x (t := 0) (w := 0) ?_
    rw [ze_224, m157 h hw g1 g2, e1, zr1, m148_b, zr1]
    rfl
theorem m225_l {S0 : zS} (hw : WF T a) (hT : T + 400 ≤ 1000000) {b : Nat} (hb : (b : Int) < a 9) {L0 : Int} (hL : 0 ≤ L0 ∧ L0 ≤ 40) : ∀ (m k f : Nat) (S : zS), k + m = (a 0 * a 1).toNat → m < f → Md S 0 a → S.1 3 0 0 8 = zo 0 → RM S0 S → S.1 3 0 0 10 = S0.1 3 0 0 10 → ∃ S', zy zF (d + 10) 225 f 35 [some (za 3 0 0), some (zi (zo b)), some (zi (zo (bstF (refV a b) (refS a b) L0 k).1)), some (zi (zo (bstF (refV a b) (refS a b) L0 k).2)), some (zi (zo k)), none] S = some (.inl (some (zi (zo (bstF (refV a b) (refS a b) L0 (a 0 * a 1).toNat).2))), S') ∧ RM S0 S' ∧ S'.1 3 0 0 10 = S0.1 3 0 0 10 := by
  have uN := WF_nc hw
  have u9 := hw.1.2.2.2.2.2.2.2.2.2
  have hvv : ∀ i, 0 ≤ refV a b i ∧ refV a b i ≤ 40 := fun i => by have := lifG_b b 40 (putR a b i); unfold refV; omega
  intro m
  induction m with
  | zero =>
    intro k f S hk hf h hp R t
    obtain ⟨f, rfl⟩ : ∃ f', f = f' + 1 := ⟨f - 1, by omega⟩
    refine ⟨S, ?_, R, t⟩
    rw [ze_225_35]
    simp (maxSteps := 10000000) (disch := omega) only [m152 h, zo_add, zo_sub, zo_mul, zo_neg, zo_lt, zo_le, zo_eq, zo_nn, zin_ok, zlt_eq, zr0, zr1, zr3, zr4, zr0x, zr1x, zr3x, zr4x, zb_and, zb_0, zmin_o, zmax_o, zabs_o, zo_div, zo_mod, ↓reduceIte, Int.reduceToNat, Int.reduceNeg, Int.reduceAdd, Int.reduceMul, Int.reduceSub, Int.reduceEq, Int.reduceLT, Int.reduceLE, if_true, if_false, Nat.reduceAdd, Nat.reduceMul]
    rw [if_pos (by omega), show k = (a 0 * a 1).toNat by omega]
  | succ m ih =>
    intro k f S hk hf h hp R t
    obtain ⟨f, rfl⟩ : ∃ f', f = f' + 1 := ⟨f - 1, by omega⟩
    have rg := bstF_rng (refV a b) (refS a b) L0 0 40 hL k (fun i _ _ => hvv i)
    have o1 := occ_ge a (k : Int) b
    have o2 := occ_lt (a := a) (k : Int) b (by omega)
    have e := ze_225_35 (d := d + 10) (k := f) (S := S) (l1 := zo b) (l2 := zo (bstF (refV a b) (refS a b) L0 k).1) (l3 := zo (bstF (refV a b) (refS a b) L0 k).2) (l4 := zo k)
    rw [m152 h, zr1, if_neg (show ¬ zo (a 0 * a 1) ≤ zo (k : Int) by rw [zo_le (by omega) (by omega) (by omega) (by omega)]; omega), m170 h hw (by omega) (by omega) (by omega) (by omega), zr1] at e
    by_cases co : occ a (k : Int) b ≠ -1
    · obtain ⟨S4, e4, R4, t4⟩ := ih (k + 1) f S (by omega) (by omega) h hp R t
      rw [bstF_succ, show refS a b k = true from decide_eq_true co, if_pos rfl] at e4
      refine ⟨S4, e.trans ?_, R4, t4⟩
      rw [if_neg (show ¬ zo (occ a (k : Int) b) = zo (-1) by rw [zo_eq (by omega) (by omega) (by omega) (by omega)]; exact co), zo_add]
      exact e4
    · have co := Classical.not_not.mp co
      obtain ⟨S1, q1, q2, q3, q4⟩ := m188 (d := d + 8) h
      obtain ⟨S2, e2, M2, F2⟩ := m229 (d := d + 8) q2 (b := b) (c := (k : Int)) (by omega)
      have wA := WF_putR hw hb (c := (k : Int)) (by omega) co
      obtain ⟨S3, e3, F3⟩ := m191 (d := d + 1) M2 wA (by omega) (b := b) (by rw [putR_9]; exact hb)
      have H := hom_RM (RAw_Fm (RAw_Fm q3 F2) F3) hp ((Fm2_10 F3).trans ((Fm2_10 F2).trans q4))
      have HM := RM_Md H.1 h hp
      obtain ⟨S4, e4, R4, t4⟩ := ih (k + 1) f (hom S3) (by omega) (by omega) HM.1 HM.2 (RM_trans R H.1) (H.2.1.trans t)
      refine ⟨S4, e.trans ?_, R4, t4⟩
      rw [co, if_pos rfl, q1, zr0, e2, zr0, e3, zr1, m189, zr0]
      rw [bstF_succ, show refS a b k = false from decide_eq_false (show ¬ occ a (k : Int) b ≠ -1 by omega), if_neg (by decide)] at e4
      have eV : refV a b k = lifG b 40 (putR a b k) := rfl
      rw [eV] at e4
      have lb := lifG_b b 40 (putR a b k)
      rw [show ((k + 1 : Nat) : Int) = (k : Int) + 1 from rfl] at e4
      simp (maxSteps := 10000000) (disch := omega) only [zo_add, zo_sub, zo_mul, zo_neg, zo_lt, zo_le, zo_eq, zo_nn, zin_ok, zlt_eq, zr0, zr1, zr3, zr4, zr0x, zr1x, zr3x, zr4x, zb_and, zb_0, zmin_o, zmax_o, zabs_o, zo_div, zo_mod, ↓reduceIte, Int.reduceToNat, Int.reduceNeg, Int.reduceAdd, Int.reduceMul, Int.reduceSub, Int.reduceEq, Int.reduceLT, Int.reduceLE, if_true, if_false, Nat.reduceAdd, Nat.reduceMul]
      generalize lifG b 40 (putR a b k) = V at *
      by_cases c2 : (bstF (refV a b) (refS a b) L0 k).1 < V
      · rw [if_pos c2] at e4
        rw [if_neg (by omega)]; exact e4
      · rw [if_neg c2] at e4
        rw [if_pos (by omega)]; exact e4
theorem B225 (h : Md S 0 a) (hp : S.1 3 0 0 8 = zo 0) (hw : WF T a) (hT : T + 400 ≤ 1000000) (g1 : -2147483648 ≤ p) (g2 : p < 2147483648) : MA (d + 11) 225 [za 3 0 0, zi (zo p)] S (if vB a p then 0 else 1) (if a (40 + 10 * p.toNat + 6) = 0 then (bstF (refV a p.toNat) (refS a p.toNat) (lifG p.toNat 40 a) (a 0 * a 1).toNat).2 else -1) := by
  have hb2 := zF1_big
  have uN := WF_nc hw
  have h0 := Md_mt h 0
  by_cases c : vB a p
  · have e1 : decide (0 ≤ p ∧ p ≤ a 9 - 1) = true := decide_eq_true (by omega)
    rw [if_pos c]
    have e := ze_225 (d := d + 10) (S := S) (xa := zo p)
    rw [m157 h hw g1 g2, e1, zr1, m148_b, zr1, if_pos (show zo (bI !true) = zo 0 from rfl), show bI (!true) = 0 from rfl] at e
    obtain ⟨b, rfl⟩ : ∃ b : Nat, p = b := ⟨p.toNat, by omega⟩
    rw [Int.toNat_natCast]
    rw [m164 h0 hw c.2, zr1] at e
    by_cases c3 : a (40 + 10 * b + 6) = 0
    · rw [if_pos c3]
      rw [decide_eq_true c3, if_neg (by decide)] at e
      obtain ⟨S1, q1, R1, t1⟩ := m192 (d := d) h0 (mt_8 0 hp) hw hT c.2
      rw [q1, zr1] at e
      have HM := RM_Md R1 h0 (mt_8 0 hp)
      have lb := lifG_b b 40 a
      generalize lifG b 40 a = L0 at *
      obtain ⟨S2, e2, R2, t2⟩ := m225_l (S0 := mt S 0) (d := d) (L0 := L0) hw hT c.2 lb (a 0 * a 1).toNat 0 zF1 S1 (by omega) (by omega) HM.1 HM.2 R1 t1
      exact MA_r (e.trans e2) R2 t2
    · rw [if_neg c3]
      rw [decide_eq_false c3, if_pos (show zo (bI false) = zo 0 from rfl)] at e
      exact MA_v e
  · have e1 : decide (0 ≤ p ∧ p ≤ a 9 - 1) = false := decide_eq_false (by omega)
    rw [if_neg c]
    refine MA_x (t := 0) (w := 0) ?_
    rw [ze_225, m157 h hw g1 g2, e1, zr1, m148_b, zr1]
    rfl
theorem m226_l {S0 : zS} (hw : WF T a) (hT : T + 400 ≤ 1000000) {L0 : Int} (hL : 0 ≤ L0 ∧ L0 ≤ 12) : ∀ (m k f : Nat) (S : zS), k + m = (a 7).toNat → m < f → Md S 0 a → S.1 3 0 0 8 = zo 0 → RM S0 S → S.1 3 0 0 10 = S0.1 3 0 0 10 → ∃ S', zy zF (d + 10) 226 f 29 [some (za 3 0 0), some (zi (zo (bstF (pluV a) noS L0 k).1)), some (zi (zo (bstF (pluV a) noS L0 k).2)), some (zi (zo k)), none] S = some (.inl (some (zi (zo (bstF (pluV a) noS L0 (a 7).toNat).2))), S') ∧ RM S0 S' ∧ S'.1 3 0 0 10 = S0.1 3 0 0 10 := by
  have u7 := hw.1.2.2.2.2.2.2.2
  intro m
  induction m with
  | zero =>
    intro k f S hk hf h hp R t
    obtain ⟨f, rfl⟩ : ∃ f', f = f' + 1 := ⟨f - 1, by omega⟩
    have h1 := h.1
    have hq := h.2.1
    have r7 := h.2.2 7 (by omega)
    refine ⟨S, ?_, R, t⟩
    rw [ze_226_29]
    simp (maxSteps := 10000000) (disch := omega) only [h1, hq, r7, zo_add, zo_sub, zo_mul, zo_neg, zo_lt, zo_le, zo_eq, zo_nn, zin_ok, zlt_eq, zr0, zr1, zr3, zr4, zr0x, zr1x, zr3x, zr4x, zb_and, zb_0, zmin_o, zmax_o, zabs_o, zo_div, zo_mod, ↓reduceIte, Int.reduceToNat, Int.reduceNeg, Int.reduceAdd, Int.reduceMul, Int.reduceSub, Int.reduceEq, Int.reduceLT, Int.reduceLE, if_true, if_false, Nat.reduceAdd, Nat.reduceMul]
    rw [if_pos (by omega), show k = (a 7).toNat by omega]
  | succ m ih =>
    intro k f S hk hf h hp R t
    obtain ⟨f, rfl⟩ : ∃ f', f = f' + 1 := ⟨f - 1, by omega⟩
    have h1 := h.1
    have hq := h.2.1
    have r7 := h.2.2 7 (by omega)
    have rg := bstF_rng (pluV a) noS L0 0 12 hL k (fun i hi _ => pluV_b hw hT (by omega))
    have pb := pluV_b hw hT (k := k) (by omega)
    obtain ⟨S1, q1, q2, q3, q4⟩ := m188 (d := d + 8) h
    have p1 := q2.1
    have pq := q2.2.1
    have hA := Md_set q2 (10 + 4 * k + 2) 0
    have wA := WF_d2 (v := 0) (k0 := k) hw (by omega) (by omega)
    obtain ⟨S2, e2, M2, F2⟩ := m190 (d := d + 1) hA wA (m := 40) (by omega) (by omega)
    obtain ⟨w1, -, -⟩ := pasN_ok wA 40 (by omega)
    have F1 := Fm_row (Fm_refl 2 S1) (10 + 4 * k + 2) (zo 0)
    have H := hom_RM (RAw_Fm (RAw_Fm q3 F1) F2) hp ((Fm2_10 F2).trans ((Fm2_10 F1).trans q4))
    have HM := RM_Md H.1 h hp
    obtain ⟨S4, e4, R4, t4⟩ := ih (k + 1) f (hom S2) (by omega) (by omega) HM.1 HM.2 (RM_trans R H.1) (H.2.1.trans t)
    refine ⟨S4, ?_, R4, t4⟩
    have r14 := m172 (d := d + 8) M2 w1 (c := 0) (by omega) (by omega)
    rw [bstF_succ, show noS k = false from rfl, if_neg (by decide), pluV_eq] at e4
    rw [pluV_eq] at pb
    rw [show ((k + 1 : Nat) : Int) = (k : Int) + 1 from rfl] at e4
    rw [show ((40 : Nat) : Int) = 40 from rfl] at e2
    generalize cnt (pasN 40 (up a (10 + 4 * k + 2) 0)) 0 = V at *
    have ix : (10 + 4 * (k : Int) + 2).toNat = 10 + 4 * k + 2 := by omega
    have hq2 : (2 < 4) = True := eq_true (by omega)
    rw [ze_226_29]
    simp (maxSteps := 10000000) (disch := omega) only [h1, hq, r7, q1, p1, hq2, ix, e2, r14, m189, zo_add, zo_sub, zo_mul, zo_neg, zo_lt, zo_le, zo_eq, zo_nn, zin_ok, zlt_eq, zr0, zr1, zr3, zr4, zr0x, zr1x, zr3x, zr4x, zb_and, zb_0, zmin_o, zmax_o, zabs_o, zo_div, zo_mod, ↓reduceIte, Int.reduceToNat, Int.reduceNeg, Int.reduceAdd, Int.reduceMul, Int.reduceSub, Int.reduceEq, Int.reduceLT, Int.reduceLE, if_true, if_false, Nat.reduceAdd, Nat.reduceMul]
    rw [if_neg (show ¬ a 7 ≤ (k : Int) by omega)]
    by_cases c2 : (bstF (pluV a) noS L0 k).1 < V
    · rw [if_pos c2] at e4
      rw [if_neg (by omega)]; exact e4
    · rw [if_neg c2] at e4
      rw [if_pos (by omega)]; exact e4
theorem B226 (h : Md S 0 a) (hp : S.1 3 0 0 8 = zo 0) (hw : WF T a) (hT : T + 400 ≤ 1000000) : MA (d + 11) 226 [za 3 0 0] S 0 (bstF (pluV a) noS (cnt (pasN 40 a) 0) (a 7).toNat).2 := by
  have hb2 := zF1_big
  have u7 := hw.1.2.2.2.2.2.2.2
  have h0 := Md_mt h 0
  obtain ⟨S1, S2, q1, q2, M2, R2, t2⟩ := m190h (d := d + 1) h0 (mt_8 0 hp) hw (t := 40) (by omega) (by omega)
  obtain ⟨w1, -, -⟩ := pasN_ok hw 40 (by omega)
  have r14 := m172 (d := d + 8) M2 w1 (c := 0) (by omega) (by omega)
  have cb := cnt_b w1 0
  rw [show ((40 : Nat) : Int) = 40 from rfl] at q2
  generalize cnt (pasN 40 a) 0 = L0 at *
  have HM := RM_Md R2 h0 (mt_8 0 hp)
  obtain ⟨S3, e3, R3, t3⟩ := m226_l (S0 := mt S 0) (d := d) (L0 := L0) hw hT cb (a 7).toNat 0 zF1 (hom S2) (by omega) (by omega) HM.1 HM.2 R2 t2
  refine MA_r ?_ R3 t3
  rw [ze_226, mt_def, q1, zr0, q2, zr0, r14, zr1, m189, zr0]
  exact e3
end CQ

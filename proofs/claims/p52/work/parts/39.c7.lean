/-! THE PURE SIDE 7: the flow, the force, the growth: class -/
/-- the flow's two fields -/
def zfl (S : zS) (u v : UInt32) : zS := (fun k n o j => if k = 1 ∧ n = 0 ∧ o = 4 ∧ j = 1 then u.toInt32 else if k = 1 ∧ n = 0 ∧ o = 4 ∧ j = 2 then v.toInt32 else S.1 k n o j, S.2)
theorem zfl_mk (S : zS) (u v : UInt32) : zs_set (zs_set S 1 0 4 1 u.toInt32) 1 0 4 2 v.toInt32 = zfl S u v := by
  refine Prod.ext ?_ rfl
  funext k n o j
  show (if k = 1 ∧ n = 0 ∧ o = 4 ∧ j = 2 then v.toInt32 else if k = 1 ∧ n = 0 ∧ o = 4 ∧ j = 1 then u.toInt32 else S.1 k n o j) = (if k = 1 ∧ n = 0 ∧ o = 4 ∧ j = 1 then u.toInt32 else if k = 1 ∧ n = 0 ∧ o = 4 ∧ j = 2 then v.toInt32 else S.1 k n o j)
  by_cases c : k = 1 ∧ n = 0 ∧ o = 4 ∧ j = 1
  · rw [if_neg (by omega), if_pos c, if_pos c]
  · rw [if_neg c, if_neg c]
theorem zfl_zfl (S : zS) (u v u2 v2 : UInt32) : zfl (zfl S u v) u2 v2 = zfl S u2 v2 := by
  refine Prod.ext ?_ rfl
  funext k n o j
  show (if k = 1 ∧ n = 0 ∧ o = 4 ∧ j = 1 then u2.toInt32 else if k = 1 ∧ n = 0 ∧ o = 4 ∧ j = 2 then v2.toInt32 else if k = 1 ∧ n = 0 ∧ o = 4 ∧ j = 1 then u.toInt32 else if k = 1 ∧ n = 0 ∧ o = 4 ∧ j = 2 then v.toInt32 else S.1 k n o j) = (if k = 1 ∧ n = 0 ∧ o = 4 ∧ j = 1 then u2.toInt32 else if k = 1 ∧ n = 0 ∧ o = 4 ∧ j = 2 then v2.toInt32 else S.1 k n o j)
  by_cases c : k = 1 ∧ n = 0 ∧ o = 4 ∧ j = 1
  · simp only [if_pos c]
  · simp only [if_neg c]
    by_cases c2 : k = 1 ∧ n = 0 ∧ o = 4 ∧ j = 2
    · simp only [if_pos c2]
    · simp only [if_neg c2]
theorem zfl_1 (S : zS) (u v : UInt32) : ((zfl S u v).1 1 0 4 1).toUInt32 = u := rfl
theorem zfl_2 (S : zS) (u v : UInt32) : ((zfl S u v).1 1 0 4 2).toUInt32 = v := rfl
theorem zfl_2s (S : zS) (u v : UInt32) (x : Int32) : ((zs_set (zfl S u v) 1 0 4 1 x).1 1 0 4 2).toUInt32 = v := rfl
theorem zfl_00 (S : zS) (u v : UInt32) (n o j : Nat) : (zfl S u v).1 0 n o j = S.1 0 n o j := rfl
section CB
variable {S : zS} {n d : Nat} {a : Rw} {T : Int}
theorem c37 {dx dy r : Int} {u v : UInt32} (g1 : -9 ≤ dx) (g2 : dx ≤ 9) (g3 : -9 ≤ dy) (g4 : dy ≤ 9) (hu : fgd u) (hv : fgd v) : zr_sem zF (d + 1) 37 [za 1 0 4, zi (zo dx), zi (zo dy), zi (zo r)] (zfl S u v) = some (.inl none, if dx = 0 ∧ dy = 0 then zfl S u v else zfl S (FP.fadd u (shq dx dy r dx)) (FP.fadd v (shq dx dy r dy))) := by
  rw [ze_37]
  have s1 := sq_b g1 g2
  have s2 := sq_b g3 g4
  have i1 := iab_b dx
  have i2 := iab_b dy
  by_cases z : dx = 0 ∧ dy = 0
  · rw [if_pos z]
    obtain ⟨z1, z2⟩ := z
    subst z1; subst z2
    rfl
  · rw [if_neg z]
    have n := sh_nz (dx := dx) (dy := dy) g1 g2 g3 g4 z
    have fx := shq_fin (r := r) (v := dx) n.1 n.2
    have fy := shq_fin (r := r) (v := dy) n.1 n.2
    have e1 : FP.fIsNaN _ = false := fx.1.notNaN
    have e2 : FP.fIsNaN _ = false := fx.2.1.notNaN
    have e3 : FP.fIsNaN _ = false := fx.2.2.notNaN
    have e4 : FP.fIsNaN _ = false := fy.2.1.notNaN
    have e5 : FP.fIsNaN _ = false := fy.2.2.notNaN
    have e6 := fgd_nan (fgd_add hu fx.2.2)
    have e7 := fgd_nan (fgd_add hv fy.2.2)
    have n1 := n.1
    unfold shq at e3 e5 e6 e7
    simp (maxSteps := 10000000) (disch := omega) only [zfl_1, zfl_2s, zo_add, zo_mul, zabs_o, e1, e2, e3, e4, e5, e6, e7, n1, Bool.false_eq_true, if_false]
    rw [zfl_mk, zfl_zfl]
    rfl
theorem c36_t (h : Cb (S.1 0 n) a) (hw : WF T a) {c : Int} (g1 : 0 ≤ c) (g2 : c < a 0 * a 1) : ∀ (m k f : Nat), k + m = (a 8).toNat → m < f → zy zF (d + 1) 36 f 78 [some (za 1 0 4), some (za 0 n 0), some (zi (zo (c % a 0))), some (zi (zo (c / a 0))), some (zi (zo k))] (zfl S (flT a c 0 k) (flT a c 1 k)) = some (.inl none, zfl S (fl a c 0) (fl a c 1)) := by
  have hwO := hw; obtain ⟨⟨⟨u0, u0x⟩, ⟨u1, u1x⟩, ⟨u2, u2x⟩, ⟨u3, u3x⟩, ⟨u4, u4x⟩, ⟨u5, u5x⟩, ⟨u6, u6x, uT⟩, ⟨u7, u7x⟩, ⟨u8, u8x⟩, ⟨u9, u9x⟩⟩, uD, uP, uB, uS, uI⟩ := hwO
  have n15 := h.2.1.2.2.2.2.2.2.2.2.2
  have gc := col_rng hw g1 g2
  intro m
  induction m with
  | zero =>
    intro k f hk hn
    obtain ⟨f, rfl⟩ : ∃ n', f = n' + 1 := ⟨f - 1, by omega⟩
    rw [ze_36_78]
    simp (maxSteps := 10000000) (disch := omega) only [zfl_00, n15, zo_add, zo_sub, zo_mul, zo_neg, zo_lt, zo_le, zo_eq, zo_nn, zin_ok, zlt_eq, zr0, zr1, zr3, zr4, zr0x, zr1x, zr3x, zr4x, zb_and, zb_0, zmin_o, zmax_o, zabs_o, zo_div, zo_mod, ↓reduceIte, Int.reduceToNat, Int.reduceNeg, Int.reduceAdd, Int.reduceMul, Int.reduceSub, Nat.reduceAdd, Nat.reduceMul]
    rw [if_pos (by omega), show k = (a 8).toNat by omega]; rfl
  | succ m ih =>
    intro k f hk hn
    obtain ⟨f, rfl⟩ : ∃ n', f = n' + 1 := ⟨f - 1, by omega⟩
    have gD := uP k (by omega)
    have gs := col_rng hw gD.1.1 gD.1.2
    have i := ih (k + 1) f (by omega) (by omega)
    rw [show ((k + 1 : Nat) : Int) = (k : Int) + 1 from rfl] at i
    have tx := flT_gd hw g1 g2 0 k (by omega)
    have ty := flT_gd hw g1 g2 1 k (by omega)
    have hz : Cb ((zfl S (flT a c 0 k) (flT a c 1 k)).1 0 n) a := h
    rw [ze_36_78]
    simp (maxSteps := 10000000) (disch := omega) only [zfl_00, n15, c67t_0 hz hw (b := k) (by omega), c67t_1 hz hw (b := k) (by omega), c67t_2 hz hw (b := k) (by omega), c37 (S := S) (hu := tx) (hv := ty), zo_add, zo_sub, zo_mul, zo_neg, zo_lt, zo_le, zo_eq, zo_nn, zin_ok, zlt_eq, zr0, zr1, zr3, zr4, zr0x, zr1x, zr3x, zr4x, zb_and, zb_0, zmin_o, zmax_o, zabs_o, zo_div, zo_mod, ↓reduceIte, Int.reduceToNat, Int.reduceNeg, Int.reduceAdd, Int.reduceMul, Int.reduceSub, Nat.reduceAdd, Nat.reduceMul]
    rw [if_neg (by omega)]
    unfold flT shM at i
    by_cases z : a (30 + 2 * k) % a 0 - c % a 0 = 0 ∧ a (30 + 2 * k) / a 0 - c / a 0 = 0
    · rw [if_pos z]
      have z0 : FP.Core.FZero FP.fconst0 := ⟨false, FP.Core.b32.qmin, FP.Core.val32_fconst0⟩
      rw [if_pos z, if_pos z, fsub_z tx z0, fsub_z ty z0] at i
      exact i
    · rw [if_neg z]
      have nz := sh_nz (by omega) (by omega) (by omega) (by omega) z
      rw [shq_sub nz.1 nz.2 (by omega) (by omega) tx, shq_sub nz.1 nz.2 (by omega) (by omega) ty]
      rw [if_neg z, if_neg z] at i
      exact i
theorem c36_d (h : Cb (S.1 0 n) a) (hw : WF T a) {c : Int} (g1 : 0 ≤ c) (g2 : c < a 0 * a 1) : ∀ (m k f : Nat), k + m = (a 7).toNat → m + 10 < f → zy zF (d + 2) 36 f 13 [some (za 1 0 4), some (za 0 n 0), some (zi (zo (c % a 0))), some (zi (zo (c / a 0))), some (zi (zo k))] (zfl S (flD a c 0 k) (flD a c 1 k)) = some (.inl none, zfl S (fl a c 0) (fl a c 1)) := by
  have hwO := hw; obtain ⟨⟨⟨u0, u0x⟩, ⟨u1, u1x⟩, ⟨u2, u2x⟩, ⟨u3, u3x⟩, ⟨u4, u4x⟩, ⟨u5, u5x⟩, ⟨u6, u6x, uT⟩, ⟨u7, u7x⟩, ⟨u8, u8x⟩, ⟨u9, u9x⟩⟩, uD, uP, uB, uS, uI⟩ := hwO
  have n14 := h.2.1.2.2.2.2.2.2.2.2.1
  have gc := col_rng hw g1 g2
  intro m
  induction m with
  | zero =>
    intro k f hk hn
    obtain ⟨f, rfl⟩ : ∃ n', f = n' + 1 := ⟨f - 1, by omega⟩
    rw [ze_36_13]
    simp (maxSteps := 10000000) (disch := omega) only [zfl_00, n14, zo_add, zo_sub, zo_mul, zo_neg, zo_lt, zo_le, zo_eq, zo_nn, zin_ok, zlt_eq, zr0, zr1, zr3, zr4, zr0x, zr1x, zr3x, zr4x, zb_and, zb_0, zmin_o, zmax_o, zabs_o, zo_div, zo_mod, ↓reduceIte, Int.reduceToNat, Int.reduceNeg, Int.reduceAdd, Int.reduceMul, Int.reduceSub, Nat.reduceAdd, Nat.reduceMul]
    rw [if_pos (by omega), show k = (a 7).toNat by omega]
    exact c36_t (d := d + 1) h hw g1 g2 (a 8).toNat 0 f (by omega) (by omega)
  | succ m ih =>
    intro k f hk hn
    obtain ⟨f, rfl⟩ : ∃ n', f = n' + 1 := ⟨f - 1, by omega⟩
    have gD := uD k (by omega)
    have gs := col_rng hw gD.1.1 gD.1.2
    have i := ih (k + 1) f (by omega) (by omega)
    rw [show ((k + 1 : Nat) : Int) = (k : Int) + 1 from rfl] at i
    have tx := flD_gd hw g1 g2 0 k (by omega)
    have ty := flD_gd hw g1 g2 1 k (by omega)
    have hz : Cb ((zfl S (flD a c 0 k) (flD a c 1 k)).1 0 n) a := h
    rw [ze_36_13]
    simp (maxSteps := 10000000) (disch := omega) only [zfl_00, n14, c10 hz hw (k := k) (by omega), c67d_0 hz hw (b := k) (by omega), c67d_1 hz hw (b := k) (by omega), c67d_3 hz hw (b := k) (by omega), c37 (S := S) (hu := tx) (hv := ty), zo_add, zo_sub, zo_mul, zo_neg, zo_lt, zo_le, zo_eq, zo_nn, zin_ok, zlt_eq, zr0, zr1, zr3, zr4, zr0x, zr1x, zr3x, zr4x, zb_and, zb_0, zmin_o, zmax_o, zabs_o, zo_div, zo_mod, ↓reduceIte, Int.reduceToNat, Int.reduceNeg, Int.reduceAdd, Int.reduceMul, Int.reduceSub, Nat.reduceAdd, Nat.reduceMul]
    rw [if_neg (by omega)]
    unfold flD shM at i
    cases hwk : wks a k with
    | false =>
      rw [hwk] at i
      exact i
    | true =>
      rw [hwk] at i
      rw [if_pos rfl, if_pos rfl] at i
      rw [if_neg (by decide)]
      by_cases z : a (10 + 4 * k) % a 0 - c % a 0 = 0 ∧ a (10 + 4 * k) / a 0 - c / a 0 = 0
      · rw [if_pos z]
        have z0 : FP.Core.FZero FP.fconst0 := ⟨false, FP.Core.b32.qmin, FP.Core.val32_fconst0⟩
        rw [if_pos z, if_pos z, fadd_z tx z0, fadd_z ty z0] at i
        exact i
      · rw [if_neg z]
        rw [if_neg z, if_neg z] at i
        exact i
theorem c36 (h : Cb (S.1 0 n) a) (hw : WF T a) {c : Int} (g1 : 0 ≤ c) (g2 : c < a 0 * a 1) : zr_sem zF (d + 3) 36 [za 1 0 4, za 0 n 0, zi (zo (c % a 0)), zi (zo (c / a 0))] S = some (.inl none, zfl S (fl a c 0) (fl a c 1)) := by
  rw [ze_36, zfl_mk]
  have hb := zF1_big
  have u7 := hw.1.2.2.2.2.2.2.2.1
  exact c36_d h hw g1 g2 (a 7).toNat 0 _ (by omega) (by omega)
theorem c49x (h : Cb (S.1 0 n) a) (hw : WF T a) {b : Nat} (hb : (b : Int) < a 9) (hl : a 2 ≠ 0) {v : UInt32} : zr_sem zF (d + 2) 49 [za 1 0 3, za 0 n 0, zi (zo b), zi (zo 0)] (zfl S (fl a (a (40 + 10 * b)) 0) v) = some (.inl (some (zi (gro a b 0))), zfl S (fl a (a (40 + 10 * b)) 0) v) := by
  rw [ze_49x]
  have hwO := hw; obtain ⟨⟨⟨u0, u0x⟩, ⟨u1, u1x⟩, ⟨u2, u2x⟩, ⟨u3, u3x⟩, ⟨u4, u4x⟩, ⟨u5, u5x⟩, ⟨u6, u6x, uT⟩, ⟨u7, u7x⟩, ⟨u8, u8x⟩, ⟨u9, u9x⟩⟩, uD, uP, uB, uS, uI⟩ := hwO
  have uN := WF_nc hw
  have gB := uB b hb
  have g := col_rng hw gB.1.1 gB.1.2
  have fx := fl_gd hw gB.1.1 gB.1.2 0
  have e := gro_nan (a := a) fx (l := a 2) (m := 10 * a (40 + 10 * b + 1)) (zo_nz (by omega) (by omega) hl) (zo_nz (by omega) (by omega) (by omega))
  have hz : Cb ((zfl S (fl a (a (40 + 10 * b)) 0) v).1 0 n) a := h
  have n8 := h.2.1.2.2.1
  have n9 := h.2.1.2.2.2.1
  have n10 := h.2.1.2.2.2.2.1
  simp (maxSteps := 10000000) (disch := omega) only [zfl_00, zfl_1, n8, n9, n10, c67b_2 hz hw hb, c67b_0 hz hw hb, c67b_1 hz hw hb, c3 hz hw, c63s hz hw (cAt_rng _ _ _), spC_cAt, e.1, e.2, Bool.false_eq_true, zo_tdiv, zo_add, zo_sub, zo_mul, zo_neg, zo_lt, zo_le, zo_eq, zo_nn, zin_ok, zlt_eq, zr0, zr1, zr3, zr4, zr0x, zr1x, zr3x, zr4x, zb_and, zb_0, zmin_o, zmax_o, zabs_o, zo_div, zo_mod, ↓reduceIte, Int.reduceToNat, Int.reduceNeg, Int.reduceAdd, Int.reduceMul, Int.reduceSub, Nat.reduceAdd, Nat.reduceMul]
  rw [if_pos (by omega), if_neg (by omega)]
  unfold gro groF
  simp
theorem c49y (h : Cb (S.1 0 n) a) (hw : WF T a) {b : Nat} (hb : (b : Int) < a 9) (hl : a 2 ≠ 0) {v : UInt32} : zr_sem zF (d + 2) 49 [za 1 0 3, za 0 n 0, zi (zo b), zi (zo 1)] (zfl S v (fl a (a (40 + 10 * b)) 1)) = some (.inl (some (zi (gro a b 1))), zfl S v (fl a (a (40 + 10 * b)) 1)) := by
  rw [ze_49y]
  have hwO := hw; obtain ⟨⟨⟨u0, u0x⟩, ⟨u1, u1x⟩, ⟨u2, u2x⟩, ⟨u3, u3x⟩, ⟨u4, u4x⟩, ⟨u5, u5x⟩, ⟨u6, u6x, uT⟩, ⟨u7, u7x⟩, ⟨u8, u8x⟩, ⟨u9, u9x⟩⟩, uD, uP, uB, uS, uI⟩ := hwO
  have uN := WF_nc hw
  have gB := uB b hb
  have g := col_rng hw gB.1.1 gB.1.2
  have fx := fl_gd hw gB.1.1 gB.1.2 1
  have e := gro_nan (a := a) fx (l := a 2) (m := 10 * a (40 + 10 * b + 1)) (zo_nz (by omega) (by omega) hl) (zo_nz (by omega) (by omega) (by omega))
  have hz : Cb ((zfl S v (fl a (a (40 + 10 * b)) 1)).1 0 n) a := h
  have n8 := h.2.1.2.2.1
  have n9 := h.2.1.2.2.2.1
  have n11 := h.2.1.2.2.2.2.2.1
  simp (maxSteps := 10000000) (disch := omega) only [zfl_00, zfl_2, n8, n9, n11, c67b_2 hz hw hb, c67b_0 hz hw hb, c67b_1 hz hw hb, c3 hz hw, c63s hz hw (cAt_rng _ _ _), spC_cAt, e.1, e.2, Bool.false_eq_true, zo_tdiv, zo_add, zo_sub, zo_mul, zo_neg, zo_lt, zo_le, zo_eq, zo_nn, zin_ok, zlt_eq, zr0, zr1, zr3, zr4, zr0x, zr1x, zr3x, zr4x, zb_and, zb_0, zmin_o, zmax_o, zabs_o, zo_div, zo_mod, ↓reduceIte, Int.reduceToNat, Int.reduceNeg, Int.reduceAdd, Int.reduceMul, Int.reduceSub, Nat.reduceAdd, Nat.reduceMul]
  rw [if_pos (by omega), if_neg (by omega)]
  unfold gro groF
  simp
end CB

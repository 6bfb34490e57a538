/-! THE PURE SIDE 23: more questions -/
def wetS (a : Rw) (k : Nat) : Int := zsum (fun k => if a (40 + 10 * k + 6) = 0 then a (40 + 10 * k + 3) else 0) k
def strS (a : Rw) (k : Nat) : Int := zsum (fun k => if a (40 + 10 * k + 6) = 0 then a (40 + 10 * k + 2) else 0) k
def sofD (a : Rw) : UInt64 := if strS a (a 9).toNat = 0 then FP.dconst0 else FP.ddiv (FP.i2d (zo (wetS a (a 9).toNat))) (FP.i2d (zo (strS a (a 9).toNat)))
def ashF (a : Rw) : UInt32 := if a 9 = 0 then FP.fconst0 else FP.fdiv (FP.i2f (zo (cnt a 0))) (FP.i2f (zo (a 9)))
/-- what formatting may change -/
def FzC (S S' : zS) : Prop := S'.2 = S.2 ∧ ∀ k n o j, ¬(k = 1 ∧ n = 0 ∧ (o = 20 ∨ (o = 0 ∧ j = 10))) → S'.1 k n o j = S.1 k n o j
def FzM (S S' : zS) : Prop := S'.2 = S.2 ∧ ∀ k n o j, ¬(k = 3 ∧ n = 0 ∧ (o = 5 ∨ (o = 0 ∧ (j = 10 ∨ j = 13)))) → S'.1 k n o j = S.1 k n o j
section CO
variable {S : zS} {n d : Nat} {a : Rw} {T p r : Int}
theorem c106_l (h : Cb (S.1 0 0) a) (hw : WF T a) : ∀ (m k f : Nat), k + m = (a 9).toNat → m < f → zy zF (d + 2) 106 f 4 [some (za 1 0 0), some (zi (zo (sftF a k))), some (zi (zo k))] S = some (.inl (some (zi (zo (sftF a (a 9).toNat)))), S) := by
  have hC := h; obtain ⟨⟨f1, f2, f3, f4, f5, f6⟩, ⟨n6, n7, n8, n9, n10, n11, n12, n13, n14, n15⟩, hD, hT, hB, hS, hOc, hE⟩ := hC
  have hwO := hw; obtain ⟨⟨⟨u0, u0x⟩, ⟨u1, u1x⟩, ⟨u2, u2x⟩, ⟨u3, u3x⟩, ⟨u4, u4x⟩, ⟨u5, u5x⟩, ⟨u6, u6x, uT⟩, ⟨u7, u7x⟩, ⟨u8, u8x⟩, ⟨u9, u9x⟩⟩, uD, uP, uB, uS, uI⟩ := hwO
  intro m
  induction m with
  | zero =>
    intro k f hk hf
    obtain ⟨f, rfl⟩ : ∃ f', f = f' + 1 := ⟨f - 1, by omega⟩
    rw [ze_106_4]
    simp (maxSteps := 10000000) (disch := omega) only [n13, zo_add, zo_sub, zo_mul, zo_neg, zo_lt, zo_le, zo_eq, zo_nn, zin_ok, zlt_eq, zr0, zr1, zr3, zr4, zr0x, zr1x, zr3x, zr4x, zb_and, zb_0, zmin_o, zmax_o, zabs_o, zo_div, zo_mod, ↓reduceIte, Int.reduceToNat, Int.reduceNeg, Int.reduceAdd, Int.reduceMul, Int.reduceSub, Int.reduceEq, Int.reduceLT, Int.reduceLE, if_true, if_false, Nat.reduceAdd, Nat.reduceMul]
    rw [if_pos (by omega), show k = (a 9).toNat by omega]
  | succ m ih =>
    intro k f hk hf
    obtain ⟨f, rfl⟩ : ∃ f', f = f' + 1 := ⟨f - 1, by omega⟩
    have gB := uB k (by omega)
    have i := ih (k + 1) f (by omega) (by omega)
    rw [show ((k + 1 : Nat) : Int) = (k : Int) + 1 from rfl] at i
    have rg := sftF_ge a k
    rw [show sftF a (k + 1) = if a (40 + 10 * k + 6) = 0 ∧ (sftF a k = -1 ∨ rsv a k < rsv a (sftF a k)) then (k : Int) else sftF a k from rfl] at i
    rw [ze_106_4]
    simp (maxSteps := 10000000) (disch := omega) only [n13, c7 h hw (b := k) (by omega), zo_add, zo_sub, zo_mul, zo_neg, zo_lt, zo_le, zo_eq, zo_nn, zin_ok, zlt_eq, zr0, zr1, zr3, zr4, zr0x, zr1x, zr3x, zr4x, zb_and, zb_0, zmin_o, zmax_o, zabs_o, zo_div, zo_mod, ↓reduceIte, Int.reduceToNat, Int.reduceNeg, Int.reduceAdd, Int.reduceMul, Int.reduceSub, Int.reduceEq, Int.reduceLT, Int.reduceLE, if_true, if_false, Nat.reduceAdd, Nat.reduceMul]
    rw [if_neg (by omega)]
    by_cases c : a (40 + 10 * k + 6) = 0
    · rw [if_neg (by simp [c])]
      by_cases c1 : sftF a k = -1
      · rw [if_pos ⟨c, Or.inl c1⟩] at i
        rw [if_pos c1]
        exact i
      · rw [if_neg c1]
        obtain ⟨b, hb⟩ : ∃ b : Nat, sftF a k = b := ⟨(sftF a k).toNat, by omega⟩
        rw [hb] at i rg ⊢
        have gb := uB b (by omega)
        rw [c9 h hw (b := k) (by omega), zr1, c9 h hw (b := b) (by omega), zr1, show rsv a (k : Int) = a (40 + 10 * k + 2) - a (40 + 10 * k + 3) by unfold rsv; rw [Int.toNat_natCast]] at *
        rw [show rsv a (b : Int) = a (40 + 10 * b + 2) - a (40 + 10 * b + 3) by unfold rsv; rw [Int.toNat_natCast]] at i
        simp (maxSteps := 10000000) (disch := omega) only [zo_add, zo_sub, zo_mul, zo_neg, zo_lt, zo_le, zo_eq, zo_nn, zin_ok, zlt_eq, zr0, zr1, zr3, zr4, zr0x, zr1x, zr3x, zr4x, zb_and, zb_0, zmin_o, zmax_o, zabs_o, zo_div, zo_mod, ↓reduceIte, Int.reduceToNat, Int.reduceNeg, Int.reduceAdd, Int.reduceMul, Int.reduceSub, Int.reduceEq, Int.reduceLT, Int.reduceLE, if_true, if_false, Nat.reduceAdd, Nat.reduceMul]
        by_cases c2 : a (40 + 10 * k + 2) - a (40 + 10 * k + 3) < a (40 + 10 * b + 2) - a (40 + 10 * b + 3)
        · rw [if_pos ⟨c, Or.inr c2⟩] at i
          rw [if_neg (by omega)]
          exact i
        · rw [if_neg (fun z => by omega)] at i
          rw [if_pos (by omega)]
          exact i
    · rw [if_neg (fun z => c z.1)] at i
      rw [if_pos (by simp [c])]
      exact i
theorem A106 (h : Cb (S.1 0 0) a) (hw : WF T a) : CA (d + 3) 106 [za 1 0 0] S 0 (sftF a (a 9).toNat) := by
  have hb := zF1_big
  have u9 := hw.1.2.2.2.2.2.2.2.2.2
  refine CA_v ?_
  rw [ze_106]
  exact c106_l (d := d) h hw (a 9).toNat 0 zF1 (by omega) (by omega)
theorem m210_l (h : Md S 0 a) (hw : WF T a) : ∀ (k m f : Nat), k + m = (a 9).toNat → k < f → zy zF (d + 3) 210 f 17 [some (za 3 0 0), some (zi (zo (sftG a m k))), some (zi (zo ((k : Int) - 1)))] S = some (.inl (some (zi (zo (sftG a (a 9).toNat 0)))), S) := by
  have hwO := hw; obtain ⟨⟨⟨u0, u0x⟩, ⟨u1, u1x⟩, ⟨u2, u2x⟩, ⟨u3, u3x⟩, ⟨u4, u4x⟩, ⟨u5, u5x⟩, ⟨u6, u6x, uT⟩, ⟨u7, u7x⟩, ⟨u8, u8x⟩, ⟨u9, u9x⟩⟩, uD, uP, uB, uS, uI⟩ := hwO
  intro k
  induction k with
  | zero =>
    intro m f hk hf
    obtain ⟨f, rfl⟩ : ∃ f', f = f' + 1 := ⟨f - 1, by omega⟩
    rw [ze_210_17]
    simp (maxSteps := 10000000) (disch := omega) only [zo_add, zo_sub, zo_mul, zo_neg, zo_lt, zo_le, zo_eq, zo_nn, zin_ok, zlt_eq, zr0, zr1, zr3, zr4, zr0x, zr1x, zr3x, zr4x, zb_and, zb_0, zmin_o, zmax_o, zabs_o, zo_div, zo_mod, ↓reduceIte, Int.reduceToNat, Int.reduceNeg, Int.reduceAdd, Int.reduceMul, Int.reduceSub, Int.reduceEq, Int.reduceLT, Int.reduceLE, if_true, if_false, Nat.reduceAdd, Nat.reduceMul]
    rw [if_pos (by omega), show m = (a 9).toNat by omega]
  | succ k ih =>
    intro m f hk hf
    obtain ⟨f, rfl⟩ : ∃ f', f = f' + 1 := ⟨f - 1, by omega⟩
    have gB := uB k (by omega)
    have i := ih (m + 1) f (by omega) (by omega)
    have rg := sftG_ge a m (k + 1)
    rw [show sftG a (m + 1) k = if a (40 + 10 * k + 6) = 0 ∧ (sftG a m (k + 1) = -1 ∨ rsv a k ≤ rsv a (sftG a m (k + 1))) then (k : Int) else sftG a m (k + 1) from rfl] at i
    rw [show ((k + 1 : Nat) : Int) - 1 = k by omega, ze_210_17]
    simp (maxSteps := 10000000) (disch := omega) only [m164 h hw (b := k) (by omega), zo_add, zo_sub, zo_mul, zo_neg, zo_lt, zo_le, zo_eq, zo_nn, zin_ok, zlt_eq, zr0, zr1, zr3, zr4, zr0x, zr1x, zr3x, zr4x, zb_and, zb_0, zmin_o, zmax_o, zabs_o, zo_div, zo_mod, ↓reduceIte, Int.reduceToNat, Int.reduceNeg, Int.reduceAdd, Int.reduceMul, Int.reduceSub, Int.reduceEq, Int.reduceLT, Int.reduceLE, if_true, if_false, Nat.reduceAdd, Nat.reduceMul]
    rw [if_neg (by omega)]
    rw [show (k : Int) - 1 = (k : Int) + -1 by omega] at i
    by_cases c : a (40 + 10 * k + 6) = 0
    · rw [if_neg (by simp [c])]
      by_cases c1 : sftG a m (k + 1) = -1
      · rw [if_pos ⟨c, Or.inl c1⟩] at i
        rw [if_pos c1]
        exact i
      · rw [if_neg c1]
        obtain ⟨b, hb⟩ : ∃ b : Nat, sftG a m (k + 1) = b := ⟨(sftG a m (k + 1)).toNat, by omega⟩
        rw [hb] at i rg ⊢
        have gb := uB b (by omega)
        rw [show rsv a (b : Int) = a (40 + 10 * b + 2) - a (40 + 10 * b + 3) by unfold rsv; rw [Int.toNat_natCast], show rsv a (k : Int) = a (40 + 10 * k + 2) - a (40 + 10 * k + 3) by unfold rsv; rw [Int.toNat_natCast]] at i
        rw [m209 h (b := k) (by omega), zr1, m209 h (b := b) (by omega), zr1]
        simp (maxSteps := 10000000) (disch := omega) only [zo_add, zo_sub, zo_mul, zo_neg, zo_lt, zo_le, zo_eq, zo_nn, zin_ok, zlt_eq, zr0, zr1, zr3, zr4, zr0x, zr1x, zr3x, zr4x, zb_and, zb_0, zmin_o, zmax_o, zabs_o, zo_div, zo_mod, ↓reduceIte, Int.reduceToNat, Int.reduceNeg, Int.reduceAdd, Int.reduceMul, Int.reduceSub, Int.reduceEq, Int.reduceLT, Int.reduceLE, if_true, if_false, Nat.reduceAdd, Nat.reduceMul]
        by_cases c2 : a (40 + 10 * k + 2) - a (40 + 10 * k + 3) ≤ a (40 + 10 * b + 2) - a (40 + 10 * b + 3)
        · rw [if_pos ⟨c, Or.inr c2⟩] at i
          rw [if_neg (by omega)]
          exact i
        · rw [if_neg (fun z => by omega)] at i
          rw [if_pos (by omega)]
          exact i
    · rw [if_neg (fun z => c z.1)] at i
      rw [if_pos (by simp [c])]
      exact i
theorem B210 (h : Md S 0 a) (hw : WF T a) : MA (d + 4) 210 [za 3 0 0] S 0 (sftF a (a 9).toNat) := by
  have hb := zF1_big
  have u9 := hw.1.2.2.2.2.2.2.2.2.2
  have h0 := Md_mt h 0
  have l := m210_l (d := d) h0 hw (a 9).toNat 0 zF1 (by omega) (by omega)
  rw [show sftG a 0 (a 9).toNat = -1 from rfl, sft_eq, show (((a 9).toNat : Nat) : Int) = a 9 by omega] at l
  obtain ⟨h1, hq, h2⟩ := h0
  refine MA_v ?_
  rw [ze_210, mt_def]
  simp (maxSteps := 10000000) (disch := omega) only [h1, hq, h2, zo_add, zo_sub, zo_mul, zo_neg, zo_lt, zo_le, zo_eq, zo_nn, zin_ok, zlt_eq, zr0, zr1, zr3, zr4, zr0x, zr1x, zr3x, zr4x, zb_and, zb_0, zmin_o, zmax_o, zabs_o, zo_div, zo_mod, ↓reduceIte, Int.reduceToNat, Int.reduceNeg, Int.reduceAdd, Int.reduceMul, Int.reduceSub, Int.reduceEq, Int.reduceLT, Int.reduceLE, if_true, if_false, Nat.reduceAdd, Nat.reduceMul]
  exact l
theorem wetS_b (hw : WF T a) : ∀ k : Nat, (k : Int) ≤ a 9 → (0 ≤ wetS a k ∧ wetS a k ≤ 1100 * k) ∧ (0 ≤ strS a k ∧ strS a k ≤ 999 * k) := by
  intro k hk
  refine ⟨⟨zsum_ge _ _ (fun i hi => ?_), zsum_le _ 1100 _ (fun i hi => ?_)⟩, zsum_ge _ _ (fun i hi => ?_), zsum_le _ 999 _ (fun i hi => ?_)⟩ <;>
  · have := hw.2.2.2.1 i (by omega)
    split <;> omega
theorem i2d_nz {v : Int32} (h : v ≠ zo 0) : ¬ FP.Core.DZero (FP.i2d v) := by
  rw [FP.Core.zero_bits2]
  exact FP.Core.i2d_ne_zero (v := v) h
theorem c108_l (h : Cb (S.1 0 0) a) (hw : WF T a) : ∀ (m k f : Nat), k + m = (a 9).toNat → m < f → zy zF (d + 2) 108 f 6 [some (za 1 0 0), some (zi (zo (wetS a k))), some (zi (zo (strS a k))), some (zi (zo k))] S = some (.inl (some (zd (sofD a))), S) := by
  have hC := h; obtain ⟨⟨f1, f2, f3, f4, f5, f6⟩, ⟨n6, n7, n8, n9, n10, n11, n12, n13, n14, n15⟩, hD, hT, hB, hS, hOc, hE⟩ := hC
  have hwO := hw; obtain ⟨⟨⟨u0, u0x⟩, ⟨u1, u1x⟩, ⟨u2, u2x⟩, ⟨u3, u3x⟩, ⟨u4, u4x⟩, ⟨u5, u5x⟩, ⟨u6, u6x, uT⟩, ⟨u7, u7x⟩, ⟨u8, u8x⟩, ⟨u9, u9x⟩⟩, uD, uP, uB, uS, uI⟩ := hwO
  intro m
  induction m with
  | zero =>
    intro k f hk hf
    obtain ⟨f, rfl⟩ : ∃ f', f = f' + 1 := ⟨f - 1, by omega⟩
    have bb := wetS_b hw k (by omega)
    rw [ze_108_6]
    simp (maxSteps := 10000000) (disch := omega) only [n13, zo_add, zo_sub, zo_mul, zo_neg, zo_lt, zo_le, zo_eq, zo_nn, zin_ok, zlt_eq, zr0, zr1, zr3, zr4, zr0x, zr1x, zr3x, zr4x, zb_and, zb_0, zmin_o, zmax_o, zabs_o, zo_div, zo_mod, ↓reduceIte, Int.reduceToNat, Int.reduceNeg, Int.reduceAdd, Int.reduceMul, Int.reduceSub, Int.reduceEq, Int.reduceLT, Int.reduceLE, if_true, if_false, Nat.reduceAdd, Nat.reduceMul]
    rw [if_pos (by omega)]
    unfold sofD
    rw [show k = (a 9).toNat by omega] at bb ⊢
    by_cases c : strS a (a 9).toNat = 0
    · rw [if_pos c, if_pos c]
    · have e : FP.dIsNaN (FP.ddiv (FP.i2d (zo (wetS a (a 9).toNat))) (FP.i2d (zo (strS a (a 9).toNat)))) = false := FP.Core.ddiv_out (FP.Core.i2d_fin _).notNaN (FP.Core.i2d_fin _) (i2d_nz (zo_nz (by omega) (by omega) c))
      rw [if_neg c, if_neg c, e, if_neg (by decide)]
  | succ m ih =>
    intro k f hk hf
    obtain ⟨f, rfl⟩ : ∃ f', f = f' + 1 := ⟨f - 1, by omega⟩
    have gB := uB k (by omega)
    have i := ih (k + 1) f (by omega) (by omega)
    rw [show ((k + 1 : Nat) : Int) = (k : Int) + 1 from rfl] at i
    rw [show wetS a (k + 1) = wetS a k + (if a (40 + 10 * k + 6) = 0 then a (40 + 10 * k + 3) else 0) from rfl, show strS a (k + 1) = strS a k + (if a (40 + 10 * k + 6) = 0 then a (40 + 10 * k + 2) else 0) from rfl] at i
    rw [ze_108_6]
    simp (maxSteps := 10000000) (disch := omega) only [n13, c7 h hw (b := k) (by omega), c67b_4 h hw (b := k) (by omega), c67b_3 h hw (b := k) (by omega), zo_add, zo_sub, zo_mul, zo_neg, zo_lt, zo_le, zo_eq, zo_nn, zin_ok, zlt_eq, zr0, zr1, zr3, zr4, zr0x, zr1x, zr3x, zr4x, zb_and, zb_0, zmin_o, zmax_o, zabs_o, zo_div, zo_mod, ↓reduceIte, Int.reduceToNat, Int.reduceNeg, Int.reduceAdd, Int.reduceMul, Int.reduceSub, Int.reduceEq, Int.reduceLT, Int.reduceLE, if_true, if_false, Nat.reduceAdd, Nat.reduceMul]
    rw [if_neg (by omega)]
    by_cases c : a (40 + 10 * k + 6) = 0
    · rw [if_pos c, if_pos c] at i
      rw [if_neg (by simp [c])]
      exact i
    · rw [if_neg c, if_neg c, Int.add_zero, Int.add_zero] at i
      rw [if_pos (by simp [c])]
      exact i
theorem A108 (h : Cb (S.1 0 0) a) (hw : WF T a) : zr_sem zF (d + 3) 108 [za 1 0 0] S = some (.inl (some (zd (sofD a))), S) := by
  have hb := zF1_big
  have u9 := hw.1.2.2.2.2.2.2.2.2.2
  rw [ze_108]
  exact c108_l (d := d) h hw (a 9).toNat 0 zF1 (by omega) (by omega)
theorem m227_l (h : Md S 0 a) (hw : WF T a) : ∀ (m k f : Nat), k + m = (a 9).toNat → m < f → zy zF (d + 2) 227 f 11 [some (za 3 0 0), some (zi (zo (wetS a k))), some (zi (zo (strS a k))), some (zi (zo k))] S = some (.inl (some (zd (sofD a))), S) := by
  have hh := h
  have hO := h; obtain ⟨h1, hq, h2⟩ := hO
  have hwO := hw; obtain ⟨⟨⟨u0, u0x⟩, ⟨u1, u1x⟩, ⟨u2, u2x⟩, ⟨u3, u3x⟩, ⟨u4, u4x⟩, ⟨u5, u5x⟩, ⟨u6, u6x, uT⟩, ⟨u7, u7x⟩, ⟨u8, u8x⟩, ⟨u9, u9x⟩⟩, uD, uP, uB, uS, uI⟩ := hwO
  intro m
  induction m with
  | zero =>
    intro k f hk hf
    obtain ⟨f, rfl⟩ : ∃ f', f = f' + 1 := ⟨f - 1, by omega⟩
    have bb := wetS_b hw k (by omega)
    rw [ze_227_11]
    simp (maxSteps := 10000000) (disch := omega) only [h1, hq, h2, zo_add, zo_sub, zo_mul, zo_neg, zo_lt, zo_le, zo_eq, zo_nn, zin_ok, zlt_eq, zr0, zr1, zr3, zr4, zr0x, zr1x, zr3x, zr4x, zb_and, zb_0, zmin_o, zmax_o, zabs_o, zo_div, zo_mod, ↓reduceIte, Int.reduceToNat, Int.reduceNeg, Int.reduceAdd, Int.reduceMul, Int.reduceSub, Int.reduceEq, Int.reduceLT, Int.reduceLE, if_true, if_false, Nat.reduceAdd, Nat.reduceMul]
    rw [if_pos (by omega)]
    unfold sofD
    rw [show k = (a 9).toNat by omega] at bb ⊢
    by_cases c : strS a (a 9).toNat = 0
    · rw [if_pos c, if_pos c]
    · have e : FP.dIsNaN (FP.ddiv (FP.i2d (zo (wetS a (a 9).toNat))) (FP.i2d (zo (strS a (a 9).toNat)))) = false := FP.Core.ddiv_out (FP.Core.i2d_fin _).notNaN (FP.Core.i2d_fin _) (i2d_nz (zo_nz (by omega) (by omega) c))
      rw [if_neg c, if_neg c, e, if_neg (by decide)]
  | succ m ih =>
    intro k f hk hf
    obtain ⟨f, rfl⟩ : ∃ f', f = f' + 1 := ⟨f - 1, by omega⟩
    have gB := uB k (by omega)
    have i := ih (k + 1) f (by omega) (by omega)
    rw [show ((k + 1 : Nat) : Int) = (k : Int) + 1 from rfl] at i
    rw [show wetS a (k + 1) = wetS a k + (if a (40 + 10 * k + 6) = 0 then a (40 + 10 * k + 3) else 0) from rfl, show strS a (k + 1) = strS a k + (if a (40 + 10 * k + 6) = 0 then a (40 + 10 * k + 2) else 0) from rfl] at i
    rw [ze_227_11]
    simp (maxSteps := 10000000) (disch := omega) only [h1, hq, h2, m164 hh hw (b := k) (by omega), m160_3 hh, m160_2 hh, zo_add, zo_sub, zo_mul, zo_neg, zo_lt, zo_le, zo_eq, zo_nn, zin_ok, zlt_eq, zr0, zr1, zr3, zr4, zr0x, zr1x, zr3x, zr4x, zb_and, zb_0, zmin_o, zmax_o, zabs_o, zo_div, zo_mod, ↓reduceIte, Int.reduceToNat, Int.reduceNeg, Int.reduceAdd, Int.reduceMul, Int.reduceSub, Int.reduceEq, Int.reduceLT, Int.reduceLE, if_true, if_false, Nat.reduceAdd, Nat.reduceMul]
    rw [if_neg (by omega)]
    by_cases c : a (40 + 10 * k + 6) = 0
    · rw [if_pos c, if_pos c] at i
      simp only [c, decide_true, Bool.true_eq_false, if_false]
      exact i
    · rw [if_neg c, if_neg c] at i
      simp only [decide_eq_false c, if_true]
      exact i
theorem B227 (h : Md S 0 a) (hw : WF T a) : zr_sem zF (d + 3) 227 [za 3 0 0] S = some (.inl (some (zd (sofD a))), mt S 0) := by
  have hb := zF1_big
  have u9 := hw.1.2.2.2.2.2.2.2.2.2
  rw [ze_227, mt_def]
  exact m227_l (d := d) (Md_mt h 0) hw (a 9).toNat 0 zF1 (by omega) (by omega)
theorem ash_nan (hw : WF T a) (h : a 9 ≠ 0) : FP.fIsNaN (FP.fdiv (FP.i2f (zo (cnt a 0))) (FP.i2f (zo (a 9)))) = false := by
  have u9 := hw.1.2.2.2.2.2.2.2.2.2
  exact FP.Core.fdiv_out (FP.Core.i2f_fin _).notNaN (FP.Core.i2f_fin _) (i2f_nz (zo_nz (by omega) (by omega) h))
theorem A109 (h : Cb (S.1 0 0) a) (hw : WF T a) : zr_sem zF (d + 3) 109 [za 1 0 0] S = some (.inl (some (zf (ashF a))), S) := by
  have n13 := h.2.1.2.2.2.2.2.2.2.1
  have u9 := hw.1.2.2.2.2.2.2.2.2.2
  unfold ashF
  rw [ze_109, n13]
  by_cases c : a 9 = 0
  · rw [if_pos c, c, if_pos (show zo 0 = zo 0 from rfl)]
  · rw [if_neg c, if_neg (zo_nz (by omega) (by omega) c), c14 h hw (by omega) (by omega), zr1, n13, ash_nan hw c, if_neg (by decide)]
theorem B228 (h : Md S 0 a) (hw : WF T a) : zr_sem zF (d + 3) 228 [za 3 0 0] S = some (.inl (some (zf (ashF a))), mt S 0) := by
  have u9 := hw.1.2.2.2.2.2.2.2.2.2
  have h0 := Md_mt h 0
  obtain ⟨h1, hq, h2⟩ := h0
  have h0 := Md_mt h 0
  unfold ashF
  rw [ze_228, mt_def]
  by_cases c : a 9 = 0
  · simp (maxSteps := 10000000) (disch := omega) only [h1, hq, h2, c, zo_add, zo_sub, zo_mul, zo_neg, zo_lt, zo_le, zo_eq, zo_nn, zin_ok, zlt_eq, zr0, zr1, zr3, zr4, zr0x, zr1x, zr3x, zr4x, zb_and, zb_0, zmin_o, zmax_o, zabs_o, zo_div, zo_mod, ↓reduceIte, Int.reduceToNat, Int.reduceNeg, Int.reduceAdd, Int.reduceMul, Int.reduceSub, Int.reduceEq, Int.reduceLT, Int.reduceLE, if_true, if_false, Nat.reduceAdd, Nat.reduceMul]
  · simp (maxSteps := 10000000) (disch := omega) only [h1, hq, h2, m172 h0 hw, ash_nan hw c, zo_add, zo_sub, zo_mul, zo_neg, zo_lt, zo_le, zo_eq, zo_nn, zin_ok, zlt_eq, zr0, zr1, zr3, zr4, zr0x, zr1x, zr3x, zr4x, zb_and, zb_0, zmin_o, zmax_o, zabs_o, zo_div, zo_mod, ↓reduceIte, Int.reduceToNat, Int.reduceNeg, Int.reduceAdd, Int.reduceMul, Int.reduceSub, Int.reduceEq, Int.reduceLT, Int.reduceLE, if_true, if_false, Nat.reduceAdd, Nat.reduceMul]
    simp [c]
theorem sgn_b (hw : WF T a) {c : Int} (g : 0 ≤ c ∧ c < a 0 * a 1) : True := trivial
theorem c144 (h : Cb (S.1 0 0) a) (hw : WF T a) {c : Int} (g : 0 ≤ c ∧ c < a 0 * a 1) : zr_sem zF (d + 3) 144 [za 1 0 0, zi (zo c)] S = some (.inl (some (zi (zo (sgn a c)))), S) := by
  have uN := WF_nc hw
  have hwO := hw; obtain ⟨⟨⟨u0, u0x⟩, ⟨u1, u1x⟩, ⟨u2, u2x⟩, ⟨u3, u3x⟩, ⟨u4, u4x⟩, ⟨u5, u5x⟩, ⟨u6, u6x, uT⟩, ⟨u7, u7x⟩, ⟨u8, u8x⟩, ⟨u9, u9x⟩⟩, uD, uP, uB, uS, uI⟩ := hwO
  have o1 := occ_ge a c (-1)
  have o2 := occ_lt (a := a) c (-1) (by omega)
  have d1 := drIn_ge a c
  have d2 := drIn_lt (a := a) c (by omega)
  have t1 := tpIn_ge a c
  have t2 : tpIn a c < a 8 := by
    have := zfst_lt (fun k => decide (a (30 + 2 * k) = c)) (a 8).toNat 0
    have e : zfst (fun k => decide (a (30 + 2 * k) = c)) (a 8).toNat 0 = tpIn a c := rfl
    omega
  have gS := uS c.toNat (by omega)
  have e1 : ocC a c = occ a c (-1) := if_neg (by omega)
  have e2 : spC a c = a (160 + c.toNat) := if_neg (by omega)
  unfold sgn
  rw [ze_144]
  simp (maxSteps := 10000000) (disch := omega) only [c63o h hw (c := c) (by omega), e1, c12 h hw, c13 h hw, c63s h hw (c := c) (by omega), e2, zo_add, zo_sub, zo_mul, zo_neg, zo_lt, zo_le, zo_eq, zo_nn, zin_ok, zlt_eq, zr0, zr1, zr3, zr4, zr0x, zr1x, zr3x, zr4x, zb_and, zb_0, zmin_o, zmax_o, zabs_o, zo_div, zo_mod, ↓reduceIte, Int.reduceToNat, Int.reduceNeg, Int.reduceAdd, Int.reduceMul, Int.reduceSub, Int.reduceEq, Int.reduceLT, Int.reduceLE, if_true, if_false, Nat.reduceAdd, Nat.reduceMul]
  by_cases c1 : occ a c (-1) = -1
  · rw [if_pos c1, if_pos c1]
    by_cases c2 : drIn a c = -1
    · rw [if_pos c2, if_pos c2]
      by_cases c3 : tpIn a c = -1
      · rw [if_pos c3, if_pos c3]
        by_cases c4 : a (160 + c.toNat) ≤ 0
        · rw [if_pos c4, if_pos c4]
        · rw [if_neg c4, if_neg c4]
      · rw [if_neg c3, if_neg c3]
    · rw [if_neg c2, if_neg c2]
      obtain ⟨j, hj⟩ : ∃ j : Nat, drIn a c = j := ⟨(drIn a c).toNat, by omega⟩
      rw [hj] at d2 ⊢
      rw [c10 h hw d2, zr1, Int.toNat_natCast]
      cases wks a j <;> rfl
  · rw [if_neg c1, if_neg c1]
theorem m245 (h : Md S 0 a) (hw : WF T a) {c : Int} (g : 0 ≤ c ∧ c < a 0 * a 1) : zr_sem zF (d + 5) 245 [za 3 0 0, zi (zo c)] S = some (.inl (some (zi (zo (sgn a c)))), S) := by
  have uN := WF_nc hw
  have hwO := hw; obtain ⟨⟨⟨u0, u0x⟩, ⟨u1, u1x⟩, ⟨u2, u2x⟩, ⟨u3, u3x⟩, ⟨u4, u4x⟩, ⟨u5, u5x⟩, ⟨u6, u6x, uT⟩, ⟨u7, u7x⟩, ⟨u8, u8x⟩, ⟨u9, u9x⟩⟩, uD, uP, uB, uS, uI⟩ := hwO
  have o1 := occ_ge a c (-1)
  have o2 := occ_lt (a := a) c (-1) (by omega)
  have d1 := drIn_ge a c
  have d2 := drIn_lt (a := a) c (by omega)
  have t1 := tpIn_ge a c
  have t2 : tpIn a c < a 8 := by
    have := zfst_lt (fun k => decide (a (30 + 2 * k) = c)) (a 8).toNat 0
    have e : zfst (fun k => decide (a (30 + 2 * k) = c)) (a 8).toNat 0 = tpIn a c := rfl
    omega
  have gS := uS c.toNat (by omega)
  have eS := m_ix h (i := 160 + c) (j := 160 + c.toNat) (by omega) (by omega)
  have h1 := h.1
  have hq := h.2.1
  unfold sgn
  rw [ze_245]
  simp (maxSteps := 10000000) (disch := omega) only [m170 h hw, m168 h hw, m169 h hw, h1, hq, eS, zo_add, zo_sub, zo_mul, zo_neg, zo_lt, zo_le, zo_eq, zo_nn, zin_ok, zlt_eq, zr0, zr1, zr3, zr4, zr0x, zr1x, zr3x, zr4x, zb_and, zb_0, zmin_o, zmax_o, zabs_o, zo_div, zo_mod, ↓reduceIte, Int.reduceToNat, Int.reduceNeg, Int.reduceAdd, Int.reduceMul, Int.reduceSub, Int.reduceEq, Int.reduceLT, Int.reduceLE, if_true, if_false, Nat.reduceAdd, Nat.reduceMul]
  by_cases c1 : occ a c (-1) = -1
  · rw [if_pos c1, if_pos c1]
    by_cases c2 : drIn a c = -1
    · rw [if_pos c2, if_pos c2]
      by_cases c3 : tpIn a c = -1
      · rw [if_pos c3, if_pos c3]
        by_cases c4 : a (160 + c.toNat) ≤ 0
        · rw [if_pos c4, if_pos c4]
        · rw [if_neg c4, if_neg c4]
      · rw [if_neg c3, if_neg c3]
    · rw [if_neg c2, if_neg c2]
      obtain ⟨j, hj⟩ : ∃ j : Nat, drIn a c = j := ⟨(drIn a c).toNat, by omega⟩
      rw [hj] at d2 ⊢
      rw [m171 h hw d2, zr1, Int.toNat_natCast]
      cases wks a j <;> rfl
  · rw [if_neg c1, if_neg c1]
theorem c110_l (hw : WF T a) {y : Nat} (hy : (y : Int) < a 1) : ∀ (m k f : Nat) (S : zS), ((k + m : Nat) : Int) = a 0 → m < f → Cb (S.1 0 0) a → (∀ j : Nat, j < k → S.1 1 0 20 j = zo (sgn a (a 0 * y + j))) → ∃ S', zy zF (d + 4) 110 f 13 [some (za 1 0 0), some (zi (zo y)), some (zi (zo k))] S = some (.inl (some (zi (zo (a 0)))), S') ∧ S'.1 1 0 0 10 = zo (a 0) ∧ (∀ j : Nat, (j : Int) < a 0 → S'.1 1 0 20 j = zo (sgn a (a 0 * y + j))) ∧ FzC S S' := by
  have uN := WF_nc hw
  have u0 := hw.1.1
  have u1 := hw.1.2.1
  intro m
  induction m with
  | zero =>
    intro k f S hk hf h hs
    obtain ⟨f, rfl⟩ : ∃ f', f = f' + 1 := ⟨f - 1, by omega⟩
    have n6 := h.2.1.1
    refine ⟨zs_set S 1 0 0 10 (zo (a 0)), ?_, zs_self, fun j hj => ?_, rfl, fun k n o j hh => zs_oth (by omega)⟩
    · rw [ze_110_13]
      simp (maxSteps := 10000000) (disch := omega) only [n6, zs_self, zo_add, zo_sub, zo_mul, zo_neg, zo_lt, zo_le, zo_eq, zo_nn, zin_ok, zlt_eq, zr0, zr1, zr3, zr4, zr0x, zr1x, zr3x, zr4x, zb_and, zb_0, zmin_o, zmax_o, zabs_o, zo_div, zo_mod, ↓reduceIte, Int.reduceToNat, Int.reduceNeg, Int.reduceAdd, Int.reduceMul, Int.reduceSub, Int.reduceEq, Int.reduceLT, Int.reduceLE, if_true, if_false, Nat.reduceAdd, Nat.reduceMul]
      rw [if_pos (by omega)]
    · rw [zs_oth (by omega)]; exact hs j (by omega)
  | succ m ih =>
    intro k f S hk hf h hs
    obtain ⟨f, rfl⟩ : ∃ f', f = f' + 1 := ⟨f - 1, by omega⟩
    have n6 := h.2.1.1
    have hc : (0 ≤ (k : Int) ∧ (k : Int) < a 0) ∧ (0 ≤ (y : Int) ∧ (y : Int) < a 1) := by omega
    have gc := cel_lt hc
    have h2 : Cb ((zs_set S 1 0 20 k (zo (sgn a (a 0 * y + k)))).1 0 0) a := by
      have : (zs_set S 1 0 20 k (zo (sgn a (a 0 * y + k)))).1 0 0 = S.1 0 0 := by funext o j; exact zs_oth (by omega)
      rw [this]; exact h
    obtain ⟨S2, e2, q1, q2, q3⟩ := ih (k + 1) f _ (by omega) (by omega) h2 (fun j hj => by
      by_cases e : j = k
      · subst e; exact zs_self
      · rw [zs_oth (by omega)]; exact hs j (by omega))
    refine ⟨S2, ?_, q1, q2, q3.1, fun k n o j hh => ?_⟩
    · rw [ze_110_13]
      have r64 : zr_sem zF (d + 4) 64 [za 1 0 19, zi (zo k), zi (zo (sgn a (a 0 * y + k)))] S = some (.inl none, zs_set S 1 0 20 k (zo (sgn a (a 0 * y + k)))) := by
        rw [ze_64f]
        simp (maxSteps := 10000000) (disch := omega) only [Int.toNat_natCast, zo_add, zo_sub, zo_mul, zo_neg, zo_lt, zo_le, zo_eq, zo_nn, zin_ok, zlt_eq, zr0, zr1, zr3, zr4, zr0x, zr1x, zr3x, zr4x, zb_and, zb_0, zmin_o, zmax_o, zabs_o, zo_div, zo_mod, ↓reduceIte, Int.reduceToNat, Int.reduceNeg, Int.reduceAdd, Int.reduceMul, Int.reduceSub, Int.reduceEq, Int.reduceLT, Int.reduceLE, if_true, if_false, Nat.reduceAdd, Nat.reduceMul]
        rw [if_neg (by omega), if_neg (by omega)]
      simp (maxSteps := 10000000) (disch := omega) only [n6, c3 h hw, cAt_in hc, c144 h hw gc, r64, zo_add, zo_sub, zo_mul, zo_neg, zo_lt, zo_le, zo_eq, zo_nn, zin_ok, zlt_eq, zr0, zr1, zr3, zr4, zr0x, zr1x, zr3x, zr4x, zb_and, zb_0, zmin_o, zmax_o, zabs_o, zo_div, zo_mod, ↓reduceIte, Int.reduceToNat, Int.reduceNeg, Int.reduceAdd, Int.reduceMul, Int.reduceSub, Int.reduceEq, Int.reduceLT, Int.reduceLE, if_true, if_false, Nat.reduceAdd, Nat.reduceMul]
      rw [if_neg (by omega)]
      exact e2
    · rw [q3.2 k n o j hh, zs_oth (by omega)]
theorem A110 (h : Cb (S.1 0 0) a) (hw : WF T a) (g1 : -2147483648 ≤ p) (g2 : p < 2147483648) : if 0 ≤ p ∧ p < a 1 then ∃ S', zr_sem zF (d + 5) 110 [za 1 0 0, zi (zo p)] S = some (.inl (some (zi (zo (a 0)))), S') ∧ S'.1 1 0 0 10 = zo (a 0) ∧ (∀ j : Nat, (j : Int) < a 0 → S'.1 1 0 20 j = zo (sgn a (a 0 * p + j))) ∧ FzC S S' else zr_sem zF (d + 5) 110 [za 1 0 0, zi (zo p)] S = some (.inr 1, zsn S) := by
  have hb := zF1_big
  have n7 := h.2.1.2.1
  have u0 := hw.1.1
  have u1 := hw.1.2.1
  by_cases c : 0 ≤ p ∧ p < a 1
  · rw [if_pos c]
    obtain ⟨y, rfl⟩ : ∃ y : Nat, p = y := ⟨p.toNat, by omega⟩
    rw [ze_110, n7, c140 g1 g2 (by omega) (by omega), if_pos c, zr0]
    exact c110_l (d := d) hw c.2 (a 0).toNat 0 zF1 S (by omega) (by omega) h (fun j hj => by omega)
  · rw [if_neg c, ze_110, n7, c140 g1 g2 (by omega) (by omega), if_neg c]; rfl
theorem m246_l (hw : WF T a) {y : Nat} (hy : (y : Int) < a 1) : ∀ (m k f : Nat) (S : zS), ((k + m : Nat) : Int) = a 0 → m < f → Md S 0 a → S.1 3 0 0 13 = zo (a 0) → (∀ j : Nat, j < k → S.1 3 0 5 j = zo (sgn a (a 0 * y + j))) → ∃ S', zy zF (d + 6) 246 f 34 [some (za 3 0 0), some (zi (zo y)), some (zi (zo k))] S = some (.inl (some (zi (zo (a 0)))), S') ∧ S'.1 3 0 0 13 = zo (a 0) ∧ (∀ j : Nat, (j : Int) < a 0 → S'.1 3 0 5 j = zo (sgn a (a 0 * y + j))) ∧ S'.1 3 0 0 10 = S.1 3 0 0 10 ∧ FzM S S' := by
  have uN := WF_nc hw
  have u0 := hw.1.1
  have u1 := hw.1.2.1
  intro m
  induction m with
  | zero =>
    intro k f S hk hf h h13 hs
    obtain ⟨f, rfl⟩ : ∃ f', f = f' + 1 := ⟨f - 1, by omega⟩
    refine ⟨S, ?_, h13, fun j hj => hs j (by omega), rfl, rfl, fun _ _ _ _ _ => rfl⟩
    rw [ze_246_34]
    simp (maxSteps := 10000000) (disch := omega) only [h13, zo_add, zo_sub, zo_mul, zo_neg, zo_lt, zo_le, zo_eq, zo_nn, zin_ok, zlt_eq, zr0, zr1, zr3, zr4, zr0x, zr1x, zr3x, zr4x, zb_and, zb_0, zmin_o, zmax_o, zabs_o, zo_div, zo_mod, ↓reduceIte, Int.reduceToNat, Int.reduceNeg, Int.reduceAdd, Int.reduceMul, Int.reduceSub, Int.reduceEq, Int.reduceLT, Int.reduceLE, if_true, if_false, Nat.reduceAdd, Nat.reduceMul]
    rw [if_pos (by omega)]
  | succ m ih =>
    intro k f S hk hf h h13 hs
    obtain ⟨f, rfl⟩ : ∃ f', f = f' + 1 := ⟨f - 1, by omega⟩
    have hc : (0 ≤ (k : Int) ∧ (k : Int) < a 0) ∧ (0 ≤ (y : Int) ∧ (y : Int) < a 1) := by omega
    have gc := cel_lt hc
    have h2 := Md_scr h 5 k (zo (sgn a (a 0 * y + k))) (by omega)
    obtain ⟨S2, e2, q1, q2, q4, q3⟩ := ih (k + 1) f _ (by omega) (by omega) h2 (by rw [zs_oth (by omega)]; exact h13) (fun j hj => by
      by_cases e : j = k
      · subst e; exact zs_self
      · rw [zs_oth (by omega)]; exact hs j (by omega))
    refine ⟨S2, ?_, q1, q2, by rw [q4, zs_oth (by omega)], q3.1, fun k n o j hh => ?_⟩
    · rw [ze_246_34]
      simp (maxSteps := 10000000) (disch := omega) only [h13, m154 h, m245 h hw gc, Int.toNat_natCast, zo_add, zo_sub, zo_mul, zo_neg, zo_lt, zo_le, zo_eq, zo_nn, zin_ok, zlt_eq, zr0, zr1, zr3, zr4, zr0x, zr1x, zr3x, zr4x, zb_and, zb_0, zmin_o, zmax_o, zabs_o, zo_div, zo_mod, ↓reduceIte, Int.reduceToNat, Int.reduceNeg, Int.reduceAdd, Int.reduceMul, Int.reduceSub, Int.reduceEq, Int.reduceLT, Int.reduceLE, if_true, if_false, Nat.reduceAdd, Nat.reduceMul]
      rw [if_neg (by omega)]
      exact e2
    · rw [q3.2 k n o j hh, zs_oth (by omega)]
theorem B246 (h : Md S 0 a) (hw : WF T a) (g1 : -2147483648 ≤ p) (g2 : p < 2147483648) : if 0 ≤ p ∧ p < a 1 then ∃ S', zr_sem zF (d + 7) 246 [za 3 0 0, zi (zo p)] S = some (.inl (some (zi (zo (a 0)))), S') ∧ S'.1 3 0 0 13 = zo (a 0) ∧ (∀ j : Nat, (j : Int) < a 0 → S'.1 3 0 5 j = zo (sgn a (a 0 * p + j))) ∧ S'.1 3 0 0 10 = zo 0 ∧ FzM S S' else zr_sem zF (d + 7) 246 [za 3 0 0, zi (zo p)] S = some (.inl (some (zi (zo 0))), mt S 1) := by
  have hb := zF1_big
  have u0 := hw.1.1
  have u1 := hw.1.2.1
  have h0 := Md_mt h 0
  have h1 := h.1
  have hq := h.2.1
  have r1 := h.2.2 1 (by omega)
  have h01 := h0.1
  have r0 := h0.2.2 0 (by omega)
  by_cases c : 0 ≤ p ∧ p < a 1
  · have e1 : decide (0 ≤ p ∧ p ≤ a 1 - 1) = true := decide_eq_true (by omega)
    rw [if_pos c]
    obtain ⟨y, rfl⟩ : ∃ y : Nat, p = y := ⟨p.toNat, by omega⟩
    have hM : Md (zs_set (mt S 0) 3 0 0 13 (zo (a 0))) 0 a := ⟨by rw [zs_oth (by omega)]; exact h01, h0.2.1, fun j hj => by rw [zs_oth (by omega)]; exact h0.2.2 j hj⟩
    obtain ⟨S2, e2, q1, q2, q4, q3⟩ := m246_l (d := d) hw c.2 (a 0).toNat 0 zF1 _ (by omega) (by omega) hM zs_self (fun j hj => by omega)
    refine ⟨S2, ?_, q1, q2, by rw [q4, zs_oth (by omega)]; exact mt_10 S 0, q3.1, fun k n o j hh => ?_⟩
    · rw [ze_246]
      simp (maxSteps := 10000000) (disch := omega) only [h1, hq, r1, m147, zo_add, zo_sub, zo_mul, zo_neg, zo_lt, zo_le, zo_eq, zo_nn, zin_ok, zlt_eq, zr0, zr1, zr3, zr4, zr0x, zr1x, zr3x, zr4x, zb_and, zb_0, zmin_o, zmax_o, zabs_o, zo_div, zo_mod, ↓reduceIte, Int.reduceToNat, Int.reduceNeg, Int.reduceAdd, Int.reduceMul, Int.reduceSub, Int.reduceEq, Int.reduceLT, Int.reduceLE, if_true, if_false, Nat.reduceAdd, Nat.reduceMul]
      rw [e1, m148_b, zr1]
      simp (maxSteps := 10000000) (disch := omega) only [Bool.not_true, bI_f, h01, r0, zo_add, zo_sub, zo_mul, zo_neg, zo_lt, zo_le, zo_eq, zo_nn, zin_ok, zlt_eq, zr0, zr1, zr3, zr4, zr0x, zr1x, zr3x, zr4x, zb_and, zb_0, zmin_o, zmax_o, zabs_o, zo_div, zo_mod, ↓reduceIte, Int.reduceToNat, Int.reduceNeg, Int.reduceAdd, Int.reduceMul, Int.reduceSub, Int.reduceEq, Int.reduceLT, Int.reduceLE, if_true, if_false, Nat.reduceAdd, Nat.reduceMul]
      exact e2
    · rw [q3.2 k n o j hh, zs_oth (by omega)]
      unfold mt
      rw [zs_oth (by omega)]
  · have e1 : decide (0 ≤ p ∧ p ≤ a 1 - 1) = false := decide_eq_false (by omega)
    rw [if_neg c, ze_246]
    simp (maxSteps := 10000000) (disch := omega) only [h1, hq, r1, m147, zo_add, zo_sub, zo_mul, zo_neg, zo_lt, zo_le, zo_eq, zo_nn, zin_ok, zlt_eq, zr0, zr1, zr3, zr4, zr0x, zr1x, zr3x, zr4x, zb_and, zb_0, zmin_o, zmax_o, zabs_o, zo_div, zo_mod, ↓reduceIte, Int.reduceToNat, Int.reduceNeg, Int.reduceAdd, Int.reduceMul, Int.reduceSub, Int.reduceEq, Int.reduceLT, Int.reduceLE, if_true, if_false, Nat.reduceAdd, Nat.reduceMul]
    rw [e1, m148_b, zr1]
    rfl
end CO

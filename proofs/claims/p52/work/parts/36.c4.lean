/-! THE PURE SIDE 4: the class's readers -/
def cAt (a : Rw) (x y : Int) : Int := if (0 ≤ x ∧ x < a 0) ∧ (0 ≤ y ∧ y < a 1) then a 0 * y + x else -1
theorem cel_of {a : Rw} {c : Int} (h0 : 0 < a 0) (h1 : 0 ≤ c) (h2 : c < a 0 * a 1) : ((0 ≤ c % a 0 ∧ c % a 0 < a 0) ∧ (0 ≤ c / a 0 ∧ c / a 0 < a 1)) ∧ a 0 * (c / a 0) + c % a 0 = c := by
  have e := Int.emod_add_mul_ediv c (a 0)
  refine ⟨⟨⟨Int.emod_nonneg _ (by omega), Int.emod_lt_of_pos _ h0⟩, Int.ediv_nonneg h1 (by omega), ?_⟩, by omega⟩
  exact Int.ediv_lt_of_lt_mul h0 (by rw [Int.mul_comm]; exact h2)
theorem cAt_of {a : Rw} {c : Int} (h0 : 0 < a 0) (h1 : 0 ≤ c) (h2 : c < a 0 * a 1) : cAt a (c % a 0) (c / a 0) = c := by
  have g := cel_of h0 h1 h2
  unfold cAt
  rw [if_pos g.1, g.2]
theorem cAt_in {a : Rw} {x y : Int} (h : (0 ≤ x ∧ x < a 0) ∧ (0 ≤ y ∧ y < a 1)) : cAt a x y = a 0 * y + x := if_pos h
theorem cAt_out {a : Rw} {x y : Int} (h : ¬((0 ≤ x ∧ x < a 0) ∧ (0 ≤ y ∧ y < a 1))) : cAt a x y = -1 := if_neg h
theorem cAt_rng (a : Rw) (x y : Int) : cAt a x y = -1 ∨ (0 ≤ cAt a x y ∧ cAt a x y < a 0 * a 1) := by
  by_cases c : (0 ≤ x ∧ x < a 0) ∧ (0 ≤ y ∧ y < a 1)
  · rw [cAt_in c]; exact Or.inr (cel_lt c)
  · exact Or.inl (cAt_out c)
/-- the soap in a cell, 0 outside -/
def spC (a : Rw) (c : Int) : Int := if c = -1 then 0 else a (160 + c.toNat)
def ocC (a : Rw) (c : Int) : Int := if c = -1 then -1 else occ a c (-1)
theorem spC_cAt (a : Rw) (x y : Int) : spC a (cAt a x y) = spIn a x y := by
  unfold spIn
  by_cases c : (0 ≤ x ∧ x < a 0) ∧ (0 ≤ y ∧ y < a 1)
  · have := cel_lt c
    rw [cAt_in c, if_pos c]; unfold spC; rw [if_neg (by omega)]
  · rw [cAt_out c, if_neg c]; rfl
section CA
variable {S : zS} {n d : Nat} {a : Rw} {T : Int}
theorem c2 (h : Cb (S.1 0 n) a) : zr_sem zF (d + 1) 2 [za 0 n 0] S = some (.inl (some (zi (zo (a 0 * a 1)))), S) := by
  rw [ze_2]
  have hC := h; obtain ⟨⟨f1, f2, f3, f4, f5, f6⟩, ⟨n6, n7, n8, n9, n10, n11, n12, n13, n14, n15⟩, hD, hT, hB, hS, hOc, hE⟩ := hC
  simp (disch := omega) only [n6, n7, zo_add, zo_sub, zo_mul, zo_neg, zo_lt, zo_le, zo_eq, zo_nn, zin_ok, zlt_eq, zr0, zr1, zr3, zr4, zr0x, zr1x, zr3x, zr4x, zb_and, zb_0, zmin_o, zmax_o, zabs_o, zo_div, zo_mod, ↓reduceIte, Int.reduceToNat, Int.reduceNeg, Int.reduceAdd, Int.reduceMul, Int.reduceSub, Nat.reduceAdd, Nat.reduceMul]
theorem c3 (h : Cb (S.1 0 n) a) (hw : WF T a) {x y : Int} (g1 : -2147483648 ≤ x) (g2 : x < 2147483648) (g3 : -2147483648 ≤ y) (g4 : y < 2147483648) : zr_sem zF (d + 1) 3 [za 0 n 0, zi (zo x), zi (zo y)] S = some (.inl (some (zi (zo (cAt a x y)))), S) := by
  rw [ze_3]
  have hC := h; obtain ⟨⟨f1, f2, f3, f4, f5, f6⟩, ⟨n6, n7, n8, n9, n10, n11, n12, n13, n14, n15⟩, hD, hT, hB, hS, hOc, hE⟩ := hC
  have hwO := hw; obtain ⟨⟨⟨u0, u0x⟩, ⟨u1, u1x⟩, ⟨u2, u2x⟩, ⟨u3, u3x⟩, ⟨u4, u4x⟩, ⟨u5, u5x⟩, ⟨u6, u6x, uT⟩, ⟨u7, u7x⟩, ⟨u8, u8x⟩, ⟨u9, u9x⟩⟩, uD, uP, uB, uS, uI⟩ := hwO
  simp (disch := omega) only [n6, n7, zo_add, zo_sub, zo_mul, zo_neg, zo_lt, zo_le, zo_eq, zo_nn, zin_ok, zlt_eq, zr0, zr1, zr3, zr4, zr0x, zr1x, zr3x, zr4x, zb_and, zb_0, zmin_o, zmax_o, zabs_o, zo_div, zo_mod, ↓reduceIte, Int.reduceToNat, Int.reduceNeg, Int.reduceAdd, Int.reduceMul, Int.reduceSub, Nat.reduceAdd, Nat.reduceMul]
  by_cases c1 : x < 0
  · rw [if_pos c1, cAt_out (by omega)]
  · rw [if_neg c1]
    by_cases c2 : a 0 ≤ x
    · rw [if_pos c2, cAt_out (by omega)]
    · rw [if_neg c2]
      by_cases c3 : y < 0
      · rw [if_pos c3, cAt_out (by omega)]
      · rw [if_neg c3]
        by_cases c4 : a 1 ≤ y
        · rw [if_pos c4, cAt_out (by omega)]
        · rw [if_neg c4, cAt_in (by omega)]
theorem c4 (h : Cb (S.1 0 n) a) (hw : WF T a) {c : Int} (g1 : 0 ≤ c) (g2 : c < 2147483648) : zr_sem zF (d + 1) 4 [za 0 n 0, zi (zo c)] S = some (.inl (some (zi (zo (c % a 0)))), S) := by
  rw [ze_4]
  have hC := h; obtain ⟨⟨f1, f2, f3, f4, f5, f6⟩, ⟨n6, n7, n8, n9, n10, n11, n12, n13, n14, n15⟩, hD, hT, hB, hS, hOc, hE⟩ := hC
  have hwO := hw; obtain ⟨⟨⟨u0, u0x⟩, ⟨u1, u1x⟩, ⟨u2, u2x⟩, ⟨u3, u3x⟩, ⟨u4, u4x⟩, ⟨u5, u5x⟩, ⟨u6, u6x, uT⟩, ⟨u7, u7x⟩, ⟨u8, u8x⟩, ⟨u9, u9x⟩⟩, uD, uP, uB, uS, uI⟩ := hwO
  simp (disch := omega) only [n6, n7, zo_add, zo_sub, zo_mul, zo_neg, zo_lt, zo_le, zo_eq, zo_nn, zin_ok, zlt_eq, zr0, zr1, zr3, zr4, zr0x, zr1x, zr3x, zr4x, zb_and, zb_0, zmin_o, zmax_o, zabs_o, zo_div, zo_mod, ↓reduceIte, Int.reduceToNat, Int.reduceNeg, Int.reduceAdd, Int.reduceMul, Int.reduceSub, Nat.reduceAdd, Nat.reduceMul]
  rw [if_neg (by omega), if_neg (by omega), zmod_e]
theorem c5 (h : Cb (S.1 0 n) a) (hw : WF T a) {c : Int} (g1 : 0 ≤ c) (g2 : c < 2147483648) : zr_sem zF (d + 1) 5 [za 0 n 0, zi (zo c)] S = some (.inl (some (zi (zo (c / a 0)))), S) := by
  rw [ze_5]
  have hC := h; obtain ⟨⟨f1, f2, f3, f4, f5, f6⟩, ⟨n6, n7, n8, n9, n10, n11, n12, n13, n14, n15⟩, hD, hT, hB, hS, hOc, hE⟩ := hC
  have hwO := hw; obtain ⟨⟨⟨u0, u0x⟩, ⟨u1, u1x⟩, ⟨u2, u2x⟩, ⟨u3, u3x⟩, ⟨u4, u4x⟩, ⟨u5, u5x⟩, ⟨u6, u6x, uT⟩, ⟨u7, u7x⟩, ⟨u8, u8x⟩, ⟨u9, u9x⟩⟩, uD, uP, uB, uS, uI⟩ := hwO
  simp (disch := omega) only [n6, n7, zo_add, zo_sub, zo_mul, zo_neg, zo_lt, zo_le, zo_eq, zo_nn, zin_ok, zlt_eq, zr0, zr1, zr3, zr4, zr0x, zr1x, zr3x, zr4x, zb_and, zb_0, zmin_o, zmax_o, zabs_o, zo_div, zo_mod, ↓reduceIte, Int.reduceToNat, Int.reduceNeg, Int.reduceAdd, Int.reduceMul, Int.reduceSub, Nat.reduceAdd, Nat.reduceMul]
  rw [if_neg (by omega), if_neg (by omega)]
theorem c63s (h : Cb (S.1 0 n) a) (hw : WF T a) {c : Int} (g : c = -1 ∨ (0 ≤ c ∧ c < a 0 * a 1)) : zr_sem zF (d + 1) 63 [za 0 n 7, zi (zo c)] S = some (.inl (some (zi (zo (spC a c)))), S) := by
  rw [ze_63s]
  have hC := h; obtain ⟨⟨f1, f2, f3, f4, f5, f6⟩, ⟨n6, n7, n8, n9, n10, n11, n12, n13, n14, n15⟩, hD, hT, hB, hS, hOc, hE⟩ := hC
  have uN := WF_nc hw
  unfold spC
  rcases g with g | ⟨g1, g2⟩
  · subst g
    simp (disch := omega) only [f4, zo_add, zo_sub, zo_mul, zo_neg, zo_lt, zo_le, zo_eq, zo_nn, zin_ok, zlt_eq, zr0, zr1, zr3, zr4, zr0x, zr1x, zr3x, zr4x, zb_and, zb_0, zmin_o, zmax_o, zabs_o, zo_div, zo_mod, ↓reduceIte, Int.reduceToNat, Int.reduceNeg, Int.reduceAdd, Int.reduceMul, Int.reduceSub, Nat.reduceAdd, Nat.reduceMul]
    rw [if_pos (by omega)]
  · have e := hS c.toNat (by omega)
    simp (disch := omega) only [f4, e, zo_add, zo_sub, zo_mul, zo_neg, zo_lt, zo_le, zo_eq, zo_nn, zin_ok, zlt_eq, zr0, zr1, zr3, zr4, zr0x, zr1x, zr3x, zr4x, zb_and, zb_0, zmin_o, zmax_o, zabs_o, zo_div, zo_mod, ↓reduceIte, Int.reduceToNat, Int.reduceNeg, Int.reduceAdd, Int.reduceMul, Int.reduceSub, Nat.reduceAdd, Nat.reduceMul]
    rw [if_neg (by omega), if_neg (by omega), if_neg (by omega)]
theorem c63o (h : Cb (S.1 0 n) a) (hw : WF T a) {c : Int} (g : c = -1 ∨ (0 ≤ c ∧ c < a 0 * a 1)) : zr_sem zF (d + 1) 63 [za 0 n 9, zi (zo c)] S = some (.inl (some (zi (zo (ocC a c)))), S) := by
  rw [ze_63o]
  have hC := h; obtain ⟨⟨f1, f2, f3, f4, f5, f6⟩, ⟨n6, n7, n8, n9, n10, n11, n12, n13, n14, n15⟩, hD, hT, hB, hS, hOc, hE⟩ := hC
  have uN := WF_nc hw
  unfold ocC
  rcases g with g | ⟨g1, g2⟩
  · subst g
    simp (disch := omega) only [f5, zo_add, zo_sub, zo_mul, zo_neg, zo_lt, zo_le, zo_eq, zo_nn, zin_ok, zlt_eq, zr0, zr1, zr3, zr4, zr0x, zr1x, zr3x, zr4x, zb_and, zb_0, zmin_o, zmax_o, zabs_o, zo_div, zo_mod, ↓reduceIte, Int.reduceToNat, Int.reduceNeg, Int.reduceAdd, Int.reduceMul, Int.reduceSub, Nat.reduceAdd, Nat.reduceMul]
    rw [if_pos (by omega)]
  · have e := hOc c.toNat (by omega)
    rw [show ((c.toNat : Nat) : Int) = c by omega] at e
    simp (disch := omega) only [f5, e, zo_add, zo_sub, zo_mul, zo_neg, zo_lt, zo_le, zo_eq, zo_nn, zin_ok, zlt_eq, zr0, zr1, zr3, zr4, zr0x, zr1x, zr3x, zr4x, zb_and, zb_0, zmin_o, zmax_o, zabs_o, zo_div, zo_mod, ↓reduceIte, Int.reduceToNat, Int.reduceNeg, Int.reduceAdd, Int.reduceMul, Int.reduceSub, Nat.reduceAdd, Nat.reduceMul]
    rw [if_neg (by omega), if_neg (by omega), if_neg (by omega)]
theorem c67b_0 (h : Cb (S.1 0 n) a) (hw : WF T a) {b : Nat} (hb : (b : Int) < a 9) : zr_sem zF (d + 1) 67 [za 0 n 1, zi (zo b), zi (zo 0)] S = some (.inl (some (zi (zo (a (40 + 10 * b) % a 0)))), S) := by
  rw [ze_67b]
  have f1 := h.1.1
  have hB := (h.2.2.2.2.1 b hb).1
  have u9x := hw.1.2.2.2.2.2.2.2.2.2.2
  have e : ((b : Int) * 11 + 0).toNat = 11 * b := by omega
  simp (disch := omega) only [f1, e, hB, zo_add, zo_sub, zo_mul, zo_neg, zo_lt, zo_le, zo_eq, zo_nn, zin_ok, zlt_eq, zr0, zr1, zr3, zr4, zr0x, zr1x, zr3x, zr4x, zb_and, zb_0, zmin_o, zmax_o, zabs_o, zo_div, zo_mod, ↓reduceIte, Int.reduceToNat, Int.reduceNeg, Int.reduceAdd, Int.reduceMul, Int.reduceSub, Nat.reduceAdd, Nat.reduceMul]
  rw [if_neg (by omega), if_neg (by omega), if_neg (by omega), if_neg (by omega)]
theorem c68b_0 (h : CbF (S.1 0 n)) {b : Nat} (hb : b < 12) {v : Int32} : zr_sem zF (d + 1) 68 [za 0 n 1, zi (zo b), zi (zo 0), zi v] S = some (.inl none, zs_set S 0 n 2 (11 * b) v) := by
  rw [ze_68b]
  have f1 := h.1
  have e : ((b : Int) * 11 + 0).toNat = 11 * b := by omega
  simp (disch := omega) only [f1, e, zo_add, zo_sub, zo_mul, zo_neg, zo_lt, zo_le, zo_eq, zo_nn, zin_ok, zlt_eq, zr0, zr1, zr3, zr4, zr0x, zr1x, zr3x, zr4x, zb_and, zb_0, zmin_o, zmax_o, zabs_o, zo_div, zo_mod, ↓reduceIte, Int.reduceToNat, Int.reduceNeg, Int.reduceAdd, Int.reduceMul, Int.reduceSub, Nat.reduceAdd, Nat.reduceMul]
  rw [if_neg (by omega), if_neg (by omega), if_neg (by omega), if_neg (by omega)]
theorem c67b_1 (h : Cb (S.1 0 n) a) (hw : WF T a) {b : Nat} (hb : (b : Int) < a 9) : zr_sem zF (d + 1) 67 [za 0 n 1, zi (zo b), zi (zo 1)] S = some (.inl (some (zi (zo (a (40 + 10 * b) / a 0)))), S) := by
  rw [ze_67b]
  have f1 := h.1.1
  have hB := (h.2.2.2.2.1 b hb).2.1
  have u9x := hw.1.2.2.2.2.2.2.2.2.2.2
  have e : ((b : Int) * 11 + 1).toNat = 11 * b + 1 := by omega
  simp (disch := omega) only [f1, e, hB, zo_add, zo_sub, zo_mul, zo_neg, zo_lt, zo_le, zo_eq, zo_nn, zin_ok, zlt_eq, zr0, zr1, zr3, zr4, zr0x, zr1x, zr3x, zr4x, zb_and, zb_0, zmin_o, zmax_o, zabs_o, zo_div, zo_mod, ↓reduceIte, Int.reduceToNat, Int.reduceNeg, Int.reduceAdd, Int.reduceMul, Int.reduceSub, Nat.reduceAdd, Nat.reduceMul]
  rw [if_neg (by omega), if_neg (by omega), if_neg (by omega), if_neg (by omega)]
theorem c68b_1 (h : CbF (S.1 0 n)) {b : Nat} (hb : b < 12) {v : Int32} : zr_sem zF (d + 1) 68 [za 0 n 1, zi (zo b), zi (zo 1), zi v] S = some (.inl none, zs_set S 0 n 2 (11 * b + 1) v) := by
  rw [ze_68b]
  have f1 := h.1
  have e : ((b : Int) * 11 + 1).toNat = 11 * b + 1 := by omega
  simp (disch := omega) only [f1, e, zo_add, zo_sub, zo_mul, zo_neg, zo_lt, zo_le, zo_eq, zo_nn, zin_ok, zlt_eq, zr0, zr1, zr3, zr4, zr0x, zr1x, zr3x, zr4x, zb_and, zb_0, zmin_o, zmax_o, zabs_o, zo_div, zo_mod, ↓reduceIte, Int.reduceToNat, Int.reduceNeg, Int.reduceAdd, Int.reduceMul, Int.reduceSub, Nat.reduceAdd, Nat.reduceMul]
  rw [if_neg (by omega), if_neg (by omega), if_neg (by omega), if_neg (by omega)]
theorem c67b_2 (h : Cb (S.1 0 n) a) (hw : WF T a) {b : Nat} (hb : (b : Int) < a 9) : zr_sem zF (d + 1) 67 [za 0 n 1, zi (zo b), zi (zo 2)] S = some (.inl (some (zi (zo (a (40 + 10 * b + 1))))), S) := by
  rw [ze_67b]
  have f1 := h.1.1
  have hB := (h.2.2.2.2.1 b hb).2.2.1
  have u9x := hw.1.2.2.2.2.2.2.2.2.2.2
  have e : ((b : Int) * 11 + 2).toNat = 11 * b + 2 := by omega
  simp (disch := omega) only [f1, e, hB, zo_add, zo_sub, zo_mul, zo_neg, zo_lt, zo_le, zo_eq, zo_nn, zin_ok, zlt_eq, zr0, zr1, zr3, zr4, zr0x, zr1x, zr3x, zr4x, zb_and, zb_0, zmin_o, zmax_o, zabs_o, zo_div, zo_mod, ↓reduceIte, Int.reduceToNat, Int.reduceNeg, Int.reduceAdd, Int.reduceMul, Int.reduceSub, Nat.reduceAdd, Nat.reduceMul]
  rw [if_neg (by omega), if_neg (by omega), if_neg (by omega), if_neg (by omega)]
theorem c67b_3 (h : Cb (S.1 0 n) a) (hw : WF T a) {b : Nat} (hb : (b : Int) < a 9) : zr_sem zF (d + 1) 67 [za 0 n 1, zi (zo b), zi (zo 3)] S = some (.inl (some (zi (zo (a (40 + 10 * b + 2))))), S) := by
  rw [ze_67b]
  have f1 := h.1.1
  have hB := (h.2.2.2.2.1 b hb).2.2.2.1
  have u9x := hw.1.2.2.2.2.2.2.2.2.2.2
  have e : ((b : Int) * 11 + 3).toNat = 11 * b + 3 := by omega
  simp (disch := omega) only [f1, e, hB, zo_add, zo_sub, zo_mul, zo_neg, zo_lt, zo_le, zo_eq, zo_nn, zin_ok, zlt_eq, zr0, zr1, zr3, zr4, zr0x, zr1x, zr3x, zr4x, zb_and, zb_0, zmin_o, zmax_o, zabs_o, zo_div, zo_mod, ↓reduceIte, Int.reduceToNat, Int.reduceNeg, Int.reduceAdd, Int.reduceMul, Int.reduceSub, Nat.reduceAdd, Nat.reduceMul]
  rw [if_neg (by omega), if_neg (by omega), if_neg (by omega), if_neg (by omega)]
theorem c67b_4 (h : Cb (S.1 0 n) a) (hw : WF T a) {b : Nat} (hb : (b : Int) < a 9) : zr_sem zF (d + 1) 67 [za 0 n 1, zi (zo b), zi (zo 4)] S = some (.inl (some (zi (zo (a (40 + 10 * b + 3))))), S) := by
  rw [ze_67b]
  have f1 := h.1.1
  have hB := (h.2.2.2.2.1 b hb).2.2.2.2.1
  have u9x := hw.1.2.2.2.2.2.2.2.2.2.2
  have e : ((b : Int) * 11 + 4).toNat = 11 * b + 4 := by omega
  simp (disch := omega) only [f1, e, hB, zo_add, zo_sub, zo_mul, zo_neg, zo_lt, zo_le, zo_eq, zo_nn, zin_ok, zlt_eq, zr0, zr1, zr3, zr4, zr0x, zr1x, zr3x, zr4x, zb_and, zb_0, zmin_o, zmax_o, zabs_o, zo_div, zo_mod, ↓reduceIte, Int.reduceToNat, Int.reduceNeg, Int.reduceAdd, Int.reduceMul, Int.reduceSub, Nat.reduceAdd, Nat.reduceMul]
  rw [if_neg (by omega), if_neg (by omega), if_neg (by omega), if_neg (by omega)]
theorem c68b_4 (h : CbF (S.1 0 n)) {b : Nat} (hb : b < 12) {v : Int32} : zr_sem zF (d + 1) 68 [za 0 n 1, zi (zo b), zi (zo 4), zi v] S = some (.inl none, zs_set S 0 n 2 (11 * b + 4) v) := by
  rw [ze_68b]
  have f1 := h.1
  have e : ((b : Int) * 11 + 4).toNat = 11 * b + 4 := by omega
  simp (disch := omega) only [f1, e, zo_add, zo_sub, zo_mul, zo_neg, zo_lt, zo_le, zo_eq, zo_nn, zin_ok, zlt_eq, zr0, zr1, zr3, zr4, zr0x, zr1x, zr3x, zr4x, zb_and, zb_0, zmin_o, zmax_o, zabs_o, zo_div, zo_mod, ↓reduceIte, Int.reduceToNat, Int.reduceNeg, Int.reduceAdd, Int.reduceMul, Int.reduceSub, Nat.reduceAdd, Nat.reduceMul]
  rw [if_neg (by omega), if_neg (by omega), if_neg (by omega), if_neg (by omega)]
theorem c67b_5 (h : Cb (S.1 0 n) a) (hw : WF T a) {b : Nat} (hb : (b : Int) < a 9) : zr_sem zF (d + 1) 67 [za 0 n 1, zi (zo b), zi (zo 5)] S = some (.inl (some (zi (zo (a (40 + 10 * b + 4))))), S) := by
  rw [ze_67b]
  have f1 := h.1.1
  have hB := (h.2.2.2.2.1 b hb).2.2.2.2.2.1
  have u9x := hw.1.2.2.2.2.2.2.2.2.2.2
  have e : ((b : Int) * 11 + 5).toNat = 11 * b + 5 := by omega
  simp (disch := omega) only [f1, e, hB, zo_add, zo_sub, zo_mul, zo_neg, zo_lt, zo_le, zo_eq, zo_nn, zin_ok, zlt_eq, zr0, zr1, zr3, zr4, zr0x, zr1x, zr3x, zr4x, zb_and, zb_0, zmin_o, zmax_o, zabs_o, zo_div, zo_mod, ↓reduceIte, Int.reduceToNat, Int.reduceNeg, Int.reduceAdd, Int.reduceMul, Int.reduceSub, Nat.reduceAdd, Nat.reduceMul]
  rw [if_neg (by omega), if_neg (by omega), if_neg (by omega), if_neg (by omega)]
theorem c68b_5 (h : CbF (S.1 0 n)) {b : Nat} (hb : b < 12) {v : Int32} : zr_sem zF (d + 1) 68 [za 0 n 1, zi (zo b), zi (zo 5), zi v] S = some (.inl none, zs_set S 0 n 2 (11 * b + 5) v) := by
  rw [ze_68b]
  have f1 := h.1
  have e : ((b : Int) * 11 + 5).toNat = 11 * b + 5 := by omega
  simp (disch := omega) only [f1, e, zo_add, zo_sub, zo_mul, zo_neg, zo_lt, zo_le, zo_eq, zo_nn, zin_ok, zlt_eq, zr0, zr1, zr3, zr4, zr0x, zr1x, zr3x, zr4x, zb_and, zb_0, zmin_o, zmax_o, zabs_o, zo_div, zo_mod, ↓reduceIte, Int.reduceToNat, Int.reduceNeg, Int.reduceAdd, Int.reduceMul, Int.reduceSub, Nat.reduceAdd, Nat.reduceMul]
  rw [if_neg (by omega), if_neg (by omega), if_neg (by omega), if_neg (by omega)]
theorem c67b_6 (h : Cb (S.1 0 n) a) (hw : WF T a) {b : Nat} (hb : (b : Int) < a 9) : zr_sem zF (d + 1) 67 [za 0 n 1, zi (zo b), zi (zo 6)] S = some (.inl (some (zi (zo (a (40 + 10 * b + 5))))), S) := by
  rw [ze_67b]
  have f1 := h.1.1
  have hB := (h.2.2.2.2.1 b hb).2.2.2.2.2.2.1
  have u9x := hw.1.2.2.2.2.2.2.2.2.2.2
  have e : ((b : Int) * 11 + 6).toNat = 11 * b + 6 := by omega
  simp (disch := omega) only [f1, e, hB, zo_add, zo_sub, zo_mul, zo_neg, zo_lt, zo_le, zo_eq, zo_nn, zin_ok, zlt_eq, zr0, zr1, zr3, zr4, zr0x, zr1x, zr3x, zr4x, zb_and, zb_0, zmin_o, zmax_o, zabs_o, zo_div, zo_mod, ↓reduceIte, Int.reduceToNat, Int.reduceNeg, Int.reduceAdd, Int.reduceMul, Int.reduceSub, Nat.reduceAdd, Nat.reduceMul]
  rw [if_neg (by omega), if_neg (by omega), if_neg (by omega), if_neg (by omega)]
theorem c68b_6 (h : CbF (S.1 0 n)) {b : Nat} (hb : b < 12) {v : Int32} : zr_sem zF (d + 1) 68 [za 0 n 1, zi (zo b), zi (zo 6), zi v] S = some (.inl none, zs_set S 0 n 2 (11 * b + 6) v) := by
  rw [ze_68b]
  have f1 := h.1
  have e : ((b : Int) * 11 + 6).toNat = 11 * b + 6 := by omega
  simp (disch := omega) only [f1, e, zo_add, zo_sub, zo_mul, zo_neg, zo_lt, zo_le, zo_eq, zo_nn, zin_ok, zlt_eq, zr0, zr1, zr3, zr4, zr0x, zr1x, zr3x, zr4x, zb_and, zb_0, zmin_o, zmax_o, zabs_o, zo_div, zo_mod, ↓reduceIte, Int.reduceToNat, Int.reduceNeg, Int.reduceAdd, Int.reduceMul, Int.reduceSub, Nat.reduceAdd, Nat.reduceMul]
  rw [if_neg (by omega), if_neg (by omega), if_neg (by omega), if_neg (by omega)]
theorem c67b_7 (h : Cb (S.1 0 n) a) (hw : WF T a) {b : Nat} (hb : (b : Int) < a 9) : zr_sem zF (d + 1) 67 [za 0 n 1, zi (zo b), zi (zo 7)] S = some (.inl (some (zi (zo (a (40 + 10 * b + 6))))), S) := by
  rw [ze_67b]
  have f1 := h.1.1
  have hB := (h.2.2.2.2.1 b hb).2.2.2.2.2.2.2.1
  have u9x := hw.1.2.2.2.2.2.2.2.2.2.2
  have e : ((b : Int) * 11 + 7).toNat = 11 * b + 7 := by omega
  simp (disch := omega) only [f1, e, hB, zo_add, zo_sub, zo_mul, zo_neg, zo_lt, zo_le, zo_eq, zo_nn, zin_ok, zlt_eq, zr0, zr1, zr3, zr4, zr0x, zr1x, zr3x, zr4x, zb_and, zb_0, zmin_o, zmax_o, zabs_o, zo_div, zo_mod, ↓reduceIte, Int.reduceToNat, Int.reduceNeg, Int.reduceAdd, Int.reduceMul, Int.reduceSub, Nat.reduceAdd, Nat.reduceMul]
  rw [if_neg (by omega), if_neg (by omega), if_neg (by omega), if_neg (by omega)]
theorem c68b_7 (h : CbF (S.1 0 n)) {b : Nat} (hb : b < 12) {v : Int32} : zr_sem zF (d + 1) 68 [za 0 n 1, zi (zo b), zi (zo 7), zi v] S = some (.inl none, zs_set S 0 n 2 (11 * b + 7) v) := by
  rw [ze_68b]
  have f1 := h.1
  have e : ((b : Int) * 11 + 7).toNat = 11 * b + 7 := by omega
  simp (disch := omega) only [f1, e, zo_add, zo_sub, zo_mul, zo_neg, zo_lt, zo_le, zo_eq, zo_nn, zin_ok, zlt_eq, zr0, zr1, zr3, zr4, zr0x, zr1x, zr3x, zr4x, zb_and, zb_0, zmin_o, zmax_o, zabs_o, zo_div, zo_mod, ↓reduceIte, Int.reduceToNat, Int.reduceNeg, Int.reduceAdd, Int.reduceMul, Int.reduceSub, Nat.reduceAdd, Nat.reduceMul]
  rw [if_neg (by omega), if_neg (by omega), if_neg (by omega), if_neg (by omega)]
theorem c67b_8 (h : Cb (S.1 0 n) a) (hw : WF T a) {b : Nat} (hb : (b : Int) < a 9) : zr_sem zF (d + 1) 67 [za 0 n 1, zi (zo b), zi (zo 8)] S = some (.inl (some (zi (zo (a (40 + 10 * b + 7))))), S) := by
  rw [ze_67b]
  have f1 := h.1.1
  have hB := (h.2.2.2.2.1 b hb).2.2.2.2.2.2.2.2.1
  have u9x := hw.1.2.2.2.2.2.2.2.2.2.2
  have e : ((b : Int) * 11 + 8).toNat = 11 * b + 8 := by omega
  simp (disch := omega) only [f1, e, hB, zo_add, zo_sub, zo_mul, zo_neg, zo_lt, zo_le, zo_eq, zo_nn, zin_ok, zlt_eq, zr0, zr1, zr3, zr4, zr0x, zr1x, zr3x, zr4x, zb_and, zb_0, zmin_o, zmax_o, zabs_o, zo_div, zo_mod, ↓reduceIte, Int.reduceToNat, Int.reduceNeg, Int.reduceAdd, Int.reduceMul, Int.reduceSub, Nat.reduceAdd, Nat.reduceMul]
  rw [if_neg (by omega), if_neg (by omega), if_neg (by omega), if_neg (by omega)]
theorem c68b_8 (h : CbF (S.1 0 n)) {b : Nat} (hb : b < 12) {v : Int32} : zr_sem zF (d + 1) 68 [za 0 n 1, zi (zo b), zi (zo 8), zi v] S = some (.inl none, zs_set S 0 n 2 (11 * b + 8) v) := by
  rw [ze_68b]
  have f1 := h.1
  have e : ((b : Int) * 11 + 8).toNat = 11 * b + 8 := by omega
  simp (disch := omega) only [f1, e, zo_add, zo_sub, zo_mul, zo_neg, zo_lt, zo_le, zo_eq, zo_nn, zin_ok, zlt_eq, zr0, zr1, zr3, zr4, zr0x, zr1x, zr3x, zr4x, zb_and, zb_0, zmin_o, zmax_o, zabs_o, zo_div, zo_mod, ↓reduceIte, Int.reduceToNat, Int.reduceNeg, Int.reduceAdd, Int.reduceMul, Int.reduceSub, Nat.reduceAdd, Nat.reduceMul]
  rw [if_neg (by omega), if_neg (by omega), if_neg (by omega), if_neg (by omega)]
theorem c67b_9 (h : Cb (S.1 0 n) a) (hw : WF T a) {b : Nat} (hb : (b : Int) < a 9) : zr_sem zF (d + 1) 67 [za 0 n 1, zi (zo b), zi (zo 9)] S = some (.inl (some (zi (zo (a (40 + 10 * b + 8))))), S) := by
  rw [ze_67b]
  have f1 := h.1.1
  have hB := (h.2.2.2.2.1 b hb).2.2.2.2.2.2.2.2.2.1
  have u9x := hw.1.2.2.2.2.2.2.2.2.2.2
  have e : ((b : Int) * 11 + 9).toNat = 11 * b + 9 := by omega
  simp (disch := omega) only [f1, e, hB, zo_add, zo_sub, zo_mul, zo_neg, zo_lt, zo_le, zo_eq, zo_nn, zin_ok, zlt_eq, zr0, zr1, zr3, zr4, zr0x, zr1x, zr3x, zr4x, zb_and, zb_0, zmin_o, zmax_o, zabs_o, zo_div, zo_mod, ↓reduceIte, Int.reduceToNat, Int.reduceNeg, Int.reduceAdd, Int.reduceMul, Int.reduceSub, Nat.reduceAdd, Nat.reduceMul]
  rw [if_neg (by omega), if_neg (by omega), if_neg (by omega), if_neg (by omega)]
theorem c68b_9 (h : CbF (S.1 0 n)) {b : Nat} (hb : b < 12) {v : Int32} : zr_sem zF (d + 1) 68 [za 0 n 1, zi (zo b), zi (zo 9), zi v] S = some (.inl none, zs_set S 0 n 2 (11 * b + 9) v) := by
  rw [ze_68b]
  have f1 := h.1
  have e : ((b : Int) * 11 + 9).toNat = 11 * b + 9 := by omega
  simp (disch := omega) only [f1, e, zo_add, zo_sub, zo_mul, zo_neg, zo_lt, zo_le, zo_eq, zo_nn, zin_ok, zlt_eq, zr0, zr1, zr3, zr4, zr0x, zr1x, zr3x, zr4x, zb_and, zb_0, zmin_o, zmax_o, zabs_o, zo_div, zo_mod, ↓reduceIte, Int.reduceToNat, Int.reduceNeg, Int.reduceAdd, Int.reduceMul, Int.reduceSub, Nat.reduceAdd, Nat.reduceMul]
  rw [if_neg (by omega), if_neg (by omega), if_neg (by omega), if_neg (by omega)]
theorem c67b_10 (h : Cb (S.1 0 n) a) (hw : WF T a) {b : Nat} (hb : (b : Int) < a 9) : zr_sem zF (d + 1) 67 [za 0 n 1, zi (zo b), zi (zo 10)] S = some (.inl (some (zi (zo (a (40 + 10 * b + 9))))), S) := by
  rw [ze_67b]
  have f1 := h.1.1
  have hB := (h.2.2.2.2.1 b hb).2.2.2.2.2.2.2.2.2.2
  have u9x := hw.1.2.2.2.2.2.2.2.2.2.2
  have e : ((b : Int) * 11 + 10).toNat = 11 * b + 10 := by omega
  simp (disch := omega) only [f1, e, hB, zo_add, zo_sub, zo_mul, zo_neg, zo_lt, zo_le, zo_eq, zo_nn, zin_ok, zlt_eq, zr0, zr1, zr3, zr4, zr0x, zr1x, zr3x, zr4x, zb_and, zb_0, zmin_o, zmax_o, zabs_o, zo_div, zo_mod, ↓reduceIte, Int.reduceToNat, Int.reduceNeg, Int.reduceAdd, Int.reduceMul, Int.reduceSub, Nat.reduceAdd, Nat.reduceMul]
  rw [if_neg (by omega), if_neg (by omega), if_neg (by omega), if_neg (by omega)]
theorem c68b_10 (h : CbF (S.1 0 n)) {b : Nat} (hb : b < 12) {v : Int32} : zr_sem zF (d + 1) 68 [za 0 n 1, zi (zo b), zi (zo 10), zi v] S = some (.inl none, zs_set S 0 n 2 (11 * b + 10) v) := by
  rw [ze_68b]
  have f1 := h.1
  have e : ((b : Int) * 11 + 10).toNat = 11 * b + 10 := by omega
  simp (disch := omega) only [f1, e, zo_add, zo_sub, zo_mul, zo_neg, zo_lt, zo_le, zo_eq, zo_nn, zin_ok, zlt_eq, zr0, zr1, zr3, zr4, zr0x, zr1x, zr3x, zr4x, zb_and, zb_0, zmin_o, zmax_o, zabs_o, zo_div, zo_mod, ↓reduceIte, Int.reduceToNat, Int.reduceNeg, Int.reduceAdd, Int.reduceMul, Int.reduceSub, Nat.reduceAdd, Nat.reduceMul]
  rw [if_neg (by omega), if_neg (by omega), if_neg (by omega), if_neg (by omega)]
theorem c67d_0 (h : Cb (S.1 0 n) a) (hw : WF T a) {b : Nat} (hb : (b : Int) < a 7) : zr_sem zF (d + 1) 67 [za 0 n 3, zi (zo b), zi (zo 0)] S = some (.inl (some (zi (zo (a (10 + 4 * b) % a 0)))), S) := by
  rw [ze_67d]
  have f1 := h.1.2.1
  have hB := (h.2.2.1 b hb).1
  have u9x := hw.1.2.2.2.2.2.2.2.1.2
  have e : ((b : Int) * 6 + 0).toNat = 6 * b := by omega
  simp (disch := omega) only [f1, e, hB, zo_add, zo_sub, zo_mul, zo_neg, zo_lt, zo_le, zo_eq, zo_nn, zin_ok, zlt_eq, zr0, zr1, zr3, zr4, zr0x, zr1x, zr3x, zr4x, zb_and, zb_0, zmin_o, zmax_o, zabs_o, zo_div, zo_mod, ↓reduceIte, Int.reduceToNat, Int.reduceNeg, Int.reduceAdd, Int.reduceMul, Int.reduceSub, Nat.reduceAdd, Nat.reduceMul]
  rw [if_neg (by omega), if_neg (by omega), if_neg (by omega), if_neg (by omega)]
theorem c68d_0 (h : CbF (S.1 0 n)) {b : Nat} (hb : b < 5) {v : Int32} : zr_sem zF (d + 1) 68 [za 0 n 3, zi (zo b), zi (zo 0), zi v] S = some (.inl none, zs_set S 0 n 4 (6 * b) v) := by
  rw [ze_68d]
  have f1 := h.2.1
  have e : ((b : Int) * 6 + 0).toNat = 6 * b := by omega
  simp (disch := omega) only [f1, e, zo_add, zo_sub, zo_mul, zo_neg, zo_lt, zo_le, zo_eq, zo_nn, zin_ok, zlt_eq, zr0, zr1, zr3, zr4, zr0x, zr1x, zr3x, zr4x, zb_and, zb_0, zmin_o, zmax_o, zabs_o, zo_div, zo_mod, ↓reduceIte, Int.reduceToNat, Int.reduceNeg, Int.reduceAdd, Int.reduceMul, Int.reduceSub, Nat.reduceAdd, Nat.reduceMul]
  rw [if_neg (by omega), if_neg (by omega), if_neg (by omega), if_neg (by omega)]
theorem c67d_1 (h : Cb (S.1 0 n) a) (hw : WF T a) {b : Nat} (hb : (b : Int) < a 7) : zr_sem zF (d + 1) 67 [za 0 n 3, zi (zo b), zi (zo 1)] S = some (.inl (some (zi (zo (a (10 + 4 * b) / a 0)))), S) := by
  rw [ze_67d]
  have f1 := h.1.2.1
  have hB := (h.2.2.1 b hb).2.1
  have u9x := hw.1.2.2.2.2.2.2.2.1.2
  have e : ((b : Int) * 6 + 1).toNat = 6 * b + 1 := by omega
  simp (disch := omega) only [f1, e, hB, zo_add, zo_sub, zo_mul, zo_neg, zo_lt, zo_le, zo_eq, zo_nn, zin_ok, zlt_eq, zr0, zr1, zr3, zr4, zr0x, zr1x, zr3x, zr4x, zb_and, zb_0, zmin_o, zmax_o, zabs_o, zo_div, zo_mod, ↓reduceIte, Int.reduceToNat, Int.reduceNeg, Int.reduceAdd, Int.reduceMul, Int.reduceSub, Nat.reduceAdd, Nat.reduceMul]
  rw [if_neg (by omega), if_neg (by omega), if_neg (by omega), if_neg (by omega)]
theorem c68d_1 (h : CbF (S.1 0 n)) {b : Nat} (hb : b < 5) {v : Int32} : zr_sem zF (d + 1) 68 [za 0 n 3, zi (zo b), zi (zo 1), zi v] S = some (.inl none, zs_set S 0 n 4 (6 * b + 1) v) := by
  rw [ze_68d]
  have f1 := h.2.1
  have e : ((b : Int) * 6 + 1).toNat = 6 * b + 1 := by omega
  simp (disch := omega) only [f1, e, zo_add, zo_sub, zo_mul, zo_neg, zo_lt, zo_le, zo_eq, zo_nn, zin_ok, zlt_eq, zr0, zr1, zr3, zr4, zr0x, zr1x, zr3x, zr4x, zb_and, zb_0, zmin_o, zmax_o, zabs_o, zo_div, zo_mod, ↓reduceIte, Int.reduceToNat, Int.reduceNeg, Int.reduceAdd, Int.reduceMul, Int.reduceSub, Nat.reduceAdd, Nat.reduceMul]
  rw [if_neg (by omega), if_neg (by omega), if_neg (by omega), if_neg (by omega)]
theorem c67d_2 (h : Cb (S.1 0 n) a) (hw : WF T a) {b : Nat} (hb : (b : Int) < a 7) : zr_sem zF (d + 1) 67 [za 0 n 3, zi (zo b), zi (zo 2)] S = some (.inl (some (zi (zo (a (10 + 4 * b + 1))))), S) := by
  rw [ze_67d]
  have f1 := h.1.2.1
  have hB := (h.2.2.1 b hb).2.2.1
  have u9x := hw.1.2.2.2.2.2.2.2.1.2
  have e : ((b : Int) * 6 + 2).toNat = 6 * b + 2 := by omega
  simp (disch := omega) only [f1, e, hB, zo_add, zo_sub, zo_mul, zo_neg, zo_lt, zo_le, zo_eq, zo_nn, zin_ok, zlt_eq, zr0, zr1, zr3, zr4, zr0x, zr1x, zr3x, zr4x, zb_and, zb_0, zmin_o, zmax_o, zabs_o, zo_div, zo_mod, ↓reduceIte, Int.reduceToNat, Int.reduceNeg, Int.reduceAdd, Int.reduceMul, Int.reduceSub, Nat.reduceAdd, Nat.reduceMul]
  rw [if_neg (by omega), if_neg (by omega), if_neg (by omega), if_neg (by omega)]
theorem c68d_2 (h : CbF (S.1 0 n)) {b : Nat} (hb : b < 5) {v : Int32} : zr_sem zF (d + 1) 68 [za 0 n 3, zi (zo b), zi (zo 2), zi v] S = some (.inl none, zs_set S 0 n 4 (6 * b + 2) v) := by
  rw [ze_68d]
  have f1 := h.2.1
  have e : ((b : Int) * 6 + 2).toNat = 6 * b + 2 := by omega
  simp (disch := omega) only [f1, e, zo_add, zo_sub, zo_mul, zo_neg, zo_lt, zo_le, zo_eq, zo_nn, zin_ok, zlt_eq, zr0, zr1, zr3, zr4, zr0x, zr1x, zr3x, zr4x, zb_and, zb_0, zmin_o, zmax_o, zabs_o, zo_div, zo_mod, ↓reduceIte, Int.reduceToNat, Int.reduceNeg, Int.reduceAdd, Int.reduceMul, Int.reduceSub, Nat.reduceAdd, Nat.reduceMul]
  rw [if_neg (by omega), if_neg (by omega), if_neg (by omega), if_neg (by omega)]
theorem c67d_3 (h : Cb (S.1 0 n) a) (hw : WF T a) {b : Nat} (hb : (b : Int) < a 7) : zr_sem zF (d + 1) 67 [za 0 n 3, zi (zo b), zi (zo 3)] S = some (.inl (some (zi (zo (a (10 + 4 * b + 2))))), S) := by
  rw [ze_67d]
  have f1 := h.1.2.1
  have hB := (h.2.2.1 b hb).2.2.2.1
  have u9x := hw.1.2.2.2.2.2.2.2.1.2
  have e : ((b : Int) * 6 + 3).toNat = 6 * b + 3 := by omega
  simp (disch := omega) only [f1, e, hB, zo_add, zo_sub, zo_mul, zo_neg, zo_lt, zo_le, zo_eq, zo_nn, zin_ok, zlt_eq, zr0, zr1, zr3, zr4, zr0x, zr1x, zr3x, zr4x, zb_and, zb_0, zmin_o, zmax_o, zabs_o, zo_div, zo_mod, ↓reduceIte, Int.reduceToNat, Int.reduceNeg, Int.reduceAdd, Int.reduceMul, Int.reduceSub, Nat.reduceAdd, Nat.reduceMul]
  rw [if_neg (by omega), if_neg (by omega), if_neg (by omega), if_neg (by omega)]
theorem c68d_3 (h : CbF (S.1 0 n)) {b : Nat} (hb : b < 5) {v : Int32} : zr_sem zF (d + 1) 68 [za 0 n 3, zi (zo b), zi (zo 3), zi v] S = some (.inl none, zs_set S 0 n 4 (6 * b + 3) v) := by
  rw [ze_68d]
  have f1 := h.2.1
  have e : ((b : Int) * 6 + 3).toNat = 6 * b + 3 := by omega
  simp (disch := omega) only [f1, e, zo_add, zo_sub, zo_mul, zo_neg, zo_lt, zo_le, zo_eq, zo_nn, zin_ok, zlt_eq, zr0, zr1, zr3, zr4, zr0x, zr1x, zr3x, zr4x, zb_and, zb_0, zmin_o, zmax_o, zabs_o, zo_div, zo_mod, ↓reduceIte, Int.reduceToNat, Int.reduceNeg, Int.reduceAdd, Int.reduceMul, Int.reduceSub, Nat.reduceAdd, Nat.reduceMul]
  rw [if_neg (by omega), if_neg (by omega), if_neg (by omega), if_neg (by omega)]
theorem c67d_5 (h : Cb (S.1 0 n) a) (hw : WF T a) {b : Nat} (hb : (b : Int) < a 7) : zr_sem zF (d + 1) 67 [za 0 n 3, zi (zo b), zi (zo 5)] S = some (.inl (some (zi (zo (a (10 + 4 * b + 3))))), S) := by
  rw [ze_67d]
  have f1 := h.1.2.1
  have hB := (h.2.2.1 b hb).2.2.2.2
  have u9x := hw.1.2.2.2.2.2.2.2.1.2
  have e : ((b : Int) * 6 + 5).toNat = 6 * b + 5 := by omega
  simp (disch := omega) only [f1, e, hB, zo_add, zo_sub, zo_mul, zo_neg, zo_lt, zo_le, zo_eq, zo_nn, zin_ok, zlt_eq, zr0, zr1, zr3, zr4, zr0x, zr1x, zr3x, zr4x, zb_and, zb_0, zmin_o, zmax_o, zabs_o, zo_div, zo_mod, ↓reduceIte, Int.reduceToNat, Int.reduceNeg, Int.reduceAdd, Int.reduceMul, Int.reduceSub, Nat.reduceAdd, Nat.reduceMul]
  rw [if_neg (by omega), if_neg (by omega), if_neg (by omega), if_neg (by omega)]
theorem c68d_5 (h : CbF (S.1 0 n)) {b : Nat} (hb : b < 5) {v : Int32} : zr_sem zF (d + 1) 68 [za 0 n 3, zi (zo b), zi (zo 5), zi v] S = some (.inl none, zs_set S 0 n 4 (6 * b + 5) v) := by
  rw [ze_68d]
  have f1 := h.2.1
  have e : ((b : Int) * 6 + 5).toNat = 6 * b + 5 := by omega
  simp (disch := omega) only [f1, e, zo_add, zo_sub, zo_mul, zo_neg, zo_lt, zo_le, zo_eq, zo_nn, zin_ok, zlt_eq, zr0, zr1, zr3, zr4, zr0x, zr1x, zr3x, zr4x, zb_and, zb_0, zmin_o, zmax_o, zabs_o, zo_div, zo_mod, ↓reduceIte, Int.reduceToNat, Int.reduceNeg, Int.reduceAdd, Int.reduceMul, Int.reduceSub, Nat.reduceAdd, Nat.reduceMul]
  rw [if_neg (by omega), if_neg (by omega), if_neg (by omega), if_neg (by omega)]
theorem c67t_0 (h : Cb (S.1 0 n) a) (hw : WF T a) {b : Nat} (hb : (b : Int) < a 8) : zr_sem zF (d + 1) 67 [za 0 n 5, zi (zo b), zi (zo 0)] S = some (.inl (some (zi (zo (a (30 + 2 * b) % a 0)))), S) := by
  rw [ze_67t]
  have f1 := h.1.2.2.1
  have hB := (h.2.2.2.1 b hb).1
  have u9x := hw.1.2.2.2.2.2.2.2.2.1.2
  have e : ((b : Int) * 3 + 0).toNat = 3 * b := by omega
  simp (disch := omega) only [f1, e, hB, zo_add, zo_sub, zo_mul, zo_neg, zo_lt, zo_le, zo_eq, zo_nn, zin_ok, zlt_eq, zr0, zr1, zr3, zr4, zr0x, zr1x, zr3x, zr4x, zb_and, zb_0, zmin_o, zmax_o, zabs_o, zo_div, zo_mod, ↓reduceIte, Int.reduceToNat, Int.reduceNeg, Int.reduceAdd, Int.reduceMul, Int.reduceSub, Nat.reduceAdd, Nat.reduceMul]
  rw [if_neg (by omega), if_neg (by omega), if_neg (by omega), if_neg (by omega)]
theorem c68t_0 (h : CbF (S.1 0 n)) {b : Nat} (hb : b < 5) {v : Int32} : zr_sem zF (d + 1) 68 [za 0 n 5, zi (zo b), zi (zo 0), zi v] S = some (.inl none, zs_set S 0 n 6 (3 * b) v) := by
  rw [ze_68t]
  have f1 := h.2.2.1
  have e : ((b : Int) * 3 + 0).toNat = 3 * b := by omega
  simp (disch := omega) only [f1, e, zo_add, zo_sub, zo_mul, zo_neg, zo_lt, zo_le, zo_eq, zo_nn, zin_ok, zlt_eq, zr0, zr1, zr3, zr4, zr0x, zr1x, zr3x, zr4x, zb_and, zb_0, zmin_o, zmax_o, zabs_o, zo_div, zo_mod, ↓reduceIte, Int.reduceToNat, Int.reduceNeg, Int.reduceAdd, Int.reduceMul, Int.reduceSub, Nat.reduceAdd, Nat.reduceMul]
  rw [if_neg (by omega), if_neg (by omega), if_neg (by omega), if_neg (by omega)]
theorem c67t_1 (h : Cb (S.1 0 n) a) (hw : WF T a) {b : Nat} (hb : (b : Int) < a 8) : zr_sem zF (d + 1) 67 [za 0 n 5, zi (zo b), zi (zo 1)] S = some (.inl (some (zi (zo (a (30 + 2 * b) / a 0)))), S) := by
  rw [ze_67t]
  have f1 := h.1.2.2.1
  have hB := (h.2.2.2.1 b hb).2.1
  have u9x := hw.1.2.2.2.2.2.2.2.2.1.2
  have e : ((b : Int) * 3 + 1).toNat = 3 * b + 1 := by omega
  simp (disch := omega) only [f1, e, hB, zo_add, zo_sub, zo_mul, zo_neg, zo_lt, zo_le, zo_eq, zo_nn, zin_ok, zlt_eq, zr0, zr1, zr3, zr4, zr0x, zr1x, zr3x, zr4x, zb_and, zb_0, zmin_o, zmax_o, zabs_o, zo_div, zo_mod, ↓reduceIte, Int.reduceToNat, Int.reduceNeg, Int.reduceAdd, Int.reduceMul, Int.reduceSub, Nat.reduceAdd, Nat.reduceMul]
  rw [if_neg (by omega), if_neg (by omega), if_neg (by omega), if_neg (by omega)]
theorem c68t_1 (h : CbF (S.1 0 n)) {b : Nat} (hb : b < 5) {v : Int32} : zr_sem zF (d + 1) 68 [za 0 n 5, zi (zo b), zi (zo 1), zi v] S = some (.inl none, zs_set S 0 n 6 (3 * b + 1) v) := by
  rw [ze_68t]
  have f1 := h.2.2.1
  have e : ((b : Int) * 3 + 1).toNat = 3 * b + 1 := by omega
  simp (disch := omega) only [f1, e, zo_add, zo_sub, zo_mul, zo_neg, zo_lt, zo_le, zo_eq, zo_nn, zin_ok, zlt_eq, zr0, zr1, zr3, zr4, zr0x, zr1x, zr3x, zr4x, zb_and, zb_0, zmin_o, zmax_o, zabs_o, zo_div, zo_mod, ↓reduceIte, Int.reduceToNat, Int.reduceNeg, Int.reduceAdd, Int.reduceMul, Int.reduceSub, Nat.reduceAdd, Nat.reduceMul]
  rw [if_neg (by omega), if_neg (by omega), if_neg (by omega), if_neg (by omega)]
theorem c67t_2 (h : Cb (S.1 0 n) a) (hw : WF T a) {b : Nat} (hb : (b : Int) < a 8) : zr_sem zF (d + 1) 67 [za 0 n 5, zi (zo b), zi (zo 2)] S = some (.inl (some (zi (zo (a (30 + 2 * b + 1))))), S) := by
  rw [ze_67t]
  have f1 := h.1.2.2.1
  have hB := (h.2.2.2.1 b hb).2.2
  have u9x := hw.1.2.2.2.2.2.2.2.2.1.2
  have e : ((b : Int) * 3 + 2).toNat = 3 * b + 2 := by omega
  simp (disch := omega) only [f1, e, hB, zo_add, zo_sub, zo_mul, zo_neg, zo_lt, zo_le, zo_eq, zo_nn, zin_ok, zlt_eq, zr0, zr1, zr3, zr4, zr0x, zr1x, zr3x, zr4x, zb_and, zb_0, zmin_o, zmax_o, zabs_o, zo_div, zo_mod, ↓reduceIte, Int.reduceToNat, Int.reduceNeg, Int.reduceAdd, Int.reduceMul, Int.reduceSub, Nat.reduceAdd, Nat.reduceMul]
  rw [if_neg (by omega), if_neg (by omega), if_neg (by omega), if_neg (by omega)]
theorem c68t_2 (h : CbF (S.1 0 n)) {b : Nat} (hb : b < 5) {v : Int32} : zr_sem zF (d + 1) 68 [za 0 n 5, zi (zo b), zi (zo 2), zi v] S = some (.inl none, zs_set S 0 n 6 (3 * b + 2) v) := by
  rw [ze_68t]
  have f1 := h.2.2.1
  have e : ((b : Int) * 3 + 2).toNat = 3 * b + 2 := by omega
  simp (disch := omega) only [f1, e, zo_add, zo_sub, zo_mul, zo_neg, zo_lt, zo_le, zo_eq, zo_nn, zin_ok, zlt_eq, zr0, zr1, zr3, zr4, zr0x, zr1x, zr3x, zr4x, zb_and, zb_0, zmin_o, zmax_o, zabs_o, zo_div, zo_mod, ↓reduceIte, Int.reduceToNat, Int.reduceNeg, Int.reduceAdd, Int.reduceMul, Int.reduceSub, Nat.reduceAdd, Nat.reduceMul]
  rw [if_neg (by omega), if_neg (by omega), if_neg (by omega), if_neg (by omega)]
theorem c6 (h : Cb (S.1 0 n) a) (hw : WF T a) {b : Nat} (hb : (b : Int) < a 9) : zr_sem zF (d + 2) 6 [za 0 n 0, zi (zo b)] S = some (.inl (some (zi (zo (a (40 + 10 * b))))), S) := by
  rw [ze_6]
  have hwO := hw; obtain ⟨⟨⟨u0, u0x⟩, ⟨u1, u1x⟩, ⟨u2, u2x⟩, ⟨u3, u3x⟩, ⟨u4, u4x⟩, ⟨u5, u5x⟩, ⟨u6, u6x, uT⟩, ⟨u7, u7x⟩, ⟨u8, u8x⟩, ⟨u9, u9x⟩⟩, uD, uP, uB, uS, uI⟩ := hwO
  have uN := WF_nc hw
  have gB := uB b hb
  have g := cel_of (a := a) (c := a (40 + 10 * b)) (by omega) (by omega) (by omega)
  simp (disch := omega) only [c67b_0 h hw hb, c67b_1 h hw hb, c3 h hw, zo_add, zo_sub, zo_mul, zo_neg, zo_lt, zo_le, zo_eq, zo_nn, zin_ok, zlt_eq, zr0, zr1, zr3, zr4, zr0x, zr1x, zr3x, zr4x, zb_and, zb_0, zmin_o, zmax_o, zabs_o, zo_div, zo_mod, ↓reduceIte, Int.reduceToNat, Int.reduceNeg, Int.reduceAdd, Int.reduceMul, Int.reduceSub, Nat.reduceAdd, Nat.reduceMul]
  rw [cAt_of (by omega) (by omega) (by omega)]
theorem c7 (h : Cb (S.1 0 n) a) (hw : WF T a) {b : Nat} (hb : (b : Int) < a 9) : zr_sem zF (d + 2) 7 [za 0 n 0, zi (zo b)] S = some (.inl (some (zi (zo (bI (decide (a (40 + 10 * b + 6) = 0)))))), S) := by
  rw [ze_7]
  have hwO := hw; obtain ⟨⟨⟨u0, u0x⟩, ⟨u1, u1x⟩, ⟨u2, u2x⟩, ⟨u3, u3x⟩, ⟨u4, u4x⟩, ⟨u5, u5x⟩, ⟨u6, u6x, uT⟩, ⟨u7, u7x⟩, ⟨u8, u8x⟩, ⟨u9, u9x⟩⟩, uD, uP, uB, uS, uI⟩ := hwO
  have gB := uB b hb
  simp (disch := omega) only [c67b_7 h hw hb, zo_add, zo_sub, zo_mul, zo_neg, zo_lt, zo_le, zo_eq, zo_nn, zin_ok, zlt_eq, zr0, zr1, zr3, zr4, zr0x, zr1x, zr3x, zr4x, zb_and, zb_0, zmin_o, zmax_o, zabs_o, zo_div, zo_mod, ↓reduceIte, Int.reduceToNat, Int.reduceNeg, Int.reduceAdd, Int.reduceMul, Int.reduceSub, Nat.reduceAdd, Nat.reduceMul]
  split
  · rw [bI_dt (by assumption)]
  · rw [bI_df (by assumption)]
/-- another boat than b is afloat in c: by the uniqueness, the first one but b -/
theorem occ_other {a : Rw} (hw : WF T a) (c : Int) (b : Nat) : (occ a c b = -1) ↔ (occ a c (-1) = -1 ∨ occ a c (-1) = b) := by
  have hwO := hw; obtain ⟨⟨⟨u0, u0x⟩, ⟨u1, u1x⟩, ⟨u2, u2x⟩, ⟨u3, u3x⟩, ⟨u4, u4x⟩, ⟨u5, u5x⟩, ⟨u6, u6x, uT⟩, ⟨u7, u7x⟩, ⟨u8, u8x⟩, ⟨u9, u9x⟩⟩, uD, uP, uB, uS, uI⟩ := hwO
  constructor
  · intro h
    by_cases e : occ a c (-1) = -1
    · exact Or.inl e
    · right
      obtain ⟨j, e1, -, e3, e4, -⟩ := zfst_some _ _ _ e
      have e1 : occ a c (-1) = j := e1
      have e5 := zfst_none _ _ _ h j (by omega) e3
      simp only [Bool.and_eq_true, decide_eq_true_eq, Bool.and_eq_false_iff, decide_eq_false_iff_not] at e4 e5
      rw [e1]
      rcases e5 with e5 | e5 | e5
      · omega
      · exact absurd e4.2.1 e5
      · exact absurd e4.2.2 e5
  · intro h
    refine zfst_isnone _ _ (fun i hi => ?_)
    simp only [Bool.and_eq_false_iff, decide_eq_false_iff_not]
    by_cases e : a (40 + 10 * i + 6) = 0 ∧ a (40 + 10 * i) = c
    · left
      rcases h with h | h
      · have e5 := zfst_none _ _ _ h i (by omega) (by omega)
        simp only [Bool.and_eq_false_iff, decide_eq_false_iff_not] at e5
        rcases e5 with e5 | e5 | e5
        · omega
        · exact absurd e.1 e5
        · exact absurd e.2 e5
      · obtain ⟨j, e1, -, e3, e4, -⟩ := zfst_some _ _ _ (show occ a c (-1) ≠ -1 by omega)
        have e1 : occ a c (-1) = j := e1
        simp only [Bool.and_eq_true, decide_eq_true_eq] at e4
        have := uI j i (by omega) (by omega) e4.2.1 e.1 (by rw [e4.2.2, e.2])
        omega
    · right
      by_cases e2 : a (40 + 10 * i + 6) = 0
      · exact Or.inr (fun e3 => e ⟨e2, e3⟩)
      · exact Or.inl e2
theorem c8 (h : Cb (S.1 0 n) a) (hw : WF T a) {c : Int} (g : 0 ≤ c ∧ c < a 0 * a 1) {b : Nat} (hb : (b : Int) < a 9) : zr_sem zF (d + 2) 8 [za 0 n 0, zi (zo c), zi (zo b)] S = some (.inl (some (zi (zo (bI (decide (occ a c b ≠ -1)))))), S) := by
  rw [ze_8]
  have hwO := hw; obtain ⟨⟨⟨u0, u0x⟩, ⟨u1, u1x⟩, ⟨u2, u2x⟩, ⟨u3, u3x⟩, ⟨u4, u4x⟩, ⟨u5, u5x⟩, ⟨u6, u6x, uT⟩, ⟨u7, u7x⟩, ⟨u8, u8x⟩, ⟨u9, u9x⟩⟩, uD, uP, uB, uS, uI⟩ := hwO
  have uN := WF_nc hw
  have o1 := occ_ge a c (-1)
  have o2 := occ_lt (a := a) c (-1) (by omega)
  have o3 := occ_other hw c b
  simp (disch := omega) only [c63o h hw (Or.inr g)]
  unfold ocC
  rw [if_neg (show ¬ c = -1 by omega)]
  simp (disch := omega) only [zo_add, zo_sub, zo_mul, zo_neg, zo_lt, zo_le, zo_eq, zo_nn, zin_ok, zlt_eq, zr0, zr1, zr3, zr4, zr0x, zr1x, zr3x, zr4x, zb_and, zb_0, zmin_o, zmax_o, zabs_o, zo_div, zo_mod, ↓reduceIte, Int.reduceToNat, Int.reduceNeg, Int.reduceAdd, Int.reduceMul, Int.reduceSub, Nat.reduceAdd, Nat.reduceMul]
  by_cases e : occ a c (-1) = -1
  · rw [if_pos e, bI_df (fun z => z (o3.mpr (Or.inl e)))]
  · rw [if_neg e]
    by_cases e2 : occ a c (-1) = b
    · rw [if_pos e2, bI_df (fun z => z (o3.mpr (Or.inr e2)))]
    · rw [if_neg e2, bI_dt (fun z => (o3.mp z).elim e e2)]
theorem c10 (h : Cb (S.1 0 n) a) (hw : WF T a) {k : Nat} (hk : (k : Int) < a 7) : zr_sem zF (d + 2) 10 [za 0 n 0, zi (zo k)] S = some (.inl (some (zi (zo (bI (wks a k))))), S) := by
  rw [ze_10]
  have hwO := hw; obtain ⟨⟨⟨u0, u0x⟩, ⟨u1, u1x⟩, ⟨u2, u2x⟩, ⟨u3, u3x⟩, ⟨u4, u4x⟩, ⟨u5, u5x⟩, ⟨u6, u6x, uT⟩, ⟨u7, u7x⟩, ⟨u8, u8x⟩, ⟨u9, u9x⟩⟩, uD, uP, uB, uS, uI⟩ := hwO
  have uN := WF_nc hw
  have gD := uD k hk
  have o1 := occ_ge a (a (10 + 4 * k)) (-1)
  have o2 := occ_lt (a := a) (a (10 + 4 * k)) (-1) (by omega)
  have g := cel_of (a := a) (c := a (10 + 4 * k)) (by omega) (by omega) (by omega)
  have n6 := h.2.1.1
  simp (disch := omega) only [c67d_3 h hw hk, c67d_0 h hw hk, c67d_1 h hw hk, n6, g.2, c63o h hw (c := a (10 + 4 * k)) (by omega), zo_add, zo_sub, zo_mul, zo_neg, zo_lt, zo_le, zo_eq, zo_nn, zin_ok, zlt_eq, zr0, zr1, zr3, zr4, zr0x, zr1x, zr3x, zr4x, zb_and, zb_0, zmin_o, zmax_o, zabs_o, zo_div, zo_mod, ↓reduceIte, Int.reduceToNat, Int.reduceNeg, Int.reduceAdd, Int.reduceMul, Int.reduceSub, Nat.reduceAdd, Nat.reduceMul]
  unfold ocC wks
  rw [if_neg (show ¬ a (10 + 4 * k) = -1 by omega)]
  by_cases e : a (10 + 4 * k + 2) = 0
  · rw [if_neg (by omega), if_pos e]; rfl
  · rw [if_pos (by omega), if_neg e]
    by_cases e2 : occ a (a (10 + 4 * k)) (-1) = -1
    · rw [if_pos (by rw [e2]), if_pos e2]; rfl
    · rw [if_neg (by rw [zo_eq (by omega) (by omega) (by omega) (by omega)]; exact e2), if_neg e2]
      obtain ⟨j, hj⟩ : ∃ j : Nat, occ a (a (10 + 4 * k)) (-1) = j := ⟨(occ a (a (10 + 4 * k)) (-1)).toNat, by omega⟩
      rw [hj] at o1 o2 ⊢
      have gB := uB j (by omega)
      simp (disch := omega) only [c67b_2 h hw (b := j) o2, c67d_2 h hw hk, Int.toNat_natCast, zo_add, zo_sub, zo_mul, zo_neg, zo_lt, zo_le, zo_eq, zo_nn, zin_ok, zlt_eq, zr0, zr1, zr3, zr4, zr0x, zr1x, zr3x, zr4x, zb_and, zb_0, zmin_o, zmax_o, zabs_o, zo_div, zo_mod, ↓reduceIte, Int.reduceToNat, Int.reduceNeg, Int.reduceAdd, Int.reduceMul, Int.reduceSub, Nat.reduceAdd, Nat.reduceMul]
      by_cases e3 : a (40 + 10 * j + 1) ≤ a (10 + 4 * k + 1)
      · rw [if_neg (by omega), bI_dt e3]
      · rw [if_pos (by omega), bI_df e3]
theorem c12_l (h : Cb (S.1 0 n) a) (hw : WF T a) {c : Int} (g1 : -2147483648 ≤ c) (g2 : c < 2147483648) : ∀ (m k f : Nat), k + m = (a 7).toNat → m < f → zy zF (d + 1) 12 f 2 [some (za 0 n 0), some (zi (zo c)), some (zi (zo k))] S = some (.inl (some (zi (zo (zfst (fun k => decide (a (10 + 4 * k) = c)) m k)))), S) := by
  have hwO := hw; obtain ⟨⟨⟨u0, u0x⟩, ⟨u1, u1x⟩, ⟨u2, u2x⟩, ⟨u3, u3x⟩, ⟨u4, u4x⟩, ⟨u5, u5x⟩, ⟨u6, u6x, uT⟩, ⟨u7, u7x⟩, ⟨u8, u8x⟩, ⟨u9, u9x⟩⟩, uD, uP, uB, uS, uI⟩ := hwO
  have uN := WF_nc hw
  have n6 := h.2.1.1
  have n14 := h.2.1.2.2.2.2.2.2.2.2.1
  intro m
  induction m with
  | zero =>
    intro k f hk hn
    obtain ⟨f, rfl⟩ : ∃ n', f = n' + 1 := ⟨f - 1, by omega⟩
    rw [ze_12_2]
    simp (disch := omega) only [n14, zo_add, zo_sub, zo_mul, zo_neg, zo_lt, zo_le, zo_eq, zo_nn, zin_ok, zlt_eq, zr0, zr1, zr3, zr4, zr0x, zr1x, zr3x, zr4x, zb_and, zb_0, zmin_o, zmax_o, zabs_o, zo_div, zo_mod, ↓reduceIte, Int.reduceToNat, Int.reduceNeg, Int.reduceAdd, Int.reduceMul, Int.reduceSub, Nat.reduceAdd, Nat.reduceMul]
    rw [if_pos (by omega)]; rfl
  | succ m ih =>
    intro k f hk hn
    obtain ⟨f, rfl⟩ : ∃ n', f = n' + 1 := ⟨f - 1, by omega⟩
    have gD := uD k (by omega)
    have g := cel_of (a := a) (c := a (10 + 4 * k)) (by omega) (by omega) (by omega)
    rw [ze_12_2]
    simp (disch := omega) only [n14, n6, c67d_0 h hw (b := k) (by omega), c67d_1 h hw (b := k) (by omega), g.2, zo_add, zo_sub, zo_mul, zo_neg, zo_lt, zo_le, zo_eq, zo_nn, zin_ok, zlt_eq, zr0, zr1, zr3, zr4, zr0x, zr1x, zr3x, zr4x, zb_and, zb_0, zmin_o, zmax_o, zabs_o, zo_div, zo_mod, ↓reduceIte, Int.reduceToNat, Int.reduceNeg, Int.reduceAdd, Int.reduceMul, Int.reduceSub, Nat.reduceAdd, Nat.reduceMul]
    rw [if_neg (by omega), zfst_succ]
    by_cases e : a (10 + 4 * k) = c
    · rw [if_pos e, if_pos (decide_eq_true e)]
    · rw [if_neg e, if_neg (by simp [e])]
      exact ih (k + 1) f (by omega) (by omega)
theorem c12 (h : Cb (S.1 0 n) a) (hw : WF T a) {c : Int} (g1 : -2147483648 ≤ c) (g2 : c < 2147483648) : zr_sem zF (d + 2) 12 [za 0 n 0, zi (zo c)] S = some (.inl (some (zi (zo (drIn a c)))), S) := by
  rw [ze_12]
  have hb := zF1_big
  have u9 := hw.1.2.2.2.2.2.2.2.1
  exact c12_l h hw g1 g2 (a 7).toNat 0 _ (by omega) (by omega)
theorem c13_l (h : Cb (S.1 0 n) a) (hw : WF T a) {c : Int} (g1 : -2147483648 ≤ c) (g2 : c < 2147483648) : ∀ (m k f : Nat), k + m = (a 8).toNat → m < f → zy zF (d + 1) 13 f 2 [some (za 0 n 0), some (zi (zo c)), some (zi (zo k))] S = some (.inl (some (zi (zo (zfst (fun k => decide (a (30 + 2 * k) = c)) m k)))), S) := by
  have hwO := hw; obtain ⟨⟨⟨u0, u0x⟩, ⟨u1, u1x⟩, ⟨u2, u2x⟩, ⟨u3, u3x⟩, ⟨u4, u4x⟩, ⟨u5, u5x⟩, ⟨u6, u6x, uT⟩, ⟨u7, u7x⟩, ⟨u8, u8x⟩, ⟨u9, u9x⟩⟩, uD, uP, uB, uS, uI⟩ := hwO
  have uN := WF_nc hw
  have n6 := h.2.1.1
  have n15 := h.2.1.2.2.2.2.2.2.2.2.2
  intro m
  induction m with
  | zero =>
    intro k f hk hn
    obtain ⟨f, rfl⟩ : ∃ n', f = n' + 1 := ⟨f - 1, by omega⟩
    rw [ze_13_2]
    simp (disch := omega) only [n15, zo_add, zo_sub, zo_mul, zo_neg, zo_lt, zo_le, zo_eq, zo_nn, zin_ok, zlt_eq, zr0, zr1, zr3, zr4, zr0x, zr1x, zr3x, zr4x, zb_and, zb_0, zmin_o, zmax_o, zabs_o, zo_div, zo_mod, ↓reduceIte, Int.reduceToNat, Int.reduceNeg, Int.reduceAdd, Int.reduceMul, Int.reduceSub, Nat.reduceAdd, Nat.reduceMul]
    rw [if_pos (by omega)]; rfl
  | succ m ih =>
    intro k f hk hn
    obtain ⟨f, rfl⟩ : ∃ n', f = n' + 1 := ⟨f - 1, by omega⟩
    have gD := uP k (by omega)
    have g := cel_of (a := a) (c := a (30 + 2 * k)) (by omega) (by omega) (by omega)
    rw [ze_13_2]
    simp (disch := omega) only [n15, n6, c67t_0 h hw (b := k) (by omega), c67t_1 h hw (b := k) (by omega), g.2, zo_add, zo_sub, zo_mul, zo_neg, zo_lt, zo_le, zo_eq, zo_nn, zin_ok, zlt_eq, zr0, zr1, zr3, zr4, zr0x, zr1x, zr3x, zr4x, zb_and, zb_0, zmin_o, zmax_o, zabs_o, zo_div, zo_mod, ↓reduceIte, Int.reduceToNat, Int.reduceNeg, Int.reduceAdd, Int.reduceMul, Int.reduceSub, Nat.reduceAdd, Nat.reduceMul]
    rw [if_neg (by omega), zfst_succ]
    by_cases e : a (30 + 2 * k) = c
    · rw [if_pos e, if_pos (decide_eq_true e)]
    · rw [if_neg e, if_neg (by simp [e])]
      exact ih (k + 1) f (by omega) (by omega)
theorem c13 (h : Cb (S.1 0 n) a) (hw : WF T a) {c : Int} (g1 : -2147483648 ≤ c) (g2 : c < 2147483648) : zr_sem zF (d + 2) 13 [za 0 n 0, zi (zo c)] S = some (.inl (some (zi (zo (tpIn a c)))), S) := by
  rw [ze_13]
  have hb := zF1_big
  have u9 := hw.1.2.2.2.2.2.2.2.2.1
  exact c13_l h hw g1 g2 (a 8).toNat 0 _ (by omega) (by omega)
/-- an open drain is there that takes the boat -/
def wdr (a : Rw) (c : Int) (b : Nat) : Bool := if drIn a c = -1 then false else if a (10 + 4 * (drIn a c).toNat + 2) ≤ 0 then false else decide (a (40 + 10 * b + 1) ≤ a (10 + 4 * (drIn a c).toNat + 1))
theorem c11 (h : Cb (S.1 0 n) a) (hw : WF T a) {c : Int} (g1 : -2147483648 ≤ c) (g2 : c < 2147483648) {b : Nat} (hb : (b : Int) < a 9) : zr_sem zF (d + 3) 11 [za 0 n 0, zi (zo c), zi (zo b)] S = some (.inl (some (zi (zo (bI (wdr a c b))))), S) := by
  rw [ze_11]
  have hwO := hw; obtain ⟨⟨⟨u0, u0x⟩, ⟨u1, u1x⟩, ⟨u2, u2x⟩, ⟨u3, u3x⟩, ⟨u4, u4x⟩, ⟨u5, u5x⟩, ⟨u6, u6x, uT⟩, ⟨u7, u7x⟩, ⟨u8, u8x⟩, ⟨u9, u9x⟩⟩, uD, uP, uB, uS, uI⟩ := hwO
  have gB := uB b hb
  have o1 := drIn_ge a c
  have o2 := drIn_lt (a := a) c (by omega)
  simp (disch := omega) only [c12 h hw g1 g2, zo_add, zo_sub, zo_mul, zo_neg, zo_lt, zo_le, zo_eq, zo_nn, zin_ok, zlt_eq, zr0, zr1, zr3, zr4, zr0x, zr1x, zr3x, zr4x, zb_and, zb_0, zmin_o, zmax_o, zabs_o, zo_div, zo_mod, ↓reduceIte, Int.reduceToNat, Int.reduceNeg, Int.reduceAdd, Int.reduceMul, Int.reduceSub, Nat.reduceAdd, Nat.reduceMul]
  unfold wdr
  by_cases e : drIn a c = -1
  · rw [if_pos e, if_pos e]; rfl
  · rw [if_neg e, if_neg e]
    obtain ⟨j, hj⟩ : ∃ j : Nat, drIn a c = j := ⟨(drIn a c).toNat, by omega⟩
    rw [hj] at o1 o2 ⊢
    have gD := uD j o2
    simp (disch := omega) only [c67d_3 h hw o2, c67d_2 h hw o2, c67b_2 h hw hb, Int.toNat_natCast, zo_add, zo_sub, zo_mul, zo_neg, zo_lt, zo_le, zo_eq, zo_nn, zin_ok, zlt_eq, zr0, zr1, zr3, zr4, zr0x, zr1x, zr3x, zr4x, zb_and, zb_0, zmin_o, zmax_o, zabs_o, zo_div, zo_mod, ↓reduceIte, Int.reduceToNat, Int.reduceNeg, Int.reduceAdd, Int.reduceMul, Int.reduceSub, Nat.reduceAdd, Nat.reduceMul]
    by_cases e2 : a (10 + 4 * j + 2) ≤ 0
    · rw [if_pos e2, if_pos e2]; rfl
    · rw [if_neg e2, if_neg e2]
      by_cases e3 : a (40 + 10 * b + 1) ≤ a (10 + 4 * j + 1)
      · rw [if_neg (by omega), bI_dt e3]
      · rw [if_pos (by omega), bI_df e3]
theorem c14_l (h : Cb (S.1 0 n) a) (hw : WF T a) {c : Int} (g1 : -2147483648 ≤ c) (g2 : c < 2147483648) : ∀ (m k f : Nat), k + m = (a 9).toNat → m < f → zy zF (d + 1) 14 f 4 [some (za 0 n 0), some (zi (zo c)), some (zi (zo (zsum (fun k => if a (40 + 10 * k + 6) = c then 1 else 0) k))), some (zi (zo k))] S = some (.inl (some (zi (zo (cnt a c)))), S) := by
  have hwO := hw; obtain ⟨⟨⟨u0, u0x⟩, ⟨u1, u1x⟩, ⟨u2, u2x⟩, ⟨u3, u3x⟩, ⟨u4, u4x⟩, ⟨u5, u5x⟩, ⟨u6, u6x, uT⟩, ⟨u7, u7x⟩, ⟨u8, u8x⟩, ⟨u9, u9x⟩⟩, uD, uP, uB, uS, uI⟩ := hwO
  have n13 := h.2.1.2.2.2.2.2.2.2.1
  intro m
  induction m with
  | zero =>
    intro k f hk hn
    obtain ⟨f, rfl⟩ : ∃ n', f = n' + 1 := ⟨f - 1, by omega⟩
    rw [ze_14_4]
    simp (disch := omega) only [n13, zo_add, zo_sub, zo_mul, zo_neg, zo_lt, zo_le, zo_eq, zo_nn, zin_ok, zlt_eq, zr0, zr1, zr3, zr4, zr0x, zr1x, zr3x, zr4x, zb_and, zb_0, zmin_o, zmax_o, zabs_o, zo_div, zo_mod, ↓reduceIte, Int.reduceToNat, Int.reduceNeg, Int.reduceAdd, Int.reduceMul, Int.reduceSub, Nat.reduceAdd, Nat.reduceMul]
    rw [if_pos (by omega), show k = (a 9).toNat by omega]; rfl
  | succ m ih =>
    intro k f hk hn
    obtain ⟨f, rfl⟩ : ∃ n', f = n' + 1 := ⟨f - 1, by omega⟩
    have gB := uB k (by omega)
    have hi := ih (k + 1) f (by omega) (by omega)
    rw [show ((k + 1 : Nat) : Int) = (k : Int) + 1 from rfl] at hi
    unfold zsum at hi
    rw [ze_14_4]
    simp (disch := omega) only [n13, c67b_7 h hw (b := k) (by omega), zo_add, zo_sub, zo_mul, zo_neg, zo_lt, zo_le, zo_eq, zo_nn, zin_ok, zlt_eq, zr0, zr1, zr3, zr4, zr0x, zr1x, zr3x, zr4x, zb_and, zb_0, zmin_o, zmax_o, zabs_o, zo_div, zo_mod, ↓reduceIte, Int.reduceToNat, Int.reduceNeg, Int.reduceAdd, Int.reduceMul, Int.reduceSub, Nat.reduceAdd, Nat.reduceMul]
    rw [if_neg (by omega), ← hi]
    split
    · rfl
    · rw [Int.add_zero]
theorem c14 (h : Cb (S.1 0 n) a) (hw : WF T a) {c : Int} (g1 : -2147483648 ≤ c) (g2 : c < 2147483648) : zr_sem zF (d + 2) 14 [za 0 n 0, zi (zo c)] S = some (.inl (some (zi (zo (cnt a c)))), S) := by
  rw [ze_14]
  have hb := zF1_big
  have u9 := hw.1.2.2.2.2.2.2.2.2.2
  exact c14_l h hw g1 g2 (a 9).toNat 0 _ (by omega) (by omega)
theorem c15_l (h : Cb (S.1 0 n) a) (hw : WF T a) : ∀ (m k f : Nat), k + m = (a 7).toNat → m < f → zy zF (d + 2) 15 f 4 [some (za 0 n 0), some (zi (zo (zsum (fun k => if wks a k = true then 1 else 0) k))), some (zi (zo k))] S = some (.inl (some (zi (zo (wkn a)))), S) := by
  have hwO := hw; obtain ⟨⟨⟨u0, u0x⟩, ⟨u1, u1x⟩, ⟨u2, u2x⟩, ⟨u3, u3x⟩, ⟨u4, u4x⟩, ⟨u5, u5x⟩, ⟨u6, u6x, uT⟩, ⟨u7, u7x⟩, ⟨u8, u8x⟩, ⟨u9, u9x⟩⟩, uD, uP, uB, uS, uI⟩ := hwO
  have n14 := h.2.1.2.2.2.2.2.2.2.2.1
  intro m
  induction m with
  | zero =>
    intro k f hk hn
    obtain ⟨f, rfl⟩ : ∃ n', f = n' + 1 := ⟨f - 1, by omega⟩
    rw [ze_15_4]
    simp (disch := omega) only [n14, zo_add, zo_sub, zo_mul, zo_neg, zo_lt, zo_le, zo_eq, zo_nn, zin_ok, zlt_eq, zr0, zr1, zr3, zr4, zr0x, zr1x, zr3x, zr4x, zb_and, zb_0, zmin_o, zmax_o, zabs_o, zo_div, zo_mod, ↓reduceIte, Int.reduceToNat, Int.reduceNeg, Int.reduceAdd, Int.reduceMul, Int.reduceSub, Nat.reduceAdd, Nat.reduceMul]
    rw [if_pos (by omega), show k = (a 7).toNat by omega]; rfl
  | succ m ih =>
    intro k f hk hn
    obtain ⟨f, rfl⟩ : ∃ n', f = n' + 1 := ⟨f - 1, by omega⟩
    have hi := ih (k + 1) f (by omega) (by omega)
    rw [show ((k + 1 : Nat) : Int) = (k : Int) + 1 from rfl] at hi
    unfold zsum at hi
    rw [ze_15_4]
    simp (disch := omega) only [n14, c10 h hw (k := k) (by omega), zo_add, zo_sub, zo_mul, zo_neg, zo_lt, zo_le, zo_eq, zo_nn, zin_ok, zlt_eq, zr0, zr1, zr3, zr4, zr0x, zr1x, zr3x, zr4x, zb_and, zb_0, zmin_o, zmax_o, zabs_o, zo_div, zo_mod, ↓reduceIte, Int.reduceToNat, Int.reduceNeg, Int.reduceAdd, Int.reduceMul, Int.reduceSub, Nat.reduceAdd, Nat.reduceMul]
    rw [if_neg (by omega), ← hi]
    cases wks a k
    · show _ = zy zF (d + 2) 15 f 4 [_, some (zi (zo (_ + 0))), _] S
      rw [Int.add_zero]; rfl
    · rfl
theorem c15 (h : Cb (S.1 0 n) a) (hw : WF T a) : zr_sem zF (d + 3) 15 [za 0 n 0] S = some (.inl (some (zi (zo (wkn a)))), S) := by
  rw [ze_15]
  have hb := zF1_big
  have u9 := hw.1.2.2.2.2.2.2.2.1
  exact c15_l h hw (a 7).toNat 0 _ (by omega) (by omega)
theorem c16_l (h : Cb (S.1 0 n) a) (hw : WF T a) : ∀ (m k f : Nat), k + m = ncl a → m < f → zy zF (d + 1) 16 f 4 [some (za 0 n 0), some (zi (zo (zsum (fun k => a (160 + k)) k))), some (zi (zo k))] S = some (.inl (some (zi (zo (spm a)))), S) := by
  have uN := WF_nc hw
  unfold ncl
  have n6 := h.2.1.1
  have n7 := h.2.1.2.1
  intro m
  induction m with
  | zero =>
    intro k f hk hn
    obtain ⟨f, rfl⟩ : ∃ n', f = n' + 1 := ⟨f - 1, by omega⟩
    rw [ze_16_4]
    simp (disch := omega) only [n6, n7, zo_add, zo_sub, zo_mul, zo_neg, zo_lt, zo_le, zo_eq, zo_nn, zin_ok, zlt_eq, zr0, zr1, zr3, zr4, zr0x, zr1x, zr3x, zr4x, zb_and, zb_0, zmin_o, zmax_o, zabs_o, zo_div, zo_mod, ↓reduceIte, Int.reduceToNat, Int.reduceNeg, Int.reduceAdd, Int.reduceMul, Int.reduceSub, Nat.reduceAdd, Nat.reduceMul]
    rw [if_pos (by omega), show k = (a 0 * a 1).toNat by omega]; rfl
  | succ m ih =>
    intro k f hk hn
    obtain ⟨f, rfl⟩ : ∃ n', f = n' + 1 := ⟨f - 1, by omega⟩
    have hi := ih (k + 1) f (by omega) (by omega)
    rw [show ((k + 1 : Nat) : Int) = (k : Int) + 1 from rfl] at hi
    unfold zsum at hi
    rw [ze_16_4]
    simp (disch := omega) only [n6, n7, c63s h hw (c := k) (by omega), zo_add, zo_sub, zo_mul, zo_neg, zo_lt, zo_le, zo_eq, zo_nn, zin_ok, zlt_eq, zr0, zr1, zr3, zr4, zr0x, zr1x, zr3x, zr4x, zb_and, zb_0, zmin_o, zmax_o, zabs_o, zo_div, zo_mod, ↓reduceIte, Int.reduceToNat, Int.reduceNeg, Int.reduceAdd, Int.reduceMul, Int.reduceSub, Nat.reduceAdd, Nat.reduceMul]
    rw [if_neg (by omega)]
    unfold spC
    rw [if_neg (by omega), Int.toNat_natCast]
    exact hi
theorem c16 (h : Cb (S.1 0 n) a) (hw : WF T a) : zr_sem zF (d + 2) 16 [za 0 n 0] S = some (.inl (some (zi (zo (spm a)))), S) := by
  rw [ze_16]
  have hb := zF1_big
  have uN := WF_nc hw
  exact c16_l h hw (ncl a) 0 _ (by omega) (by unfold ncl; omega)
end CA

/-! THE PURE SIDE 2: answers; the model's small methods -/
theorem zr0 (S : zS) (hv : zS → Option zO) (hx : Nat → zS → Option zO) : zx_ret0 (some (.inl none, S)) hv hx = hv S := rfl
theorem zr1 (x : Int32) (S : zS) (hv : Int32 → zS → Option zO) (hx : Nat → zS → Option zO) : zx_ret1 (some (.inl (some (zi x)), S)) hv hx = hv x S := rfl
theorem zr3 (x : UInt32) (S : zS) (hv : UInt32 → zS → Option zO) (hx : Nat → zS → Option zO) : zx_ret3 (some (.inl (some (zf x)), S)) hv hx = hv x S := rfl
theorem zr4 (x : UInt64) (S : zS) (hv : UInt64 → zS → Option zO) (hx : Nat → zS → Option zO) : zx_ret4 (some (.inl (some (zd x)), S)) hv hx = hv x S := rfl
theorem zr0x (e : Nat) (S : zS) (hv : zS → Option zO) (hx : Nat → zS → Option zO) : zx_ret0 (some (.inr e, S)) hv hx = hx e S := rfl
theorem zr1x (e : Nat) (S : zS) (hv : Int32 → zS → Option zO) (hx : Nat → zS → Option zO) : zx_ret1 (some (.inr e, S)) hv hx = hx e S := rfl
theorem zr3x (e : Nat) (S : zS) (hv : UInt32 → zS → Option zO) (hx : Nat → zS → Option zO) : zx_ret3 (some (.inr e, S)) hv hx = hx e S := rfl
theorem zr4x (e : Nat) (S : zS) (hv : UInt64 → zS → Option zO) (hx : Nat → zS → Option zO) : zx_ret4 (some (.inr e, S)) hv hx = hx e S := rfl
theorem zmod_e (c b : Int) : c - c / b * b = c % b := by
  have := Int.emod_add_mul_ediv c b
  rw [Int.mul_comm (c / b) b]
  omega
theorem zF1_big : 100000000000 < zF1 := by decide
/-- a truth as a number -/
def bI (b : Bool) : Int := if b = true then 1 else 0
theorem zb_and (b : Bool) : (zo (bI b) &&& 1 = zo (bI b)) = True := by cases b <;> exact eq_true rfl
theorem zb_0 (b : Bool) : (zo (bI b) = zo 0) = (b = false) := by cases b <;> simp [bI] <;> decide
theorem bI_t : bI true = 1 := rfl
theorem bI_f : bI false = 0 := rfl
theorem bI_dt {p : Prop} {i : Decidable p} (h : p) : bI (@decide p i) = 1 := by simp [bI, h]
theorem bI_df {p : Prop} {i : Decidable p} (h : ¬p) : bI (@decide p i) = 0 := by simp [bI, h]
theorem WF_nc {T : Int} {a : Rw} (hw : WF T a) : 9 ≤ a 0 * a 1 ∧ a 0 * a 1 ≤ 100 := by
  have hwO := hw; obtain ⟨⟨⟨u0, u0x⟩, ⟨u1, u1x⟩, ⟨u2, u2x⟩, ⟨u3, u3x⟩, ⟨u4, u4x⟩, ⟨u5, u5x⟩, ⟨u6, u6x, uT⟩, ⟨u7, u7x⟩, ⟨u8, u8x⟩, ⟨u9, u9x⟩⟩, uD, uP, uB, uS, uI⟩ := hwO
  have h1 : 3 * 3 ≤ a 0 * a 1 := Int.mul_le_mul u0 u1 (by omega) (by omega)
  have h2 : a 0 * a 1 ≤ 10 * 10 := Int.mul_le_mul u0x u1x (by omega) (by omega)
  omega
theorem m_ix {S : zS} {q : Nat} {a : Rw} (h : Md S q a) {i : Int} {j : Nat} (hi : i = j) (hj : j < 260) : S.1 2 q 0 i.toNat = zo (a j) := by
  rw [hi]; exact h.2.2 j hj
/-- a place of the row is written -/
theorem Md_set {S : zS} {q : Nat} {a : Rw} (h : Md S q a) (j : Nat) (v : Int) : Md (zs_set S 2 q 0 j (zo v)) q (up a j v) := by
  refine ⟨h.1, h.2.1, fun i hi => ?_⟩
  rw [zs_at]
  unfold up
  by_cases e : i = j
  · rw [if_pos ⟨rfl, rfl, rfl, e⟩, if_pos e]
  · rw [if_neg (fun h => e h.2.2.2), if_neg e]; exact h.2.2 i hi
section MA
variable {S : zS} {q d : Nat} {a : Rw} {T : Int}
theorem m145 : zr_sem zF (d + 1) 145 [za 3 0 0] S = some (.inl (some (zi (S.1 3 0 0 10))), S) := ze_145
theorem m147 {x y z : Int} (h1 : -2147483648 ≤ x) (h2 : x < 2147483648) (h3 : -2147483648 ≤ y) (h4 : y < 2147483648) (h5 : -2147483648 ≤ z) (h6 : z < 2147483648) : zr_sem zF (d + 1) 147 [zi (zo x), zi (zo y), zi (zo z)] S = some (.inl (some (zi (zo (bI (decide (y ≤ x ∧ x ≤ z)))))), S) := by
  rw [ze_147]
  simp (disch := omega) only [zo_add, zo_sub, zo_mul, zo_neg, zo_lt, zo_le, zo_eq, zo_nn, zin_ok, zlt_eq, zr0, zr1, zr3, zr4, zr0x, zr1x, zr3x, zr4x, zb_and, zb_0, zmin_o, zmax_o, zabs_o, zo_div, zo_mod, ↓reduceIte, Int.reduceToNat, Int.reduceNeg, Int.reduceAdd, Int.reduceMul, Int.reduceSub, Nat.reduceAdd, Nat.reduceMul]
  split
  · rw [bI_df (by omega)]
  · split
    · rw [bI_df (by omega)]
    · rw [bI_dt (by omega)]
theorem m148 {b : Bool} : zr_sem zF (d + 1) 148 [za 3 0 0, zi (zo (bI b))] S = some (.inl (some (zi (zo (bI !b)))), zs_set S 3 0 0 10 (zo (bI !b))) := by
  rw [ze_148]
  cases b <;> rfl
theorem m149 {x y : Int} (h1 : -2147483648 ≤ x) (h2 : x < 2147483648) (h3 : 0 ≤ y) (h4 : y < 2147483648) : zr_sem zF (d + 1) 149 [zi (zo x), zi (zo y)] S = some (.inl (some (zi (zo (if y < x then y else if x < -y then -y else x)))), S) := by
  rw [ze_149]
  simp (disch := omega) only [zo_add, zo_sub, zo_mul, zo_neg, zo_lt, zo_le, zo_eq, zo_nn, zin_ok, zlt_eq, zr0, zr1, zr3, zr4, zr0x, zr1x, zr3x, zr4x, zb_and, zb_0, zmin_o, zmax_o, zabs_o, zo_div, zo_mod, ↓reduceIte, Int.reduceToNat, Int.reduceNeg, Int.reduceAdd, Int.reduceMul, Int.reduceSub, Nat.reduceAdd, Nat.reduceMul]
  by_cases c1 : x ≤ y
  · by_cases c2 : -y ≤ x
    · rw [if_pos c1, if_pos c2, if_neg (by omega), if_neg (by omega)]
    · rw [if_pos c1, if_neg c2, if_neg (by omega), if_pos (by omega)]
  · rw [if_neg c1, if_pos (by omega)]
theorem m150 {x : Int} (h1 : -2147483648 < x) (h2 : x < 2147483648) : zr_sem zF (d + 1) 150 [zi (zo x)] S = some (.inl (some (zi (zo (iab x)))), S) := by
  rw [ze_150]
  simp (disch := omega) only [zo_add, zo_sub, zo_mul, zo_neg, zo_lt, zo_le, zo_eq, zo_nn, zin_ok, zlt_eq, zr0, zr1, zr3, zr4, zr0x, zr1x, zr3x, zr4x, zb_and, zb_0, zmin_o, zmax_o, zabs_o, zo_div, zo_mod, ↓reduceIte, Int.reduceToNat, Int.reduceNeg, Int.reduceAdd, Int.reduceMul, Int.reduceSub, Nat.reduceAdd, Nat.reduceMul]
  unfold iab
  split
  · rfl
  · rw [show -x = 0 - x by omega]
theorem m152 (h : Md S q a) : zr_sem zF (d + 1) 152 [za 3 0 0] S = some (.inl (some (zi (zo (a 0 * a 1)))), S) := by
  rw [ze_152]
  have hO := h; obtain ⟨h1, hq, h2⟩ := hO
  simp (disch := omega) only [h1, hq, h2, zo_add, zo_sub, zo_mul, zo_neg, zo_lt, zo_le, zo_eq, zo_nn, zin_ok, zlt_eq, zr0, zr1, zr3, zr4, zr0x, zr1x, zr3x, zr4x, zb_and, zb_0, zmin_o, zmax_o, zabs_o, zo_div, zo_mod, ↓reduceIte, Int.reduceToNat, Int.reduceNeg, Int.reduceAdd, Int.reduceMul, Int.reduceSub, Nat.reduceAdd, Nat.reduceMul]
theorem m154 (h : Md S q a) {x y : Int} : zr_sem zF (d + 1) 154 [za 3 0 0, zi (zo x), zi (zo y)] S = some (.inl (some (zi (zo (a 0 * y + x)))), S) := by
  rw [ze_154]
  have hO := h; obtain ⟨h1, hq, h2⟩ := hO
  simp (disch := omega) only [h1, hq, h2, zo_add, zo_sub, zo_mul, zo_neg, zo_lt, zo_le, zo_eq, zo_nn, zin_ok, zlt_eq, zr0, zr1, zr3, zr4, zr0x, zr1x, zr3x, zr4x, zb_and, zb_0, zmin_o, zmax_o, zabs_o, zo_div, zo_mod, ↓reduceIte, Int.reduceToNat, Int.reduceNeg, Int.reduceAdd, Int.reduceMul, Int.reduceSub, Nat.reduceAdd, Nat.reduceMul]
theorem m153 (h : Md S q a) (hw : WF T a) {x y : Int} (g1 : -2147483648 ≤ x) (g2 : x < 2147483648) (g3 : -2147483648 ≤ y) (g4 : y < 2147483648) : zr_sem zF (d + 2) 153 [za 3 0 0, zi (zo x), zi (zo y)] S = some (.inl (some (zi (zo (bI (decide ((0 ≤ x ∧ x < a 0) ∧ (0 ≤ y ∧ y < a 1))))))), S) := by
  rw [ze_153]
  have hO := h; obtain ⟨h1, hq, h2⟩ := hO
  have hwO := hw; obtain ⟨⟨⟨u0, u0x⟩, ⟨u1, u1x⟩, ⟨u2, u2x⟩, ⟨u3, u3x⟩, ⟨u4, u4x⟩, ⟨u5, u5x⟩, ⟨u6, u6x, uT⟩, ⟨u7, u7x⟩, ⟨u8, u8x⟩, ⟨u9, u9x⟩⟩, uD, uP, uB, uS, uI⟩ := hwO
  simp (disch := omega) only [h1, hq, h2, m147, zo_add, zo_sub, zo_mul, zo_neg, zo_lt, zo_le, zo_eq, zo_nn, zin_ok, zlt_eq, zr0, zr1, zr3, zr4, zr0x, zr1x, zr3x, zr4x, zb_and, zb_0, zmin_o, zmax_o, zabs_o, zo_div, zo_mod, ↓reduceIte, Int.reduceToNat, Int.reduceNeg, Int.reduceAdd, Int.reduceMul, Int.reduceSub, Nat.reduceAdd, Nat.reduceMul]
  by_cases c : 0 ≤ x ∧ x < a 0
  · by_cases e : 0 ≤ y ∧ y < a 1
    · rw [if_neg (by simp; omega), if_neg (by simp; omega), bI_dt ⟨c, e⟩]
    · rw [if_neg (by simp; omega), if_pos (by simp; omega), bI_df (fun h => e h.2)]
  · rw [if_pos (by simp; omega), bI_df (fun h => c h.1)]
theorem m155 (h : Md S q a) (hw : WF T a) {c : Int} (g1 : 0 ≤ c) (g2 : c < 2147483648) : zr_sem zF (d + 1) 155 [za 3 0 0, zi (zo c)] S = some (.inl (some (zi (zo (c % a 0)))), S) := by
  rw [ze_155]
  have hO := h; obtain ⟨h1, hq, h2⟩ := hO
  have hwO := hw; obtain ⟨⟨⟨u0, u0x⟩, ⟨u1, u1x⟩, ⟨u2, u2x⟩, ⟨u3, u3x⟩, ⟨u4, u4x⟩, ⟨u5, u5x⟩, ⟨u6, u6x, uT⟩, ⟨u7, u7x⟩, ⟨u8, u8x⟩, ⟨u9, u9x⟩⟩, uD, uP, uB, uS, uI⟩ := hwO
  simp (disch := omega) only [h1, hq, h2, zo_add, zo_sub, zo_mul, zo_neg, zo_lt, zo_le, zo_eq, zo_nn, zin_ok, zlt_eq, zr0, zr1, zr3, zr4, zr0x, zr1x, zr3x, zr4x, zb_and, zb_0, zmin_o, zmax_o, zabs_o, zo_div, zo_mod, ↓reduceIte, Int.reduceToNat, Int.reduceNeg, Int.reduceAdd, Int.reduceMul, Int.reduceSub, Nat.reduceAdd, Nat.reduceMul]
  rw [if_neg (by omega), zmod_e]
theorem m156 (h : Md S q a) (hw : WF T a) {c : Int} (g1 : 0 ≤ c) (g2 : c < 2147483648) : zr_sem zF (d + 1) 156 [za 3 0 0, zi (zo c)] S = some (.inl (some (zi (zo (c / a 0)))), S) := by
  rw [ze_156]
  have hO := h; obtain ⟨h1, hq, h2⟩ := hO
  have hwO := hw; obtain ⟨⟨⟨u0, u0x⟩, ⟨u1, u1x⟩, ⟨u2, u2x⟩, ⟨u3, u3x⟩, ⟨u4, u4x⟩, ⟨u5, u5x⟩, ⟨u6, u6x, uT⟩, ⟨u7, u7x⟩, ⟨u8, u8x⟩, ⟨u9, u9x⟩⟩, uD, uP, uB, uS, uI⟩ := hwO
  simp (disch := omega) only [h1, hq, h2, zo_add, zo_sub, zo_mul, zo_neg, zo_lt, zo_le, zo_eq, zo_nn, zin_ok, zlt_eq, zr0, zr1, zr3, zr4, zr0x, zr1x, zr3x, zr4x, zb_and, zb_0, zmin_o, zmax_o, zabs_o, zo_div, zo_mod, ↓reduceIte, Int.reduceToNat, Int.reduceNeg, Int.reduceAdd, Int.reduceMul, Int.reduceSub, Nat.reduceAdd, Nat.reduceMul]
  rw [if_neg (by omega)]
theorem m157 (h : Md S q a) (hw : WF T a) {x : Int} (g1 : -2147483648 ≤ x) (g2 : x < 2147483648) : zr_sem zF (d + 2) 157 [za 3 0 0, zi (zo x)] S = some (.inl (some (zi (zo (bI (decide (0 ≤ x ∧ x ≤ a 9 - 1)))))), S) := by
  rw [ze_157]
  have hO := h; obtain ⟨h1, hq, h2⟩ := hO
  have hwO := hw; obtain ⟨⟨⟨u0, u0x⟩, ⟨u1, u1x⟩, ⟨u2, u2x⟩, ⟨u3, u3x⟩, ⟨u4, u4x⟩, ⟨u5, u5x⟩, ⟨u6, u6x, uT⟩, ⟨u7, u7x⟩, ⟨u8, u8x⟩, ⟨u9, u9x⟩⟩, uD, uP, uB, uS, uI⟩ := hwO
  simp (disch := omega) only [h1, hq, h2, m147, zo_add, zo_sub, zo_mul, zo_neg, zo_lt, zo_le, zo_eq, zo_nn, zin_ok, zlt_eq, zr0, zr1, zr3, zr4, zr0x, zr1x, zr3x, zr4x, zb_and, zb_0, zmin_o, zmax_o, zabs_o, zo_div, zo_mod, ↓reduceIte, Int.reduceToNat, Int.reduceNeg, Int.reduceAdd, Int.reduceMul, Int.reduceSub, Nat.reduceAdd, Nat.reduceMul]
theorem m158 (h : Md S q a) (hw : WF T a) {x : Int} (g1 : -2147483648 ≤ x) (g2 : x < 2147483648) : zr_sem zF (d + 2) 158 [za 3 0 0, zi (zo x)] S = some (.inl (some (zi (zo (bI (decide (0 ≤ x ∧ x ≤ a 7 - 1)))))), S) := by
  rw [ze_158]
  have hO := h; obtain ⟨h1, hq, h2⟩ := hO
  have hwO := hw; obtain ⟨⟨⟨u0, u0x⟩, ⟨u1, u1x⟩, ⟨u2, u2x⟩, ⟨u3, u3x⟩, ⟨u4, u4x⟩, ⟨u5, u5x⟩, ⟨u6, u6x, uT⟩, ⟨u7, u7x⟩, ⟨u8, u8x⟩, ⟨u9, u9x⟩⟩, uD, uP, uB, uS, uI⟩ := hwO
  simp (disch := omega) only [h1, hq, h2, m147, zo_add, zo_sub, zo_mul, zo_neg, zo_lt, zo_le, zo_eq, zo_nn, zin_ok, zlt_eq, zr0, zr1, zr3, zr4, zr0x, zr1x, zr3x, zr4x, zb_and, zb_0, zmin_o, zmax_o, zabs_o, zo_div, zo_mod, ↓reduceIte, Int.reduceToNat, Int.reduceNeg, Int.reduceAdd, Int.reduceMul, Int.reduceSub, Nat.reduceAdd, Nat.reduceMul]
theorem m159 (h : Md S q a) (hw : WF T a) {x : Int} (g1 : -2147483648 ≤ x) (g2 : x < 2147483648) : zr_sem zF (d + 2) 159 [za 3 0 0, zi (zo x)] S = some (.inl (some (zi (zo (bI (decide (0 ≤ x ∧ x ≤ a 8 - 1)))))), S) := by
  rw [ze_159]
  have hO := h; obtain ⟨h1, hq, h2⟩ := hO
  have hwO := hw; obtain ⟨⟨⟨u0, u0x⟩, ⟨u1, u1x⟩, ⟨u2, u2x⟩, ⟨u3, u3x⟩, ⟨u4, u4x⟩, ⟨u5, u5x⟩, ⟨u6, u6x, uT⟩, ⟨u7, u7x⟩, ⟨u8, u8x⟩, ⟨u9, u9x⟩⟩, uD, uP, uB, uS, uI⟩ := hwO
  simp (disch := omega) only [h1, hq, h2, m147, zo_add, zo_sub, zo_mul, zo_neg, zo_lt, zo_le, zo_eq, zo_nn, zin_ok, zlt_eq, zr0, zr1, zr3, zr4, zr0x, zr1x, zr3x, zr4x, zb_and, zb_0, zmin_o, zmax_o, zabs_o, zo_div, zo_mod, ↓reduceIte, Int.reduceToNat, Int.reduceNeg, Int.reduceAdd, Int.reduceMul, Int.reduceSub, Nat.reduceAdd, Nat.reduceMul]
theorem m160_0 (h : Md S q a) {b : Nat} (hb : b < 12) : zr_sem zF (d + 1) 160 [za 3 0 0, zi (zo b), zi (zo 0)] S = some (.inl (some (zi (zo (a (40 + 10 * b))))), S) := by
  rw [ze_160]
  have h2 := m_ix h (i := 40 + 10 * (b : Int) + 0) (j := 40 + 10 * b) (by omega) (by omega)
  obtain ⟨h1, hq, -⟩ := h
  simp (disch := omega) only [h1, hq, h2, zo_add, zo_sub, zo_mul, zo_neg, zo_lt, zo_le, zo_eq, zo_nn, zin_ok, zlt_eq, zr0, zr1, zr3, zr4, zr0x, zr1x, zr3x, zr4x, zb_and, zb_0, zmin_o, zmax_o, zabs_o, zo_div, zo_mod, ↓reduceIte, Int.reduceToNat, Int.reduceNeg, Int.reduceAdd, Int.reduceMul, Int.reduceSub, Nat.reduceAdd, Nat.reduceMul]
theorem m161_0 (h : Md S q a) {b : Nat} (hb : b < 12) {v : Int32} : zr_sem zF (d + 1) 161 [za 3 0 0, zi (zo b), zi (zo 0), zi v] S = some (.inl none, zs_set S 2 q 0 (40 + 10 * b) v) := by
  rw [ze_161]
  have e : (40 + 10 * (b : Int) + 0).toNat = 40 + 10 * b := by omega
  obtain ⟨h1, hq, -⟩ := h
  simp (disch := omega) only [h1, hq, e, zo_add, zo_sub, zo_mul, zo_neg, zo_lt, zo_le, zo_eq, zo_nn, zin_ok, zlt_eq, zr0, zr1, zr3, zr4, zr0x, zr1x, zr3x, zr4x, zb_and, zb_0, zmin_o, zmax_o, zabs_o, zo_div, zo_mod, ↓reduceIte, Int.reduceToNat, Int.reduceNeg, Int.reduceAdd, Int.reduceMul, Int.reduceSub, Nat.reduceAdd, Nat.reduceMul]
theorem m160_1 (h : Md S q a) {b : Nat} (hb : b < 12) : zr_sem zF (d + 1) 160 [za 3 0 0, zi (zo b), zi (zo 1)] S = some (.inl (some (zi (zo (a (40 + 10 * b + 1))))), S) := by
  rw [ze_160]
  have h2 := m_ix h (i := 40 + 10 * (b : Int) + 1) (j := 40 + 10 * b + 1) (by omega) (by omega)
  obtain ⟨h1, hq, -⟩ := h
  simp (disch := omega) only [h1, hq, h2, zo_add, zo_sub, zo_mul, zo_neg, zo_lt, zo_le, zo_eq, zo_nn, zin_ok, zlt_eq, zr0, zr1, zr3, zr4, zr0x, zr1x, zr3x, zr4x, zb_and, zb_0, zmin_o, zmax_o, zabs_o, zo_div, zo_mod, ↓reduceIte, Int.reduceToNat, Int.reduceNeg, Int.reduceAdd, Int.reduceMul, Int.reduceSub, Nat.reduceAdd, Nat.reduceMul]
theorem m161_1 (h : Md S q a) {b : Nat} (hb : b < 12) {v : Int32} : zr_sem zF (d + 1) 161 [za 3 0 0, zi (zo b), zi (zo 1), zi v] S = some (.inl none, zs_set S 2 q 0 (40 + 10 * b + 1) v) := by
  rw [ze_161]
  have e : (40 + 10 * (b : Int) + 1).toNat = 40 + 10 * b + 1 := by omega
  obtain ⟨h1, hq, -⟩ := h
  simp (disch := omega) only [h1, hq, e, zo_add, zo_sub, zo_mul, zo_neg, zo_lt, zo_le, zo_eq, zo_nn, zin_ok, zlt_eq, zr0, zr1, zr3, zr4, zr0x, zr1x, zr3x, zr4x, zb_and, zb_0, zmin_o, zmax_o, zabs_o, zo_div, zo_mod, ↓reduceIte, Int.reduceToNat, Int.reduceNeg, Int.reduceAdd, Int.reduceMul, Int.reduceSub, Nat.reduceAdd, Nat.reduceMul]
theorem m160_2 (h : Md S q a) {b : Nat} (hb : b < 12) : zr_sem zF (d + 1) 160 [za 3 0 0, zi (zo b), zi (zo 2)] S = some (.inl (some (zi (zo (a (40 + 10 * b + 2))))), S) := by
  rw [ze_160]
  have h2 := m_ix h (i := 40 + 10 * (b : Int) + 2) (j := 40 + 10 * b + 2) (by omega) (by omega)
  obtain ⟨h1, hq, -⟩ := h
  simp (disch := omega) only [h1, hq, h2, zo_add, zo_sub, zo_mul, zo_neg, zo_lt, zo_le, zo_eq, zo_nn, zin_ok, zlt_eq, zr0, zr1, zr3, zr4, zr0x, zr1x, zr3x, zr4x, zb_and, zb_0, zmin_o, zmax_o, zabs_o, zo_div, zo_mod, ↓reduceIte, Int.reduceToNat, Int.reduceNeg, Int.reduceAdd, Int.reduceMul, Int.reduceSub, Nat.reduceAdd, Nat.reduceMul]
theorem m161_2 (h : Md S q a) {b : Nat} (hb : b < 12) {v : Int32} : zr_sem zF (d + 1) 161 [za 3 0 0, zi (zo b), zi (zo 2), zi v] S = some (.inl none, zs_set S 2 q 0 (40 + 10 * b + 2) v) := by
  rw [ze_161]
  have e : (40 + 10 * (b : Int) + 2).toNat = 40 + 10 * b + 2 := by omega
  obtain ⟨h1, hq, -⟩ := h
  simp (disch := omega) only [h1, hq, e, zo_add, zo_sub, zo_mul, zo_neg, zo_lt, zo_le, zo_eq, zo_nn, zin_ok, zlt_eq, zr0, zr1, zr3, zr4, zr0x, zr1x, zr3x, zr4x, zb_and, zb_0, zmin_o, zmax_o, zabs_o, zo_div, zo_mod, ↓reduceIte, Int.reduceToNat, Int.reduceNeg, Int.reduceAdd, Int.reduceMul, Int.reduceSub, Nat.reduceAdd, Nat.reduceMul]
theorem m160_3 (h : Md S q a) {b : Nat} (hb : b < 12) : zr_sem zF (d + 1) 160 [za 3 0 0, zi (zo b), zi (zo 3)] S = some (.inl (some (zi (zo (a (40 + 10 * b + 3))))), S) := by
  rw [ze_160]
  have h2 := m_ix h (i := 40 + 10 * (b : Int) + 3) (j := 40 + 10 * b + 3) (by omega) (by omega)
  obtain ⟨h1, hq, -⟩ := h
  simp (disch := omega) only [h1, hq, h2, zo_add, zo_sub, zo_mul, zo_neg, zo_lt, zo_le, zo_eq, zo_nn, zin_ok, zlt_eq, zr0, zr1, zr3, zr4, zr0x, zr1x, zr3x, zr4x, zb_and, zb_0, zmin_o, zmax_o, zabs_o, zo_div, zo_mod, ↓reduceIte, Int.reduceToNat, Int.reduceNeg, Int.reduceAdd, Int.reduceMul, Int.reduceSub, Nat.reduceAdd, Nat.reduceMul]
theorem m161_3 (h : Md S q a) {b : Nat} (hb : b < 12) {v : Int32} : zr_sem zF (d + 1) 161 [za 3 0 0, zi (zo b), zi (zo 3), zi v] S = some (.inl none, zs_set S 2 q 0 (40 + 10 * b + 3) v) := by
  rw [ze_161]
  have e : (40 + 10 * (b : Int) + 3).toNat = 40 + 10 * b + 3 := by omega
  obtain ⟨h1, hq, -⟩ := h
  simp (disch := omega) only [h1, hq, e, zo_add, zo_sub, zo_mul, zo_neg, zo_lt, zo_le, zo_eq, zo_nn, zin_ok, zlt_eq, zr0, zr1, zr3, zr4, zr0x, zr1x, zr3x, zr4x, zb_and, zb_0, zmin_o, zmax_o, zabs_o, zo_div, zo_mod, ↓reduceIte, Int.reduceToNat, Int.reduceNeg, Int.reduceAdd, Int.reduceMul, Int.reduceSub, Nat.reduceAdd, Nat.reduceMul]
theorem m160_4 (h : Md S q a) {b : Nat} (hb : b < 12) : zr_sem zF (d + 1) 160 [za 3 0 0, zi (zo b), zi (zo 4)] S = some (.inl (some (zi (zo (a (40 + 10 * b + 4))))), S) := by
  rw [ze_160]
  have h2 := m_ix h (i := 40 + 10 * (b : Int) + 4) (j := 40 + 10 * b + 4) (by omega) (by omega)
  obtain ⟨h1, hq, -⟩ := h
  simp (disch := omega) only [h1, hq, h2, zo_add, zo_sub, zo_mul, zo_neg, zo_lt, zo_le, zo_eq, zo_nn, zin_ok, zlt_eq, zr0, zr1, zr3, zr4, zr0x, zr1x, zr3x, zr4x, zb_and, zb_0, zmin_o, zmax_o, zabs_o, zo_div, zo_mod, ↓reduceIte, Int.reduceToNat, Int.reduceNeg, Int.reduceAdd, Int.reduceMul, Int.reduceSub, Nat.reduceAdd, Nat.reduceMul]
theorem m161_4 (h : Md S q a) {b : Nat} (hb : b < 12) {v : Int32} : zr_sem zF (d + 1) 161 [za 3 0 0, zi (zo b), zi (zo 4), zi v] S = some (.inl none, zs_set S 2 q 0 (40 + 10 * b + 4) v) := by
  rw [ze_161]
  have e : (40 + 10 * (b : Int) + 4).toNat = 40 + 10 * b + 4 := by omega
  obtain ⟨h1, hq, -⟩ := h
  simp (disch := omega) only [h1, hq, e, zo_add, zo_sub, zo_mul, zo_neg, zo_lt, zo_le, zo_eq, zo_nn, zin_ok, zlt_eq, zr0, zr1, zr3, zr4, zr0x, zr1x, zr3x, zr4x, zb_and, zb_0, zmin_o, zmax_o, zabs_o, zo_div, zo_mod, ↓reduceIte, Int.reduceToNat, Int.reduceNeg, Int.reduceAdd, Int.reduceMul, Int.reduceSub, Nat.reduceAdd, Nat.reduceMul]
theorem m160_5 (h : Md S q a) {b : Nat} (hb : b < 12) : zr_sem zF (d + 1) 160 [za 3 0 0, zi (zo b), zi (zo 5)] S = some (.inl (some (zi (zo (a (40 + 10 * b + 5))))), S) := by
  rw [ze_160]
  have h2 := m_ix h (i := 40 + 10 * (b : Int) + 5) (j := 40 + 10 * b + 5) (by omega) (by omega)
  obtain ⟨h1, hq, -⟩ := h
  simp (disch := omega) only [h1, hq, h2, zo_add, zo_sub, zo_mul, zo_neg, zo_lt, zo_le, zo_eq, zo_nn, zin_ok, zlt_eq, zr0, zr1, zr3, zr4, zr0x, zr1x, zr3x, zr4x, zb_and, zb_0, zmin_o, zmax_o, zabs_o, zo_div, zo_mod, ↓reduceIte, Int.reduceToNat, Int.reduceNeg, Int.reduceAdd, Int.reduceMul, Int.reduceSub, Nat.reduceAdd, Nat.reduceMul]
theorem m161_5 (h : Md S q a) {b : Nat} (hb : b < 12) {v : Int32} : zr_sem zF (d + 1) 161 [za 3 0 0, zi (zo b), zi (zo 5), zi v] S = some (.inl none, zs_set S 2 q 0 (40 + 10 * b + 5) v) := by
  rw [ze_161]
  have e : (40 + 10 * (b : Int) + 5).toNat = 40 + 10 * b + 5 := by omega
  obtain ⟨h1, hq, -⟩ := h
  simp (disch := omega) only [h1, hq, e, zo_add, zo_sub, zo_mul, zo_neg, zo_lt, zo_le, zo_eq, zo_nn, zin_ok, zlt_eq, zr0, zr1, zr3, zr4, zr0x, zr1x, zr3x, zr4x, zb_and, zb_0, zmin_o, zmax_o, zabs_o, zo_div, zo_mod, ↓reduceIte, Int.reduceToNat, Int.reduceNeg, Int.reduceAdd, Int.reduceMul, Int.reduceSub, Nat.reduceAdd, Nat.reduceMul]
theorem m160_6 (h : Md S q a) {b : Nat} (hb : b < 12) : zr_sem zF (d + 1) 160 [za 3 0 0, zi (zo b), zi (zo 6)] S = some (.inl (some (zi (zo (a (40 + 10 * b + 6))))), S) := by
  rw [ze_160]
  have h2 := m_ix h (i := 40 + 10 * (b : Int) + 6) (j := 40 + 10 * b + 6) (by omega) (by omega)
  obtain ⟨h1, hq, -⟩ := h
  simp (disch := omega) only [h1, hq, h2, zo_add, zo_sub, zo_mul, zo_neg, zo_lt, zo_le, zo_eq, zo_nn, zin_ok, zlt_eq, zr0, zr1, zr3, zr4, zr0x, zr1x, zr3x, zr4x, zb_and, zb_0, zmin_o, zmax_o, zabs_o, zo_div, zo_mod, ↓reduceIte, Int.reduceToNat, Int.reduceNeg, Int.reduceAdd, Int.reduceMul, Int.reduceSub, Nat.reduceAdd, Nat.reduceMul]
theorem m161_6 (h : Md S q a) {b : Nat} (hb : b < 12) {v : Int32} : zr_sem zF (d + 1) 161 [za 3 0 0, zi (zo b), zi (zo 6), zi v] S = some (.inl none, zs_set S 2 q 0 (40 + 10 * b + 6) v) := by
  rw [ze_161]
  have e : (40 + 10 * (b : Int) + 6).toNat = 40 + 10 * b + 6 := by omega
  obtain ⟨h1, hq, -⟩ := h
  simp (disch := omega) only [h1, hq, e, zo_add, zo_sub, zo_mul, zo_neg, zo_lt, zo_le, zo_eq, zo_nn, zin_ok, zlt_eq, zr0, zr1, zr3, zr4, zr0x, zr1x, zr3x, zr4x, zb_and, zb_0, zmin_o, zmax_o, zabs_o, zo_div, zo_mod, ↓reduceIte, Int.reduceToNat, Int.reduceNeg, Int.reduceAdd, Int.reduceMul, Int.reduceSub, Nat.reduceAdd, Nat.reduceMul]
theorem m160_7 (h : Md S q a) {b : Nat} (hb : b < 12) : zr_sem zF (d + 1) 160 [za 3 0 0, zi (zo b), zi (zo 7)] S = some (.inl (some (zi (zo (a (40 + 10 * b + 7))))), S) := by
  rw [ze_160]
  have h2 := m_ix h (i := 40 + 10 * (b : Int) + 7) (j := 40 + 10 * b + 7) (by omega) (by omega)
  obtain ⟨h1, hq, -⟩ := h
  simp (disch := omega) only [h1, hq, h2, zo_add, zo_sub, zo_mul, zo_neg, zo_lt, zo_le, zo_eq, zo_nn, zin_ok, zlt_eq, zr0, zr1, zr3, zr4, zr0x, zr1x, zr3x, zr4x, zb_and, zb_0, zmin_o, zmax_o, zabs_o, zo_div, zo_mod, ↓reduceIte, Int.reduceToNat, Int.reduceNeg, Int.reduceAdd, Int.reduceMul, Int.reduceSub, Nat.reduceAdd, Nat.reduceMul]
theorem m161_7 (h : Md S q a) {b : Nat} (hb : b < 12) {v : Int32} : zr_sem zF (d + 1) 161 [za 3 0 0, zi (zo b), zi (zo 7), zi v] S = some (.inl none, zs_set S 2 q 0 (40 + 10 * b + 7) v) := by
  rw [ze_161]
  have e : (40 + 10 * (b : Int) + 7).toNat = 40 + 10 * b + 7 := by omega
  obtain ⟨h1, hq, -⟩ := h
  simp (disch := omega) only [h1, hq, e, zo_add, zo_sub, zo_mul, zo_neg, zo_lt, zo_le, zo_eq, zo_nn, zin_ok, zlt_eq, zr0, zr1, zr3, zr4, zr0x, zr1x, zr3x, zr4x, zb_and, zb_0, zmin_o, zmax_o, zabs_o, zo_div, zo_mod, ↓reduceIte, Int.reduceToNat, Int.reduceNeg, Int.reduceAdd, Int.reduceMul, Int.reduceSub, Nat.reduceAdd, Nat.reduceMul]
theorem m160_8 (h : Md S q a) {b : Nat} (hb : b < 12) : zr_sem zF (d + 1) 160 [za 3 0 0, zi (zo b), zi (zo 8)] S = some (.inl (some (zi (zo (a (40 + 10 * b + 8))))), S) := by
  rw [ze_160]
  have h2 := m_ix h (i := 40 + 10 * (b : Int) + 8) (j := 40 + 10 * b + 8) (by omega) (by omega)
  obtain ⟨h1, hq, -⟩ := h
  simp (disch := omega) only [h1, hq, h2, zo_add, zo_sub, zo_mul, zo_neg, zo_lt, zo_le, zo_eq, zo_nn, zin_ok, zlt_eq, zr0, zr1, zr3, zr4, zr0x, zr1x, zr3x, zr4x, zb_and, zb_0, zmin_o, zmax_o, zabs_o, zo_div, zo_mod, ↓reduceIte, Int.reduceToNat, Int.reduceNeg, Int.reduceAdd, Int.reduceMul, Int.reduceSub, Nat.reduceAdd, Nat.reduceMul]
theorem m161_8 (h : Md S q a) {b : Nat} (hb : b < 12) {v : Int32} : zr_sem zF (d + 1) 161 [za 3 0 0, zi (zo b), zi (zo 8), zi v] S = some (.inl none, zs_set S 2 q 0 (40 + 10 * b + 8) v) := by
  rw [ze_161]
  have e : (40 + 10 * (b : Int) + 8).toNat = 40 + 10 * b + 8 := by omega
  obtain ⟨h1, hq, -⟩ := h
  simp (disch := omega) only [h1, hq, e, zo_add, zo_sub, zo_mul, zo_neg, zo_lt, zo_le, zo_eq, zo_nn, zin_ok, zlt_eq, zr0, zr1, zr3, zr4, zr0x, zr1x, zr3x, zr4x, zb_and, zb_0, zmin_o, zmax_o, zabs_o, zo_div, zo_mod, ↓reduceIte, Int.reduceToNat, Int.reduceNeg, Int.reduceAdd, Int.reduceMul, Int.reduceSub, Nat.reduceAdd, Nat.reduceMul]
theorem m160_9 (h : Md S q a) {b : Nat} (hb : b < 12) : zr_sem zF (d + 1) 160 [za 3 0 0, zi (zo b), zi (zo 9)] S = some (.inl (some (zi (zo (a (40 + 10 * b + 9))))), S) := by
  rw [ze_160]
  have h2 := m_ix h (i := 40 + 10 * (b : Int) + 9) (j := 40 + 10 * b + 9) (by omega) (by omega)
  obtain ⟨h1, hq, -⟩ := h
  simp (disch := omega) only [h1, hq, h2, zo_add, zo_sub, zo_mul, zo_neg, zo_lt, zo_le, zo_eq, zo_nn, zin_ok, zlt_eq, zr0, zr1, zr3, zr4, zr0x, zr1x, zr3x, zr4x, zb_and, zb_0, zmin_o, zmax_o, zabs_o, zo_div, zo_mod, ↓reduceIte, Int.reduceToNat, Int.reduceNeg, Int.reduceAdd, Int.reduceMul, Int.reduceSub, Nat.reduceAdd, Nat.reduceMul]
theorem m161_9 (h : Md S q a) {b : Nat} (hb : b < 12) {v : Int32} : zr_sem zF (d + 1) 161 [za 3 0 0, zi (zo b), zi (zo 9), zi v] S = some (.inl none, zs_set S 2 q 0 (40 + 10 * b + 9) v) := by
  rw [ze_161]
  have e : (40 + 10 * (b : Int) + 9).toNat = 40 + 10 * b + 9 := by omega
  obtain ⟨h1, hq, -⟩ := h
  simp (disch := omega) only [h1, hq, e, zo_add, zo_sub, zo_mul, zo_neg, zo_lt, zo_le, zo_eq, zo_nn, zin_ok, zlt_eq, zr0, zr1, zr3, zr4, zr0x, zr1x, zr3x, zr4x, zb_and, zb_0, zmin_o, zmax_o, zabs_o, zo_div, zo_mod, ↓reduceIte, Int.reduceToNat, Int.reduceNeg, Int.reduceAdd, Int.reduceMul, Int.reduceSub, Nat.reduceAdd, Nat.reduceMul]
theorem m162_0 (h : Md S q a) {b : Nat} (hb : b < 5) : zr_sem zF (d + 1) 162 [za 3 0 0, zi (zo b), zi (zo 0)] S = some (.inl (some (zi (zo (a (10 + 4 * b))))), S) := by
  rw [ze_162]
  have h2 := m_ix h (i := 10 + 4 * (b : Int) + 0) (j := 10 + 4 * b) (by omega) (by omega)
  obtain ⟨h1, hq, -⟩ := h
  simp (disch := omega) only [h1, hq, h2, zo_add, zo_sub, zo_mul, zo_neg, zo_lt, zo_le, zo_eq, zo_nn, zin_ok, zlt_eq, zr0, zr1, zr3, zr4, zr0x, zr1x, zr3x, zr4x, zb_and, zb_0, zmin_o, zmax_o, zabs_o, zo_div, zo_mod, ↓reduceIte, Int.reduceToNat, Int.reduceNeg, Int.reduceAdd, Int.reduceMul, Int.reduceSub, Nat.reduceAdd, Nat.reduceMul]
theorem m162_1 (h : Md S q a) {b : Nat} (hb : b < 5) : zr_sem zF (d + 1) 162 [za 3 0 0, zi (zo b), zi (zo 1)] S = some (.inl (some (zi (zo (a (10 + 4 * b + 1))))), S) := by
  rw [ze_162]
  have h2 := m_ix h (i := 10 + 4 * (b : Int) + 1) (j := 10 + 4 * b + 1) (by omega) (by omega)
  obtain ⟨h1, hq, -⟩ := h
  simp (disch := omega) only [h1, hq, h2, zo_add, zo_sub, zo_mul, zo_neg, zo_lt, zo_le, zo_eq, zo_nn, zin_ok, zlt_eq, zr0, zr1, zr3, zr4, zr0x, zr1x, zr3x, zr4x, zb_and, zb_0, zmin_o, zmax_o, zabs_o, zo_div, zo_mod, ↓reduceIte, Int.reduceToNat, Int.reduceNeg, Int.reduceAdd, Int.reduceMul, Int.reduceSub, Nat.reduceAdd, Nat.reduceMul]
theorem m162_2 (h : Md S q a) {b : Nat} (hb : b < 5) : zr_sem zF (d + 1) 162 [za 3 0 0, zi (zo b), zi (zo 2)] S = some (.inl (some (zi (zo (a (10 + 4 * b + 2))))), S) := by
  rw [ze_162]
  have h2 := m_ix h (i := 10 + 4 * (b : Int) + 2) (j := 10 + 4 * b + 2) (by omega) (by omega)
  obtain ⟨h1, hq, -⟩ := h
  simp (disch := omega) only [h1, hq, h2, zo_add, zo_sub, zo_mul, zo_neg, zo_lt, zo_le, zo_eq, zo_nn, zin_ok, zlt_eq, zr0, zr1, zr3, zr4, zr0x, zr1x, zr3x, zr4x, zb_and, zb_0, zmin_o, zmax_o, zabs_o, zo_div, zo_mod, ↓reduceIte, Int.reduceToNat, Int.reduceNeg, Int.reduceAdd, Int.reduceMul, Int.reduceSub, Nat.reduceAdd, Nat.reduceMul]
theorem m162_3 (h : Md S q a) {b : Nat} (hb : b < 5) : zr_sem zF (d + 1) 162 [za 3 0 0, zi (zo b), zi (zo 3)] S = some (.inl (some (zi (zo (a (10 + 4 * b + 3))))), S) := by
  rw [ze_162]
  have h2 := m_ix h (i := 10 + 4 * (b : Int) + 3) (j := 10 + 4 * b + 3) (by omega) (by omega)
  obtain ⟨h1, hq, -⟩ := h
  simp (disch := omega) only [h1, hq, h2, zo_add, zo_sub, zo_mul, zo_neg, zo_lt, zo_le, zo_eq, zo_nn, zin_ok, zlt_eq, zr0, zr1, zr3, zr4, zr0x, zr1x, zr3x, zr4x, zb_and, zb_0, zmin_o, zmax_o, zabs_o, zo_div, zo_mod, ↓reduceIte, Int.reduceToNat, Int.reduceNeg, Int.reduceAdd, Int.reduceMul, Int.reduceSub, Nat.reduceAdd, Nat.reduceMul]
theorem m163_0 (h : Md S q a) {b : Nat} (hb : b < 5) : zr_sem zF (d + 1) 163 [za 3 0 0, zi (zo b), zi (zo 0)] S = some (.inl (some (zi (zo (a (30 + 2 * b))))), S) := by
  rw [ze_163]
  have h2 := m_ix h (i := 30 + 2 * (b : Int) + 0) (j := 30 + 2 * b) (by omega) (by omega)
  obtain ⟨h1, hq, -⟩ := h
  simp (disch := omega) only [h1, hq, h2, zo_add, zo_sub, zo_mul, zo_neg, zo_lt, zo_le, zo_eq, zo_nn, zin_ok, zlt_eq, zr0, zr1, zr3, zr4, zr0x, zr1x, zr3x, zr4x, zb_and, zb_0, zmin_o, zmax_o, zabs_o, zo_div, zo_mod, ↓reduceIte, Int.reduceToNat, Int.reduceNeg, Int.reduceAdd, Int.reduceMul, Int.reduceSub, Nat.reduceAdd, Nat.reduceMul]
theorem m163_1 (h : Md S q a) {b : Nat} (hb : b < 5) : zr_sem zF (d + 1) 163 [za 3 0 0, zi (zo b), zi (zo 1)] S = some (.inl (some (zi (zo (a (30 + 2 * b + 1))))), S) := by
  rw [ze_163]
  have h2 := m_ix h (i := 30 + 2 * (b : Int) + 1) (j := 30 + 2 * b + 1) (by omega) (by omega)
  obtain ⟨h1, hq, -⟩ := h
  simp (disch := omega) only [h1, hq, h2, zo_add, zo_sub, zo_mul, zo_neg, zo_lt, zo_le, zo_eq, zo_nn, zin_ok, zlt_eq, zr0, zr1, zr3, zr4, zr0x, zr1x, zr3x, zr4x, zb_and, zb_0, zmin_o, zmax_o, zabs_o, zo_div, zo_mod, ↓reduceIte, Int.reduceToNat, Int.reduceNeg, Int.reduceAdd, Int.reduceMul, Int.reduceSub, Nat.reduceAdd, Nat.reduceMul]
theorem m164 (h : Md S q a) (hw : WF T a) {b : Nat} (hb : (b : Int) < a 9) : zr_sem zF (d + 2) 164 [za 3 0 0, zi (zo b)] S = some (.inl (some (zi (zo (bI (decide (a (40 + 10 * b + 6) = 0)))))), S) := by
  rw [ze_164]
  have hwO := hw; obtain ⟨⟨⟨u0, u0x⟩, ⟨u1, u1x⟩, ⟨u2, u2x⟩, ⟨u3, u3x⟩, ⟨u4, u4x⟩, ⟨u5, u5x⟩, ⟨u6, u6x, uT⟩, ⟨u7, u7x⟩, ⟨u8, u8x⟩, ⟨u9, u9x⟩⟩, uD, uP, uB, uS, uI⟩ := hwO
  have g := uB b hb
  simp (disch := omega) only [m160_6 h, zo_add, zo_sub, zo_mul, zo_neg, zo_lt, zo_le, zo_eq, zo_nn, zin_ok, zlt_eq, zr0, zr1, zr3, zr4, zr0x, zr1x, zr3x, zr4x, zb_and, zb_0, zmin_o, zmax_o, zabs_o, zo_div, zo_mod, ↓reduceIte, Int.reduceToNat, Int.reduceNeg, Int.reduceAdd, Int.reduceMul, Int.reduceSub, Nat.reduceAdd, Nat.reduceMul]
  split
  · rw [bI_dt (by assumption)]
  · rw [bI_df (by assumption)]
end MA

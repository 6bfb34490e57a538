/-! THE PURE SIDE 3: the model's readers -/
theorem zfst_succ (p : Nat → Bool) (m k : Nat) : zfst p (m + 1) k = if p k = true then (k : Int) else zfst p m (k + 1) := rfl
theorem zfst_ge (p : Nat → Bool) : ∀ m k, -1 ≤ zfst p m k := by
  intro m
  induction m with
  | zero => intro k; unfold zfst; omega
  | succ m ih => intro k; unfold zfst; split; omega; exact ih (k + 1)
theorem zfst_lt (p : Nat → Bool) : ∀ m k, zfst p m k < k + m := by
  intro m
  induction m with
  | zero => intro k; unfold zfst; omega
  | succ m ih => intro k; unfold zfst; split; omega; have := ih (k + 1); omega
theorem zfst_some (p : Nat → Bool) : ∀ m k, zfst p m k ≠ -1 → ∃ j : Nat, zfst p m k = j ∧ k ≤ j ∧ j < k + m ∧ p j = true ∧ ∀ i, k ≤ i → i < j → p i = false := by
  intro m
  induction m with
  | zero => intro k h; exact absurd rfl h
  | succ m ih =>
    intro k h
    unfold zfst at h ⊢
    by_cases c : p k = true
    · rw [if_pos c]; exact ⟨k, rfl, by omega, by omega, c, fun i h1 h2 => by omega⟩
    · rw [if_neg c] at h ⊢
      obtain ⟨j, h1, h2, h3, h4, h5⟩ := ih (k + 1) h
      refine ⟨j, h1, by omega, by omega, h4, fun i g1 g2 => ?_⟩
      by_cases e : i = k
      · rw [e]; exact Bool.eq_false_iff.mpr c
      · exact h5 i (by omega) g2
theorem zfst_none (p : Nat → Bool) : ∀ m k, zfst p m k = -1 → ∀ i, k ≤ i → i < k + m → p i = false := by
  intro m
  induction m with
  | zero => intro k _ i h1 h2; omega
  | succ m ih =>
    intro k h i h1 h2
    unfold zfst at h
    by_cases c : p k = true
    · rw [if_pos c] at h; omega
    · rw [if_neg c] at h
      by_cases e : i = k
      · rw [e]; exact Bool.eq_false_iff.mpr c
      · exact ih (k + 1) h i (by omega) (by omega)
/-- .. it is j -/
theorem zfst_is (p : Nat → Bool) (m j : Nat) (hj : j < m) (h1 : p j = true) (h2 : ∀ i, i < j → p i = false) : zfst p m 0 = j := by
  by_cases c : zfst p m 0 = -1
  · have := zfst_none p m 0 c j (by omega) (by omega); rw [h1] at this; cases this
  · obtain ⟨i, e, _, _, g, g2⟩ := zfst_some p m 0 c
    by_cases l : i < j
    · rw [h2 i l] at g; cases g
    · by_cases l2 : j < i
      · rw [g2 j (by omega) l2] at h1; cases h1
      · rw [e]; congr 1; omega
theorem zfst_isnone (p : Nat → Bool) (m : Nat) (h : ∀ i, i < m → p i = false) : zfst p m 0 = -1 := by
  by_cases c : zfst p m 0 = -1
  · exact c
  · obtain ⟨i, e, _, h3, g, g2⟩ := zfst_some p m 0 c
    rw [h i (by omega)] at g; cases g
theorem zsum_ge (f : Nat → Int) (n : Nat) (h : ∀ i, i < n → 0 ≤ f i) : 0 ≤ zsum f n := by
  induction n with
  | zero => exact Int.le_refl 0
  | succ n ih => unfold zsum; have := ih (fun i hi => h i (by omega)); have := h n (by omega); omega
theorem zsum_le (f : Nat → Int) (b : Int) (n : Nat) (h : ∀ i, i < n → f i ≤ b) : zsum f n ≤ b * n := by
  induction n with
  | zero => unfold zsum; simp
  | succ n ih =>
    unfold zsum
    have e1 := ih (fun i hi => h i (by omega))
    have e2 := h n (by omega)
    have e3 : b * ((n + 1 : Nat) : Int) = b * n + b := by rw [show ((n + 1 : Nat) : Int) = (n : Int) + 1 from rfl, Int.mul_add]; omega
    omega
theorem zsum_congr {f g : Nat → Int} (n : Nat) (h : ∀ i, i < n → f i = g i) : zsum f n = zsum g n := by
  induction n with
  | zero => rfl
  | succ n ih => unfold zsum; rw [ih (fun i hi => h i (by omega)), h n (by omega)]
theorem zfst_congr {p r : Nat → Bool} : ∀ (m k : Nat), (∀ i, k ≤ i → i < k + m → p i = r i) → zfst p m k = zfst r m k := by
  intro m
  induction m with
  | zero => intro k _; rfl
  | succ m ih => intro k h; unfold zfst; rw [h k (by omega) (by omega), ih (k + 1) (fun i h1 h2 => h i (by omega) (by omega))]
theorem occ_ge (a : Rw) (c b : Int) : -1 ≤ occ a c b := zfst_ge _ _ _
theorem occ_lt {a : Rw} (c b : Int) (h : 0 ≤ a 9) : occ a c b < a 9 := by
  have := zfst_lt (fun k => decide ((k : Int) ≠ b) && (decide (a (40 + 10 * k + 6) = 0) && decide (a (40 + 10 * k) = c))) (a 9).toNat 0
  have e : zfst (fun k => decide ((k : Int) ≠ b) && (decide (a (40 + 10 * k + 6) = 0) && decide (a (40 + 10 * k) = c))) (a 9).toNat 0 = occ a c b := rfl
  omega
theorem drIn_ge (a : Rw) (c : Int) : -1 ≤ drIn a c := zfst_ge _ _ _
theorem drIn_lt {a : Rw} (c : Int) (h : 0 ≤ a 7) : drIn a c < a 7 := by
  have := zfst_lt (fun k => decide (a (10 + 4 * k) = c)) (a 7).toNat 0
  have e : zfst (fun k => decide (a (10 + 4 * k) = c)) (a 7).toNat 0 = drIn a c := rfl
  omega
theorem tpIn_ge (a : Rw) (c : Int) : -1 ≤ tpIn a c := zfst_ge _ _ _
section MB
variable {S : zS} {q d : Nat} {a : Rw} {T : Int}
theorem m168_l (h : Md S q a) (hw : WF T a) {c : Int} (g1 : -2147483648 ≤ c) (g2 : c < 2147483648) : ∀ (m k n : Nat), k + m = (a 7).toNat → m < n → zy zF (d + 1) 168 n 2 [some (za 3 0 0), some (zi (zo c)), some (zi (zo k))] S = some (.inl (some (zi (zo (zfst (fun k => decide (a (10 + 4 * k) = c)) m k)))), S) := by
  have hh := h
  have hO := h; obtain ⟨h1, hq, h2⟩ := hO
  have hwO := hw; obtain ⟨⟨⟨u0, u0x⟩, ⟨u1, u1x⟩, ⟨u2, u2x⟩, ⟨u3, u3x⟩, ⟨u4, u4x⟩, ⟨u5, u5x⟩, ⟨u6, u6x, uT⟩, ⟨u7, u7x⟩, ⟨u8, u8x⟩, ⟨u9, u9x⟩⟩, uD, uP, uB, uS, uI⟩ := hwO
  have uN := WF_nc hw
  intro m
  induction m with
  | zero =>
    intro k n hk hn
    obtain ⟨n, rfl⟩ : ∃ n', n = n' + 1 := ⟨n - 1, by omega⟩
    rw [ze_168_2]
    simp (disch := omega) only [h1, hq, h2, zo_add, zo_sub, zo_mul, zo_neg, zo_lt, zo_le, zo_eq, zo_nn, zin_ok, zlt_eq, zr0, zr1, zr3, zr4, zr0x, zr1x, zr3x, zr4x, zb_and, zb_0, zmin_o, zmax_o, zabs_o, zo_div, zo_mod, ↓reduceIte, Int.reduceToNat, Int.reduceNeg, Int.reduceAdd, Int.reduceMul, Int.reduceSub, Nat.reduceAdd, Nat.reduceMul]
    rw [if_pos (by omega)]; rfl
  | succ m ih =>
    intro k n hk hn
    obtain ⟨n, rfl⟩ : ∃ n', n = n' + 1 := ⟨n - 1, by omega⟩
    have gD := uD k (by omega)
    rw [ze_168_2]
    simp (disch := omega) only [h1, hq, h2, m162_0 hh, zo_add, zo_sub, zo_mul, zo_neg, zo_lt, zo_le, zo_eq, zo_nn, zin_ok, zlt_eq, zr0, zr1, zr3, zr4, zr0x, zr1x, zr3x, zr4x, zb_and, zb_0, zmin_o, zmax_o, zabs_o, zo_div, zo_mod, ↓reduceIte, Int.reduceToNat, Int.reduceNeg, Int.reduceAdd, Int.reduceMul, Int.reduceSub, Nat.reduceAdd, Nat.reduceMul]
    rw [if_neg (by omega)]
    rw [zfst_succ]
    by_cases e : a (10 + 4 * k) = c
    · rw [if_pos e, if_pos (decide_eq_true e)]
    · rw [if_neg e, if_neg (by simp [e])]
      exact ih (k + 1) n (by omega) (by omega)
theorem m168 (h : Md S q a) (hw : WF T a) {c : Int} (g1 : -2147483648 ≤ c) (g2 : c < 2147483648) : zr_sem zF (d + 2) 168 [za 3 0 0, zi (zo c)] S = some (.inl (some (zi (zo (drIn a c)))), S) := by
  rw [ze_168]
  have hb := zF1_big
  have u9 := hw.1.2.2.2.2.2.2.2.1
  exact m168_l h hw g1 g2 (a 7).toNat 0 _ (by omega) (by omega)
theorem m169_l (h : Md S q a) (hw : WF T a) {c : Int} (g1 : -2147483648 ≤ c) (g2 : c < 2147483648) : ∀ (m k n : Nat), k + m = (a 8).toNat → m < n → zy zF (d + 1) 169 n 2 [some (za 3 0 0), some (zi (zo c)), some (zi (zo k))] S = some (.inl (some (zi (zo (zfst (fun k => decide (a (30 + 2 * k) = c)) m k)))), S) := by
  have hh := h
  have hO := h; obtain ⟨h1, hq, h2⟩ := hO
  have hwO := hw; obtain ⟨⟨⟨u0, u0x⟩, ⟨u1, u1x⟩, ⟨u2, u2x⟩, ⟨u3, u3x⟩, ⟨u4, u4x⟩, ⟨u5, u5x⟩, ⟨u6, u6x, uT⟩, ⟨u7, u7x⟩, ⟨u8, u8x⟩, ⟨u9, u9x⟩⟩, uD, uP, uB, uS, uI⟩ := hwO
  have uN := WF_nc hw
  intro m
  induction m with
  | zero =>
    intro k n hk hn
    obtain ⟨n, rfl⟩ : ∃ n', n = n' + 1 := ⟨n - 1, by omega⟩
    rw [ze_169_2]
    simp (disch := omega) only [h1, hq, h2, zo_add, zo_sub, zo_mul, zo_neg, zo_lt, zo_le, zo_eq, zo_nn, zin_ok, zlt_eq, zr0, zr1, zr3, zr4, zr0x, zr1x, zr3x, zr4x, zb_and, zb_0, zmin_o, zmax_o, zabs_o, zo_div, zo_mod, ↓reduceIte, Int.reduceToNat, Int.reduceNeg, Int.reduceAdd, Int.reduceMul, Int.reduceSub, Nat.reduceAdd, Nat.reduceMul]
    rw [if_pos (by omega)]; rfl
  | succ m ih =>
    intro k n hk hn
    obtain ⟨n, rfl⟩ : ∃ n', n = n' + 1 := ⟨n - 1, by omega⟩
    have gD := uP k (by omega)
    rw [ze_169_2]
    simp (disch := omega) only [h1, hq, h2, m163_0 hh, zo_add, zo_sub, zo_mul, zo_neg, zo_lt, zo_le, zo_eq, zo_nn, zin_ok, zlt_eq, zr0, zr1, zr3, zr4, zr0x, zr1x, zr3x, zr4x, zb_and, zb_0, zmin_o, zmax_o, zabs_o, zo_div, zo_mod, ↓reduceIte, Int.reduceToNat, Int.reduceNeg, Int.reduceAdd, Int.reduceMul, Int.reduceSub, Nat.reduceAdd, Nat.reduceMul]
    rw [if_neg (by omega)]
    rw [zfst_succ]
    by_cases e : a (30 + 2 * k) = c
    · rw [if_pos e, if_pos (decide_eq_true e)]
    · rw [if_neg e, if_neg (by simp [e])]
      exact ih (k + 1) n (by omega) (by omega)
theorem m169 (h : Md S q a) (hw : WF T a) {c : Int} (g1 : -2147483648 ≤ c) (g2 : c < 2147483648) : zr_sem zF (d + 2) 169 [za 3 0 0, zi (zo c)] S = some (.inl (some (zi (zo (tpIn a c)))), S) := by
  rw [ze_169]
  have hb := zF1_big
  have u9 := hw.1.2.2.2.2.2.2.2.2.1
  exact m169_l h hw g1 g2 (a 8).toNat 0 _ (by omega) (by omega)
theorem m170_l (h : Md S q a) (hw : WF T a) {c b : Int} (g1 : -2147483648 ≤ c) (g2 : c < 2147483648) (g3 : -2147483648 ≤ b) (g4 : b < 2147483648) : ∀ (m k n : Nat), k + m = (a 9).toNat → m < n → zy zF (d + 2) 170 n 2 [some (za 3 0 0), some (zi (zo c)), some (zi (zo b)), some (zi (zo k))] S = some (.inl (some (zi (zo (zfst (fun k => decide ((k : Int) ≠ b) && (decide (a (40 + 10 * k + 6) = 0) && decide (a (40 + 10 * k) = c))) m k)))), S) := by
  have hh := h
  have hO := h; obtain ⟨h1, hq, h2⟩ := hO
  have hwO := hw; obtain ⟨⟨⟨u0, u0x⟩, ⟨u1, u1x⟩, ⟨u2, u2x⟩, ⟨u3, u3x⟩, ⟨u4, u4x⟩, ⟨u5, u5x⟩, ⟨u6, u6x, uT⟩, ⟨u7, u7x⟩, ⟨u8, u8x⟩, ⟨u9, u9x⟩⟩, uD, uP, uB, uS, uI⟩ := hwO
  have uN := WF_nc hw
  intro m
  induction m with
  | zero =>
    intro k n hk hn
    obtain ⟨n, rfl⟩ : ∃ n', n = n' + 1 := ⟨n - 1, by omega⟩
    rw [ze_170_2]
    simp (disch := omega) only [h1, hq, h2, zo_add, zo_sub, zo_mul, zo_neg, zo_lt, zo_le, zo_eq, zo_nn, zin_ok, zlt_eq, zr0, zr1, zr3, zr4, zr0x, zr1x, zr3x, zr4x, zb_and, zb_0, zmin_o, zmax_o, zabs_o, zo_div, zo_mod, ↓reduceIte, Int.reduceToNat, Int.reduceNeg, Int.reduceAdd, Int.reduceMul, Int.reduceSub, Nat.reduceAdd, Nat.reduceMul]
    rw [if_pos (by omega)]; rfl
  | succ m ih =>
    intro k n hk hn
    obtain ⟨n, rfl⟩ : ∃ n', n = n' + 1 := ⟨n - 1, by omega⟩
    have gB := uB k (by omega)
    have hi := ih (k + 1) n (by omega) (by omega)
    rw [show ((k + 1 : Nat) : Int) = (k : Int) + 1 from rfl] at hi
    rw [ze_170_2]
    simp (disch := omega) only [h1, hq, h2, m164 hh hw (b := k) (by omega), m160_0 hh, hi, zo_add, zo_sub, zo_mul, zo_neg, zo_lt, zo_le, zo_eq, zo_nn, zin_ok, zlt_eq, zr0, zr1, zr3, zr4, zr0x, zr1x, zr3x, zr4x, zb_and, zb_0, zmin_o, zmax_o, zabs_o, zo_div, zo_mod, ↓reduceIte, Int.reduceToNat, Int.reduceNeg, Int.reduceAdd, Int.reduceMul, Int.reduceSub, Nat.reduceAdd, Nat.reduceMul]
    rw [if_neg (by omega)]
    rw [zfst_succ]
    by_cases e : (k : Int) = b
    · rw [if_pos e]; simp [e]
    · rw [if_neg e]
      by_cases e2 : a (40 + 10 * k + 6) = 0
      · by_cases e3 : a (40 + 10 * k) = c
        · simp [e, e2, e3]
        · simp [e, e2, e3]
      · simp [e, e2]
theorem m170 (h : Md S q a) (hw : WF T a) {c b : Int} (g1 : -2147483648 ≤ c) (g2 : c < 2147483648) (g3 : -2147483648 ≤ b) (g4 : b < 2147483648) : zr_sem zF (d + 3) 170 [za 3 0 0, zi (zo c), zi (zo b)] S = some (.inl (some (zi (zo (occ a c b)))), S) := by
  rw [ze_170]
  have hb := zF1_big
  have u9 := hw.1.2.2.2.2.2.2.2.2.2
  exact m170_l h hw g1 g2 g3 g4 (a 9).toNat 0 _ (by omega) (by omega)
theorem m171 (h : Md S q a) (hw : WF T a) {k : Nat} (hk : (k : Int) < a 7) : zr_sem zF (d + 4) 171 [za 3 0 0, zi (zo k)] S = some (.inl (some (zi (zo (bI (wks a k))))), S) := by
  rw [ze_171]
  have hwO := hw; obtain ⟨⟨⟨u0, u0x⟩, ⟨u1, u1x⟩, ⟨u2, u2x⟩, ⟨u3, u3x⟩, ⟨u4, u4x⟩, ⟨u5, u5x⟩, ⟨u6, u6x, uT⟩, ⟨u7, u7x⟩, ⟨u8, u8x⟩, ⟨u9, u9x⟩⟩, uD, uP, uB, uS, uI⟩ := hwO
  have uN := WF_nc hw
  have gD := uD k hk
  have o1 := occ_ge a (a (10 + 4 * k)) (-1)
  have o2 := occ_lt (a := a) (a (10 + 4 * k)) (-1) (by omega)
  simp (disch := omega) only [m162_2 h, m162_0 h, m170 h hw, zo_add, zo_sub, zo_mul, zo_neg, zo_lt, zo_le, zo_eq, zo_nn, zin_ok, zlt_eq, zr0, zr1, zr3, zr4, zr0x, zr1x, zr3x, zr4x, zb_and, zb_0, zmin_o, zmax_o, zabs_o, zo_div, zo_mod, ↓reduceIte, Int.reduceToNat, Int.reduceNeg, Int.reduceAdd, Int.reduceMul, Int.reduceSub, Nat.reduceAdd, Nat.reduceMul]
  unfold wks
  by_cases e : a (10 + 4 * k + 2) = 0
  · rw [if_pos e, if_pos e]; rfl
  · rw [if_neg e, if_neg e]
    by_cases e2 : occ a (a (10 + 4 * k)) (-1) = -1
    · rw [if_pos e2, if_pos e2]; rfl
    · rw [if_neg e2, if_neg e2]
      obtain ⟨j, hj⟩ : ∃ j : Nat, occ a (a (10 + 4 * k)) (-1) = j := ⟨(occ a (a (10 + 4 * k)) (-1)).toNat, by omega⟩
      rw [hj] at o1 o2 ⊢
      have gB := uB j (by omega)
      simp (disch := omega) only [m160_1 h, m162_1 h, Int.toNat_natCast, zo_add, zo_sub, zo_mul, zo_neg, zo_lt, zo_le, zo_eq, zo_nn, zin_ok, zlt_eq, zr0, zr1, zr3, zr4, zr0x, zr1x, zr3x, zr4x, zb_and, zb_0, zmin_o, zmax_o, zabs_o, zo_div, zo_mod, ↓reduceIte, Int.reduceToNat, Int.reduceNeg, Int.reduceAdd, Int.reduceMul, Int.reduceSub, Nat.reduceAdd, Nat.reduceMul]
      by_cases e3 : a (40 + 10 * j + 1) ≤ a (10 + 4 * k + 1)
      · rw [if_neg (by omega), bI_dt e3]
      · rw [if_pos (by omega), bI_df e3]
theorem m172_l (h : Md S q a) (hw : WF T a) {c : Int} (g1 : -2147483648 ≤ c) (g2 : c < 2147483648) : ∀ (m k n : Nat), k + m = (a 9).toNat → m < n → zy zF (d + 1) 172 n 4 [some (za 3 0 0), some (zi (zo c)), some (zi (zo (zsum (fun k => if a (40 + 10 * k + 6) = c then 1 else 0) k))), some (zi (zo k))] S = some (.inl (some (zi (zo (cnt a c)))), S) := by
  have hh := h
  have hO := h; obtain ⟨h1, hq, h2⟩ := hO
  have hwO := hw; obtain ⟨⟨⟨u0, u0x⟩, ⟨u1, u1x⟩, ⟨u2, u2x⟩, ⟨u3, u3x⟩, ⟨u4, u4x⟩, ⟨u5, u5x⟩, ⟨u6, u6x, uT⟩, ⟨u7, u7x⟩, ⟨u8, u8x⟩, ⟨u9, u9x⟩⟩, uD, uP, uB, uS, uI⟩ := hwO
  have uN := WF_nc hw
  intro m
  induction m with
  | zero =>
    intro k n hk hn
    obtain ⟨n, rfl⟩ : ∃ n', n = n' + 1 := ⟨n - 1, by omega⟩
    rw [ze_172_4]
    simp (disch := omega) only [h1, hq, h2, zo_add, zo_sub, zo_mul, zo_neg, zo_lt, zo_le, zo_eq, zo_nn, zin_ok, zlt_eq, zr0, zr1, zr3, zr4, zr0x, zr1x, zr3x, zr4x, zb_and, zb_0, zmin_o, zmax_o, zabs_o, zo_div, zo_mod, ↓reduceIte, Int.reduceToNat, Int.reduceNeg, Int.reduceAdd, Int.reduceMul, Int.reduceSub, Nat.reduceAdd, Nat.reduceMul]
    rw [if_pos (by omega), show k = (a 9).toNat by omega]; rfl
  | succ m ih =>
    intro k n hk hn
    obtain ⟨n, rfl⟩ : ∃ n', n = n' + 1 := ⟨n - 1, by omega⟩
    have gB := uB k (by omega)
    have hi := ih (k + 1) n (by omega) (by omega)
    rw [show ((k + 1 : Nat) : Int) = (k : Int) + 1 from rfl] at hi
    unfold zsum at hi
    rw [ze_172_4]
    simp (disch := omega) only [h1, hq, h2, m160_6 hh, zo_add, zo_sub, zo_mul, zo_neg, zo_lt, zo_le, zo_eq, zo_nn, zin_ok, zlt_eq, zr0, zr1, zr3, zr4, zr0x, zr1x, zr3x, zr4x, zb_and, zb_0, zmin_o, zmax_o, zabs_o, zo_div, zo_mod, ↓reduceIte, Int.reduceToNat, Int.reduceNeg, Int.reduceAdd, Int.reduceMul, Int.reduceSub, Nat.reduceAdd, Nat.reduceMul]
    rw [if_neg (by omega), ← hi]
    split <;> rfl
theorem m172 (h : Md S q a) (hw : WF T a) {c : Int} (g1 : -2147483648 ≤ c) (g2 : c < 2147483648) : zr_sem zF (d + 2) 172 [za 3 0 0, zi (zo c)] S = some (.inl (some (zi (zo (cnt a c)))), S) := by
  rw [ze_172]
  have hb := zF1_big
  have u9 := hw.1.2.2.2.2.2.2.2.2.2
  exact m172_l h hw g1 g2 (a 9).toNat 0 _ (by omega) (by omega)
theorem m173_l (h : Md S q a) (hw : WF T a) : ∀ (m k n : Nat), k + m = (a 7).toNat → m < n → zy zF (d + 4) 173 n 4 [some (za 3 0 0), some (zi (zo (zsum (fun k => if wks a k = true then 1 else 0) k))), some (zi (zo k))] S = some (.inl (some (zi (zo (wkn a)))), S) := by
  have hh := h
  have hO := h; obtain ⟨h1, hq, h2⟩ := hO
  have hwO := hw; obtain ⟨⟨⟨u0, u0x⟩, ⟨u1, u1x⟩, ⟨u2, u2x⟩, ⟨u3, u3x⟩, ⟨u4, u4x⟩, ⟨u5, u5x⟩, ⟨u6, u6x, uT⟩, ⟨u7, u7x⟩, ⟨u8, u8x⟩, ⟨u9, u9x⟩⟩, uD, uP, uB, uS, uI⟩ := hwO
  have uN := WF_nc hw
  intro m
  induction m with
  | zero =>
    intro k n hk hn
    obtain ⟨n, rfl⟩ : ∃ n', n = n' + 1 := ⟨n - 1, by omega⟩
    rw [ze_173_4]
    simp (disch := omega) only [h1, hq, h2, zo_add, zo_sub, zo_mul, zo_neg, zo_lt, zo_le, zo_eq, zo_nn, zin_ok, zlt_eq, zr0, zr1, zr3, zr4, zr0x, zr1x, zr3x, zr4x, zb_and, zb_0, zmin_o, zmax_o, zabs_o, zo_div, zo_mod, ↓reduceIte, Int.reduceToNat, Int.reduceNeg, Int.reduceAdd, Int.reduceMul, Int.reduceSub, Nat.reduceAdd, Nat.reduceMul]
    rw [if_pos (by omega), show k = (a 7).toNat by omega]; rfl
  | succ m ih =>
    intro k n hk hn
    obtain ⟨n, rfl⟩ : ∃ n', n = n' + 1 := ⟨n - 1, by omega⟩
    have hi := ih (k + 1) n (by omega) (by omega)
    rw [show ((k + 1 : Nat) : Int) = (k : Int) + 1 from rfl] at hi
    unfold zsum at hi
    rw [ze_173_4]
    simp (disch := omega) only [h1, hq, h2, m171 hh hw (k := k) (by omega), zo_add, zo_sub, zo_mul, zo_neg, zo_lt, zo_le, zo_eq, zo_nn, zin_ok, zlt_eq, zr0, zr1, zr3, zr4, zr0x, zr1x, zr3x, zr4x, zb_and, zb_0, zmin_o, zmax_o, zabs_o, zo_div, zo_mod, ↓reduceIte, Int.reduceToNat, Int.reduceNeg, Int.reduceAdd, Int.reduceMul, Int.reduceSub, Nat.reduceAdd, Nat.reduceMul]
    rw [if_neg (by omega), ← hi]
    cases wks a k <;> rfl
theorem m173 (h : Md S q a) (hw : WF T a) : zr_sem zF (d + 5) 173 [za 3 0 0] S = some (.inl (some (zi (zo (wkn a)))), S) := by
  rw [ze_173]
  have hb := zF1_big
  have u9 := hw.1.2.2.2.2.2.2.2.1
  exact m173_l h hw (a 7).toNat 0 _ (by omega) (by omega)
theorem m174_l (h : Md S q a) (hw : WF T a) : ∀ (m k n : Nat), k + m = ncl a → m < n → zy zF (d + 1) 174 n 4 [some (za 3 0 0), some (zi (zo (zsum (fun k => a (160 + k)) k))), some (zi (zo k))] S = some (.inl (some (zi (zo (spm a)))), S) := by
  have hh := h
  have uN := WF_nc hw
  unfold ncl
  have hO := h; obtain ⟨h1, hq, h2⟩ := hO
  have hwO := hw; obtain ⟨⟨⟨u0, u0x⟩, ⟨u1, u1x⟩, ⟨u2, u2x⟩, ⟨u3, u3x⟩, ⟨u4, u4x⟩, ⟨u5, u5x⟩, ⟨u6, u6x, uT⟩, ⟨u7, u7x⟩, ⟨u8, u8x⟩, ⟨u9, u9x⟩⟩, uD, uP, uB, uS, uI⟩ := hwO
  intro m
  induction m with
  | zero =>
    intro k n hk hn
    obtain ⟨n, rfl⟩ : ∃ n', n = n' + 1 := ⟨n - 1, by omega⟩
    rw [ze_174_4]
    simp (disch := omega) only [h1, hq, h2, m152 hh, zo_add, zo_sub, zo_mul, zo_neg, zo_lt, zo_le, zo_eq, zo_nn, zin_ok, zlt_eq, zr0, zr1, zr3, zr4, zr0x, zr1x, zr3x, zr4x, zb_and, zb_0, zmin_o, zmax_o, zabs_o, zo_div, zo_mod, ↓reduceIte, Int.reduceToNat, Int.reduceNeg, Int.reduceAdd, Int.reduceMul, Int.reduceSub, Nat.reduceAdd, Nat.reduceMul]
    rw [if_pos (by omega), show k = (a 0 * a 1).toNat by omega]; rfl
  | succ m ih =>
    intro k n hk hn
    obtain ⟨n, rfl⟩ : ∃ n', n = n' + 1 := ⟨n - 1, by omega⟩
    have hi := ih (k + 1) n (by omega) (by omega)
    rw [show ((k + 1 : Nat) : Int) = (k : Int) + 1 from rfl] at hi
    unfold zsum at hi
    rw [ze_174_4]
    have e := m_ix hh (i := 160 + (k : Int)) (j := 160 + k) (by omega) (by omega)
    simp (disch := omega) only [h1, hq, e, m152 hh, zo_add, zo_sub, zo_mul, zo_neg, zo_lt, zo_le, zo_eq, zo_nn, zin_ok, zlt_eq, zr0, zr1, zr3, zr4, zr0x, zr1x, zr3x, zr4x, zb_and, zb_0, zmin_o, zmax_o, zabs_o, zo_div, zo_mod, ↓reduceIte, Int.reduceToNat, Int.reduceNeg, Int.reduceAdd, Int.reduceMul, Int.reduceSub, Nat.reduceAdd, Nat.reduceMul]
    rw [if_neg (by omega)]
    exact hi
theorem m174 (h : Md S q a) (hw : WF T a) : zr_sem zF (d + 2) 174 [za 3 0 0] S = some (.inl (some (zi (zo (spm a)))), S) := by
  rw [ze_174]
  have hb := zF1_big
  have uN := WF_nc hw
  exact m174_l h hw (ncl a) 0 _ (by omega) (by unfold ncl; omega)
def spIn (a : Rw) (x y : Int) : Int := if (0 ≤ x ∧ x < a 0) ∧ (0 ≤ y ∧ y < a 1) then a (160 + (a 0 * y + x).toNat) else 0
theorem cel_lt {a : Rw} {x y : Int} (h : (0 ≤ x ∧ x < a 0) ∧ (0 ≤ y ∧ y < a 1)) : 0 ≤ a 0 * y + x ∧ a 0 * y + x < a 0 * a 1 := by
  have h1 : 0 ≤ a 0 * y := Int.mul_nonneg (by omega) (by omega)
  have h2 : a 0 * y ≤ a 0 * (a 1 - 1) := Int.mul_le_mul_of_nonneg_left (by omega) (by omega)
  rw [Int.mul_sub, Int.mul_one] at h2
  omega
theorem m175 (h : Md S q a) (hw : WF T a) {x y : Int} (g1 : -2147483648 ≤ x) (g2 : x < 2147483648) (g3 : -2147483648 ≤ y) (g4 : y < 2147483648) : zr_sem zF (d + 3) 175 [za 3 0 0, zi (zo x), zi (zo y)] S = some (.inl (some (zi (zo (spIn a x y)))), S) := by
  rw [ze_175]
  have hh := h
  have uN := WF_nc hw
  have hO := h; obtain ⟨h1, hq, h2⟩ := hO
  simp (disch := omega) only [h1, hq, m153 hh hw g1 g2 g3 g4, m154 hh, zo_add, zo_sub, zo_mul, zo_neg, zo_lt, zo_le, zo_eq, zo_nn, zin_ok, zlt_eq, zr0, zr1, zr3, zr4, zr0x, zr1x, zr3x, zr4x, zb_and, zb_0, zmin_o, zmax_o, zabs_o, zo_div, zo_mod, ↓reduceIte, Int.reduceToNat, Int.reduceNeg, Int.reduceAdd, Int.reduceMul, Int.reduceSub, Nat.reduceAdd, Nat.reduceMul]
  unfold spIn
  by_cases c : (0 ≤ x ∧ x < a 0) ∧ (0 ≤ y ∧ y < a 1)
  · have l := cel_lt c
    rw [if_neg (by simp [c]), if_pos c]
    have e := m_ix hh (i := 160 + (a 0 * y + x)) (j := 160 + (a 0 * y + x).toNat) (by omega) (by omega)
    simp (disch := omega) only [e, zo_add, zo_sub, zo_mul, zo_neg, zo_lt, zo_le, zo_eq, zo_nn, zin_ok, zlt_eq, zr0, zr1, zr3, zr4, zr0x, zr1x, zr3x, zr4x, zb_and, zb_0, zmin_o, zmax_o, zabs_o, zo_div, zo_mod, ↓reduceIte, Int.reduceToNat, Int.reduceNeg, Int.reduceAdd, Int.reduceMul, Int.reduceSub, Nat.reduceAdd, Nat.reduceMul]
  · rw [if_pos (by simp; omega), if_neg c]
end MB

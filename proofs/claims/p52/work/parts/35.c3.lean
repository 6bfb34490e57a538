/-! THE PURE SIDE 3: the model's readers -/
theorem zfst_succ (p : Nat → Bool) (m k : Nat) : zfst p (m + 1) k = if p k = true then (k : Int) else zfst p m (k + 1) := rfl
theorem zfst_ge (p : Nat → Bool) : ∀ m k, -1 ≤ zfst p m k := by
  intro m
  induction m with
  | zero => intro k; unfold zfst; omega
  | succ m ih => intro k; unfold zfst; split; omega; exact ih (k + 1)
theorem zfst_lt (p : Nat → Bool) : ∀ m k, zfst p m k < k + m := by
  intro m
  induction m with
  | zero => intro k; unfold zfst; omega
  | succ m ih => intro k; unfold zfst; split; omega; have := ih (k + 1); omega
theorem zfst_some (p : Nat → Bool) : ∀ m k, zfst p m k ≠ -1 → ∃ j : Nat, zfst p m k = j ∧ k ≤ j ∧ j < k + m ∧ p j = true ∧ ∀ i, k ≤ i → i < j → p i = false := by
  intro m
  induction m with
  | zero => intro k h; exact absurd rfl h
  | succ m ih =>
    intro k h
    unfold zfst at h ⊢
    by_cases c : p k = true
    · rw [if_pos c]; exact ⟨k, rfl, by omega, by omega, c, fun i h1 h2 => by omega⟩
    · rw [if_neg c] at h ⊢
      obtain ⟨j, h1, h2, h3, h4, h5⟩ := ih (k + 1) h
      refine ⟨j, h1, by omega, by omega, h4, fun i g1 g2 => ?_⟩
      by_cases e : i = k
      · rw [e]; exact Bool.eq_false_iff.mpr c
      · exact h5 i (by omega) g2
theorem zfst_none (p : Nat → Bool) : ∀ m k, zfst p m k = -1 → ∀ i, k ≤ i → i < k + m → p i = false := by
  intro m
  induction m with
  | zero => intro k _ i h1 h2; omega
  | succ m ih =>
    intro k h i h1 h2
    unfold zfst at h
    by_cases c : p k = true
    · rw [if_pos c] at h; omega
    · rw [if_neg c] at h
      by_cases e : i = k
      · rw [e]; exact Bool.eq_false_iff.mpr c
      · exact ih (k + 1) h i (by omega) (by omega)
/-- .. it is j -/
theorem zfst_is (p : Nat → Bool) (m j : Nat) (hj : j < m) (h1 : p j = true) (h2 : ∀ i, i < j → p i = false) : zfst p m 0 = j := by
  by_cases c : zfst p m 0 = -1
  · have := zfst_none p m 0 c j (by omega) (by omega); rw [h1] at this; cases this
  · obtain ⟨i, e, _, _, g, g2⟩ := zfst_some p m 0 c
    by_cases l : i < j
    · rw [h2 i l] at g; cases g
    · by_cases l2 : j < i
      · rw [g2 j (by omega) l2] at h1; cases h1
      · rw [e]; congr 1; omega
theorem zfst_isnone (p : Nat → Bool) (m : Nat) (h : ∀ i, i < m → p i = false) : zfst p m 0 = -1 := by
  by_cases c : zfst p m 0 = -1
  · exact c
  · obtain ⟨i, e, _, h3, g, g2⟩ := zfst_some p m 0 c
    rw [h i (by omega)] at g; cases g
theorem zsum_ge (f : Nat → Int) (n : Nat) (h : ∀ i, i < n → 0 ≤ f i) : 0 ≤ zsum f n := by
  induction n with
  | zero => exact Int.le_refl 0
  | succ n ih => unfold zsum; have := ih (fun i hi => h i (by omega)); have := h n (by omega); omega
theorem zsum_le (f : Nat → Int) (b : Int) (n : Nat) (h : ∀ i, i < n → f i ≤ b) : zsum f n ≤ b * n := by
  induction n with
  | zero => unfold zsum; simp
  | succ n ih =>
    unfold zsum
    have e1 := ih (fun i hi => h i (by omega))
    have e2 := h n (by omega)
    have e3 : b * ((n + 1 : Nat) : Int) = b * n + b := by rw [show ((n + 1 : Nat) : Int) = (n : Int) + 1 from rfl, Int.mul_add]; omega
    omega
theorem zsum_congr {f g : Nat → Int} (n : Nat) (h : ∀ i, i < n → f i = g i) : zsum f n = zsum g n := by
  induction n with
  | zero => rfl
  | succ n ih => unfold zsum; rw [ih (fun i hi => h i (by omega)), h n (by omega)]
theorem zfst_congr {p r : Nat → Bool} : ∀ (m k : Nat), (∀ i, k ≤ i → i < k + m → p i = r i) → zfst p m k = zfst r m k := by
  intro m
  induction m with
  | zero => intro k _; rfl
  | succ m ih => intro k h; unfold zfst; rw [h k (by omega) (by omega), ih (k + 1) (fun i h1 h2 => h i (by omega) (by omega))]
theorem occ_ge (a : Rw) (c b : Int) : -1 ≤ occ a c b := zfst_ge _ _ _
theorem occ_lt {a : Rw} (c b : Int) (h : 0 ≤ a 9) : occ a c b < a 9 := by
  have := zfst_lt (fun k => decide ((k : Int) ≠ b) && (decide (a (40 + 10 * k + 6) = 0) && decide (a (40 + 10 * k) = c))) (a 9).toNat 0
  have e : zfst (fun k => decide ((k : Int) ≠ b) && (decide (a (40 + 10 * k + 6) = 0) && decide (a (40 + 10 * k) = c))) (a 9).toNat 0 = occ a c b := rfl
  omega
theorem drIn_ge (a : Rw) (c : Int) : -1 ≤ drIn a c := zfst_ge _ _ _
theorem drIn_lt {a : Rw} (c : Int) (h : 0 ≤ a 7) : drIn a c < a 7 := by
  have := zfst_lt (fun k => decide (a (10 + 4 * k) = c)) (a 7).toNat 0
  have e : zfst (fun k => decide (a (10 + 4 * k) = c)) (a 7).toNat 0 = drIn a c := rfl
  omega
section MB
variable {S : zS} {q d : Nat} {a : Rw} {T : Int}
def spIn (a : Rw) (x y : Int) : Int := if (0 ≤ x ∧ x < a 0) ∧ (0 ≤ y ∧ y < a 1) then a (160 + (a 0 * y + x).toNat) else 0
theorem cel_lt {a : Rw} {x y : Int} (h : (0 ≤ x ∧ x < a 0) ∧ (0 ≤ y ∧ y < a 1)) : 0 ≤ a 0 * y + x ∧ a 0 * y + x < a 0 * a 1 := by
  have h1 : 0 ≤ a 0 * y := Int.mul_nonneg (by omega) (by omega)
  have h2 : a 0 * y ≤ a 0 * (a 1 - 1) := Int.mul_le_mul_of_nonneg_left (by omega) (by omega)
  rw [Int.mul_sub, Int.mul_one] at h2
  omega
end MB

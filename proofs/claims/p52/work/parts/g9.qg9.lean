/-! THE LAW'S PURE SIDE 19: what holds of every row, beside WF -/
/-- of each boat: sunk when softer than strong; its end; where it was drained. And the drains' counts. -/
def LI (a : Rw) : Prop := (∀ b : Nat, (b : Int) < a 9 → (a (40 + 10 * b + 6) = 1 ↔ a (40 + 10 * b + 2) < a (40 + 10 * b + 3)) ∧ (a (40 + 10 * b + 6) = 0 ↔ a (40 + 10 * b + 7) = -1) ∧ (a (40 + 10 * b + 6) = 2 → ∃ k : Nat, (k : Int) < a 7 ∧ a (10 + 4 * k) = a (40 + 10 * b) ∧ a (40 + 10 * b + 1) ≤ a (10 + 4 * k + 1))) ∧ zsum (fun k => a (10 + 4 * k + 3)) (a 7).toNat = cnt a 2
theorem cnt_eq {a a2 : Rw} (h9 : a2 9 = a 9) (h : ∀ b : Nat, (b : Int) < a 9 → a2 (40 + 10 * b + 6) = a (40 + 10 * b + 6)) (st : Int) : cnt a2 st = cnt a st := by
  unfold cnt
  rw [h9]
  exact zsum_congr _ (fun i hi => by rw [h i (by omega)])
theorem LI_eq {a a2 : Rw} (h : LI a) (h7 : a2 7 = a 7) (h9 : a2 9 = a 9) (hd : ∀ k : Nat, (k : Int) < a 7 → a2 (10 + 4 * k) = a (10 + 4 * k) ∧ a2 (10 + 4 * k + 1) = a (10 + 4 * k + 1) ∧ a2 (10 + 4 * k + 3) = a (10 + 4 * k + 3)) (hb : ∀ b i : Nat, (b : Int) < a 9 → i < 10 → i ≠ 4 → i ≠ 5 → i ≠ 8 → i ≠ 9 → a2 (40 + 10 * b + i) = a (40 + 10 * b + i)) : LI a2 := by
  refine ⟨fun b hb2 => ?_, ?_⟩
  · rw [h9] at hb2
    obtain ⟨i1, i2, i3⟩ := h.1 b hb2
    have e0 : a2 (40 + 10 * b) = a (40 + 10 * b) := hb b 0 hb2 (by omega) (by omega) (by omega) (by omega) (by omega)
    rw [hb b 6 hb2 (by omega) (by omega) (by omega) (by omega) (by omega), hb b 2 hb2 (by omega) (by omega) (by omega) (by omega) (by omega), hb b 3 hb2 (by omega) (by omega) (by omega) (by omega) (by omega), hb b 7 hb2 (by omega) (by omega) (by omega) (by omega) (by omega), hb b 1 hb2 (by omega) (by omega) (by omega) (by omega) (by omega), e0, h7]
    refine ⟨i1, i2, fun h2 => ?_⟩
    obtain ⟨k, k1, k2, k3⟩ := i3 h2
    exact ⟨k, k1, by rw [(hd k k1).1]; exact k2, by rw [(hd k k1).2.1]; exact k3⟩
  · rw [cnt_eq h9 (fun b hb2 => hb b 6 hb2 (by omega) (by omega) (by omega) (by omega) (by omega)), ← h.2, h7]
    exact zsum_congr _ (fun i hi => (hd i (by omega)).2.2)
section LJ
variable {a : Rw} {Tm : Int}
/-- a number of the row that none of it speaks of -/
theorem LI_up (h : LI a) (hw : WF Tm a) {j : Nat} {v : Int} (h7 : j ≠ 7) (h9 : j ≠ 9) (hj : j < 10 ∨ (10 ≤ j ∧ j < 30 ∧ (j - 10) % 4 = 2) ∨ (30 ≤ j ∧ j < 40) ∨ 160 ≤ j) : LI (up a j v) := by
  have w7 := hw.1.2.2.2.2.2.2.2
  refine LI_eq h (up_ne a v (by omega)) (up_ne a v (by omega)) (fun k hk => ⟨up_ne a v (by omega), up_ne a v (by omega), up_ne a v (by omega)⟩) (fun b i hb hi _ _ _ _ => up_ne a v (by omega))
theorem LI_spSetD {p r : Int} (h : LI a) (hw : WF Tm a) : LI (spSetD a p r).2.2.2 := by
  have w7 := hw.1.2.2.2.2.2.2.2
  unfold spSetD
  split
  · rename_i c
    split
    · exact LI_up h hw (by omega) (by omega) (Or.inr (Or.inl ⟨by omega, by omega, by omega⟩))
    · exact h
  · exact h
theorem LI_spSetT {p r : Int} (h : LI a) (hw : WF Tm a) : LI (spSetT a p r).2.2.2 := by
  have w7 := hw.1.2.2.2.2.2.2.2
  unfold spSetT
  split
  · rename_i c
    split
    · exact LI_up h hw (by omega) (by omega) (Or.inr (Or.inr (Or.inl ⟨by omega, by omega⟩)))
    · exact h
  · exact h
theorem LI_spLev {p : Int} {t : Nat} (h : LI a) (hw : WF Tm a) : LI (spLev t a p).2.2.2 := by
  unfold spLev
  split
  · exact LI_up h hw (by omega) (by omega) (Or.inl (by omega))
  · exact h
theorem LI_spWipe {p r : Int} (h : LI a) (hw : WF Tm a) : LI (spWipe a p r).2.2.2 := by
  unfold spWipe
  split
  · exact LI_up h hw (by omega) (by omega) (Or.inr (Or.inr (Or.inr (by omega))))
  · exact h
theorem LI_spDrop {p r v : Int} (h : LI a) (hw : WF Tm a) : LI (spDrop a p r v).2.2.2 := by
  unfold spDrop
  split
  · split
    · exact LI_up h hw (by omega) (by omega) (Or.inr (Or.inr (Or.inr (by omega))))
    · exact h
  · exact h
end LJ

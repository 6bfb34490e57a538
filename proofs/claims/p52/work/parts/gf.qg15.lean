/-! THE LAW'S PURE SIDE 25: what holds of every row: kept by a turn -/
section LP
variable {a : Rw} {Tm : Int}
theorem skA_low (hw : BN a) {b : Nat} (hb : (b : Int) < a 9) {i : Nat} (hi : i < 10) : skA a b i = a i := by
  unfold skA
  split
  · unfold sok
    split
    · unfold enB
      rw [up_ne _ _ (by omega), up_ne _ _ (by omega), up_ne _ _ (by omega)]
    · split
      · unfold enB
        rw [up_ne _ _ (by omega), up_ne _ _ (by omega), up_ne _ _ (by omega), up_ne _ _ (by omega)]
      · rw [up_ne _ _ (by omega)]
  · rfl
theorem LI_skAs (hl : LI a) (hw : BN a) (ht : 0 ≤ a 6) : ∀ n : Nat, (n : Int) ≤ a 9 → LI (zfold skA n a) ∧ ∀ i, i < 10 → zfold skA n a i = a i
  | 0, _ => ⟨hl, fun _ _ => rfl⟩
  | n + 1, h => by
    obtain ⟨h1, h2⟩ := LI_skAs hl hw ht n (by omega)
    have e6 := h2 6 (by omega)
    have e7 := h2 7 (by omega)
    have e8 := h2 8 (by omega)
    have e9 := h2 9 (by omega)
    have w := hw
    unfold BN at w
    have hb : BN (zfold skA n a) := by unfold BN; omega
    show LI (skA (zfold skA n a) n) ∧ ∀ i, i < 10 → skA (zfold skA n a) n i = a i
    exact ⟨LI_skA h1 hb (by omega) (by omega), fun i hi => by rw [skA_low hb (by omega) hi]; exact h2 i hi⟩
end LP

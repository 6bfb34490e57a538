/-! THE LAW'S PURE SIDE 25: what holds of every row: kept by a turn -/
section LP
variable {a : Rw} {Tm : Int}
theorem skA_low (hw : BN a) {b : Nat} (hb : (b : Int) < a 9) {i : Nat} (hi : i < 10) : skA a b i = a i := by
  unfold skA
  split
  · unfold sok
    split
    · unfold enB
      rw [up_ne _ _ (by omega), up_ne _ _ (by omega), up_ne _ _ (by omega)]
    · split
      · unfold enB
        rw [up_ne _ _ (by omega), up_ne _ _ (by omega), up_ne _ _ (by omega), up_ne _ _ (by omega)]
      · rw [up_ne _ _ (by omega)]
  · rfl
theorem LI_skAs (hl : LI a) (hw : BN a) (ht : 0 ≤ a 6) : ∀ n : Nat, (n : Int) ≤ a 9 → LI (zfold skA n a) ∧ ∀ i, i < 10 → zfold skA n a i = a i
  | 0, _ => ⟨hl, fun _ _ => rfl⟩
  | n + 1, h => by
    obtain ⟨h1, h2⟩ := LI_skAs hl hw ht n (by omega)
    have e6 := h2 6 (by omega)
    have e7 := h2 7 (by omega)
    have e8 := h2 8 (by omega)
    have e9 := h2 9 (by omega)
    have w := hw
    unfold BN at w
    have hb : BN (zfold skA n a) := by unfold BN; omega
    show LI (skA (zfold skA n a) n) ∧ ∀ i, i < 10 → skA (zfold skA n a) n i = a i
    exact ⟨LI_skA h1 hb (by omega) (by omega), fun i hi => by rw [skA_low hb (by omega) hi]; exact h2 i hi⟩
theorem LI_ps1 (hl : LI a) (hw : WF Tm a) : LI (ps1 a) ∧ ∀ i, i < 160 → i ≠ 2 → i ≠ 6 → ps1 a i = a i := by
  unfold ps1 chL
  have w7 := hw.1.2.2.2.2.2.2.2
  refine ⟨LI_eq hl ?_ ?_ (fun k hk => ⟨?_, ?_, ?_⟩) (fun b i hb hi _ _ _ _ => ?_), fun i _ h2 h6 => ?_⟩
  all_goals rw [up_ne _ _ (by omega), up_ne _ _ (by omega)]
/-- a turn keeps it -/
theorem LI_pas (hl : LI a) (hw : WF Tm a) : LI (pas a) := by
  have w := BN_of hw
  have w9 := w
  unfold BN at w9
  have w6 := hw.1.2.2.2.2.2.2.1
  obtain ⟨h1, h2⟩ := LI_ps1 hl hw
  have e7 := h2 7 (by omega) (by omega) (by omega)
  have e8 := h2 8 (by omega) (by omega) (by omega)
  have e9 := h2 9 (by omega) (by omega) (by omega)
  have e6 : ps1 a 6 = a 6 + 1 := by
    unfold ps1 chL
    rw [up_ne _ _ (by omega), up_self]
  have b1 : BN (ps1 a) := by unfold BN; omega
  obtain ⟨h3, h4⟩ := LI_drAs h1 b1 (a 9).toNat (by omega)
  have g6 : ps2 a 6 = ps1 a 6 := h4 6 (by omega)
  have g7 : ps2 a 7 = ps1 a 7 := h4 7 (by omega)
  have g8 : ps2 a 8 = ps1 a 8 := h4 8 (by omega)
  have g9 : ps2 a 9 = ps1 a 9 := h4 9 (by omega)
  have b2 : BN (ps2 a) := by unfold BN; omega
  obtain ⟨h5, h6⟩ := LI_skAs (a := ps2 a) h3 b2 (by omega) (a 9).toNat (by omega)
  have k7 : ps3 a 7 = ps2 a 7 := h6 7 (by omega)
  have k9 : ps3 a 9 = ps2 a 9 := h6 9 (by omega)
  show LI (spr (ps3 a))
  have sl : ∀ i, i < 160 → spr (ps3 a) i = ps3 a i := fun i hi => if_neg (by omega)
  exact LI_eq h5 (sl 7 (by omega)) (sl 9 (by omega)) (fun k hk => by
    have : (k : Int) < ps3 a 7 := hk
    exact ⟨sl _ (by omega), sl _ (by omega), sl _ (by omega)⟩) (fun b i hb hi _ _ _ _ => by
    have : (b : Int) < ps3 a 9 := hb
    exact sl _ (by omega))
end LP

/-! THE LAW'S PURE SIDE 22: what holds of every row: kept by a turn's drift -/
/-- how many there may be -/
def BN (a : Rw) : Prop := (0 ≤ a 7 ∧ a 7 ≤ 5) ∧ (0 ≤ a 8 ∧ a 8 ≤ 5) ∧ (0 ≤ a 9 ∧ a 9 ≤ 12)
theorem BN_of {a : Rw} {Tm : Int} (hw : WF Tm a) : BN a := hw.1.2.2.2.2.2.2.2
section LM
variable {a : Rw} {Tm : Int}
/-- what a drift may change: drifts, hits and moves of the boats, and b's cell -/
def DF (a a2 : Rw) (b : Nat) : Prop := ∀ i, ¬(∃ k j : Nat, (k : Int) < a 9 ∧ (j = 4 ∨ j = 5 ∨ j = 8 ∨ j = 9) ∧ i = 40 + 10 * k + j) → i ≠ 40 + 10 * b → a2 i = a i
theorem DF.rf (a : Rw) (b : Nat) : DF a a b := fun _ _ _ => rfl
theorem DF.tr {a a1 a2 : Rw} {b : Nat} (h1 : DF a a1 b) (h2 : DF a1 a2 b) (h9 : a1 9 = a 9) : DF a a2 b := fun i h hi => (h2 i (by rw [h9]; exact h) hi).trans (h1 i h hi)
theorem DF_up {a a1 : Rw} {b k j : Nat} {v : Int} (h1 : DF a a1 b) (hk : (k : Int) < a 9) (hj : j = 4 ∨ j = 5 ∨ j = 8 ∨ j = 9) : DF a (up a1 (40 + 10 * k + j) v) b := by
  intro i h hi
  rw [up_ne _ _ (fun e => h ⟨k, j, hk, hj, e⟩)]
  exact h1 i h hi
theorem DF_cell {a a1 : Rw} {b : Nat} {v : Int} (h1 : DF a a1 b) : DF a (up a1 (40 + 10 * b) v) b := by
  intro i h hi
  rw [up_ne _ _ hi]
  exact h1 i h hi
theorem DF.low {a a2 : Rw} {b : Nat} (h : DF a a2 b) {i : Nat} (hi : i < 40) : a2 i = a i := h i (fun ⟨k, j, _, _, e⟩ => by omega) (by omega)
theorem DF.li {a a2 : Rw} {b : Nat} (h : DF a a2 b) (hl : LI a) (hw : BN a) (h6 : a (40 + 10 * b + 6) = 0) : LI a2 := by
  have w7 := hw
  unfold BN at w7
  refine LI_af hl (h.low (by omega)) (h.low (by omega)) (fun k hk => ⟨h.low (by omega), h.low (by omega), h.low (by omega)⟩) (fun b2 i2 hb2 hi2 _ _ _ _ _ => h _ (fun ⟨k, j, _, _, e⟩ => by omega) (by omega)) (fun b2 hb2 hn => h _ (fun ⟨k, j, _, _, e⟩ => by omega) (fun e => ?_))
  have : b2 = b := by omega
  subst this
  exact hn h6
theorem DF_mov (h9 : 0 ≤ a 9) {b : Nat} (hb : (b : Int) < a 9) {dir : Nat} (hd : dir = 0 ∨ dir = 1) : DF a (mov a b dir) b := by
  unfold mov
  split
  · exact DF.rf a b
  · dsimp only
    generalize (if 0 < a (40 + 10 * b + (4 + dir)) then (1 : Int) else -1) = st
    generalize a (40 + 10 * b) % a 0 + (if dir = 0 then st else 0) = x
    generalize a (40 + 10 * b) / a 0 + (if dir = 1 then st else 0) = y
    have hl := occ_lt (a := a) (a 0 * y + x) b h9
    have hg := occ_ge a (a 0 * y + x) b
    by_cases c1 : ¬((0 ≤ x ∧ x < a 0) ∧ (0 ≤ y ∧ y < a 1))
    · rw [if_pos c1]
      exact DF_up (DF.rf a b) hb (by omega)
    · rw [if_neg c1]
      by_cases c2 : occ a (a 0 * y + x) b ≠ -1
      · rw [if_pos c2]
        exact DF_up (DF_up (DF_up (k := (occ a (a 0 * y + x) b).toNat) (DF.rf a b) (by omega) (by omega)) hb (by omega)) (j := 9) hb (by omega)
      · rw [if_neg c2]
        exact DF_up (j := 8) (DF_up (DF_cell (DF.rf a b)) hb (by omega)) hb (by omega)
theorem DF_dft (h9 : 0 ≤ a 9) {b : Nat} (hb : (b : Int) < a 9) : DF a (dft a b) b := by
  unfold dft
  have d0 := DF_up (v := lim (zo (a (40 + 10 * b + 5)) + gro a b 1)) (j := 5) (DF_up (v := lim (zo (a (40 + 10 * b + 4)) + gro a b 0)) (j := 4) (DF.rf a b) hb (by omega)) hb (by omega)
  generalize up (up a (40 + 10 * b + 4) (lim (zo (a (40 + 10 * b + 4)) + gro a b 0))) (40 + 10 * b + 5) (lim (zo (a (40 + 10 * b + 5)) + gro a b 1)) = a1 at d0 ⊢
  have e1 : a1 9 = a 9 := d0.low (by omega)
  have d1 := DF_mov (a := a1) (b := b) (dir := 0) (by omega) (by omega) (Or.inl rfl)
  generalize mov a1 b 0 = a2 at d1 ⊢
  have e2 : a2 9 = a1 9 := d1.low (by omega)
  exact (d0.tr d1 e1).tr (DF_mov (a := a2) (b := b) (dir := 1) (by omega) (by omega) (Or.inr rfl)) (by omega)
theorem LI_drA (hl : LI a) (hw : BN a) {b : Nat} (hb : (b : Int) < a 9) : LI (drA a b) := by
  unfold drA
  split
  · rename_i c
    exact (DF_dft hw.2.2.1 hb).li hl hw c.2
  · exact hl
theorem drA_low (h9 : 0 ≤ a 9) {b : Nat} (hb : (b : Int) < a 9) {i : Nat} (hi : i < 40) : drA a b i = a i := by
  unfold drA
  split
  · exact (DF_dft h9 hb).low hi
  · rfl
theorem LI_drAs (hl : LI a) (hw : BN a) : ∀ n : Nat, (n : Int) ≤ a 9 → LI (zfold drA n a) ∧ ∀ i, i < 40 → zfold drA n a i = a i
  | 0, _ => ⟨hl, fun _ _ => rfl⟩
  | n + 1, h => by
    obtain ⟨h1, h2⟩ := LI_drAs hl hw n (by omega)
    have e7 := h2 7 (by omega)
    have e8 := h2 8 (by omega)
    have e9 := h2 9 (by omega)
    have w := hw
    unfold BN at w
    have hb : BN (zfold drA n a) := by unfold BN; omega
    show LI (drA (zfold drA n a) n) ∧ ∀ i, i < 40 → drA (zfold drA n a) n i = a i
    exact ⟨LI_drA h1 hb (by omega), fun i hi => by rw [drA_low (by omega) (by omega) hi]; exact h2 i hi⟩
end LM

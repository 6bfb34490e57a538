/-! THE LAW'S PURE SIDE 20: what holds of every row: kept by what moves a boat afloat -/
theorem LI_af {a a2 : Rw} (h : LI a) (h7 : a2 7 = a 7) (h9 : a2 9 = a 9) (hd : ∀ k : Nat, (k : Int) < a 7 → a2 (10 + 4 * k) = a (10 + 4 * k) ∧ a2 (10 + 4 * k + 1) = a (10 + 4 * k + 1) ∧ a2 (10 + 4 * k + 3) = a (10 + 4 * k + 3)) (hb : ∀ b i : Nat, (b : Int) < a 9 → i < 10 → i ≠ 0 → i ≠ 4 → i ≠ 5 → i ≠ 8 → i ≠ 9 → a2 (40 + 10 * b + i) = a (40 + 10 * b + i)) (hc : ∀ b : Nat, (b : Int) < a 9 → a (40 + 10 * b + 6) ≠ 0 → a2 (40 + 10 * b) = a (40 + 10 * b)) : LI a2 := by
  refine ⟨fun b hb2 => ?_, ?_⟩
  · rw [h9] at hb2
    obtain ⟨i1, i2, i3⟩ := h.1 b hb2
    rw [hb b 6 hb2 (by omega) (by omega) (by omega) (by omega) (by omega) (by omega), hb b 2 hb2 (by omega) (by omega) (by omega) (by omega) (by omega) (by omega), hb b 3 hb2 (by omega) (by omega) (by omega) (by omega) (by omega) (by omega), hb b 7 hb2 (by omega) (by omega) (by omega) (by omega) (by omega) (by omega), hb b 1 hb2 (by omega) (by omega) (by omega) (by omega) (by omega) (by omega), h7]
    refine ⟨i1, i2, fun h2 => ?_⟩
    obtain ⟨k, k1, k2, k3⟩ := i3 h2
    rw [hc b hb2 (by omega)]
    exact ⟨k, k1, by rw [(hd k k1).1]; exact k2, by rw [(hd k k1).2.1]; exact k3⟩
  · rw [cnt_eq h9 (fun b hb2 => hb b 6 hb2 (by omega) (by omega) (by omega) (by omega) (by omega) (by omega)), ← h.2, h7]
    exact zsum_congr _ (fun i hi => (hd i (by omega)).2.2)
section LK
variable {a : Rw} {Tm : Int}
/-- a place of a boat that none of it speaks of -/
theorem LI_upb (h : LI a) (hw : WF Tm a) {b i : Nat} {v : Int} (hb : (b : Int) < a 9) (hi : i = 4 ∨ i = 5 ∨ i = 8 ∨ i = 9 ∨ (i = 0 ∧ a (40 + 10 * b + 6) = 0)) : LI (up a (40 + 10 * b + i) v) := by
  have w7 := hw.1.2.2.2.2.2.2.2
  refine LI_af h (up_ne a v (by omega)) (up_ne a v (by omega)) (fun k hk => ⟨up_ne a v (by omega), up_ne a v (by omega), up_ne a v (by omega)⟩) (fun b2 i2 hb2 hi2 _ _ _ _ _ => up_ne a v (by omega)) (fun b2 hb2 hn => ?_)
  by_cases e : b2 = b
  · subst e
    exact up_ne a v (by omega)
  · exact up_ne a v (by omega)
theorem LI_putR (h : LI a) (hw : WF Tm a) {b : Nat} {c : Int} (hb : (b : Int) < a 9) (h6 : a (40 + 10 * b + 6) = 0) : LI (putR a b c) := by
  have w7 := hw.1.2.2.2.2.2.2.2
  unfold putR
  refine LI_af h ?_ ?_ (fun k hk => ⟨?_, ?_, ?_⟩) (fun b2 i2 hb2 hi2 _ _ _ _ _ => ?_) (fun b2 hb2 hn => ?_)
  · rw [up_ne _ _ (by omega), up_ne _ _ (by omega), up_ne _ _ (by omega)]
  · rw [up_ne _ _ (by omega), up_ne _ _ (by omega), up_ne _ _ (by omega)]
  · rw [up_ne _ _ (by omega), up_ne _ _ (by omega), up_ne _ _ (by omega)]
  · rw [up_ne _ _ (by omega), up_ne _ _ (by omega), up_ne _ _ (by omega)]
  · rw [up_ne _ _ (by omega), up_ne _ _ (by omega), up_ne _ _ (by omega)]
  · rw [up_ne _ _ (by omega), up_ne _ _ (by omega), up_ne _ _ (by omega)]
  · by_cases e : b2 = b
    · subst e
      exact absurd h6 hn
    · rw [up_ne _ _ (by omega), up_ne _ _ (by omega), up_ne _ _ (by omega)]
theorem LI_spCarry {p x y : Int} (h : LI a) (hw : WF Tm a) : LI (spCarry a p x y).2.2.2 := by
  unfold spCarry
  split
  · rename_i c
    split
    · rename_i c6
      split
      · exact LI_putR h hw (by omega) c6
      · exact h
    · exact h
  · exact h
theorem LI_spPull {p x y bud : Int} {D : Int → Int} (h : LI a) (hw : WF Tm a) : LI (spPull a D p x y bud).2.2.2 := by
  unfold spPull
  split
  · rename_i c
    split
    · split
      · rename_i c6
        split
        · exact LI_putR h hw (by omega) c6
        · exact h
      · exact h
    · exact h
  · exact h
theorem LI_bloR {b : Nat} {x y : Int} (h : LI a) (hw : WF Tm a) (hb : (b : Int) < a 9) : LI (bloR a b x y) := by
  have w7 := hw.1.2.2.2.2.2.2.2
  unfold bloR
  refine LI_af h ?_ ?_ (fun k hk => ⟨?_, ?_, ?_⟩) (fun b2 i2 hb2 hi2 _ _ _ _ _ => ?_) (fun b2 hb2 hn => ?_)
  all_goals rw [up_ne _ _ (by omega), up_ne _ _ (by omega)]
theorem LI_spBlow {p x y : Int} (h : LI a) (hw : WF Tm a) : LI (spBlow a p x y).2.2.2 := by
  unfold spBlow
  split
  · rename_i c
    split
    · split
      · exact LI_bloR h hw (by omega)
      · exact h
    · exact h
  · exact h
end LK

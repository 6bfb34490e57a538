/-! THE LAW'S PURE SIDE 21: what holds of every row: a boat more -/
section LL
variable {a : Rw} {Tm : Int}
theorem nbR_old (c w s wt : Int) {i : Nat} (h9 : i ≠ 9) (h : i < 40 + 10 * (a 9).toNat) : nbR a c w s wt i = a i := by
  unfold nbR
  rw [if_neg h9, if_pos h]
theorem LI_nb {c w s wt : Int} (h : LI a) (hw : WF Tm a) (h3 : wt ≤ s) : LI (nbR a c w s wt) := by
  have w7 := hw.1.2.2.2.2.2.2.2
  have e7 : nbR a c w s wt 7 = a 7 := nbR_old c w s wt (by omega) (by omega)
  have e9 : nbR a c w s wt 9 = a 9 + 1 := if_pos rfl
  have f : ∀ i, i < 10 → nbR a c w s wt (40 + 10 * (a 9).toNat + i) = if i = 0 then c else if i = 1 then w else if i = 2 then s else if i = 3 then wt else if i = 7 then -1 else 0 := by
    intro i hi
    unfold nbR
    rw [if_neg (by omega), if_neg (by omega)]
    rcases (show i = 0 ∨ i = 1 ∨ i = 2 ∨ i = 3 ∨ i = 4 ∨ i = 5 ∨ i = 6 ∨ i = 7 ∨ i = 8 ∨ i = 9 by omega) with e | e | e | e | e | e | e | e | e | e <;> subst e <;> (repeat first | rw [if_pos (by omega)] | rw [if_neg (by omega)]) <;> rfl
  refine ⟨fun b hb => ?_, ?_⟩
  · rw [e9] at hb
    by_cases e : (b : Int) < a 9
    · obtain ⟨i1, i2, i3⟩ := h.1 b e
      rw [nbR_old c w s wt (i := 40 + 10 * b + 6) (by omega) (by omega), nbR_old c w s wt (i := 40 + 10 * b + 2) (by omega) (by omega), nbR_old c w s wt (i := 40 + 10 * b + 3) (by omega) (by omega), nbR_old c w s wt (i := 40 + 10 * b + 7) (by omega) (by omega), nbR_old c w s wt (i := 40 + 10 * b + 1) (by omega) (by omega), nbR_old c w s wt (i := 40 + 10 * b) (by omega) (by omega), e7]
      refine ⟨i1, i2, fun h2 => ?_⟩
      obtain ⟨k, k1, k2, k3⟩ := i3 h2
      exact ⟨k, k1, by rw [nbR_old c w s wt (by omega) (by omega)]; exact k2, by rw [nbR_old c w s wt (by omega) (by omega)]; exact k3⟩
    · have eb : b = (a 9).toNat := by omega
      subst eb
      rw [f 6 (by omega), f 2 (by omega), f 3 (by omega), f 7 (by omega)]
      refine ⟨?_, ?_, ?_⟩
      · show (0 : Int) = 1 ↔ s < wt
        omega
      · show (0 : Int) = 0 ↔ (-1 : Int) = -1
        omega
      · intro h2
        exact absurd h2 (by show ¬ (0 : Int) = 2; omega)
  · rw [e7]
    unfold cnt
    rw [e9, show (a 9 + 1).toNat = (a 9).toNat + 1 by omega]
    show _ = zsum _ (a 9).toNat + (if nbR a c w s wt (40 + 10 * (a 9).toNat + 6) = 2 then 1 else 0)
    rw [f 6 (by omega)]
    show _ = zsum _ (a 9).toNat + 0
    rw [Int.add_zero]
    refine (zsum_congr _ (fun i hi => nbR_old c w s wt (by omega) (by omega))).trans (h.2.trans ?_)
    unfold cnt
    exact zsum_congr _ (fun i hi => by rw [nbR_old c w s wt (i := 40 + 10 * i + 6) (by omega) (by omega)])
theorem LI_spAdd {x y w s : Int} (h : LI a) (hw : WF Tm a) : LI (spAdd a x y w s).2.2.2 := by
  unfold spAdd
  split
  · split
    · rename_i c
      split
      · exact h
      · split
        · exact LI_nb h hw (by omega)
        · exact h
    · exact h
  · exact h
end LL

/-! THE LAW'S PURE SIDE 23: what holds of every row: kept by a soak -/
section LN
variable {a : Rw} {Tm : Int}
theorem LI_wet (hl : LI a) (hw : BN a) {b : Nat} {v : Int} (hb : (b : Int) < a 9) (h6 : a (40 + 10 * b + 6) = 0) (hv : v ≤ a (40 + 10 * b + 2)) : LI (up a (40 + 10 * b + 3) v) := by
  have w7 := hw
  unfold BN at w7
  refine ⟨fun k hk => ?_, ?_⟩
  · rw [up_ne _ _ (by omega)] at hk
    obtain ⟨i1, i2, i3⟩ := hl.1 k hk
    rw [up_ne a v (i := 40 + 10 * k + 6) (by omega), up_ne a v (i := 40 + 10 * k + 2) (by omega), up_ne a v (i := 40 + 10 * k + 7) (by omega), up_ne a v (i := 40 + 10 * k + 1) (by omega), up_ne a v (i := 40 + 10 * k) (by omega), up_ne a v (i := 7) (by omega)]
    refine ⟨?_, i2, fun h2 => ?_⟩
    · by_cases e : k = b
      · subst e
        rw [up_self]
        omega
      · rw [up_ne _ _ (by omega)]
        exact i1
    · obtain ⟨q, k1, k2, k3⟩ := i3 h2
      exact ⟨q, k1, by rw [up_ne _ _ (by omega)]; exact k2, by rw [up_ne _ _ (by omega)]; exact k3⟩
  · rw [cnt_eq (up_ne _ _ (by omega)) (fun k hk => up_ne _ _ (by omega)), ← hl.2, up_ne a v (i := 7) (by omega)]
    exact zsum_congr _ (fun i hi => up_ne _ _ (by omega))
theorem LI_sunk (hl : LI a) (hw : BN a) (ht : 0 ≤ a 6) {b : Nat} {v : Int} (hb : (b : Int) < a 9) (h6 : a (40 + 10 * b + 6) = 0) (hv : a (40 + 10 * b + 2) < v) : LI (enB (up a (40 + 10 * b + 3) v) b 1) := by
  have w7 := hw
  unfold BN at w7
  have o : ∀ i, i ≠ 40 + 10 * b + 3 → i ≠ 40 + 10 * b + 6 → i ≠ 40 + 10 * b + 7 → enB (up a (40 + 10 * b + 3) v) b 1 i = a i := by
    intro i h1 h2 h3
    unfold enB
    rw [up_ne _ _ h3, up_ne _ _ h2, up_ne _ _ h1]
  have s3 : enB (up a (40 + 10 * b + 3) v) b 1 (40 + 10 * b + 3) = v := by
    unfold enB
    rw [up_ne _ _ (by omega), up_ne _ _ (by omega), up_self]
  have s6 : enB (up a (40 + 10 * b + 3) v) b 1 (40 + 10 * b + 6) = 1 := by
    unfold enB
    rw [up_ne _ _ (by omega), up_self]
  have s7 : enB (up a (40 + 10 * b + 3) v) b 1 (40 + 10 * b + 7) = a 6 := by
    unfold enB
    rw [up_self, up_ne _ _ (by omega)]
  generalize enB (up a (40 + 10 * b + 3) v) b 1 = a2 at o s3 s6 s7
  refine ⟨fun k hk => ?_, ?_⟩
  · rw [o 9 (by omega) (by omega) (by omega)] at hk
    obtain ⟨i1, i2, i3⟩ := hl.1 k hk
    by_cases e : k = b
    · subst e
      rw [s3, s6, s7, o (40 + 10 * k + 2) (by omega) (by omega) (by omega)]
      exact ⟨by omega, by omega, fun h => by omega⟩
    · rw [o (40 + 10 * k + 6) (by omega) (by omega) (by omega), o (40 + 10 * k + 2) (by omega) (by omega) (by omega), o (40 + 10 * k + 3) (by omega) (by omega) (by omega), o (40 + 10 * k + 7) (by omega) (by omega) (by omega), o (40 + 10 * k + 1) (by omega) (by omega) (by omega), o (40 + 10 * k) (by omega) (by omega) (by omega), o 7 (by omega) (by omega) (by omega)]
      refine ⟨i1, i2, fun h2 => ?_⟩
      obtain ⟨q, k1, k2, k3⟩ := i3 h2
      exact ⟨q, k1, by rw [o (10 + 4 * q) (by omega) (by omega) (by omega)]; exact k2, by rw [o (10 + 4 * q + 1) (by omega) (by omega) (by omega)]; exact k3⟩
  · have e1 : cnt a2 2 = cnt a 2 := by
      unfold cnt
      rw [o 9 (by omega) (by omega) (by omega)]
      refine zsum_congr _ (fun i hi => ?_)
      by_cases e : i = b
      · subst e
        rw [s6, h6]
        rfl
      · rw [o (40 + 10 * i + 6) (by omega) (by omega) (by omega)]
    rw [e1, ← hl.2, o 7 (by omega) (by omega) (by omega)]
    exact zsum_congr _ (fun i hi => o _ (by omega) (by omega) (by omega))
end LN

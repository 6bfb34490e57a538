/-! THE LAW'S PURE SIDE 23: what holds of every row: kept by a soak -/
section LN
variable {a : Rw} {Tm : Int}
theorem LI_wet (hl : LI a) (hw : BN a) {b : Nat} {v : Int} (hb : (b : Int) < a 9) (h6 : a (40 + 10 * b + 6) = 0) (hv : v ≤ a (40 + 10 * b + 2)) : LI (up a (40 + 10 * b + 3) v) := by
  have w7 := hw
  unfold BN at w7
  refine ⟨fun k hk => ?_, ?_⟩
  · rw [up_ne _ _ (by omega)] at hk
    obtain ⟨i1, i2, i3⟩ := hl.1 k hk
    rw [up_ne a v (i := 40 + 10 * k + 6) (by omega), up_ne a v (i := 40 + 10 * k + 2) (by omega), up_ne a v (i := 40 + 10 * k + 7) (by omega), up_ne a v (i := 40 + 10 * k + 1) (by omega), up_ne a v (i := 40 + 10 * k) (by omega), up_ne a v (i := 7) (by omega)]
    refine ⟨?_, i2, fun h2 => ?_⟩
    · by_cases e : k = b
      · subst e
        rw [up_self]
        omega
      · rw [up_ne _ _ (by omega)]
        exact i1
    · obtain ⟨q, k1, k2, k3⟩ := i3 h2
      exact ⟨q, k1, by rw [up_ne _ _ (by omega)]; exact k2, by rw [up_ne _ _ (by omega)]; exact k3⟩
  · rw [cnt_eq (up_ne _ _ (by omega)) (fun k hk => up_ne _ _ (by omega)), ← hl.2, up_ne a v (i := 7) (by omega)]
    exact zsum_congr _ (fun i hi => up_ne _ _ (by omega))
end LN

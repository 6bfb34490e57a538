/-! THE LAW'S PURE SIDE 24: what holds of every row: kept by what drains a boat -/
section LO
variable {a : Rw} {Tm : Int}
theorem drIn_at {c : Int} (h : drIn a c ≠ -1) : ∃ k : Nat, drIn a c = k ∧ (k : Int) < (a 7).toNat ∧ a (10 + 4 * k) = c := by
  obtain ⟨j, e1, e2, e3, e4, e5⟩ := zfst_some _ _ _ h
  exact ⟨j, e1, by omega, of_decide_eq_true e4⟩
theorem LI_drn (hl : LI a) (hw : BN a) (ht : 0 ≤ a 6) {b q : Nat} {v : Int} (hb : (b : Int) < a 9) (h6 : a (40 + 10 * b + 6) = 0) (hv : v ≤ a (40 + 10 * b + 2)) (hq : (q : Int) < a 7) (hc : a (10 + 4 * q) = a (40 + 10 * b)) (hs : a (40 + 10 * b + 1) ≤ a (10 + 4 * q + 1)) : LI (up (enB (up a (40 + 10 * b + 3) v) b 2) (10 + 4 * q + 3) (a (10 + 4 * q + 3) + 1)) := by
  have w7 := hw
  unfold BN at w7
  have o : ∀ i, i ≠ 40 + 10 * b + 3 → i ≠ 40 + 10 * b + 6 → i ≠ 40 + 10 * b + 7 → i ≠ 10 + 4 * q + 3 → up (enB (up a (40 + 10 * b + 3) v) b 2) (10 + 4 * q + 3) (a (10 + 4 * q + 3) + 1) i = a i := by
    intro i h1 h2 h3 h4
    unfold enB
    rw [up_ne _ _ h4, up_ne _ _ h3, up_ne _ _ h2, up_ne _ _ h1]
  have s3 : up (enB (up a (40 + 10 * b + 3) v) b 2) (10 + 4 * q + 3) (a (10 + 4 * q + 3) + 1) (40 + 10 * b + 3) = v := by
    unfold enB
    rw [up_ne _ _ (by omega), up_ne _ _ (by omega), up_ne _ _ (by omega), up_self]
  have s6 : up (enB (up a (40 + 10 * b + 3) v) b 2) (10 + 4 * q + 3) (a (10 + 4 * q + 3) + 1) (40 + 10 * b + 6) = 2 := by
    unfold enB
    rw [up_ne _ _ (by omega), up_ne _ _ (by omega), up_self]
  have s7 : up (enB (up a (40 + 10 * b + 3) v) b 2) (10 + 4 * q + 3) (a (10 + 4 * q + 3) + 1) (40 + 10 * b + 7) = a 6 := by
    unfold enB
    rw [up_ne _ _ (by omega), up_self, up_ne _ _ (by omega)]
  have sq : up (enB (up a (40 + 10 * b + 3) v) b 2) (10 + 4 * q + 3) (a (10 + 4 * q + 3) + 1) (10 + 4 * q + 3) = a (10 + 4 * q + 3) + 1 := up_self _ _ _
  generalize up (enB (up a (40 + 10 * b + 3) v) b 2) (10 + 4 * q + 3) (a (10 + 4 * q + 3) + 1) = a2 at o s3 s6 s7 sq
  refine ⟨fun k hk => ?_, ?_⟩
  · rw [o 9 (by omega) (by omega) (by omega) (by omega)] at hk
    obtain ⟨i1, i2, i3⟩ := hl.1 k hk
    by_cases e : k = b
    · subst e
      rw [s3, s6, s7, o (40 + 10 * k + 2) (by omega) (by omega) (by omega) (by omega), o 7 (by omega) (by omega) (by omega) (by omega)]
      refine ⟨by omega, by omega, fun _ => ⟨q, hq, ?_, ?_⟩⟩
      · rw [o (10 + 4 * q) (by omega) (by omega) (by omega) (by omega), o (40 + 10 * k) (by omega) (by omega) (by omega) (by omega)]
        exact hc
      · rw [o (10 + 4 * q + 1) (by omega) (by omega) (by omega) (by omega), o (40 + 10 * k + 1) (by omega) (by omega) (by omega) (by omega)]
        exact hs
    · rw [o (40 + 10 * k + 6) (by omega) (by omega) (by omega) (by omega), o (40 + 10 * k + 2) (by omega) (by omega) (by omega) (by omega), o (40 + 10 * k + 3) (by omega) (by omega) (by omega) (by omega), o (40 + 10 * k + 7) (by omega) (by omega) (by omega) (by omega), o (40 + 10 * k + 1) (by omega) (by omega) (by omega) (by omega), o (40 + 10 * k) (by omega) (by omega) (by omega) (by omega), o 7 (by omega) (by omega) (by omega) (by omega)]
      refine ⟨i1, i2, fun h2 => ?_⟩
      obtain ⟨r, k1, k2, k3⟩ := i3 h2
      exact ⟨r, k1, by rw [o (10 + 4 * r) (by omega) (by omega) (by omega) (by omega)]; exact k2, by rw [o (10 + 4 * r + 1) (by omega) (by omega) (by omega) (by omega)]; exact k3⟩
  · have e1 : cnt a2 2 = cnt a 2 + 1 := by
      unfold cnt
      rw [o 9 (by omega) (by omega) (by omega) (by omega)]
      rw [zsum_at (f := fun k => if a (40 + 10 * k + 6) = 2 then 1 else 0) b (a 9).toNat (by omega) (fun i hi hn => by rw [o (40 + 10 * i + 6) (by omega) (by omega) (by omega) (by omega)])]
      rw [s6, h6]
      rfl
    rw [e1, ← hl.2, o 7 (by omega) (by omega) (by omega) (by omega)]
    rw [zsum_at (f := fun k => a (10 + 4 * k + 3)) q (a 7).toNat (by omega) (fun i hi hn => o _ (by omega) (by omega) (by omega) (by omega)), sq]
    omega
theorem LI_skA (hl : LI a) (hw : BN a) (ht : 0 ≤ a 6) {b : Nat} (hb : (b : Int) < a 9) : LI (skA a b) := by
  unfold skA
  split
  · rename_i h6
    unfold sok
    generalize a (40 + 10 * b + 3) + 1 + a (160 + (a (40 + 10 * b)).toNat) / 10 = v
    split
    · rename_i c
      exact LI_sunk hl hw ht hb h6 c
    · rename_i c
      split
      · rename_i cw
        unfold wdr at cw
        by_cases e : drIn a (a (40 + 10 * b)) = -1
        · rw [if_pos e] at cw
          exact absurd cw (by decide)
        · obtain ⟨q, q1, q2, q3⟩ := drIn_at e
          rw [if_neg e, q1, Int.toNat_natCast] at cw
          rw [q1, Int.toNat_natCast]
          by_cases e2 : a (10 + 4 * q + 2) ≤ 0
          · rw [if_pos e2] at cw
            exact absurd cw (by decide)
          · rw [if_neg e2] at cw
            exact LI_drn hl hw ht hb h6 (by omega) (by omega) q3 (of_decide_eq_true cw)
      · exact LI_wet hl hw hb h6 (by omega)
  · exact hl
end LO

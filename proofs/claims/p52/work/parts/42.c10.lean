/-! THE PURE SIDE 10: the model's turn -/
def movB (a : Rw) (b dir : Nat) (st : Int) : Rw :=
    if ¬((0 ≤ a (40 + 10 * b) % a 0 + (if dir = 0 then st else 0) ∧ a (40 + 10 * b) % a 0 + (if dir = 0 then st else 0) < a 0) ∧ (0 ≤ a (40 + 10 * b) / a 0 + (if dir = 1 then st else 0) ∧ a (40 + 10 * b) / a 0 + (if dir = 1 then st else 0) < a 1)) then up a (40 + 10 * b + (4 + dir)) 0
    else if occ a (a 0 * (a (40 + 10 * b) / a 0 + (if dir = 1 then st else 0)) + (a (40 + 10 * b) % a 0 + (if dir = 0 then st else 0))) b ≠ -1 then
      up (up (up a (40 + 10 * (occ a (a 0 * (a (40 + 10 * b) / a 0 + (if dir = 1 then st else 0)) + (a (40 + 10 * b) % a 0 + (if dir = 0 then st else 0))) b).toNat + (4 + dir)) (limI (a (40 + 10 * (occ a (a 0 * (a (40 + 10 * b) / a 0 + (if dir = 1 then st else 0)) + (a (40 + 10 * b) % a 0 + (if dir = 0 then st else 0))) b).toNat + (4 + dir)) + (a (40 + 10 * b + (4 + dir)) * a (40 + 10 * b + 1)).tdiv (a (40 + 10 * b + 1) + a (40 + 10 * (occ a (a 0 * (a (40 + 10 * b) / a 0 + (if dir = 1 then st else 0)) + (a (40 + 10 * b) % a 0 + (if dir = 0 then st else 0))) b).toNat + 1))))) (40 + 10 * b + (4 + dir)) 0) (40 + 10 * b + 9) (a (40 + 10 * b + 9) + 1)
    else up (up (up a (40 + 10 * b) (a 0 * (a (40 + 10 * b) / a 0 + (if dir = 1 then st else 0)) + (a (40 + 10 * b) % a 0 + (if dir = 0 then st else 0)))) (40 + 10 * b + (4 + dir)) (a (40 + 10 * b + (4 + dir)) - 100 * st)) (40 + 10 * b + 8) (a (40 + 10 * b + 8) + 1)
theorem mov_B (a : Rw) (b dir : Nat) : mov a b dir = if iab (a (40 + 10 * b + (4 + dir))) < 100 then a else movB a b dir (if 0 < a (40 + 10 * b + (4 + dir)) then 1 else -1) := rfl
theorem tdiv_b {x w1 w2 : Int} (h1 : -300 ≤ x) (h2 : x ≤ 300) (h3 : 1 ≤ w1) (h4 : w1 ≤ 99) (h5 : 1 ≤ w2) : -300 ≤ (x * w1).tdiv (w1 + w2) ∧ (x * w1).tdiv (w1 + w2) ≤ 300 ∧ -29700 ≤ x * w1 ∧ x * w1 ≤ 29700 := by
  have e1 : ((x * w1).tdiv (w1 + w2)).natAbs = (x * w1).natAbs / (w1 + w2).natAbs := Int.natAbs_tdiv _ _
  have e2 : (x * w1).natAbs = x.natAbs * w1.natAbs := Int.natAbs_mul x w1
  have e3 : x.natAbs * w1.natAbs / (w1 + w2).natAbs ≤ x.natAbs := by
    apply Nat.div_le_of_le_mul
    rw [Nat.mul_comm]
    exact Nat.mul_le_mul_right _ (by omega)
  have e4 : x.natAbs * w1.natAbs ≤ 300 * 99 := Nat.mul_le_mul (by omega) (by omega)
  rw [e2] at e1
  omega
section MD
variable {S : zS} {q d : Nat} {a : Rw} {T : Int}
theorem zsum_rate (hw : WF T a) : ∀ k : Nat, (k : Int) ≤ a 8 → 0 ≤ zsum (fun k => a (30 + 2 * k + 1)) k ∧ zsum (fun k => a (30 + 2 * k + 1)) k ≤ 99 * k := by
  intro k hk
  exact ⟨zsum_ge _ _ (fun i hi => (hw.2.2.1 i (by omega)).2.1), zsum_le _ 99 _ (fun i hi => (hw.2.2.1 i (by omega)).2.2)⟩
theorem zsum_drain (hw : WF T a) : ∀ k : Nat, (k : Int) ≤ a 7 → 0 ≤ zsum (fun k => if wks a k = true then a (10 + 4 * k + 2) else 0) k ∧ zsum (fun k => if wks a k = true then a (10 + 4 * k + 2) else 0) k ≤ 99 * k := by
  intro k hk
  refine ⟨zsum_ge _ _ (fun i hi => ?_), zsum_le _ 99 _ (fun i hi => ?_)⟩
  · have := (hw.2.1 i (by omega)).2.2; split <;> omega
  · have := (hw.2.1 i (by omega)).2.2; split <;> omega
end MD

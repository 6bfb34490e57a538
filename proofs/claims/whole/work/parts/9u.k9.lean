/-! THE CONSTRUCTION 12: what holds at the loop's head -/
def kS1 (k n o j : Nat) : Int32 := match kW[kp (k, n, o)]? with
  | some c => kn_num c j
  | none => 0
theorem kS_lt (S0 : zS) {k : Nat} (h : k < 5) (n o j : Nat) : (kS S0).1 k n o j = kS1 k n o j := if_pos h
theorem kI_0 : (kS1 0 0 0 6 = zo 5 ∧ kS1 0 0 0 7 = zo 5 ∧ kS1 0 0 0 8 = zo 500 ∧ kS1 0 0 0 9 = zo 1 ∧ kS1 0 0 0 10 = zo 0 ∧ kS1 0 0 0 11 = zo 0 ∧ kS1 0 0 0 12 = zo 0 ∧ kS1 0 0 0 13 = zo 0 ∧ kS1 0 0 0 14 = zo 0 ∧ kS1 0 0 0 15 = zo 0 ∧ kS1 0 0 0 16 = zo 0) ∧ (∀ c, c < 25 → kS1 0 0 8 c = zo 0 ∧ kS1 0 0 10 c = zo (-1)) := by decide +kernel
theorem kI_1 : ∀ n, n < 14 → kS1 0 n 1 1 = zo 11 ∧ kS1 0 n 3 1 = zo 6 ∧ kS1 0 n 5 1 = zo 3 ∧ kS1 0 n 7 1 = zo 0 ∧ kS1 0 n 9 1 = zo (-1) ∧ kS1 0 n 11 1 = zo (-1) := by decide +kernel
theorem kI_2 : kS1 1 0 1 1 = zo 0 ∧ kS1 1 0 1 2 = zo 0 ∧ kS1 1 0 0 12 = zo 0 ∧ kS1 1 0 0 10 = zo 0 ∧ kS1 1 0 14 1 = zo 0 ∧ kS1 1 0 0 11 = zo (-1) ∧ kS1 1 0 10 1 = zo 1000000 ∧ kS1 1 0 12 1 = zo 1000000 ∧ kS1 1 0 5 1 = zo 0 := by decide +kernel
theorem kI_3 : kS1 3 0 0 8 = zo 0 ∧ kS1 3 0 0 9 = zo 0 ∧ kS1 3 0 0 11 = zo 0 ∧ kS1 3 0 0 13 = zo 0 ∧ kS1 3 0 0 15 = zo 0 ∧ kS1 3 0 0 22 = zo (-1) := by decide +kernel
theorem kI_4 : ∀ j, j < 260 → kS1 2 0 0 j = zo (if j = 0 then 5 else if j = 1 then 5 else if j = 2 then 500 else if j = 3 then 1 else 0) := by decide +kernel
theorem kS_Iv (S0 : zS) : Iv 0 (kS S0) (begR 5 5) 0 (fun _ => begR 5 5) false (begR 5 5) 0 (fun _ => 0) 0 (fun _ => 0) (-1) := by
  have e : ∀ i, 4 ≤ i → begR 5 5 i = 0 := by intro i hi; unfold begR; rw [if_neg (by omega), if_neg (by omega), if_neg (by omega), if_neg (by omega)]
  have v0 : ∀ n o j, (kS S0).1 0 n o j = kS1 0 n o j := kS_lt S0 (by decide)
  have v1 : ∀ n o j, (kS S0).1 1 n o j = kS1 1 n o j := kS_lt S0 (by decide)
  have v2 : ∀ n o j, (kS S0).1 2 n o j = kS1 2 n o j := kS_lt S0 (by decide)
  have v3 : ∀ n o j, (kS S0).1 3 n o j = kS1 3 n o j := kS_lt S0 (by decide)
  obtain ⟨⟨a1, a2, a3, a4, a5, a6, a7, a8, a9, a10, a11⟩, a12⟩ := kI_0
  obtain ⟨b1, b2, b3, b4, b5, b6, b7, b8, b9⟩ := kI_2
  obtain ⟨d1, d2, d3, d4, d5, d6⟩ := kI_3
  have hF : ∀ n, n < 14 → CbF ((kS S0).1 0 n) := fun n hn => by
    have h := kI_1 n hn
    exact ⟨(v0 _ _ _).trans h.1, (v0 _ _ _).trans h.2.1, (v0 _ _ _).trans h.2.2.1, (v0 _ _ _).trans h.2.2.2.1, (v0 _ _ _).trans h.2.2.2.2.1, (v0 _ _ _).trans h.2.2.2.2.2⟩
  have hw : WF 0 (begR 5 5) := WF_beg (by decide) (by decide) (by decide)
  refine ⟨⟨⟨⟨hF 0 (by decide), ?_, fun k hk => ?_, fun k hk => ?_, fun k hk => ?_, fun c hc => ?_, fun c hc => ?_, ?_, fun i hi => ?_⟩, ⟨0, by decide, (v1 _ _ _).trans b1, (v1 _ _ _).trans b2, fun i hi => absurd hi (Nat.not_lt_zero i)⟩, by decide, hF⟩, (v1 _ _ _).trans b3, (fun z => nomatch z), (v1 _ _ _).trans b4, fun j hj => ?_, (v1 _ _ _).trans b5, fun i hi => absurd hi (Nat.not_lt_zero i), (v1 _ _ _).trans b6, ⟨(v1 _ _ _).trans b7, (v1 _ _ _).trans b8⟩, (v1 _ _ _).trans b9⟩,
    ⟨⟨⟨?_, by decide, fun j hj => ?_⟩, ⟨(v3 _ _ _).trans d2, by decide, fun i j hi => absurd hi (Nat.not_lt_zero i)⟩⟩, (v3 _ _ _).trans d1, (v3 _ _ _).trans d3, (fun z => nomatch z), (v3 _ _ _).trans d4, fun j hj => ?_, (v3 _ _ _).trans d5, fun i hi => absurd hi (Nat.not_lt_zero i), (v3 _ _ _).trans d6⟩,
    ⟨hw, fun _ => hw, hw, by decide, by decide, fun i hi => absurd hi (Nat.not_lt_zero i), by decide⟩⟩
  · exact ⟨(v0 _ _ _).trans a1, (v0 _ _ _).trans a2, (v0 _ _ _).trans a3, (v0 _ _ _).trans a4, (v0 _ _ _).trans a5, (v0 _ _ _).trans a6, (v0 _ _ _).trans a7, (v0 _ _ _).trans a8, (v0 _ _ _).trans a9, (v0 _ _ _).trans a10⟩
  · rw [e 7 (by omega)] at hk; omega
  · rw [e 8 (by omega)] at hk; omega
  · rw [e 9 (by omega)] at hk; omega
  · have hc : (c : Int) < 5 * 5 := hc
    rw [e _ (by omega)]
    exact (v0 _ _ _).trans (a12 c (by omega)).1
  · have hc : (c : Int) < 5 * 5 := hc
    exact (v0 _ _ _).trans (a12 c (by omega)).2
  · exact (v0 _ _ _).trans a11
  · have : nen (begR 5 5) = 0 := rfl
    omega
  · omega
  · rw [v3, d1]; rfl
  · exact (v2 _ _ _).trans (kI_4 j hj)
  · omega

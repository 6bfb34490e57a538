/-! THE PURE SIDE 11: folds over the boats; the model's spreading and passing -/
section WH
variable {a : Rw} {T : Int}
theorem drA_inv (hw : WF T a) (hm : ∀ j : Nat, (j : Int) < a 9 → a (40 + 10 * j + 8) + 2 ≤ 2 * a 6 ∧ a (40 + 10 * j + 9) + 2 ≤ 2 * a 6) : ∀ k : Nat, (k : Int) ≤ a 9 →
    WF T (zfold drA k a) ∧ (∀ i, i < 40 → zfold drA k a i = a i) ∧ (∀ i, 160 ≤ i → zfold drA k a i = a i) ∧
    (∀ j w : Nat, j < 12 → (w = 1 ∨ w = 2 ∨ w = 3 ∨ w = 6 ∨ w = 7) → zfold drA k a (40 + 10 * j + w) = a (40 + 10 * j + w)) ∧
    (∀ j : Nat, k ≤ j → j < 12 → zfold drA k a (40 + 10 * j + 8) = a (40 + 10 * j + 8) ∧ zfold drA k a (40 + 10 * j + 9) = a (40 + 10 * j + 9)) := by
  have u9 := hw.1.2.2.2.2.2.2.2.2.2
  intro k
  induction k with
  | zero => exact fun _ => ⟨hw, fun _ _ => rfl, fun _ _ => rfl, fun _ _ _ _ => rfl, fun _ _ _ => ⟨rfl, rfl⟩⟩
  | succ k ih =>
    intro hk
    obtain ⟨i1, i2, i3, i4, i5⟩ := ih (by omega)
    rw [show zfold drA (k + 1) a = (if 0 < zfold drA k a 2 ∧ zfold drA k a (40 + 10 * k + 6) = 0 then dft (zfold drA k a) k else zfold drA k a) from rfl]
    by_cases c : 0 < zfold drA k a 2 ∧ zfold drA k a (40 + 10 * k + 6) = 0
    · rw [if_pos c]
      have e9 := i2 9 (by omega)
      have e6 := i2 6 (by omega)
      have e5 := i5 k (by omega) (by omega)
      have m := hm k (by omega)
      obtain ⟨d1, d2, d3, d4, d5⟩ := dft_ok (b := k) i1 (by omega) (by omega) (by omega)
      refine ⟨d1, fun i hi => ?_, fun i hi => ?_, fun j w hj hw => ?_, fun j hj hj2 => ⟨?_, ?_⟩⟩
      · rw [d2 i hi, i2 i hi]
      · rw [d3 i hi, i3 i hi]
      · rw [d4 j w hj hw, i4 j w hj hw]
      · rw [(d5 j hj2 (by omega)).1, (i5 j (by omega) hj2).1]
      · rw [(d5 j hj2 (by omega)).2, (i5 j (by omega) hj2).2]
    · rw [if_neg c]
      exact ⟨i1, i2, i3, i4, fun j hj hj2 => i5 j (by omega) hj2⟩
theorem skA_inv (hw : WF T a) : ∀ k : Nat, (k : Int) ≤ a 9 →
    WF T (zfold skA k a) ∧ (∀ i, i < 13 → zfold skA k a i = a i) ∧ (∀ i, 160 ≤ i → zfold skA k a i = a i) ∧
    (∀ j w : Nat, k ≤ j → j < 12 → w < 10 → zfold skA k a (40 + 10 * j + w) = a (40 + 10 * j + w)) ∧
    (∀ j : Nat, j < 12 → a (40 + 10 * j + 6) ≠ 0 → ∀ w : Nat, w < 10 → zfold skA k a (40 + 10 * j + w) = a (40 + 10 * j + w)) ∧
    (∀ j : Nat, j < 12 → a (40 + 10 * j + 6) = 0 → zfold skA k a (40 + 10 * j + 6) ≠ 0 → zfold skA k a (40 + 10 * j + 7) = a 6) := by
  have u9 := hw.1.2.2.2.2.2.2.2.2.2
  intro k
  induction k with
  | zero => exact fun _ => ⟨hw, fun _ _ => rfl, fun _ _ => rfl, fun _ _ _ _ _ => rfl, fun _ _ _ _ _ => rfl, fun _ _ h1 h2 => absurd h1 h2⟩
  | succ k ih =>
    intro hk
    obtain ⟨i1, i2, i3, i4, i5, i6⟩ := ih (by omega)
    rw [show zfold skA (k + 1) a = (if zfold skA k a (40 + 10 * k + 6) = 0 then sok (zfold skA k a) k else zfold skA k a) from rfl]
    by_cases c : zfold skA k a (40 + 10 * k + 6) = 0
    · rw [if_pos c]
      have e9 := i2 9 (by omega)
      have e6 := i2 6 (by omega)
      have e7 := i4 k 6 (by omega) (by omega) (by omega)
      obtain ⟨d1, d2, d3, d4, d5⟩ := sok_ok (b := k) i1 (by omega) c
      refine ⟨d1, fun i hi => ?_, fun i hi => ?_, fun j w hj hj2 hw => ?_, fun j hj h0 w hw => ?_, fun j hj h0 h1 => ?_⟩
      · rw [d2 i hi, i2 i hi]
      · rw [d3 i hi, i3 i hi]
      · rw [d4 j w hj2 (by omega) hw, i4 j w (by omega) hj2 hw]
      · have : j ≠ k := fun e => h0 (by rw [e, ← e7]; exact c)
        rw [d4 j w hj this hw, i5 j hj h0 w hw]
      · by_cases e : j = k
        · subst e
          rw [d5 h1, e6]
        · rw [d4 j 6 hj e (by omega)] at h1
          rw [d4 j 7 hj e (by omega), i6 j hj h0 h1]
    · rw [if_neg c]
      exact ⟨i1, i2, i3, fun j w hj hj2 hw => i4 j w (by omega) hj2 hw, i5, i6⟩
theorem chL_ok (hw : WF T a) : WF T (chL a) ∧ (∀ i, i ≠ 2 → chL a i = a i) := by
  unfold chL
  refine ⟨WF_h2 hw ?_, fun i hi => up_ne _ _ hi⟩
  split
  · omega
  · split <;> omega
theorem ps1_ok (hw : WF T a) (hT : T + 1 ≤ 1000000) : WF (T + 1) (ps1 a) ∧ ps1 a 6 = a 6 + 1 ∧ (∀ i, i ≠ 2 → i ≠ 6 → ps1 a i = a i) := by
  have w := WF_time hw hT
  obtain ⟨c1, c2⟩ := chL_ok w
  unfold ps1
  refine ⟨c1, ?_, fun i h1 h2 => ?_⟩
  · rw [c2 6 (by omega)]; simp (maxSteps := 10000000) (disch := omega) only [up_ne, up_self]
  · rw [c2 i h1]; simp (maxSteps := 10000000) (disch := omega) only [up_ne, up_self]
theorem ps1_mv (hw : WF T a) (hT : T + 1 ≤ 1000000) : ∀ j : Nat, (j : Int) < ps1 a 9 → ps1 a (40 + 10 * j + 8) + 2 ≤ 2 * ps1 a 6 ∧ ps1 a (40 + 10 * j + 9) + 2 ≤ 2 * ps1 a 6 := by
  obtain ⟨_, e6, e⟩ := ps1_ok hw hT
  intro j hj
  rw [e 9 (by omega) (by omega)] at hj
  have g := hw.2.2.2.1 j hj
  rw [e (40 + 10 * j + 8) (by omega) (by omega), e (40 + 10 * j + 9) (by omega) (by omega), e6]
  omega
/-- what a turn keeps -/
theorem pas_ok (hw : WF T a) (hT : T + 1 ≤ 1000000) : WF (T + 1) (pas a) ∧ pas a 6 = a 6 + 1 ∧ (∀ i, i < 10 → i ≠ 2 → i ≠ 6 → pas a i = a i) := by
  obtain ⟨w1, e6, e1⟩ := ps1_ok hw hT
  have u9 := w1.1.2.2.2.2.2.2.2.2.2
  have mv := ps1_mv hw hT
  have e9 := e1 9 (by omega) (by omega)
  obtain ⟨d1, d2, -, -, -⟩ := drA_inv w1 mv (a 9).toNat (by omega)
  have f9 := d2 9 (by omega)
  obtain ⟨s1, s2, -, -, -, -⟩ := skA_inv d1 (a 9).toNat (by omega)
  obtain ⟨p1, p2⟩ := spr_ok s1
  unfold pas ps3 ps2
  refine ⟨?_, ?_, fun i h1 h2 h3 => ?_⟩
  · exact p1
  · rw [p2 6 (by omega), s2 6 (by omega), d2 6 (by omega), e6]
  · rw [p2 i (by omega), s2 i (by omega), d2 i (by omega), e1 i h2 h3]
theorem pasN_ok (hw : WF T a) : ∀ k : Nat, T + k ≤ 1000000 → WF (T + k) (pasN k a) ∧ pasN k a 6 = a 6 + k ∧ (∀ i, i < 10 → i ≠ 2 → i ≠ 6 → pasN k a i = a i) := by
  intro k
  induction k with
  | zero => intro _; exact ⟨by rw [show T + ((0 : Nat) : Int) = T by omega]; exact hw, by unfold pasN; omega, fun _ _ _ _ => rfl⟩
  | succ k ih =>
    intro hT
    obtain ⟨i1, i2, i3⟩ := ih (by omega)
    obtain ⟨p1, p2, p3⟩ := pas_ok i1 (by omega)
    unfold pasN
    refine ⟨by rw [show T + ((k + 1 : Nat) : Int) = T + k + 1 by omega]; exact p1, by omega, fun i h1 h2 h3 => ?_⟩
    rw [p3 i h1 h2 h3, i3 i h1 h2 h3]
def spv (a : Rw) (c : Nat) : Int := if 99 < spN a c then 99 else spN a c
def spk (a : Rw) (k : Nat) : Rw := fun i => if 160 ≤ i ∧ i < 160 + k then spv a (i - 160) else a i
theorem spk_lo (a : Rw) (k : Nat) {i : Nat} (h : i < 160) : spk a k i = a i := if_neg (by omega)
theorem spk_0 (a : Rw) : spk a 0 = a := by funext i; exact if_neg (by omega)
theorem spk_end (a : Rw) : spk a (ncl a) = spr a := rfl
theorem spk_up (a : Rw) (k : Nat) : up (spk a k) (160 + k) (spv a k) = spk a (k + 1) := by
  funext i
  unfold up spk
  by_cases e : i = 160 + k
  · rw [if_pos e, if_pos (by omega), show i - 160 = k by omega]
  · rw [if_neg e]
    by_cases e2 : 160 ≤ i ∧ i < 160 + k
    · rw [if_pos e2, if_pos (by omega)]
    · rw [if_neg e2, if_neg (by omega)]
theorem spN_b (hw : WF T a) (c : Nat) (hc : (c : Int) < a 0 * a 1) : -100 ≤ spN a c ∧ spN a c ≤ 200 := by
  have g := hw.2.2.2.2.1 c hc
  have f0 := spF_b a ((c : Int) % a 0) ((c : Int) / a 0)
  have f1 := spF_b a ((c : Int) % a 0 - 1) ((c : Int) / a 0)
  have f2 := spF_b a ((c : Int) % a 0 + 1) ((c : Int) / a 0)
  have f3 := spF_b a ((c : Int) % a 0) ((c : Int) / a 0 - 1)
  have f4 := spF_b a ((c : Int) % a 0) ((c : Int) / a 0 + 1)
  have hz : -4 ≤ spF a ((c : Int) % a 0) ((c : Int) / a 0) * spA a c ∧ spF a ((c : Int) % a 0) ((c : Int) / a 0) * spA a c ≤ 4 := by
    have hA : 0 ≤ spA a c ∧ spA a c ≤ 4 := by
      unfold spA
      have u0 := hw.1.1
      have u1 := hw.1.2.1
      split <;> split <;> split <;> split <;> omega
    generalize spF a ((c : Int) % a 0) ((c : Int) / a 0) = x at *
    have : x = 0 ∨ x = 1 := by omega
    rcases this with e | e <;> subst e
    · rw [Int.zero_mul]; omega
    · rw [Int.one_mul]; omega
  unfold spN
  omega
end WH
section ME
variable {S : zS} {q d : Nat} {a : Rw} {T : Int}
theorem drA_0 (h : a 2 = 0) : ∀ k, zfold drA k a = a := by
  intro k
  induction k with
  | zero => rfl
  | succ k ih =>
    show drA (zfold drA k a) k = a
    rw [ih]
    unfold drA
    rw [if_neg (by omega)]
theorem pasN_1 (a : Rw) : ∀ k, pasN k (pas a) = pasN (k + 1) a := by
  intro k
  induction k with
  | zero => rfl
  | succ k ih => show pas (pasN k (pas a)) = pas (pasN (k + 1) a); rw [ih]
end ME

/-! THE LAW'S PURE SIDE 26: what a turn does to one boat: drifts -/
theorem occ_at {a : Rw} {c b : Int} (h : occ a c b ≠ -1) : ∃ j : Nat, occ a c b = j ∧ (j : Int) < a 9 ∧ (j : Int) ≠ b ∧ a (40 + 10 * j + 6) = 0 ∧ a (40 + 10 * j) = c := by
  obtain ⟨j, e1, e2, e3, e4, e5⟩ := zfst_some _ _ _ h
  simp only [Bool.and_eq_true, decide_eq_true_eq] at e4
  exact ⟨j, e1, by omega, e4.1, e4.2.1, e4.2.2⟩
theorem iab_0 : iab 0 = 0 := rfl
theorem iab_1 {s : Int} (h : s = 1 ∨ s = -1) : iab s = 1 := by rcases h with rfl | rfl <;> rfl
section LQ
variable {a : Rw} {Tm : Int}
theorem mov_b (hw : WF Tm a) {b : Nat} (hb : (b : Int) < a 9) {dir : Nat} (hd : dir = 0 ∨ dir = 1) : ∃ s h : Int, (s = 0 ∨ s = 1) ∧ (0 ≤ h ∧ h ≤ 1 - s) ∧ mov a b dir (40 + 10 * b + 8) = a (40 + 10 * b + 8) + s ∧ mov a b dir (40 + 10 * b + 9) = a (40 + 10 * b + 9) + h ∧ (dir = 0 → iab (mov a b dir (40 + 10 * b) % a 0 - a (40 + 10 * b) % a 0) = s ∧ mov a b dir (40 + 10 * b) / a 0 = a (40 + 10 * b) / a 0) ∧ (dir = 1 → mov a b dir (40 + 10 * b) % a 0 = a (40 + 10 * b) % a 0 ∧ iab (mov a b dir (40 + 10 * b) / a 0 - a (40 + 10 * b) / a 0) = s) := by
  unfold mov
  split
  · exact ⟨0, 0, Or.inl rfl, by omega, by omega, by omega, fun _ => ⟨by rw [Int.sub_self]; rfl, rfl⟩, fun _ => ⟨rfl, by rw [Int.sub_self]; rfl⟩⟩
  · dsimp only
    have hs : (if 0 < a (40 + 10 * b + (4 + dir)) then (1 : Int) else -1) = 1 ∨ (if 0 < a (40 + 10 * b + (4 + dir)) then (1 : Int) else -1) = -1 := by split <;> omega
    generalize (if 0 < a (40 + 10 * b + (4 + dir)) then (1 : Int) else -1) = st at hs ⊢
    generalize hx : a (40 + 10 * b) % a 0 + (if dir = 0 then st else 0) = x
    generalize hy : a (40 + 10 * b) / a 0 + (if dir = 1 then st else 0) = y
    by_cases c1 : ¬((0 ≤ x ∧ x < a 0) ∧ (0 ≤ y ∧ y < a 1))
    · rw [if_pos c1]
      refine ⟨0, 0, Or.inl rfl, by omega, ?_, ?_, fun _ => ?_, fun _ => ?_⟩
      · rw [up_ne _ _ (by omega)]; omega
      · rw [up_ne _ _ (by omega)]; omega
      · rw [up_ne _ _ (by omega), Int.sub_self]; exact ⟨rfl, rfl⟩
      · rw [up_ne _ _ (by omega), Int.sub_self]; exact ⟨rfl, rfl⟩
    · rw [if_neg c1]
      have c1 := Decidable.not_not.mp c1
      by_cases c2 : occ a (a 0 * y + x) b ≠ -1
      · rw [if_pos c2]
        obtain ⟨j, e1, e2, e3, e4, e5⟩ := occ_at c2
        rw [e1, Int.toNat_natCast]
        refine ⟨0, 1, Or.inl rfl, by omega, ?_, up_self _ _ _, fun _ => ?_, fun _ => ?_⟩
        · rw [up_ne _ _ (by omega), up_ne _ _ (by omega), up_ne _ _ (by omega)]; omega
        · rw [up_ne _ _ (by omega), up_ne _ _ (by omega), up_ne _ _ (by omega), Int.sub_self]; exact ⟨rfl, rfl⟩
        · rw [up_ne _ _ (by omega), up_ne _ _ (by omega), up_ne _ _ (by omega), Int.sub_self]; exact ⟨rfl, rfl⟩
      · rw [if_neg c2]
        obtain ⟨m1, m2⟩ := cel_mod c1
        refine ⟨1, 0, Or.inr rfl, by omega, up_self _ _ _, ?_, fun e => ?_, fun e => ?_⟩
        · rw [up_ne _ _ (by omega), up_ne _ _ (by omega), up_ne _ _ (by omega)]; omega
        · rw [up_ne _ _ (by omega), up_ne _ _ (by omega), up_self, m1, m2]
          rw [if_pos e] at hx
          rw [if_neg (by omega)] at hy
          exact ⟨by rw [← hx, show a (40 + 10 * b) % a 0 + st - a (40 + 10 * b) % a 0 = st by omega]; exact iab_1 hs, by omega⟩
        · rw [up_ne _ _ (by omega), up_ne _ _ (by omega), up_self, m1, m2]
          rw [if_neg (by omega)] at hx
          rw [if_pos e] at hy
          exact ⟨by omega, by rw [← hy, show a (40 + 10 * b) / a 0 + st - a (40 + 10 * b) / a 0 = st by omega]; exact iab_1 hs⟩
theorem mov_o {b : Nat} {dir : Nat} (hd : dir = 0 ∨ dir = 1) {k : Nat} (hkb : k ≠ b) : (∀ i, i < 10 → i ≠ 4 → i ≠ 5 → mov a b dir (40 + 10 * k + i) = a (40 + 10 * k + i)) ∧ (a (40 + 10 * k + 6) ≠ 0 → ∀ i, i < 10 → mov a b dir (40 + 10 * k + i) = a (40 + 10 * k + i)) := by
  unfold mov
  split
  · exact ⟨fun _ _ _ _ => rfl, fun _ _ _ => rfl⟩
  · dsimp only
    generalize (if 0 < a (40 + 10 * b + (4 + dir)) then (1 : Int) else -1) = st
    generalize a (40 + 10 * b) % a 0 + (if dir = 0 then st else 0) = x
    generalize a (40 + 10 * b) / a 0 + (if dir = 1 then st else 0) = y
    by_cases c1 : ¬((0 ≤ x ∧ x < a 0) ∧ (0 ≤ y ∧ y < a 1))
    · rw [if_pos c1]
      exact ⟨fun i h1 h4 h5 => up_ne _ _ (by omega), fun _ i hi => up_ne _ _ (by omega)⟩
    · rw [if_neg c1]
      by_cases c2 : occ a (a 0 * y + x) b ≠ -1
      · rw [if_pos c2]
        obtain ⟨j, e1, e2, e3, e4, e5⟩ := occ_at c2
        rw [e1, Int.toNat_natCast]
        refine ⟨fun i h1 h4 h5 => ?_, fun h6 i hi => ?_⟩
        · rw [up_ne _ _ (by omega), up_ne _ _ (by omega), up_ne _ _ (by omega)]
        · have : k ≠ j := fun e => h6 (by rw [e]; exact e4)
          rw [up_ne _ _ (by omega), up_ne _ _ (by omega), up_ne _ _ (by omega)]
      · rw [if_neg c2]
        refine ⟨fun i h1 h4 h5 => ?_, fun h6 i hi => ?_⟩
        · rw [up_ne _ _ (by omega), up_ne _ _ (by omega), up_ne _ _ (by omega)]
        · rw [up_ne _ _ (by omega), up_ne _ _ (by omega), up_ne _ _ (by omega)]
/-- how far a boat went, and what it counted -/
def Mv (a a2 : Rw) (j : Nat) : Prop := ∃ s t h : Int, (s = 0 ∨ s = 1) ∧ (t = 0 ∨ t = 1) ∧ (0 ≤ h ∧ h ≤ 2 - s - t) ∧ a2 (40 + 10 * j + 8) = a (40 + 10 * j + 8) + s + t ∧ a2 (40 + 10 * j + 9) = a (40 + 10 * j + 9) + h ∧ iab (a2 (40 + 10 * j) % a 0 - a (40 + 10 * j) % a 0) = s ∧ iab (a2 (40 + 10 * j) / a 0 - a (40 + 10 * j) / a 0) = t
theorem Mv_rf {a a2 : Rw} {j : Nat} (h0 : a2 (40 + 10 * j) = a (40 + 10 * j)) (h8 : a2 (40 + 10 * j + 8) = a (40 + 10 * j + 8)) (h9 : a2 (40 + 10 * j + 9) = a (40 + 10 * j + 9)) : Mv a a2 j := by
  refine ⟨0, 0, 0, Or.inl rfl, Or.inl rfl, by omega, by omega, by omega, ?_, ?_⟩
  · rw [h0, Int.sub_self]; rfl
  · rw [h0, Int.sub_self]; rfl
theorem Mv_cg {a a2 a3 b1 : Rw} {j : Nat} (h : Mv b1 a2 j) (z0 : b1 0 = a 0) (e0 : b1 (40 + 10 * j) = a (40 + 10 * j)) (e8 : b1 (40 + 10 * j + 8) = a (40 + 10 * j + 8)) (e9 : b1 (40 + 10 * j + 9) = a (40 + 10 * j + 9)) (h0 : a3 (40 + 10 * j) = a2 (40 + 10 * j)) (h8 : a3 (40 + 10 * j + 8) = a2 (40 + 10 * j + 8)) (h9 : a3 (40 + 10 * j + 9) = a2 (40 + 10 * j + 9)) : Mv a a3 j := by
  obtain ⟨s, t, g, q1, q2, q3, q4, q5, q6, q7⟩ := h
  refine ⟨s, t, g, q1, q2, q3, by omega, by omega, ?_, ?_⟩
  · rw [h0, ← e0, ← z0]; exact q6
  · rw [h0, ← e0, ← z0]; exact q7
theorem dft_b (hw : WF Tm a) {b : Nat} (hb : (b : Int) < a 9) (h8 : a (40 + 10 * b + 8) + 2 ≤ 2 * a 6) (h9 : a (40 + 10 * b + 9) + 2 ≤ 2 * a 6) : Mv a (dft a b) b ∧ ∀ k : Nat, k ≠ b → (∀ i, i < 10 → i ≠ 4 → i ≠ 5 → dft a b (40 + 10 * k + i) = a (40 + 10 * k + i)) ∧ (a (40 + 10 * k + 6) ≠ 0 → ∀ i, i < 10 → dft a b (40 + 10 * k + i) = a (40 + 10 * k + i)) := by
  unfold dft
  have w1 := WF_b4 hw hb (lim_b (zo (a (40 + 10 * b + 4)) + gro a b 0))
  have w2 := WF_b5 (b := b) w1 (by rw [up_ne _ _ (by omega)]; exact hb) (lim_b (zo (a (40 + 10 * b + 5)) + gro a b 1))
  have o : ∀ i, i ≠ 40 + 10 * b + 4 → i ≠ 40 + 10 * b + 5 → up (up a (40 + 10 * b + 4) (lim (zo (a (40 + 10 * b + 4)) + gro a b 0))) (40 + 10 * b + 5) (lim (zo (a (40 + 10 * b + 5)) + gro a b 1)) i = a i := fun i h4 h5 => by rw [up_ne _ _ h5, up_ne _ _ h4]
  generalize up (up a (40 + 10 * b + 4) (lim (zo (a (40 + 10 * b + 4)) + gro a b 0))) (40 + 10 * b + 5) (lim (zo (a (40 + 10 * b + 5)) + gro a b 1)) = a1 at w2 o ⊢
  have z9 := o 9 (by omega) (by omega)
  have z0 := o 0 (by omega) (by omega)
  have z6 := o 6 (by omega) (by omega)
  have zc := o (40 + 10 * b) (by omega) (by omega)
  have z8 := o (40 + 10 * b + 8) (by omega) (by omega)
  have zh := o (40 + 10 * b + 9) (by omega) (by omega)
  obtain ⟨s, h, m1, m2, m3, m4, m5, -⟩ := mov_b w2 (b := b) (by omega) (dir := 0) (Or.inl rfl)
  obtain ⟨m5, m6⟩ := m5 rfl
  have w3 := WF_mov (b := b) w2 (by omega) 0 (Or.inl rfl) (by omega) (by omega)
  have k3 := (mov_keep w2 (b := b) (by omega) 0 (Or.inl rfl)).1
  have y9 := k3 9 (by omega)
  have y0 := k3 0 (by omega)
  have o3 : ∀ k : Nat, k ≠ b → (∀ i, i < 10 → i ≠ 4 → i ≠ 5 → mov a1 b 0 (40 + 10 * k + i) = a1 (40 + 10 * k + i)) ∧ (a1 (40 + 10 * k + 6) ≠ 0 → ∀ i, i < 10 → mov a1 b 0 (40 + 10 * k + i) = a1 (40 + 10 * k + i)) := fun k hk => mov_o (Or.inl rfl) hk
  generalize mov a1 b 0 = a2 at m3 m4 m5 m6 w3 y9 y0 o3 ⊢
  obtain ⟨t, g, n1, n2, n3, n4, -, n5⟩ := mov_b w3 (b := b) (by omega) (dir := 1) (Or.inr rfl)
  obtain ⟨n5, n6⟩ := n5 rfl
  have o4 : ∀ k : Nat, k ≠ b → (∀ i, i < 10 → i ≠ 4 → i ≠ 5 → mov a2 b 1 (40 + 10 * k + i) = a2 (40 + 10 * k + i)) ∧ (a2 (40 + 10 * k + 6) ≠ 0 → ∀ i, i < 10 → mov a2 b 1 (40 + 10 * k + i) = a2 (40 + 10 * k + i)) := fun k hk => mov_o (Or.inr rfl) hk
  refine ⟨⟨s, t, h + g, m1, n1, by omega, by omega, by omega, ?_, ?_⟩, fun k hk => ⟨fun i hi h4 h5 => ?_, fun h6 i hi => ?_⟩⟩
  · rw [← z0, ← zc, ← m5, ← y0, n5]
  · rw [← z0, ← zc, ← m6, ← y0, n6]
  · rw [(o4 k hk).1 i hi h4 h5, (o3 k hk).1 i hi h4 h5, o _ (by omega) (by omega)]
  · have e6 : a1 (40 + 10 * k + 6) ≠ 0 := by rw [o _ (by omega) (by omega)]; exact h6
    have f6 : a2 (40 + 10 * k + 6) ≠ 0 := by rw [(o3 k hk).2 e6 6 (by omega)]; exact e6
    rw [(o4 k hk).2 f6 i hi, (o3 k hk).2 e6 i hi, o _ (by omega) (by omega)]
theorem drA_mv (hw : WF Tm a) (hm : ∀ j : Nat, (j : Int) < a 9 → a (40 + 10 * j + 8) + 2 ≤ 2 * a 6 ∧ a (40 + 10 * j + 9) + 2 ≤ 2 * a 6) : ∀ n : Nat, (n : Int) ≤ a 9 → ∀ j : Nat, (j : Int) < a 9 → Mv a (zfold drA n a) j ∧ (n ≤ j → zfold drA n a (40 + 10 * j) = a (40 + 10 * j)) ∧ (a (40 + 10 * j + 6) ≠ 0 → ∀ i, i < 10 → zfold drA n a (40 + 10 * j + i) = a (40 + 10 * j + i)) := by
  intro n
  have u9 := hw.1.2.2.2.2.2.2.2.2.2
  induction n with
  | zero => exact fun _ j hj => ⟨Mv_rf rfl rfl rfl, fun _ => rfl, fun _ _ _ => rfl⟩
  | succ n ih =>
    intro hn j hj
    obtain ⟨i1, i2, i3, i4, i5⟩ := drA_inv hw hm n (by omega)
    obtain ⟨j1, j2, j3⟩ := ih (by omega) j hj
    rw [show zfold drA (n + 1) a = (if 0 < zfold drA n a 2 ∧ zfold drA n a (40 + 10 * n + 6) = 0 then dft (zfold drA n a) n else zfold drA n a) from rfl]
    have e9 := i2 9 (by omega)
    have e0 := i2 0 (by omega)
    have e6 := i2 6 (by omega)
    by_cases c : 0 < zfold drA n a 2 ∧ zfold drA n a (40 + 10 * n + 6) = 0
    · rw [if_pos c]
      have e5 := i5 n (by omega) (by omega)
      have m := hm n (by omega)
      obtain ⟨d1, d2⟩ := dft_b (b := n) i1 (by omega) (by omega) (by omega)
      by_cases e : j = n
      · subst e
        refine ⟨Mv_cg d1 e0 (j2 (Nat.le_refl _)) e5.1 e5.2 rfl rfl rfl, fun h => absurd h (by omega), fun h => ?_⟩
        exact absurd c.2 (by rw [j3 h 6 (by omega)]; exact h)
      · obtain ⟨d3, d4⟩ := d2 j e
        refine ⟨Mv_cg j1 rfl rfl rfl rfl (d3 0 (by omega) (by omega) (by omega)) (d3 8 (by omega) (by omega) (by omega)) (d3 9 (by omega) (by omega) (by omega)), fun h => ?_, fun h i hi => ?_⟩
        · exact (d3 0 (by omega) (by omega) (by omega)).trans (j2 (by omega))
        · rw [d4 (by rw [j3 h 6 (by omega)]; exact h) i hi]
          exact j3 h i hi
    · rw [if_neg c]
      exact ⟨j1, fun h => j2 (by omega), j3⟩
end LQ

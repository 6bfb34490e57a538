/-! THE PURE SIDE 9: a turn keeps the bounds -/
section WG
variable {a : Rw} {T : Int} {b : Nat}
theorem iab_ge {x : Int} (h : ¬ iab x < 100) : 100 ≤ x ∨ x ≤ -100 := by unfold iab at h; split at h <;> omega
theorem mov_cases (hw : WF T a) (hb : (b : Int) < a 9) (dir : Nat) (hd : dir = 0 ∨ dir = 1) :
    mov a b dir = a ∨ mov a b dir = up a (40 + 10 * b + (4 + dir)) 0 ∨
    (∃ (j : Nat) (v : Int), (j : Int) < a 9 ∧ j ≠ b ∧ (-300 ≤ v ∧ v ≤ 300) ∧ mov a b dir = up (up (up a (40 + 10 * j + (4 + dir)) v) (40 + 10 * b + (4 + dir)) 0) (40 + 10 * b + 9) (a (40 + 10 * b + 9) + 1)) ∨
    (∃ (c v : Int), (0 ≤ c ∧ c < a 0 * a 1) ∧ (-300 ≤ v ∧ v ≤ 300) ∧ (∀ k : Nat, (k : Int) < a 9 → k ≠ b → a (40 + 10 * k + 6) = 0 → a (40 + 10 * k) ≠ c) ∧ mov a b dir = up (up (up a (40 + 10 * b) c) (40 + 10 * b + (4 + dir)) v) (40 + 10 * b + 8) (a (40 + 10 * b + 8) + 1)) := by
  have hwO := hw; obtain ⟨⟨⟨u0, u0x⟩, ⟨u1, u1x⟩, ⟨u2, u2x⟩, ⟨u3, u3x⟩, ⟨u4, u4x⟩, ⟨u5, u5x⟩, ⟨u6, u6x, uT⟩, ⟨u7, u7x⟩, ⟨u8, u8x⟩, ⟨u9, u9x⟩⟩, uD, uP, uB, uS, uI⟩ := hwO
  have gB := uB b hb
  have gd : -300 ≤ a (40 + 10 * b + (4 + dir)) ∧ a (40 + 10 * b + (4 + dir)) ≤ 300 := by
    rcases hd with e | e <;> subst e
    · exact gB.2.2.2.2.1
    · exact gB.2.2.2.2.2.1
  unfold mov
  by_cases c1 : iab (a (40 + 10 * b + (4 + dir))) < 100
  · rw [if_pos c1]; exact Or.inl rfl
  · rw [if_neg c1]
    have g1 := iab_ge c1
    simp only []
    generalize hst : (if 0 < a (40 + 10 * b + (4 + dir)) then (1 : Int) else -1) = st
    generalize hx : a (40 + 10 * b) % a 0 + (if dir = 0 then st else 0) = x
    generalize hy : a (40 + 10 * b) / a 0 + (if dir = 1 then st else 0) = y
    by_cases c2 : (0 ≤ x ∧ x < a 0) ∧ (0 ≤ y ∧ y < a 1)
    · rw [if_neg (not_not_intro c2)]
      have gc := cel_lt c2
      by_cases c3 : occ a (a 0 * y + x) b ≠ -1
      · rw [if_pos c3]
        obtain ⟨j, e1, -, e3, e4, -⟩ := zfst_some _ _ _ c3
        have e1 : occ a (a 0 * y + x) b = j := e1
        simp only [Bool.and_eq_true, decide_eq_true_eq] at e4
        rw [e1, Int.toNat_natCast]
        exact Or.inr (Or.inr (Or.inl ⟨j, limI (a (40 + 10 * j + (4 + dir)) + (a (40 + 10 * b + (4 + dir)) * a (40 + 10 * b + 1)).tdiv (a (40 + 10 * b + 1) + a (40 + 10 * j + 1))), by omega, by omega, limI_b _, rfl⟩))
      · rw [if_neg c3]
        have c3 : occ a (a 0 * y + x) b = -1 := Classical.not_not.mp c3
        refine Or.inr (Or.inr (Or.inr ⟨_, _, gc, ?_, fun k hk hkb hk6 hkc => ?_, rfl⟩))
        · split at hst <;> subst hst <;> omega
        · have := zfst_none _ _ _ c3 k (by omega) (by omega)
          simp only [Bool.and_eq_false_iff, decide_eq_false_iff_not] at this
          rcases this with h | h | h
          · omega
          · exact h hk6
          · exact h hkc
    · rw [if_pos c2]; exact Or.inr (Or.inl rfl)
theorem WF_mov (hw : WF T a) (hb : (b : Int) < a 9) (dir : Nat) (hd : dir = 0 ∨ dir = 1) (h8 : a (40 + 10 * b + 8) + 1 ≤ 2 * a 6) (h9 : a (40 + 10 * b + 9) + 1 ≤ 2 * a 6) : WF T (mov a b dir) := by
  have gB := hw.2.2.2.1 b hb
  have u9 := hw.1.2.2.2.2.2.2.2.2.2
  have wd : ∀ (a : Rw) (j : Nat) (v : Int), WF T a → (j : Int) < a 9 → (-300 ≤ v ∧ v ≤ 300) → WF T (up a (40 + 10 * j + (4 + dir)) v) := by
    intro a j v h1 h2 h3
    rcases hd with e | e <;> subst e
    · exact WF_b4 h1 h2 h3
    · exact WF_b5 h1 h2 h3
  rcases mov_cases hw hb dir hd with e | e | ⟨j, v, e1, e2, e3, e⟩ | ⟨c, v, e1, e2, e3, e⟩
  · rw [e]; exact hw
  · rw [e]; exact wd a b 0 hw hb (by omega)
  · rw [e]
    have w1 := wd a j v hw e1 e3
    have w2 := wd _ b 0 w1 (by simp (maxSteps := 10000000) (disch := omega) only [up_ne, up_self]; exact hb) (by omega)
    exact WF_b9 w2 (by simp (maxSteps := 10000000) (disch := omega) only [up_ne, up_self]; exact hb) (by simp (maxSteps := 10000000) (disch := omega) only [up_ne, up_self]; omega)
  · rw [e]
    have w1 := WF_cell hw hb e1 e3
    have w2 := wd _ b v w1 (by simp (maxSteps := 10000000) (disch := omega) only [up_ne, up_self]; exact hb) e2
    exact WF_b8 w2 (by simp (maxSteps := 10000000) (disch := omega) only [up_ne, up_self]; exact hb) (by simp (maxSteps := 10000000) (disch := omega) only [up_ne, up_self]; omega)
theorem mov_keep (hw : WF T a) (hb : (b : Int) < a 9) (dir : Nat) (hd : dir = 0 ∨ dir = 1) :
    (∀ i, i < 40 → mov a b dir i = a i) ∧ (∀ i, 160 ≤ i → mov a b dir i = a i) ∧
    (∀ k w : Nat, k < 12 → (w = 1 ∨ w = 2 ∨ w = 3 ∨ w = 6 ∨ w = 7) → mov a b dir (40 + 10 * k + w) = a (40 + 10 * k + w)) ∧
    (∀ k : Nat, k < 12 → k ≠ b → mov a b dir (40 + 10 * k + 8) = a (40 + 10 * k + 8) ∧ mov a b dir (40 + 10 * k + 9) = a (40 + 10 * k + 9)) ∧
    (mov a b dir (40 + 10 * b + 8) ≤ a (40 + 10 * b + 8) + 1 ∧ mov a b dir (40 + 10 * b + 9) ≤ a (40 + 10 * b + 9) + 1) := by
  have u9 := hw.1.2.2.2.2.2.2.2.2.2
  rcases mov_cases hw hb dir hd with e | e | ⟨j, v, e1, e2, e3, e⟩ | ⟨c, v, e1, e2, e3, e⟩ <;> rw [e]
  · exact ⟨fun _ _ => rfl, fun _ _ => rfl, fun _ _ _ _ => rfl, fun _ _ _ => ⟨rfl, rfl⟩, by omega, by omega⟩
  all_goals
    refine ⟨fun i hi => ?_, fun i hi => ?_, fun k w hk hw => ?_, fun k hk hkb => ⟨?_, ?_⟩, ?_, ?_⟩
    · simp (maxSteps := 10000000) (disch := omega) only [up_ne, up_self]
    · simp (maxSteps := 10000000) (disch := omega) only [up_ne, up_self]
    · rcases hd with e | e <;> subst e <;> simp (maxSteps := 10000000) (disch := omega) only [up_ne, up_self]
    · rcases hd with e | e <;> subst e <;> simp (maxSteps := 10000000) (disch := omega) only [up_ne, up_self]
    · rcases hd with e | e <;> subst e <;> simp (maxSteps := 10000000) (disch := omega) only [up_ne, up_self]
    · rcases hd with e | e <;> subst e <;> simp (maxSteps := 10000000) (disch := omega) only [up_ne, up_self] <;> omega
    · rcases hd with e | e <;> subst e <;> simp (maxSteps := 10000000) (disch := omega) only [up_ne, up_self] <;> omega
/-- what a boat's drifting keeps -/
theorem dft_ok (hw : WF T a) (hb : (b : Int) < a 9) (h8 : a (40 + 10 * b + 8) + 2 ≤ 2 * a 6) (h9 : a (40 + 10 * b + 9) + 2 ≤ 2 * a 6) :
    WF T (dft a b) ∧ (∀ i, i < 40 → dft a b i = a i) ∧ (∀ i, 160 ≤ i → dft a b i = a i) ∧
    (∀ k w : Nat, k < 12 → (w = 1 ∨ w = 2 ∨ w = 3 ∨ w = 6 ∨ w = 7) → dft a b (40 + 10 * k + w) = a (40 + 10 * k + w)) ∧
    (∀ k : Nat, k < 12 → k ≠ b → dft a b (40 + 10 * k + 8) = a (40 + 10 * k + 8) ∧ dft a b (40 + 10 * k + 9) = a (40 + 10 * k + 9)) := by
  have u9 := hw.1.2.2.2.2.2.2.2.2.2
  unfold dft
  have w1 := WF_b4 hw hb (lim_b (zo (a (40 + 10 * b + 4)) + gro a b 0))
  have w2 := WF_b5 (b := b) w1 (by simp (maxSteps := 10000000) (disch := omega) only [up_ne, up_self]; exact hb) (lim_b (zo (a (40 + 10 * b + 5)) + gro a b 1))
  generalize lim (zo (a (40 + 10 * b + 4)) + gro a b 0) = v1 at *
  generalize lim (zo (a (40 + 10 * b + 5)) + gro a b 1) = v2 at *
  have e8 : up (up a (40 + 10 * b + 4) v1) (40 + 10 * b + 5) v2 (40 + 10 * b + 8) = a (40 + 10 * b + 8) := by simp (maxSteps := 10000000) (disch := omega) only [up_ne, up_self]
  have e9 : up (up a (40 + 10 * b + 4) v1) (40 + 10 * b + 5) v2 (40 + 10 * b + 9) = a (40 + 10 * b + 9) := by simp (maxSteps := 10000000) (disch := omega) only [up_ne, up_self]
  have e6 : up (up a (40 + 10 * b + 4) v1) (40 + 10 * b + 5) v2 6 = a 6 := by simp (maxSteps := 10000000) (disch := omega) only [up_ne, up_self]
  have e99 : up (up a (40 + 10 * b + 4) v1) (40 + 10 * b + 5) v2 9 = a 9 := by simp (maxSteps := 10000000) (disch := omega) only [up_ne, up_self]
  have hlo : ∀ i, i < 40 → up (up a (40 + 10 * b + 4) v1) (40 + 10 * b + 5) v2 i = a i := by intro i hi; simp (maxSteps := 10000000) (disch := omega) only [up_ne, up_self]
  have hhi : ∀ i, 160 ≤ i → up (up a (40 + 10 * b + 4) v1) (40 + 10 * b + 5) v2 i = a i := by intro i hi; simp (maxSteps := 10000000) (disch := omega) only [up_ne, up_self]
  have hmi : ∀ k w : Nat, k < 12 → (w = 1 ∨ w = 2 ∨ w = 3 ∨ w = 6 ∨ w = 7 ∨ w = 8 ∨ w = 9) → up (up a (40 + 10 * b + 4) v1) (40 + 10 * b + 5) v2 (40 + 10 * k + w) = a (40 + 10 * k + w) := by
    intro k w hk hw; simp (maxSteps := 10000000) (disch := omega) only [up_ne, up_self]
  generalize up (up a (40 + 10 * b + 4) v1) (40 + 10 * b + 5) v2 = a2 at *
  have k0 := mov_keep (b := b) w2 (by omega) 0 (Or.inl rfl)
  have w3 := WF_mov (b := b) w2 (by omega) 0 (Or.inl rfl) (by omega) (by omega)
  have f6 := k0.1 6 (by omega)
  have f9 := k0.1 9 (by omega)
  have k1 := mov_keep (b := b) w3 (by omega) 1 (Or.inr rfl)
  have w4 := WF_mov (b := b) w3 (by omega) 1 (Or.inr rfl) (by omega) (by omega)
  refine ⟨w4, fun i hi => ?_, fun i hi => ?_, fun k w hk hw => ?_, fun k hk hkb => ⟨?_, ?_⟩⟩
  · rw [k1.1 i hi, k0.1 i hi, hlo i hi]
  · rw [k1.2.1 i hi, k0.2.1 i hi, hhi i hi]
  · rw [k1.2.2.1 k w hk hw, k0.2.2.1 k w hk hw, hmi k w hk (by omega)]
  · rw [(k1.2.2.2.1 k hk hkb).1, (k0.2.2.2.1 k hk hkb).1, hmi k 8 hk (by omega)]
  · rw [(k1.2.2.2.1 k hk hkb).2, (k0.2.2.2.1 k hk hkb).2, hmi k 9 hk (by omega)]
theorem enB_at (a : Rw) (b : Nat) (st : Int) (i : Nat) (h1 : i ≠ 40 + 10 * b + 6) (h2 : i ≠ 40 + 10 * b + 7) : enB a b st i = a i := by
  unfold enB; simp (maxSteps := 10000000) (disch := omega) only [up_ne, up_self]
theorem enB_6 (a : Rw) (b : Nat) (st : Int) : enB a b st (40 + 10 * b + 6) = st := by
  unfold enB; simp (maxSteps := 10000000) (disch := omega) only [up_ne, up_self]
theorem enB_7 (a : Rw) (b : Nat) (st : Int) : enB a b st (40 + 10 * b + 7) = a 6 := by
  unfold enB; simp (maxSteps := 10000000) (disch := omega) only [up_ne, up_self]
/-- what a boat's soaking keeps -/
theorem sok_ok (hw : WF T a) (hb : (b : Int) < a 9) (h0 : a (40 + 10 * b + 6) = 0) :
    WF T (sok a b) ∧ (∀ i, i < 13 → sok a b i = a i) ∧ (∀ i, 160 ≤ i → sok a b i = a i) ∧
    (∀ k w : Nat, k < 12 → k ≠ b → w < 10 → sok a b (40 + 10 * k + w) = a (40 + 10 * k + w)) ∧
    (sok a b (40 + 10 * b + 6) ≠ 0 → sok a b (40 + 10 * b + 7) = a 6) := by
  have hwO := hw; obtain ⟨⟨⟨u0, u0x⟩, ⟨u1, u1x⟩, ⟨u2, u2x⟩, ⟨u3, u3x⟩, ⟨u4, u4x⟩, ⟨u5, u5x⟩, ⟨u6, u6x, uT⟩, ⟨u7, u7x⟩, ⟨u8, u8x⟩, ⟨u9, u9x⟩⟩, uD, uP, uB, uS, uI⟩ := hwO
  have uN := WF_nc hw
  have gB := uB b hb
  have gS := uS (a (40 + 10 * b)).toNat (by omega)
  have o1 := drIn_ge a (a (40 + 10 * b))
  have o2 := drIn_lt (a := a) (a (40 + 10 * b)) (by omega)
  unfold sok
  generalize hv : a (40 + 10 * b + 3) + 1 + a (160 + (a (40 + 10 * b)).toNat) / 10 = v
  have bv : 1 ≤ v ∧ v ≤ a (40 + 10 * b + 2) + 10 := by have := gB.2.2.2.2.2.2.2.2.2.2 h0; omega
  by_cases c1 : a (40 + 10 * b + 2) < v
  · rw [if_pos c1]
    have wx : ∀ s : Int, s = 1 ∨ s = 2 → WF T (enB (up a (40 + 10 * b + 3) v) b s) := by
      intro s hs
      have e : enB (up a (40 + 10 * b + 3) v) b s = up (enB a b s) (40 + 10 * b + 3) v := by
        unfold enB
        funext i
        have e6 : up a (40 + 10 * b + 3) v 6 = a 6 := by simp (maxSteps := 10000000) (disch := omega) only [up_ne, up_self]
        rw [e6]
        unfold up
        by_cases z1 : i = 40 + 10 * b + 7
        · rw [if_pos z1, if_neg (by omega), if_pos z1]
        · rw [if_neg z1]
          by_cases z2 : i = 40 + 10 * b + 6
          · rw [if_pos z2, if_neg (by omega), if_neg z1, if_pos z2]
          · rw [if_neg z2, if_neg z1, if_neg z2]
      rw [e]
      exact WF_b3 (WF_en hw hb hs) (by rw [enB_at _ _ _ _ (by omega) (by omega)]; exact hb) ⟨by omega, fun h => by rw [enB_6] at h; omega⟩
    refine ⟨wx 1 (Or.inl rfl), fun i hi => ?_, fun i hi => ?_, fun k w hk hkb hw => ?_, fun _ => ?_⟩
    · rw [enB_at _ _ _ _ (by omega) (by omega)]; simp (maxSteps := 10000000) (disch := omega) only [up_ne, up_self]
    · rw [enB_at _ _ _ _ (by omega) (by omega)]; simp (maxSteps := 10000000) (disch := omega) only [up_ne, up_self]
    · rw [enB_at _ _ _ _ (by omega) (by omega)]; simp (maxSteps := 10000000) (disch := omega) only [up_ne, up_self]
    · rw [enB_7]; simp (maxSteps := 10000000) (disch := omega) only [up_ne, up_self]
  · rw [if_neg c1]
    have w1 := WF_b3 (v := v) hw hb ⟨by omega, fun _ => by omega⟩
    by_cases c2 : wdr a (a (40 + 10 * b)) b = true
    · rw [if_pos c2]
      have hd : drIn a (a (40 + 10 * b)) ≠ -1 := by
        intro e; unfold wdr at c2; rw [if_pos e] at c2; cases c2
      obtain ⟨j, hj⟩ : ∃ j : Nat, drIn a (a (40 + 10 * b)) = j := ⟨(drIn a (a (40 + 10 * b))).toNat, by omega⟩
      rw [hj] at o2 ⊢
      rw [Int.toNat_natCast]
      have w2 := WF_en (b := b) (v := 2) w1 (by simp (maxSteps := 10000000) (disch := omega) only [up_ne, up_self]; exact hb) (Or.inr rfl)
      refine ⟨WF_d3 w2 (by rw [enB_at _ _ _ _ (by omega) (by omega)]; simp (maxSteps := 10000000) (disch := omega) only [up_ne, up_self]; exact o2), fun i hi => ?_, fun i hi => ?_, fun k w hk hkb hw => ?_, fun _ => ?_⟩
      · rw [up_ne _ _ (by omega), enB_at _ _ _ _ (by omega) (by omega)]; simp (maxSteps := 10000000) (disch := omega) only [up_ne, up_self]
      · rw [up_ne _ _ (by omega), enB_at _ _ _ _ (by omega) (by omega)]; simp (maxSteps := 10000000) (disch := omega) only [up_ne, up_self]
      · rw [up_ne _ _ (by omega), enB_at _ _ _ _ (by omega) (by omega)]; simp (maxSteps := 10000000) (disch := omega) only [up_ne, up_self]
      · rw [up_ne _ _ (by omega), enB_7]; simp (maxSteps := 10000000) (disch := omega) only [up_ne, up_self]
    · rw [if_neg c2]
      refine ⟨w1, fun i hi => ?_, fun i hi => ?_, fun k w hk hkb hw => ?_, fun h => ?_⟩
      · simp (maxSteps := 10000000) (disch := omega) only [up_ne, up_self]
      · simp (maxSteps := 10000000) (disch := omega) only [up_ne, up_self]
      · simp (maxSteps := 10000000) (disch := omega) only [up_ne, up_self]
      · exact absurd h0 (by rw [up_ne _ _ (by omega)] at h; exact h)
theorem spF_b (a : Rw) (x y : Int) : 0 ≤ spF a x y ∧ spF a x y ≤ 1 := by unfold spF; split <;> omega
theorem spr_ok (hw : WF T a) : WF T (spr a) ∧ (∀ i, i < 160 → spr a i = a i) := by
  have hl : ∀ i, i < 160 → spr a i = a i := by intro i hi; unfold spr; rw [if_neg (by omega)]
  refine ⟨WF_soapF hw hl ?_, hl⟩
  intro c hc
  have uN := WF_nc hw
  have g := col_rng hw (c := c) (by omega) hc
  have gs := hw.2.2.2.2.1 c hc
  unfold spr ncl
  rw [if_pos (by omega), show 160 + c - 160 = c by omega]
  have f0 := spF_b a ((c : Int) % a 0) ((c : Int) / a 0)
  have f1 := spF_b a ((c : Int) % a 0 - 1) ((c : Int) / a 0)
  have f2 := spF_b a ((c : Int) % a 0 + 1) ((c : Int) / a 0)
  have f3 := spF_b a ((c : Int) % a 0) ((c : Int) / a 0 - 1)
  have f4 := spF_b a ((c : Int) % a 0) ((c : Int) / a 0 + 1)
  have hA : 0 ≤ spA a c ∧ spA a c ≤ 4 := by
    unfold spA
    have u0 := hw.1.1
    have u1 := hw.1.2.1
    split <;> split <;> split <;> split <;> omega
  have hz : spF a ((c : Int) % a 0) ((c : Int) / a 0) * spA a c ≤ a (160 + c) := by
    have e : spF a ((c : Int) % a 0) ((c : Int) / a 0) = if 4 ≤ a (160 + c) then 1 else 0 := by
      unfold spF spIn
      have u0 := hw.1.1
      have gc := cel_of (a := a) (c := c) (by omega) (by omega) hc
      rw [if_pos gc.1, gc.2, Int.toNat_natCast]
    rw [e]
    split
    · rw [Int.one_mul]; omega
    · rw [Int.zero_mul]; omega
  unfold spN
  split <;> omega
end WG

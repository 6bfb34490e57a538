/-! THE PURE SIDE 28: a new bath, a new boat -/
def begR (w h : Int) : Rw := fun i => if i = 0 then w else if i = 1 then h else if i = 2 then 500 else if i = 3 then 1 else 0
def nbR (a : Rw) (c w s wt : Int) : Rw := fun i => if i = 9 then a 9 + 1 else if i < 40 + 10 * (a 9).toNat then a i else if i = 40 + 10 * (a 9).toNat then c else if i = 40 + 10 * (a 9).toNat + 1 then w else if i = 40 + 10 * (a 9).toNat + 2 then s else if i = 40 + 10 * (a 9).toNat + 3 then wt else if i = 40 + 10 * (a 9).toNat + 7 then -1 else if i < 50 + 10 * (a 9).toNat then 0 else a i
section CT
variable {S : zS} {n d : Nat} {a : Rw} {T c w s wt : Int}
theorem nbR_9 : nbR a c w s wt 9 = a 9 + 1 := if_pos rfl
theorem nbR_lo {i : Nat} (h : i < 40 + 10 * (a 9).toNat) (h9 : i ≠ 9) : nbR a c w s wt i = a i := by unfold nbR; rw [if_neg h9, if_pos h]
theorem nbR_hi {i : Nat} (h : 50 + 10 * (a 9).toNat ≤ i) (h9 : i ≠ 9) : nbR a c w s wt i = a i := by
  unfold nbR; rw [if_neg h9, if_neg (by omega), if_neg (by omega), if_neg (by omega), if_neg (by omega), if_neg (by omega), if_neg (by omega), if_neg (by omega)]
theorem nbR_0 : nbR a c w s wt (40 + 10 * (a 9).toNat) = c := by unfold nbR; rw [if_neg (by omega), if_neg (by omega), if_pos rfl]
theorem nbR_1 : nbR a c w s wt (40 + 10 * (a 9).toNat + 1) = w := by unfold nbR; rw [if_neg (by omega), if_neg (by omega), if_neg (by omega), if_pos rfl]
theorem nbR_2 : nbR a c w s wt (40 + 10 * (a 9).toNat + 2) = s := by unfold nbR; rw [if_neg (by omega), if_neg (by omega), if_neg (by omega), if_neg (by omega), if_pos rfl]
theorem nbR_3 : nbR a c w s wt (40 + 10 * (a 9).toNat + 3) = wt := by unfold nbR; rw [if_neg (by omega), if_neg (by omega), if_neg (by omega), if_neg (by omega), if_neg (by omega), if_pos rfl]
theorem nbR_7 : nbR a c w s wt (40 + 10 * (a 9).toNat + 7) = -1 := by unfold nbR; rw [if_neg (by omega), if_neg (by omega), if_neg (by omega), if_neg (by omega), if_neg (by omega), if_neg (by omega), if_pos rfl]
theorem nbR_z {j : Nat} (h : j = 4 ∨ j = 5 ∨ j = 6 ∨ j = 8 ∨ j = 9) : nbR a c w s wt (40 + 10 * (a 9).toNat + j) = 0 := by unfold nbR; rw [if_neg (by omega), if_neg (by omega), if_neg (by omega), if_neg (by omega), if_neg (by omega), if_neg (by omega), if_neg (by omega), if_pos (by omega)]
theorem occ_nb1 (hw : WF T a) (hc : occ a c (-1) = -1) (x : Int) : occ (nbR a c w s wt) x (-1) = if x = c then a 9 else occ a x (-1) := by
  have u9 := hw.1.2.2.2.2.2.2.2.2.2
  have key : ∀ (m k : Nat), k + m = (a 9).toNat → zfst (fun k => decide ((k : Int) ≠ -1) && (decide (nbR a c w s wt (40 + 10 * k + 6) = 0) && decide (nbR a c w s wt (40 + 10 * k) = x))) (m + 1) k = if zfst (fun k => decide ((k : Int) ≠ -1) && (decide (a (40 + 10 * k + 6) = 0) && decide (a (40 + 10 * k) = x))) m k = -1 then (if x = c then a 9 else -1) else zfst (fun k => decide ((k : Int) ≠ -1) && (decide (a (40 + 10 * k + 6) = 0) && decide (a (40 + 10 * k) = x))) m k := by
    intro m
    induction m with
    | zero =>
      intro k hk
      rw [show k = (a 9).toNat by omega]
      unfold zfst zfst
      rw [nbR_z (by omega), nbR_0]
      by_cases e : x = c
      · subst e
        rw [if_pos (by simp; omega), if_pos rfl, if_pos rfl]; omega
      · rw [if_neg (by simp; intro _ h; exact e h.symm), if_pos rfl, if_neg e]
    | succ m ih =>
      intro k hk
      rw [zfst_succ _ (m + 1) k, zfst_succ _ m k]
      simp only [nbR_lo (a := a) (c := c) (w := w) (s := s) (wt := wt) (i := 40 + 10 * k + 6) (by omega) (by omega), nbR_lo (a := a) (c := c) (w := w) (s := s) (wt := wt) (i := 40 + 10 * k) (by omega) (by omega)]
      by_cases e : (decide ((k : Int) ≠ -1) && (decide (a (40 + 10 * k + 6) = 0) && decide (a (40 + 10 * k) = x))) = true
      · rw [if_pos e, if_pos e, if_neg (by omega)]
      · rw [if_neg e, if_neg e]
        exact ih (k + 1) (by omega)
  have k0 := key (a 9).toNat 0 (by omega)
  unfold occ
  rw [nbR_9, show (a 9 + 1).toNat = (a 9).toNat + 1 by omega, k0]
  by_cases e : x = c
  · subst e
    have : zfst (fun k => decide ((k : Int) ≠ -1) && (decide (a (40 + 10 * k + 6) = 0) && decide (a (40 + 10 * k) = x))) (a 9).toNat 0 = -1 := hc
    rw [if_pos this, if_pos rfl, if_pos rfl]
  · rw [if_neg e, if_neg e]
    split
    · rename_i h; exact h.symm
    · rfl
theorem WF_nb (hw : WF T a) (h9 : a 9 < 12) (hc : 0 ≤ c ∧ c < a 0 * a 1) (hf : occ a c (-1) = -1) (h1 : 1 ≤ w ∧ w ≤ 99) (h2 : 1 ≤ s ∧ s ≤ 999) (h3 : 0 ≤ wt ∧ wt ≤ s) : WF T (nbR a c w s wt) := by
  have hwO := hw; obtain ⟨⟨⟨u0, u0x⟩, ⟨u1, u1x⟩, ⟨u2, u2x⟩, ⟨u3, u3x⟩, ⟨u4, u4x⟩, ⟨u5, u5x⟩, ⟨u6, u6x, uT⟩, ⟨u7, u7x⟩, ⟨u8, u8x⟩, ⟨u9, u9x⟩⟩, uD, uP, uB, uS, uI⟩ := hwO
  have lo : ∀ i, i < 40 → i ≠ 9 → nbR a c w s wt i = a i := fun i hi h9 => nbR_lo (by omega) h9
  have hi : ∀ i, 160 ≤ i → nbR a c w s wt i = a i := fun i hi => nbR_hi (by omega) (by omega)
  refine ⟨?_, fun k hk => ?_, fun k hk => ?_, fun k hk => ?_, fun k hk => ?_, fun k l hk hl hk6 hl6 he => ?_⟩
  · rw [nbR_9]
    simp (disch := omega) only [lo]
    exact ⟨⟨u0, u0x⟩, ⟨u1, u1x⟩, ⟨u2, u2x⟩, ⟨u3, u3x⟩, ⟨u4, u4x⟩, ⟨u5, u5x⟩, ⟨u6, u6x, uT⟩, ⟨u7, u7x⟩, ⟨u8, u8x⟩, by omega, by omega⟩
  · rw [lo 7 (by omega) (by omega)] at hk
    simp (disch := omega) only [lo]
    exact uD k hk
  · rw [lo 8 (by omega) (by omega)] at hk
    simp (disch := omega) only [lo]
    exact uP k hk
  · rw [nbR_9] at hk
    by_cases e : (k : Int) = a 9
    · have ek : k = (a 9).toNat := by omega
      subst ek
      rw [nbR_0, nbR_1, nbR_2, nbR_3, nbR_7, nbR_z (j := 4) (by omega), nbR_z (j := 5) (by omega), nbR_z (j := 6) (by omega), nbR_z (j := 8) (by omega), nbR_z (j := 9) (by omega), lo 0 (by omega) (by omega), lo 1 (by omega) (by omega), lo 6 (by omega) (by omega)]
      omega
    · have g := uB k (by omega)
      rw [nbR_lo (i := 40 + 10 * k) (by omega) (by omega), nbR_lo (i := 40 + 10 * k + 1) (by omega) (by omega), nbR_lo (i := 40 + 10 * k + 2) (by omega) (by omega), nbR_lo (i := 40 + 10 * k + 3) (by omega) (by omega), nbR_lo (i := 40 + 10 * k + 4) (by omega) (by omega), nbR_lo (i := 40 + 10 * k + 5) (by omega) (by omega), nbR_lo (i := 40 + 10 * k + 6) (by omega) (by omega), nbR_lo (i := 40 + 10 * k + 7) (by omega) (by omega), nbR_lo (i := 40 + 10 * k + 8) (by omega) (by omega), nbR_lo (i := 40 + 10 * k + 9) (by omega) (by omega), lo 0 (by omega) (by omega), lo 1 (by omega) (by omega), lo 6 (by omega) (by omega)]
      exact g
  · rw [lo 0 (by omega) (by omega), lo 1 (by omega) (by omega)] at hk
    rw [hi _ (by omega)]
    exact uS k hk
  · rw [nbR_9] at hk hl
    have cell : ∀ j : Nat, (j : Int) < a 9 → nbR a c w s wt (40 + 10 * j) = a (40 + 10 * j) ∧ nbR a c w s wt (40 + 10 * j + 6) = a (40 + 10 * j + 6) := fun j hj => ⟨nbR_lo (by omega) (by omega), nbR_lo (by omega) (by omega)⟩
    by_cases ek : (k : Int) = a 9
    · by_cases el : (l : Int) = a 9
      · omega
      · have ek2 : k = (a 9).toNat := by omega
        subst ek2
        rw [nbR_0, (cell l (by omega)).1] at he
        rw [(cell l (by omega)).2] at hl6
        exact absurd he.symm (occ_free hf l (by omega) (by omega) hl6)
    · by_cases el : (l : Int) = a 9
      · have el2 : l = (a 9).toNat := by omega
        subst el2
        rw [nbR_0, (cell k (by omega)).1] at he
        rw [(cell k (by omega)).2] at hk6
        exact absurd he (occ_free hf k (by omega) (by omega) hk6)
      · rw [(cell k (by omega)).2] at hk6
        rw [(cell l (by omega)).2] at hl6
        rw [(cell k (by omega)).1, (cell l (by omega)).1] at he
        exact uI k l (by omega) (by omega) hk6 hl6 he
/-- the class's new boat -/
theorem Cb_nb (h : Cb (S.1 0 n) a) (hw : WF T a) (h9 : a 9 < 12) (hc : 0 ≤ c ∧ c < a 0 * a 1) (hf : occ a c (-1) = -1) {S2 : zS} {b : Nat} (eb : a 9 = b)
    (k0 : S2.1 0 n 2 (11 * b) = zo (c % a 0)) (k1 : S2.1 0 n 2 (11 * b + 1) = zo (c / a 0)) (k2 : S2.1 0 n 2 (11 * b + 2) = zo w) (k3 : S2.1 0 n 2 (11 * b + 3) = zo s) (k8 : S2.1 0 n 2 (11 * b + 8) = zo (-1)) (kz : ∀ j, (j = 4 ∨ j = 5 ∨ j = 6 ∨ j = 7 ∨ j = 9 ∨ j = 10) → S2.1 0 n 2 (11 * b + j) = zo 0)
    (kc : S2.1 0 n 10 c.toNat = zo b) (kn : S2.1 0 n 0 13 = zo (a 9 + 1))
    (ko : ∀ o j, ¬(o = 2 ∧ 11 * b ≤ j ∧ j < 11 * b + 11) → ¬(o = 10 ∧ j = c.toNat) → ¬(o = 0 ∧ j = 13) → S2.1 0 n o j = S.1 0 n o j) : Cb (S2.1 0 n) (nbR a c w s 0) := by
  have u := hw.1.2.2.2.2.2.2.2
  have uN := WF_nc hw
  have lo : ∀ i, i < 40 → i ≠ 9 → nbR a c w s 0 i = a i := fun i hi h9 => nbR_lo (by omega) h9
  have hi : ∀ i, 160 ≤ i → nbR a c w s 0 i = a i := fun i hi => nbR_hi (by omega) (by omega)
  have st : ∀ k : Nat, (k : Int) < a 9 → nbR a c w s 0 (40 + 10 * k + 6) = a (40 + 10 * k + 6) ∧ nbR a c w s 0 (40 + 10 * k + 7) = a (40 + 10 * k + 7) := fun k hk => ⟨nbR_lo (by omega) (by omega), nbR_lo (by omega) (by omega)⟩
  have eb2 : (a 9).toNat = b := by omega
  refine ⟨tF h.1 (fun o _ => ko _ _ (by omega) (by omega) (by omega)), ?_, tD h.2.2.1 hw.1 (fun j => ko _ _ (by omega) (by omega) (by omega)) (fun i hi _ => lo _ (by omega) (by omega)), tT h.2.2.2.1 hw.1 (fun j => ko _ _ (by omega) (by omega) (by omega)) (fun i hi _ => lo _ (by omega) (by omega)), fun k hk => ?_, tS h.2.2.2.2.2.1 (fun j => ko _ _ (by omega) (by omega) (by omega)) (lo _ (by omega) (by omega)) (lo _ (by omega) (by omega)) (fun i h => hi i h), fun x hx => ?_, ?_, fun i hi => ?_⟩
  · obtain ⟨n6, n7, n8, n9, n10, n11, n12, n13, n14, n15⟩ := h.2.1
    refine ⟨?_, ?_, ?_, ?_, ?_, ?_, ?_, by rw [kn, nbR_9], ?_, ?_⟩
    all_goals (rw [ko _ _ (by omega) (by omega) (by omega), lo _ (by omega) (by omega)]; assumption)
  · rw [nbR_9] at hk
    by_cases e : k = b
    · subst e
      have z0 : nbR a c w s 0 (40 + 10 * k) = c := by rw [← eb2]; exact nbR_0
      have z1 : nbR a c w s 0 (40 + 10 * k + 1) = w := by rw [← eb2]; exact nbR_1
      have z2 : nbR a c w s 0 (40 + 10 * k + 2) = s := by rw [← eb2]; exact nbR_2
      have z3 : nbR a c w s 0 (40 + 10 * k + 3) = 0 := by rw [← eb2]; exact nbR_3
      have z7 : nbR a c w s 0 (40 + 10 * k + 7) = -1 := by rw [← eb2]; exact nbR_7
      have zz : ∀ j, (j = 4 ∨ j = 5 ∨ j = 6 ∨ j = 8 ∨ j = 9) → nbR a c w s 0 (40 + 10 * k + j) = 0 := fun j hj => by rw [← eb2]; exact nbR_z hj
      rw [z0, z1, z2, z3, z7, zz 4 (by omega), zz 5 (by omega), zz 6 (by omega), zz 8 (by omega), zz 9 (by omega), lo 0 (by omega) (by omega)]
      exact ⟨k0, k1, k2, k3, kz 4 (by omega), kz 5 (by omega), kz 6 (by omega), kz 7 (by omega), k8, kz 9 (by omega), kz 10 (by omega)⟩
    · have g := h.2.2.2.2.1 k (by omega)
      rw [ko _ _ (by omega) (by omega) (by omega), ko _ _ (by omega) (by omega) (by omega), ko _ _ (by omega) (by omega) (by omega), ko _ _ (by omega) (by omega) (by omega), ko _ _ (by omega) (by omega) (by omega), ko _ _ (by omega) (by omega) (by omega), ko _ _ (by omega) (by omega) (by omega), ko _ _ (by omega) (by omega) (by omega), ko _ _ (by omega) (by omega) (by omega), ko _ _ (by omega) (by omega) (by omega), ko _ _ (by omega) (by omega) (by omega), nbR_lo (i := 40 + 10 * k) (by omega) (by omega), nbR_lo (i := 40 + 10 * k + 1) (by omega) (by omega), nbR_lo (i := 40 + 10 * k + 2) (by omega) (by omega), nbR_lo (i := 40 + 10 * k + 3) (by omega) (by omega), nbR_lo (i := 40 + 10 * k + 4) (by omega) (by omega), nbR_lo (i := 40 + 10 * k + 5) (by omega) (by omega), nbR_lo (i := 40 + 10 * k + 6) (by omega) (by omega), nbR_lo (i := 40 + 10 * k + 7) (by omega) (by omega), nbR_lo (i := 40 + 10 * k + 8) (by omega) (by omega), nbR_lo (i := 40 + 10 * k + 9) (by omega) (by omega), lo 0 (by omega) (by omega)]
      exact g
  · rw [lo 0 (by omega) (by omega), lo 1 (by omega) (by omega)] at hx
    rw [occ_nb1 hw hf]
    by_cases e : (x : Int) = c
    · rw [if_pos e, show x = c.toNat by omega, kc, eb]
    · rw [if_neg e, ko _ _ (by omega) (by omega) (by omega)]
      exact h.2.2.2.2.2.2.1 x hx
  · rw [ko _ _ (by omega) (by omega) (by omega), h.2.2.2.2.2.2.2.1]
    congr 1
    unfold nen
    rw [nbR_9, show (a 9 + 1).toNat = (a 9).toNat + 1 by omega]
    rw [show ∀ f : Nat → Int, zsum f ((a 9).toNat + 1) = zsum f (a 9).toNat + f (a 9).toNat from fun _ => rfl, nbR_z (j := 6) (by omega), if_pos rfl, Int.add_zero]
    exact zsum_congr _ (fun i hi => by rw [(st i (by omega)).1])
  · have en : nen (nbR a c w s 0) = nen a := by
      unfold nen
      rw [nbR_9, show (a 9 + 1).toNat = (a 9).toNat + 1 by omega]
      rw [show ∀ f : Nat → Int, zsum f ((a 9).toNat + 1) = zsum f (a 9).toNat + f (a 9).toNat from fun _ => rfl, nbR_z (j := 6) (by omega), if_pos rfl, Int.add_zero]
      exact zsum_congr _ (fun i hi => by rw [(st i (by omega)).1])
    rw [en] at hi
    obtain ⟨x, g1, g2, g3, g4⟩ := h.2.2.2.2.2.2.2.2 i hi
    refine ⟨x, by rw [nbR_9]; omega, by rw [(st x g1).1]; exact g2, ?_, by rw [ko _ _ (by omega) (by omega) (by omega)]; exact g4⟩
    rw [← g3]
    unfold rnk
    rw [nbR_9, show (a 9 + 1).toNat = (a 9).toNat + 1 by omega]
    rw [show ∀ f : Nat → Int, zsum f ((a 9).toNat + 1) = zsum f (a 9).toNat + f (a 9).toNat from fun _ => rfl, nbR_z (j := 6) (by omega), if_pos rfl, Int.add_zero]
    exact zsum_congr _ (fun i hi => by rw [(st i (by omega)).1, (st i (by omega)).2, (st x g1).2])
theorem c20_l (hF : CbF (S.1 0 n)) {b : Nat} (hb : b < 12) {l1 l2 l3 l4 : Int32} : ∀ (m k f : Nat) (S1 : zS), k + m = 11 → m < f → Fc n S S1 → S1.1 0 n 0 13 = zo b → (∀ o j, ¬(o = 2 ∧ 11 * b ≤ j ∧ j < 11 * b + 11) → S1.1 0 n o j = S.1 0 n o j) → (∀ j, j < k → S1.1 0 n 2 (11 * b + j) = zo 0) → ∃ S2 f', zy zF (d + 1) 20 f 3 [some (za 0 n 0), some (zi l1), some (zi l2), some (zi l3), some (zi l4), some (zi (zo k))] S1 = zy zF (d + 1) 20 (f' + 1) 3 [some (za 0 n 0), some (zi l1), some (zi l2), some (zi l3), some (zi l4), some (zi (zo 11))] S2 ∧ Fc n S S2 ∧ S2.1 0 n 0 13 = zo b ∧ (∀ o j, ¬(o = 2 ∧ 11 * b ≤ j ∧ j < 11 * b + 11) → S2.1 0 n o j = S.1 0 n o j) ∧ (∀ j, j < 11 → S2.1 0 n 2 (11 * b + j) = zo 0) := by
  intro m
  induction m with
  | zero =>
    intro k f S1 hk hf h1 h2 h3 h4
    obtain ⟨f, rfl⟩ : ∃ f', f = f' + 1 := ⟨f - 1, by omega⟩
    exact ⟨S1, f, by rw [show (k : Int) = 11 by omega], h1, h2, h3, fun j hj => h4 j (by omega)⟩
  | succ m ih =>
    intro k f S1 hk hf h1 h2 h3 h4
    obtain ⟨f, rfl⟩ : ∃ f', f = f' + 1 := ⟨f - 1, by omega⟩
    have f1 : S1.1 0 n 1 1 = zo 11 := by rw [h3 1 1 (by omega)]; exact hF.1
    have e : ((b : Int) * 11 + k).toNat = 11 * b + k := by omega
    have r68 : zr_sem zF (d + 1) 68 [za 0 n 1, zi (zo b), zi (zo k), zi (zo 0)] S1 = some (.inl none, zs_set S1 0 n 2 (11 * b + k) (zo 0)) := by
      rw [ze_68b]
      simp (maxSteps := 10000000) (disch := omega) only [f1, e, zo_add, zo_sub, zo_mul, zo_neg, zo_lt, zo_le, zo_eq, zo_nn, zin_ok, zlt_eq, zr0, zr1, zr3, zr4, zr0x, zr1x, zr3x, zr4x, zb_and, zb_0, zmin_o, zmax_o, zabs_o, zo_div, zo_mod, ↓reduceIte, Int.reduceToNat, Int.reduceNeg, Int.reduceAdd, Int.reduceMul, Int.reduceSub, Int.reduceEq, Int.reduceLT, Int.reduceLE, if_true, if_false, Nat.reduceAdd, Nat.reduceMul]
      rw [if_neg (by omega), if_neg (by omega), if_neg (by omega), if_neg (by omega)]
    obtain ⟨S2, f', q1, q2⟩ := ih (k + 1) f (zs_set S1 0 n 2 (11 * b + k) (zo 0)) (by omega) (by omega) (Fc_set h1 _ _ _) (by simp (maxSteps := 10000000) (disch := omega) only [zs_ne, zs_eq]; exact h2) (fun o j hj => by rw [zs_ne (by omega)]; exact h3 o j hj) (fun j hj => by
      by_cases z : j = k
      · subst z; exact zs_eq
      · rw [zs_ne (by omega)]; exact h4 j (by omega))
    refine ⟨S2, f', ?_, q2⟩
    rw [← q1, ze_20_3, h2, r68]
    simp (maxSteps := 10000000) (disch := omega) only [zo_add, zo_sub, zo_mul, zo_neg, zo_lt, zo_le, zo_eq, zo_nn, zin_ok, zlt_eq, zr0, zr1, zr3, zr4, zr0x, zr1x, zr3x, zr4x, zb_and, zb_0, zmin_o, zmax_o, zabs_o, zo_div, zo_mod, ↓reduceIte, Int.reduceToNat, Int.reduceNeg, Int.reduceAdd, Int.reduceMul, Int.reduceSub, Int.reduceEq, Int.reduceLT, Int.reduceLE, if_true, if_false, Nat.reduceAdd, Nat.reduceMul]
    rw [if_neg (show ¬ (11 : Int) ≤ k by omega)]
    rfl
theorem c20 (h : Cb (S.1 0 n) a) (hw : WF T a) (h9 : a 9 < 12) {x y : Int} (hc : (0 ≤ x ∧ x < a 0) ∧ (0 ≤ y ∧ y < a 1)) (hf : occ a (a 0 * y + x) (-1) = -1) : ∃ S', zr_sem zF (d + 2) 20 [za 0 n 0, zi (zo x), zi (zo y), zi (zo w), zi (zo s)] S = some (.inl none, S') ∧ Cb (S'.1 0 n) (nbR a (a 0 * y + x) w s 0) ∧ Fc n S S' := by
  have hb2 := zF1_big
  have uN := WF_nc hw
  have u0 := hw.1.1
  have u1 := hw.1.2.1
  have u9 := hw.1.2.2.2.2.2.2.2.2.2
  have l := cel_lt hc
  have gm := cel_mod hc
  obtain ⟨b, eb⟩ : ∃ b : Nat, a 9 = b := ⟨(a 9).toNat, by omega⟩
  have n13 := h.2.1.2.2.2.2.2.2.2.1
  obtain ⟨S2, f', q1, q2, q3, q4, q5⟩ := c20_l (d := d) (S := S) h.1 (b := b) (by omega) (l1 := zo x) (l2 := zo y) (l3 := zo w) (l4 := zo s) 11 0 zF1 S (by omega) (by omega) (Fc_refl n S) (by rw [n13, eb]) (fun _ _ _ => rfl) (fun j hj => by omega)
  obtain ⟨c, ec⟩ : ∃ c : Nat, a 0 * y + x = c := ⟨(a 0 * y + x).toNat, by omega⟩
  have F0 : CbF (S2.1 0 n) := tF h.1 (fun o _ => q4 o 1 (by omega))
  have N0 : CbN (S2.1 0 n) a := tN h.2.1 (fun j _ _ => q4 0 j (by omega)) (fun i hi => rfl)
  have e : ∀ (S3 : zS) (v1 v2 v3 v4 v5 : Int32), S3 = zs_set (zs_set (zs_set (zs_set (zs_set S2 0 n 2 (11 * b) v1) 0 n 2 (11 * b + 1) v2) 0 n 2 (11 * b + 2) v3) 0 n 2 (11 * b + 3) v4) 0 n 2 (11 * b + 8) v5 → CbF (S3.1 0 n) ∧ CbN (S3.1 0 n) a := by
    intro S3 v1 v2 v3 v4 v5 e; subst e
    exact ⟨tF F0 (fun o _ => by simp (maxSteps := 10000000) (disch := omega) only [zs_ne, zs_eq]), tN N0 (fun j _ _ => by simp (maxSteps := 10000000) (disch := omega) only [zs_ne, zs_eq]) (fun i hi => rfl)⟩
  have f1 := F0.1
  have e68 : ∀ (S3 : zS) (j : Nat) (v : Int32), j < 11 → CbF (S3.1 0 n) → zr_sem zF (d + 1) 68 [za 0 n 1, zi (zo b), zi (zo j), zi v] S3 = some (.inl none, zs_set S3 0 n 2 (11 * b + j) v) := by
    intro S3 j v hj hF3
    have g1 := hF3.1
    have ix : ((b : Int) * 11 + j).toNat = 11 * b + j := by omega
    rw [ze_68b]
    simp (maxSteps := 10000000) (disch := omega) only [g1, ix, zo_add, zo_sub, zo_mul, zo_neg, zo_lt, zo_le, zo_eq, zo_nn, zin_ok, zlt_eq, zr0, zr1, zr3, zr4, zr0x, zr1x, zr3x, zr4x, zb_and, zb_0, zmin_o, zmax_o, zabs_o, zo_div, zo_mod, ↓reduceIte, Int.reduceToNat, Int.reduceNeg, Int.reduceAdd, Int.reduceMul, Int.reduceSub, Int.reduceEq, Int.reduceLT, Int.reduceLE, if_true, if_false, Nat.reduceAdd, Nat.reduceMul]
    rw [if_neg (by omega), if_neg (by omega), if_neg (by omega), if_neg (by omega)]
  have w0 : zr_sem zF (d + 1) 68 [za 0 n 1, zi (zo b), zi (zo 0), zi (zo x)] S2 = some (.inl none, zs_set S2 0 n 2 (11 * b) (zo x)) := e68 S2 0 (zo x) (by omega) F0
  have F1 : CbF ((zs_set S2 0 n 2 (11 * b) (zo x)).1 0 n) := tF F0 (fun o _ => by simp (maxSteps := 10000000) (disch := omega) only [zs_ne, zs_eq])
  have w1 := e68 _ 1 (zo y) (by omega) F1
  have F2 : CbF ((zs_set (zs_set S2 0 n 2 (11 * b) (zo x)) 0 n 2 (11 * b + 1) (zo y)).1 0 n) := tF F0 (fun o _ => by simp (maxSteps := 10000000) (disch := omega) only [zs_ne, zs_eq])
  have w2 := e68 _ 2 (zo w) (by omega) F2
  have F3 : CbF ((zs_set (zs_set (zs_set S2 0 n 2 (11 * b) (zo x)) 0 n 2 (11 * b + 1) (zo y)) 0 n 2 (11 * b + 2) (zo w)).1 0 n) := tF F0 (fun o _ => by simp (maxSteps := 10000000) (disch := omega) only [zs_ne, zs_eq])
  have w3 := e68 _ 3 (zo s) (by omega) F3
  have F4 : CbF ((zs_set (zs_set (zs_set (zs_set S2 0 n 2 (11 * b) (zo x)) 0 n 2 (11 * b + 1) (zo y)) 0 n 2 (11 * b + 2) (zo w)) 0 n 2 (11 * b + 3) (zo s)).1 0 n) := tF F0 (fun o _ => by simp (maxSteps := 10000000) (disch := omega) only [zs_ne, zs_eq])
  have w8 := e68 _ 8 (zo (-1)) (by omega) F4
  rw [show ((1 : Nat) : Int) = 1 from rfl] at w1
  rw [show ((2 : Nat) : Int) = 2 from rfl] at w2
  rw [show ((3 : Nat) : Int) = 3 from rfl] at w3
  rw [show ((8 : Nat) : Int) = 8 from rfl] at w8
  have F5 := e _ (zo x) (zo y) (zo w) (zo s) (zo (-1)) rfl
  have r3 := c3N (d := d) F5.2 hw.1 (x := x) (y := y) (by omega) (by omega) (by omega) (by omega)
  rw [cAt_in hc, ec] at r3
  have r64 := c64o (S := zs_set (zs_set (zs_set (zs_set (zs_set S2 0 n 2 (11 * b) (zo x)) 0 n 2 (11 * b + 1) (zo y)) 0 n 2 (11 * b + 2) (zo w)) 0 n 2 (11 * b + 3) (zo s)) 0 n 2 (11 * b + 8) (zo (-1))) (n := n) (d := d) (c := c) (v := zo b) (by omega)
  have v0 : (zs_set S2 0 n 2 (11 * b) (zo x)).1 0 n 0 13 = zo b := by simp (maxSteps := 10000000) (disch := omega) only [zs_ne, zs_eq]; exact q3
  have v1 : (zs_set (zs_set S2 0 n 2 (11 * b) (zo x)) 0 n 2 (11 * b + 1) (zo y)).1 0 n 0 13 = zo b := by simp (maxSteps := 10000000) (disch := omega) only [zs_ne, zs_eq]; exact q3
  have v2 : (zs_set (zs_set (zs_set S2 0 n 2 (11 * b) (zo x)) 0 n 2 (11 * b + 1) (zo y)) 0 n 2 (11 * b + 2) (zo w)).1 0 n 0 13 = zo b := by simp (maxSteps := 10000000) (disch := omega) only [zs_ne, zs_eq]; exact q3
  have v3 : (zs_set (zs_set (zs_set (zs_set S2 0 n 2 (11 * b) (zo x)) 0 n 2 (11 * b + 1) (zo y)) 0 n 2 (11 * b + 2) (zo w)) 0 n 2 (11 * b + 3) (zo s)).1 0 n 0 13 = zo b := by simp (maxSteps := 10000000) (disch := omega) only [zs_ne, zs_eq]; exact q3
  have v8 : (zs_set (zs_set (zs_set (zs_set (zs_set S2 0 n 2 (11 * b) (zo x)) 0 n 2 (11 * b + 1) (zo y)) 0 n 2 (11 * b + 2) (zo w)) 0 n 2 (11 * b + 3) (zo s)) 0 n 2 (11 * b + 8) (zo (-1))).1 0 n 0 13 = zo b := by simp (maxSteps := 10000000) (disch := omega) only [zs_ne, zs_eq]; exact q3
  have v9 : (zs_set (zs_set (zs_set (zs_set (zs_set (zs_set S2 0 n 2 (11 * b) (zo x)) 0 n 2 (11 * b + 1) (zo y)) 0 n 2 (11 * b + 2) (zo w)) 0 n 2 (11 * b + 3) (zo s)) 0 n 2 (11 * b + 8) (zo (-1))) 0 n 10 c (zo b)).1 0 n 0 13 = zo b := by simp (maxSteps := 10000000) (disch := omega) only [zs_ne, zs_eq]; exact q3
  refine ⟨zs_set (zs_set (zs_set (zs_set (zs_set (zs_set (zs_set S2 0 n 2 (11 * b) (zo x)) 0 n 2 (11 * b + 1) (zo y)) 0 n 2 (11 * b + 2) (zo w)) 0 n 2 (11 * b + 3) (zo s)) 0 n 2 (11 * b + 8) (zo (-1))) 0 n 10 c (zo b)) 0 n 0 13 (zo (b + 1)), ?_, ?_, Fc_set (Fc_set (Fc_set (Fc_set (Fc_set (Fc_set (Fc_set q2 _ _ _) _ _ _) _ _ _) _ _ _) _ _ _) _ _ _) _ _ _⟩
  · rw [ze_20]
    refine q1.trans ?_
    rw [ze_20_3, if_pos (show zo 11 ≤ zo 11 by decide), q3, w0, zr0, v0, w1, zr0, v1, w2, zr0, v2, w3, zr0, v3, w8, zr0, r3, zr1, v8, r64, zr0, v9, zo_add]
  · refine Cb_nb (b := b) h hw h9 l hf eb ?_ ?_ ?_ ?_ ?_ (fun j hj => ?_) ?_ ?_ (fun o j a1 a2 a3 => ?_)
    · simp (maxSteps := 10000000) (disch := omega) only [zs_ne, zs_eq]; rw [gm.1]
    · simp (maxSteps := 10000000) (disch := omega) only [zs_ne, zs_eq]; rw [gm.2]
    · simp (maxSteps := 10000000) (disch := omega) only [zs_ne, zs_eq]
    · simp (maxSteps := 10000000) (disch := omega) only [zs_ne, zs_eq]
    · simp (maxSteps := 10000000) (disch := omega) only [zs_ne, zs_eq]
    · simp (maxSteps := 10000000) (disch := omega) only [zs_ne, zs_eq]; exact q5 j (by omega)
    · rw [show (a 0 * y + x).toNat = c by omega]; simp (maxSteps := 10000000) (disch := omega) only [zs_ne, zs_eq]
    · rw [zs_eq, eb]
    · rw [show (a 0 * y + x).toNat = c by omega] at a2
      rw [zs_ne (by omega), zs_ne (by omega), zs_ne (by omega), zs_ne (by omega), zs_ne (by omega), zs_ne (by omega), zs_ne (by omega)]
      exact q4 o j a1
end CT

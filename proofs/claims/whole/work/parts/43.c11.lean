/-! THE PURE SIDE 11: folds over the boats; the model's spreading and passing -/
section WH
variable {a : Rw} {T : Int}
theorem drA_inv (hw : WF T a) (hm : ∀ j : Nat, (j : Int) < a 9 → a (40 + 10 * j + 8) + 2 ≤ 2 * a 6 ∧ a (40 + 10 * j + 9) + 2 ≤ 2 * a 6) : ∀ k : Nat, (k : Int) ≤ a 9 →
    WF T (zfold drA k a) ∧ (∀ i, i < 40 → zfold drA k a i = a i) ∧ (∀ i, 160 ≤ i → zfold drA k a i = a i) ∧
    (∀ j w : Nat, j < 12 → (w = 1 ∨ w = 2 ∨ w = 3 ∨ w = 6 ∨ w = 7) → zfold drA k a (40 + 10 * j + w) = a (40 + 10 * j + w)) ∧
    (∀ j : Nat, k ≤ j → j < 12 → zfold drA k a (40 + 10 * j + 8) = a (40 + 10 * j + 8) ∧ zfold drA k a (40 + 10 * j + 9) = a (40 + 10 * j + 9)) := by
  have u9 := hw.1.2.2.2.2.2.2.2.2.2
  intro k
  induction k with
  | zero => exact fun _ => ⟨hw, fun _ _ => rfl, fun _ _ => rfl, fun _ _ _ _ => rfl, fun _ _ _ => ⟨rfl, rfl⟩⟩
  | succ k ih =>
    intro hk
    obtain ⟨i1, i2, i3, i4, i5⟩ := ih (by omega)
    rw [show zfold drA (k + 1) a = (if 0 < zfold drA k a 2 ∧ zfold drA k a (40 + 10 * k + 6) = 0 then dft (zfold drA k a) k else zfold drA k a) from rfl]
    by_cases c : 0 < zfold drA k a 2 ∧ zfold drA k a (40 + 10 * k + 6) = 0
    · rw [if_pos c]
      have e9 := i2 9 (by omega)
      have e6 := i2 6 (by omega)
      have e5 := i5 k (by omega) (by omega)
      have m := hm k (by omega)
      obtain ⟨d1, d2, d3, d4, d5⟩ := dft_ok (b := k) i1 (by omega) (by omega) (by omega)
      refine ⟨d1, fun i hi => ?_, fun i hi => ?_, fun j w hj hw => ?_, fun j hj hj2 => ⟨?_, ?_⟩⟩
      · rw [d2 i hi, i2 i hi]
      · rw [d3 i hi, i3 i hi]
      · rw [d4 j w hj hw, i4 j w hj hw]
      · rw [(d5 j hj2 (by omega)).1, (i5 j (by omega) hj2).1]
      · rw [(d5 j hj2 (by omega)).2, (i5 j (by omega) hj2).2]
    · rw [if_neg c]
      exact ⟨i1, i2, i3, i4, fun j hj hj2 => i5 j (by omega) hj2⟩
theorem skA_inv (hw : WF T a) : ∀ k : Nat, (k : Int) ≤ a 9 →
    WF T (zfold skA k a) ∧ (∀ i, i < 13 → zfold skA k a i = a i) ∧ (∀ i, 160 ≤ i → zfold skA k a i = a i) ∧
    (∀ j w : Nat, k ≤ j → j < 12 → w < 10 → zfold skA k a (40 + 10 * j + w) = a (40 + 10 * j + w)) ∧
    (∀ j : Nat, j < 12 → a (40 + 10 * j + 6) ≠ 0 → ∀ w : Nat, w < 10 → zfold skA k a (40 + 10 * j + w) = a (40 + 10 * j + w)) ∧
    (∀ j : Nat, j < 12 → a (40 + 10 * j + 6) = 0 → zfold skA k a (40 + 10 * j + 6) ≠ 0 → zfold skA k a (40 + 10 * j + 7) = a 6) := by
  have u9 := hw.1.2.2.2.2.2.2.2.2.2
  intro k
  induction k with
  | zero => exact fun _ => ⟨hw, fun _ _ => rfl, fun _ _ => rfl, fun _ _ _ _ _ => rfl, fun _ _ _ _ _ => rfl, fun _ _ h1 h2 => absurd h1 h2⟩
  | succ k ih =>
    intro hk
    obtain ⟨i1, i2, i3, i4, i5, i6⟩ := ih (by omega)
    rw [show zfold skA (k + 1) a = (if zfold skA k a (40 + 10 * k + 6) = 0 then sok (zfold skA k a) k else zfold skA k a) from rfl]
    by_cases c : zfold skA k a (40 + 10 * k + 6) = 0
    · rw [if_pos c]
      have e9 := i2 9 (by omega)
      have e6 := i2 6 (by omega)
      have e7 := i4 k 6 (by omega) (by omega) (by omega)
      obtain ⟨d1, d2, d3, d4, d5⟩ := sok_ok (b := k) i1 (by omega) c
      refine ⟨d1, fun i hi => ?_, fun i hi => ?_, fun j w hj hj2 hw => ?_, fun j hj h0 w hw => ?_, fun j hj h0 h1 => ?_⟩
      · rw [d2 i hi, i2 i hi]
      · rw [d3 i hi, i3 i hi]
      · rw [d4 j w hj2 (by omega) hw, i4 j w (by omega) hj2 hw]
      · have : j ≠ k := fun e => h0 (by rw [e, ← e7]; exact c)
        rw [d4 j w hj this hw, i5 j hj h0 w hw]
      · by_cases e : j = k
        · subst e
          rw [d5 h1, e6]
        · rw [d4 j 6 hj e (by omega)] at h1
          rw [d4 j 7 hj e (by omega), i6 j hj h0 h1]
    · rw [if_neg c]
      exact ⟨i1, i2, i3, fun j w hj hj2 hw => i4 j w (by omega) hj2 hw, i5, i6⟩
theorem chL_ok (hw : WF T a) : WF T (chL a) ∧ (∀ i, i ≠ 2 → chL a i = a i) := by
  unfold chL
  refine ⟨WF_h2 hw ?_, fun i hi => up_ne _ _ hi⟩
  split
  · omega
  · split <;> omega
theorem ps1_ok (hw : WF T a) (hT : T + 1 ≤ 1000000) : WF (T + 1) (ps1 a) ∧ ps1 a 6 = a 6 + 1 ∧ (∀ i, i ≠ 2 → i ≠ 6 → ps1 a i = a i) := by
  have w := WF_time hw hT
  obtain ⟨c1, c2⟩ := chL_ok w
  unfold ps1
  refine ⟨c1, ?_, fun i h1 h2 => ?_⟩
  · rw [c2 6 (by omega)]; simp (maxSteps := 10000000) (disch := omega) only [up_ne, up_self]
  · rw [c2 i h1]; simp (maxSteps := 10000000) (disch := omega) only [up_ne, up_self]
theorem ps1_mv (hw : WF T a) (hT : T + 1 ≤ 1000000) : ∀ j : Nat, (j : Int) < ps1 a 9 → ps1 a (40 + 10 * j + 8) + 2 ≤ 2 * ps1 a 6 ∧ ps1 a (40 + 10 * j + 9) + 2 ≤ 2 * ps1 a 6 := by
  obtain ⟨_, e6, e⟩ := ps1_ok hw hT
  intro j hj
  rw [e 9 (by omega) (by omega)] at hj
  have g := hw.2.2.2.1 j hj
  rw [e (40 + 10 * j + 8) (by omega) (by omega), e (40 + 10 * j + 9) (by omega) (by omega), e6]
  omega
/-- what a turn keeps -/
theorem pas_ok (hw : WF T a) (hT : T + 1 ≤ 1000000) : WF (T + 1) (pas a) ∧ pas a 6 = a 6 + 1 ∧ (∀ i, i < 10 → i ≠ 2 → i ≠ 6 → pas a i = a i) := by
  obtain ⟨w1, e6, e1⟩ := ps1_ok hw hT
  have u9 := w1.1.2.2.2.2.2.2.2.2.2
  have mv := ps1_mv hw hT
  have e9 := e1 9 (by omega) (by omega)
  obtain ⟨d1, d2, -, -, -⟩ := drA_inv w1 mv (a 9).toNat (by omega)
  have f9 := d2 9 (by omega)
  obtain ⟨s1, s2, -, -, -, -⟩ := skA_inv d1 (a 9).toNat (by omega)
  obtain ⟨p1, p2⟩ := spr_ok s1
  unfold pas ps3 ps2
  refine ⟨?_, ?_, fun i h1 h2 h3 => ?_⟩
  · exact p1
  · rw [p2 6 (by omega), s2 6 (by omega), d2 6 (by omega), e6]
  · rw [p2 i (by omega), s2 i (by omega), d2 i (by omega), e1 i h2 h3]
theorem pasN_ok (hw : WF T a) : ∀ k : Nat, T + k ≤ 1000000 → WF (T + k) (pasN k a) ∧ pasN k a 6 = a 6 + k ∧ (∀ i, i < 10 → i ≠ 2 → i ≠ 6 → pasN k a i = a i) := by
  intro k
  induction k with
  | zero => intro _; exact ⟨by rw [show T + ((0 : Nat) : Int) = T by omega]; exact hw, by unfold pasN; omega, fun _ _ _ _ => rfl⟩
  | succ k ih =>
    intro hT
    obtain ⟨i1, i2, i3⟩ := ih (by omega)
    obtain ⟨p1, p2, p3⟩ := pas_ok i1 (by omega)
    unfold pasN
    refine ⟨by rw [show T + ((k + 1 : Nat) : Int) = T + k + 1 by omega]; exact p1, by omega, fun i h1 h2 h3 => ?_⟩
    rw [p3 i h1 h2 h3, i3 i h1 h2 h3]
def spv (a : Rw) (c : Nat) : Int := if 99 < spN a c then 99 else spN a c
def spk (a : Rw) (k : Nat) : Rw := fun i => if 160 ≤ i ∧ i < 160 + k then spv a (i - 160) else a i
theorem spk_lo (a : Rw) (k : Nat) {i : Nat} (h : i < 160) : spk a k i = a i := if_neg (by omega)
theorem spk_0 (a : Rw) : spk a 0 = a := by funext i; exact if_neg (by omega)
theorem spk_end (a : Rw) : spk a (ncl a) = spr a := rfl
theorem spk_up (a : Rw) (k : Nat) : up (spk a k) (160 + k) (spv a k) = spk a (k + 1) := by
  funext i
  unfold up spk
  by_cases e : i = 160 + k
  · rw [if_pos e, if_pos (by omega), show i - 160 = k by omega]
  · rw [if_neg e]
    by_cases e2 : 160 ≤ i ∧ i < 160 + k
    · rw [if_pos e2, if_pos (by omega)]
    · rw [if_neg e2, if_neg (by omega)]
theorem spN_b (hw : WF T a) (c : Nat) (hc : (c : Int) < a 0 * a 1) : -100 ≤ spN a c ∧ spN a c ≤ 200 := by
  have g := hw.2.2.2.2.1 c hc
  have f0 := spF_b a ((c : Int) % a 0) ((c : Int) / a 0)
  have f1 := spF_b a ((c : Int) % a 0 - 1) ((c : Int) / a 0)
  have f2 := spF_b a ((c : Int) % a 0 + 1) ((c : Int) / a 0)
  have f3 := spF_b a ((c : Int) % a 0) ((c : Int) / a 0 - 1)
  have f4 := spF_b a ((c : Int) % a 0) ((c : Int) / a 0 + 1)
  have hz : -4 ≤ spF a ((c : Int) % a 0) ((c : Int) / a 0) * spA a c ∧ spF a ((c : Int) % a 0) ((c : Int) / a 0) * spA a c ≤ 4 := by
    have hA : 0 ≤ spA a c ∧ spA a c ≤ 4 := by
      unfold spA
      have u0 := hw.1.1
      have u1 := hw.1.2.1
      split <;> split <;> split <;> split <;> omega
    generalize spF a ((c : Int) % a 0) ((c : Int) / a 0) = x at *
    have : x = 0 ∨ x = 1 := by omega
    rcases this with e | e <;> subst e
    · rw [Int.zero_mul]; omega
    · rw [Int.one_mul]; omega
  unfold spN
  omega
end WH
section ME
variable {S : zS} {q d : Nat} {a : Rw} {T : Int}
theorem m186_b (hw : WF T a) : ∀ (m k n : Nat) (S : zS), k + m = ncl a → m < n → Md S q (spk a k) → (∀ c, c < ncl a → S.1 3 0 2 c = zo (spv a c)) → ∃ S', zy zF (d + 1) 186 n 167 [some (za 3 0 0), some (zi (zo k)), none, none, none, none] S = some (.inl none, S') ∧ Md S' q (spr a) ∧ Fm q S S' := by
  have uN := WF_nc hw
  have hnc : ncl a = (a 0 * a 1).toNat := rfl
  intro m
  induction m with
  | zero =>
    intro k n S hk hn h hs
    obtain ⟨n, rfl⟩ : ∃ n', n = n' + 1 := ⟨n - 1, by omega⟩
    have r := m152 (d := d) h
    rw [spk_lo a k (by omega), spk_lo a k (by omega)] at r
    rw [ze_186_167]
    simp (maxSteps := 10000000) (disch := omega) only [r, zo_add, zo_sub, zo_mul, zo_neg, zo_lt, zo_le, zo_eq, zo_nn, zin_ok, zlt_eq, zr0, zr1, zr3, zr4, zr0x, zr1x, zr3x, zr4x, zb_and, zb_0, zmin_o, zmax_o, zabs_o, zo_div, zo_mod, ↓reduceIte, Int.reduceToNat, Int.reduceNeg, Int.reduceAdd, Int.reduceMul, Int.reduceSub, Int.reduceEq, Int.reduceLT, Int.reduceLE, if_true, if_false, Nat.reduceAdd, Nat.reduceMul]
    rw [if_pos (by omega)]
    rw [show k = ncl a by omega, spk_end] at h
    exact ⟨S, rfl, h, Fm_refl q S⟩
  | succ m ih =>
    intro k n S hk hn h hs
    obtain ⟨n, rfl⟩ : ∃ n', n = n' + 1 := ⟨n - 1, by omega⟩
    have r := m152 (d := d) h
    rw [spk_lo a k (by omega), spk_lo a k (by omega)] at r
    have h1 := h.1
    have hq := h.2.1
    have hk2 := hs k (by omega)
    have ix : (160 + (k : Int)).toNat = 160 + k := by omega
    have hA := Md_set h (160 + k) (spv a k)
    rw [spk_up] at hA
    obtain ⟨S2, e2, M2, F2⟩ := ih (k + 1) n _ (by omega) (by omega) hA (fun c hc => by rw [zs_at, if_neg (by omega)]; exact hs c hc)
    refine ⟨S2, ?_, M2, Fm_trans (Fm_row (Fm_refl q S) _ _) F2⟩
    rw [ze_186_167]
    simp (maxSteps := 10000000) (disch := omega) only [r, h1, hq, ix, Int.toNat_natCast, hk2, zo_add, zo_sub, zo_mul, zo_neg, zo_lt, zo_le, zo_eq, zo_nn, zin_ok, zlt_eq, zr0, zr1, zr3, zr4, zr0x, zr1x, zr3x, zr4x, zb_and, zb_0, zmin_o, zmax_o, zabs_o, zo_div, zo_mod, ↓reduceIte, Int.reduceToNat, Int.reduceNeg, Int.reduceAdd, Int.reduceMul, Int.reduceSub, Int.reduceEq, Int.reduceLT, Int.reduceLE, if_true, if_false, Nat.reduceAdd, Nat.reduceMul]
    rw [if_neg (by omega)]
    exact e2
theorem m186_a (hw : WF T a) : ∀ (m k n : Nat) (S : zS), k + m = ncl a → 2 * m + 200 < n → Md S q a → (∀ c, c < k → S.1 3 0 2 c = zo (spv a c)) → ∃ S', zy zF (d + 4) 186 n 2 [some (za 3 0 0), some (zi (zo k)), none, none, none, none] S = some (.inl none, S') ∧ Md S' q (spr a) ∧ Fm q S S' := by
  have uN := WF_nc hw
  have hnc : ncl a = (a 0 * a 1).toNat := rfl
  intro m
  induction m with
  | zero =>
    intro k n S hk hn h hs
    obtain ⟨n, rfl⟩ : ∃ n', n = n' + 1 := ⟨n - 1, by omega⟩
    have h0 := h
    rw [← spk_0 a] at h0
    obtain ⟨S2, e2, M2, F2⟩ := m186_b (d := d + 3) hw (ncl a) 0 n S (by omega) (by omega) h0 (fun c hc => hs c (by omega))
    refine ⟨S2, ?_, M2, F2⟩
    rw [ze_186_2]
    simp (maxSteps := 10000000) (disch := omega) only [m152 h, zo_add, zo_sub, zo_mul, zo_neg, zo_lt, zo_le, zo_eq, zo_nn, zin_ok, zlt_eq, zr0, zr1, zr3, zr4, zr0x, zr1x, zr3x, zr4x, zb_and, zb_0, zmin_o, zmax_o, zabs_o, zo_div, zo_mod, ↓reduceIte, Int.reduceToNat, Int.reduceNeg, Int.reduceAdd, Int.reduceMul, Int.reduceSub, Int.reduceEq, Int.reduceLT, Int.reduceLE, if_true, if_false, Nat.reduceAdd, Nat.reduceMul]
    rw [if_pos (by omega)]
    exact e2
  | succ m ih =>
    intro k n S hk hn h hs
    obtain ⟨n, rfl⟩ : ∃ n', n = n' + 2 := ⟨n - 2, by omega⟩
    have hq := h.2.1
    have h1 := h.1
    have h20 := h.2.2 0 (by omega)
    have h21 := h.2.2 1 (by omega)
    have u0 := hw.1.1
    have u1 := hw.1.2.1
    have g := col_rng hw (c := k) (by omega) (by omega)
    have gs := hw.2.2.2.2.1 k (by omega)
    have b := spN_b hw k (by omega)
    have eS := m_ix h (i := 160 + (k : Int)) (j := 160 + k) (by omega) (by omega)
    have hB := Md_scr h 2 k (zo (spv a k)) (by omega)
    obtain ⟨S2, e2, M2, F2⟩ := ih (k + 1) n _ (by omega) (by omega) hB (fun c hc => by
      rw [zs_at]
      by_cases e : c = k
      · rw [if_pos ⟨rfl, rfl, rfl, e⟩, e]
      · rw [if_neg (fun z => e z.2.2.2)]; exact hs c (by omega))
    refine ⟨S2, ?_, M2, Fm_trans (Fm_scr (Fm_refl q S) 2 k _ (Or.inl rfl)) F2⟩
    have f0 := spF_b a ((k : Int) % a 0) ((k : Int) / a 0)
    rw [ze_186_2]
    simp (maxSteps := 10000000) (disch := omega) only [m152 h, m155 h hw, m156 h hw, zo_add, zo_sub, zo_mul, zo_neg, zo_lt, zo_le, zo_eq, zo_nn, zin_ok, zlt_eq, zr0, zr1, zr3, zr4, zr0x, zr1x, zr3x, zr4x, zb_and, zb_0, zmin_o, zmax_o, zabs_o, zo_div, zo_mod, ↓reduceIte, Int.reduceToNat, Int.reduceNeg, Int.reduceAdd, Int.reduceMul, Int.reduceSub, Int.reduceEq, Int.reduceLT, Int.reduceLE, if_true, if_false, Nat.reduceAdd, Nat.reduceMul]
    rw [if_neg (by omega)]
    rw [show ((k + 1 : Nat) : Int) = (k : Int) + 1 from rfl] at e2
    unfold spv at e2
    rw [show n + 1 = n + 1 from rfl]
    have key : ∀ s0 : Int, (s0 = if (k : Int) % a 0 = 0 then 1 else 0) → zys zF (d + 4) 186 (n + 1) 32 [some (za 3 0 0), some (zi (zo k)), some (zi (zo ((k : Int) % a 0))), some (zi (zo ((k : Int) / a 0))), none, none] [zi (zo s0), zi (zo 4)] S = some (.inl none, S2) := by
      intro s0 hs0
      rw [ze_186_32]
      simp (maxSteps := 10000000) (disch := omega) only [h1, hq, h20, h21, eS, m185 h hw, Int.toNat_natCast, zo_add, zo_sub, zo_mul, zo_neg, zo_lt, zo_le, zo_eq, zo_nn, zin_ok, zlt_eq, zr0, zr1, zr3, zr4, zr0x, zr1x, zr3x, zr4x, zb_and, zb_0, zmin_o, zmax_o, zabs_o, zo_div, zo_mod, ↓reduceIte, Int.reduceToNat, Int.reduceNeg, Int.reduceAdd, Int.reduceMul, Int.reduceSub, Int.reduceEq, Int.reduceLT, Int.reduceLE, if_true, if_false, Nat.reduceAdd, Nat.reduceMul]
      have e4 : spN a k = a (160 + k) - spF a ((k : Int) % a 0) ((k : Int) / a 0) * spA a k + spF a ((k : Int) % a 0 - 1) ((k : Int) / a 0) + spF a ((k : Int) % a 0 + 1) ((k : Int) / a 0) + spF a ((k : Int) % a 0) ((k : Int) / a 0 - 1) + spF a ((k : Int) % a 0) ((k : Int) / a 0 + 1) := rfl
      have fin : ∀ x : Int, x = spN a k → ∀ (t e : Option zO), t = zy zF (d + 4) 186 n 2 [some (za 3 0 0), some (zi (zo ((k : Int) + 1))), none, none, none, none] (zs_set S 3 0 2 k (zo x)) → e = zy zF (d + 4) 186 n 2 [some (za 3 0 0), some (zi (zo ((k : Int) + 1))), none, none, none, none] (zs_set S 3 0 2 k (zo 99)) → (if zo x ≤ zo 99 then t else e) = some (.inl none, S2) := by
        intro x hx t e ht he
        subst hx
        simp (maxSteps := 10000000) (disch := omega) only [zo_le]
        by_cases c : spN a k ≤ 99
        · rw [if_pos c, ht, ← e2, if_neg (show ¬ 99 < spN a k by omega)]
        · rw [if_neg c, he, ← e2, if_pos (show 99 < spN a k by omega)]
      have hA : spA a k = 4 - s0 - (if (k : Int) / a 0 = 0 then 1 else 0) - (if (k : Int) % a 0 = a 0 - 1 then 1 else 0) - (if (k : Int) / a 0 = a 1 - 1 then 1 else 0) := by rw [hs0]; rfl
      by_cases c1 : (k : Int) / a 0 = 0
      · by_cases c2 : (k : Int) % a 0 = a 0 - 1
        · by_cases c3 : (k : Int) / a 0 = a 1 - 1
          · exfalso; omega
          · simp only [if_pos c1, if_pos c2, if_neg c3] at hA ⊢
            exact fin _ (by rw [e4, hA]) _ _ rfl rfl
        · by_cases c3 : (k : Int) / a 0 = a 1 - 1
          · exfalso; omega
          · simp only [if_pos c1, if_neg c2, if_neg c3] at hA ⊢
            exact fin _ (by rw [e4, hA]) _ _ rfl rfl
      · by_cases c2 : (k : Int) % a 0 = a 0 - 1
        · by_cases c3 : (k : Int) / a 0 = a 1 - 1
          · simp only [if_neg c1, if_pos c2, if_pos c3] at hA ⊢
            exact fin _ (by rw [e4, hA]) _ _ rfl rfl
          · simp only [if_neg c1, if_pos c2, if_neg c3] at hA ⊢
            exact fin _ (by rw [e4, hA]) _ _ rfl rfl
        · by_cases c3 : (k : Int) / a 0 = a 1 - 1
          · simp only [if_neg c1, if_neg c2, if_pos c3] at hA ⊢
            exact fin _ (by rw [e4, hA]) _ _ rfl rfl
          · simp only [if_neg c1, if_neg c2, if_neg c3] at hA ⊢
            exact fin _ (by rw [e4, hA]) _ _ rfl rfl
    by_cases c : (k : Int) % a 0 = 0
    · rw [if_pos c]; exact key 1 (by rw [if_pos c])
    · rw [if_neg c]; exact key 0 (by rw [if_neg c])
theorem m186 (h : Md S q a) (hw : WF T a) : ∃ S', zr_sem zF (d + 5) 186 [za 3 0 0] S = some (.inl none, S') ∧ Md S' q (spr a) ∧ Fm q S S' := by
  rw [ze_186]
  have hb := zF1_big
  have uN := WF_nc hw
  have hnc : ncl a = (a 0 * a 1).toNat := rfl
  exact m186_a (d := d) hw (ncl a) 0 zF1 S (by omega) (by omega) h (fun c hc => by omega)
theorem m187_s (hw : WF T a) : ∀ (m k n : Nat) (S : zS), k + m = (a 9).toNat → m < n → Md S q (zfold skA k a) → ∃ S', zy zF (d + 5) 187 n 58 [some (za 3 0 0), some (zi (zo k))] S = some (.inl none, S') ∧ Md S' q (spr (zfold skA (a 9).toNat a)) ∧ Fm q S S' := by
  have u9 := hw.1.2.2.2.2.2.2.2.2.2
  intro m
  induction m with
  | zero =>
    intro k n S hk hn h
    obtain ⟨n, rfl⟩ : ∃ n', n = n' + 1 := ⟨n - 1, by omega⟩
    obtain ⟨i1, i2, -⟩ := skA_inv hw k (by omega)
    have r9 := h.2.2 9 (by omega)
    rw [i2 9 (by omega)] at r9
    have h1 := h.1
    have hq := h.2.1
    obtain ⟨S2, e2, M2, F2⟩ := m186 (d := d) h i1
    rw [show k = (a 9).toNat by omega] at M2
    refine ⟨S2, ?_, M2, F2⟩
    rw [ze_187_58]
    simp (maxSteps := 10000000) (disch := omega) only [h1, hq, r9, e2, zo_add, zo_sub, zo_mul, zo_neg, zo_lt, zo_le, zo_eq, zo_nn, zin_ok, zlt_eq, zr0, zr1, zr3, zr4, zr0x, zr1x, zr3x, zr4x, zb_and, zb_0, zmin_o, zmax_o, zabs_o, zo_div, zo_mod, ↓reduceIte, Int.reduceToNat, Int.reduceNeg, Int.reduceAdd, Int.reduceMul, Int.reduceSub, Int.reduceEq, Int.reduceLT, Int.reduceLE, if_true, if_false, Nat.reduceAdd, Nat.reduceMul]
    rw [if_pos (by omega)]
  | succ m ih =>
    intro k n S hk hn h
    obtain ⟨n, rfl⟩ : ∃ n', n = n' + 1 := ⟨n - 1, by omega⟩
    obtain ⟨i1, i2, -⟩ := skA_inv hw k (by omega)
    have r9 := h.2.2 9 (by omega)
    have e9 := i2 9 (by omega)
    rw [e9] at r9
    have h1 := h.1
    have hq := h.2.1
    rw [ze_187_58]
    simp (maxSteps := 10000000) (disch := omega) only [h1, hq, r9, m164 h i1 (b := k) (by omega), zo_add, zo_sub, zo_mul, zo_neg, zo_lt, zo_le, zo_eq, zo_nn, zin_ok, zlt_eq, zr0, zr1, zr3, zr4, zr0x, zr1x, zr3x, zr4x, zb_and, zb_0, zmin_o, zmax_o, zabs_o, zo_div, zo_mod, ↓reduceIte, Int.reduceToNat, Int.reduceNeg, Int.reduceAdd, Int.reduceMul, Int.reduceSub, Int.reduceEq, Int.reduceLT, Int.reduceLE, if_true, if_false, Nat.reduceAdd, Nat.reduceMul]
    rw [if_neg (show ¬ a 9 ≤ k by omega)]
    by_cases c : zfold skA k a (40 + 10 * k + 6) = 0
    · obtain ⟨S2, e2, M2, F2⟩ := m184 (d := d + 2) h i1 (b := k) (by omega) c
      have ez : zfold skA (k + 1) a = sok (zfold skA k a) k := by
        rw [show zfold skA (k + 1) a = (if zfold skA k a (40 + 10 * k + 6) = 0 then sok (zfold skA k a) k else zfold skA k a) from rfl, if_pos c]
      rw [← ez] at M2
      obtain ⟨S3, e3, M3, F3⟩ := ih (k + 1) n S2 (by omega) (by omega) M2
      refine ⟨S3, ?_, M3, Fm_trans F2 F3⟩
      rw [if_neg (by simp [c]), e2, zr0]
      exact e3
    · have ez : zfold skA (k + 1) a = zfold skA k a := by
        rw [show zfold skA (k + 1) a = (if zfold skA k a (40 + 10 * k + 6) = 0 then sok (zfold skA k a) k else zfold skA k a) from rfl, if_neg c]
      have h2 := h
      rw [← ez] at h2
      obtain ⟨S3, e3, M3, F3⟩ := ih (k + 1) n S (by omega) (by omega) h2
      refine ⟨S3, ?_, M3, F3⟩
      rw [if_pos (by simp [c])]
      exact e3
theorem drA_0 (h : a 2 = 0) : ∀ k, zfold drA k a = a := by
  intro k
  induction k with
  | zero => rfl
  | succ k ih =>
    show drA (zfold drA k a) k = a
    rw [ih]
    unfold drA
    rw [if_neg (by omega)]
theorem m187_d (hw : WF T a) (hm : ∀ j : Nat, (j : Int) < a 9 → a (40 + 10 * j + 8) + 2 ≤ 2 * a 6 ∧ a (40 + 10 * j + 9) + 2 ≤ 2 * a 6) : ∀ (m k n : Nat) (S : zS), k + m = (a 9).toNat → m + 20 < n → Md S q (zfold drA k a) → ∃ S', zy zF (d + 7) 187 n 17 [some (za 3 0 0), some (zi (zo k))] S = some (.inl none, S') ∧ Md S' q (spr (zfold skA (a 9).toNat (zfold drA (a 9).toNat a))) ∧ Fm q S S' := by
  have u9 := hw.1.2.2.2.2.2.2.2.2.2
  have u2 := hw.1.2.2.1
  intro m
  induction m with
  | zero =>
    intro k n S hk hn h
    obtain ⟨n, rfl⟩ : ∃ n', n = n' + 1 := ⟨n - 1, by omega⟩
    obtain ⟨i1, i2, -⟩ := drA_inv hw hm k (by omega)
    have r9 := h.2.2 9 (by omega)
    have e9 := i2 9 (by omega)
    rw [e9] at r9
    have h1 := h.1
    have hq := h.2.1
    obtain ⟨S2, e2, M2, F2⟩ := m187_s (q := q) (d := d + 2) i1 (a 9).toNat 0 n S (by omega) (by omega) h
    rw [e9, show k = (a 9).toNat by omega] at M2
    refine ⟨S2, ?_, M2, F2⟩
    rw [ze_187_17]
    simp (maxSteps := 10000000) (disch := omega) only [h1, hq, r9, zo_add, zo_sub, zo_mul, zo_neg, zo_lt, zo_le, zo_eq, zo_nn, zin_ok, zlt_eq, zr0, zr1, zr3, zr4, zr0x, zr1x, zr3x, zr4x, zb_and, zb_0, zmin_o, zmax_o, zabs_o, zo_div, zo_mod, ↓reduceIte, Int.reduceToNat, Int.reduceNeg, Int.reduceAdd, Int.reduceMul, Int.reduceSub, Int.reduceEq, Int.reduceLT, Int.reduceLE, if_true, if_false, Nat.reduceAdd, Nat.reduceMul]
    rw [if_pos (by omega)]
    exact e2
  | succ m ih =>
    intro k n S hk hn h
    obtain ⟨n, rfl⟩ : ∃ n', n = n' + 1 := ⟨n - 1, by omega⟩
    obtain ⟨i1, i2, -, i4, i5⟩ := drA_inv hw hm k (by omega)
    have r9 := h.2.2 9 (by omega)
    have e9 := i2 9 (by omega)
    rw [e9] at r9
    have r2 := h.2.2 2 (by omega)
    have e2 := i2 2 (by omega)
    rw [e2] at r2
    have h1 := h.1
    have hq := h.2.1
    rw [ze_187_17]
    simp (maxSteps := 10000000) (disch := omega) only [h1, hq, r9, r2, m164 h i1 (b := k) (by omega), zo_add, zo_sub, zo_mul, zo_neg, zo_lt, zo_le, zo_eq, zo_nn, zin_ok, zlt_eq, zr0, zr1, zr3, zr4, zr0x, zr1x, zr3x, zr4x, zb_and, zb_0, zmin_o, zmax_o, zabs_o, zo_div, zo_mod, ↓reduceIte, Int.reduceToNat, Int.reduceNeg, Int.reduceAdd, Int.reduceMul, Int.reduceSub, Int.reduceEq, Int.reduceLT, Int.reduceLE, if_true, if_false, Nat.reduceAdd, Nat.reduceMul]
    rw [if_neg (show ¬ a 9 ≤ k by omega)]
    by_cases c0 : a 2 ≤ 0
    · rw [if_pos c0]
      have z := drA_0 (a := a) (by omega)
      rw [z] at h
      rw [z]
      exact m187_s (q := q) (d := d + 2) hw (a 9).toNat 0 n S (by omega) (by omega) h
    · rw [if_neg c0]
      by_cases c : zfold drA k a (40 + 10 * k + 6) = 0
      · have e6 := i2 6 (by omega)
        have e5 := i5 k (by omega) (by omega)
        have mk := hm k (by omega)
        obtain ⟨S2, r3, M2, F2⟩ := m182 (d := d) h i1 (b := k) (by omega) (by omega) (by omega) (by omega)
        have ez : zfold drA (k + 1) a = dft (zfold drA k a) k := by
          rw [show zfold drA (k + 1) a = (if 0 < zfold drA k a 2 ∧ zfold drA k a (40 + 10 * k + 6) = 0 then dft (zfold drA k a) k else zfold drA k a) from rfl, if_pos ⟨by omega, c⟩]
        rw [← ez] at M2
        obtain ⟨S3, e3, M3, F3⟩ := ih (k + 1) n S2 (by omega) (by omega) M2
        refine ⟨S3, ?_, M3, Fm_trans F2 F3⟩
        rw [if_neg (by simp [c]), r3, zr0]
        exact e3
      · have ez : zfold drA (k + 1) a = zfold drA k a := by
          rw [show zfold drA (k + 1) a = (if 0 < zfold drA k a 2 ∧ zfold drA k a (40 + 10 * k + 6) = 0 then dft (zfold drA k a) k else zfold drA k a) from rfl, if_neg (fun z => c z.2)]
        have h2 := h
        rw [← ez] at h2
        obtain ⟨S3, e3, M3, F3⟩ := ih (k + 1) n S (by omega) (by omega) h2
        refine ⟨S3, ?_, M3, F3⟩
        rw [if_pos (by simp [c])]
        exact e3
theorem m187 (h : Md S q a) (hw : WF T a) (hT : T + 1 ≤ 1000000) : ∃ S', zr_sem zF (d + 8) 187 [za 3 0 0] S = some (.inl none, S') ∧ Md S' q (pas a) ∧ Fm q S S' := by
  rw [ze_187]
  have hb := zF1_big
  have h1 := h.1
  have hq := h.2.1
  have r6 := h.2.2 6 (by omega)
  have hA := Md_set h 6 (a 6 + 1)
  have wA := WF_time hw hT
  obtain ⟨S2, e2, M2, F2⟩ := m180 (d := d + 2) hA wA
  obtain ⟨w1, -, e1⟩ := ps1_ok hw hT
  have e9 := e1 9 (by omega) (by omega)
  have M2 : Md S2 q (ps1 a) := M2
  have u9 := hw.1.2.2.2.2.2.2.2.2.2
  obtain ⟨S3, e3, M3, F3⟩ := m187_d (q := q) (d := d) w1 (ps1_mv hw hT) (ps1 a 9).toNat 0 zF1 S2 (by omega) (by omega) M2
  refine ⟨S3, ?_, ?_, Fm_trans (Fm_row (Fm_refl q S) 6 _) (Fm_trans F2 F3)⟩
  · simp (maxSteps := 10000000) (disch := omega) only [h1, hq, r6, e2, zo_add, zo_sub, zo_mul, zo_neg, zo_lt, zo_le, zo_eq, zo_nn, zin_ok, zlt_eq, zr0, zr1, zr3, zr4, zr0x, zr1x, zr3x, zr4x, zb_and, zb_0, zmin_o, zmax_o, zabs_o, zo_div, zo_mod, ↓reduceIte, Int.reduceToNat, Int.reduceNeg, Int.reduceAdd, Int.reduceMul, Int.reduceSub, Int.reduceEq, Int.reduceLT, Int.reduceLE, if_true, if_false, Nat.reduceAdd, Nat.reduceMul]
    exact e3
  · have z : pas a = spr (zfold skA (ps1 a 9).toNat (zfold drA (ps1 a 9).toNat (ps1 a))) := by
      unfold pas ps3 ps2
      rw [e9]
    rw [z]; exact M3
theorem pasN_1 (a : Rw) : ∀ k, pasN k (pas a) = pasN (k + 1) a := by
  intro k
  induction k with
  | zero => rfl
  | succ k ih => show pas (pasN k (pas a)) = pas (pasN (k + 1) a); rw [ih]
theorem m190_l {m0 : Nat} (h0 : m0 ≤ 10000) : ∀ (m k n : Nat) (S : zS) (a : Rw) (T : Int), k + m = m0 → m < n → Md S q a → WF T a → T + m ≤ 1000000 → ∃ S', zy zF (d + 8) 190 n 2 [some (za 3 0 0), some (zi (zo m0)), some (zi (zo k))] S = some (.inl none, S') ∧ Md S' q (pasN m a) ∧ Fm q S S' := by
  intro m
  induction m with
  | zero =>
    intro k n S a T hk hn h hw hT
    obtain ⟨n, rfl⟩ : ∃ n', n = n' + 1 := ⟨n - 1, by omega⟩
    refine ⟨S, ?_, h, Fm_refl q S⟩
    rw [ze_190_2]
    simp (maxSteps := 10000000) (disch := omega) only [zo_add, zo_sub, zo_mul, zo_neg, zo_lt, zo_le, zo_eq, zo_nn, zin_ok, zlt_eq, zr0, zr1, zr3, zr4, zr0x, zr1x, zr3x, zr4x, zb_and, zb_0, zmin_o, zmax_o, zabs_o, zo_div, zo_mod, ↓reduceIte, Int.reduceToNat, Int.reduceNeg, Int.reduceAdd, Int.reduceMul, Int.reduceSub, Int.reduceEq, Int.reduceLT, Int.reduceLE, if_true, if_false, Nat.reduceAdd, Nat.reduceMul]
    rw [if_pos (by omega)]
  | succ m ih =>
    intro k n S a T hk hn h hw hT
    obtain ⟨n, rfl⟩ : ∃ n', n = n' + 1 := ⟨n - 1, by omega⟩
    obtain ⟨S2, e2, M2, F2⟩ := m187 (d := d) h hw (by omega)
    obtain ⟨p1, -, -⟩ := pas_ok hw (by omega)
    obtain ⟨S3, e3, M3, F3⟩ := ih (k + 1) n S2 (pas a) (T + 1) (by omega) (by omega) M2 p1 (by omega)
    rw [pasN_1] at M3
    refine ⟨S3, ?_, M3, Fm_trans F2 F3⟩
    rw [ze_190_2]
    simp (maxSteps := 10000000) (disch := omega) only [e2, zo_add, zo_sub, zo_mul, zo_neg, zo_lt, zo_le, zo_eq, zo_nn, zin_ok, zlt_eq, zr0, zr1, zr3, zr4, zr0x, zr1x, zr3x, zr4x, zb_and, zb_0, zmin_o, zmax_o, zabs_o, zo_div, zo_mod, ↓reduceIte, Int.reduceToNat, Int.reduceNeg, Int.reduceAdd, Int.reduceMul, Int.reduceSub, Int.reduceEq, Int.reduceLT, Int.reduceLE, if_true, if_false, Nat.reduceAdd, Nat.reduceMul]
    rw [if_neg (by omega)]
    exact e3
theorem m190 (h : Md S q a) (hw : WF T a) {m : Nat} (h0 : m ≤ 10000) (hT : T + m ≤ 1000000) : ∃ S', zr_sem zF (d + 9) 190 [za 3 0 0, zi (zo m)] S = some (.inl none, S') ∧ Md S' q (pasN m a) ∧ Fm q S S' := by
  rw [ze_190]
  have hb := zF1_big
  exact m190_l h0 m 0 zF1 S a T (by omega) (by omega) h hw hT
end ME

/-! THE PURE SIDE 16: the class's turn; lives -/
section CH
variable {S : zS} {n d : Nat} {a : Rw} {T : Int}
theorem skA_ord (hw : WF T a) (h7 : ∀ j : Nat, (j : Int) < a 9 → a (40 + 10 * j + 6) ≠ 0 → a (40 + 10 * j + 7) < a 6) {k : Nat} (hk : (k : Int) ≤ a 9) : ∀ j : Nat, (j : Int) < zfold skA k a 9 → zfold skA k a (40 + 10 * j + 6) ≠ 0 → zfold skA k a (40 + 10 * j + 7) < zfold skA k a 6 ∨ (zfold skA k a (40 + 10 * j + 7) = zfold skA k a 6 ∧ j < k) := by
  have u9 := hw.1.2.2.2.2.2.2.2.2.2
  obtain ⟨i1, i2, i3, i4, i5, i6⟩ := skA_inv hw k hk
  intro j hj h6
  rw [i2 9 (by omega)] at hj
  rw [i2 6 (by omega)]
  by_cases c : a (40 + 10 * j + 6) = 0
  · refine Or.inr ⟨i6 j (by omega) c h6, ?_⟩
    by_cases l : j < k
    · exact l
    · exact absurd c (by rw [← i4 j 6 (by omega) (by omega) (by omega)]; exact h6)
  · exact Or.inl (by rw [i5 j (by omega) c 7 (by omega)]; exact h7 j hj c)
theorem c46_s (hw : WF T a) (h7 : ∀ j : Nat, (j : Int) < a 9 → a (40 + 10 * j + 6) ≠ 0 → a (40 + 10 * j + 7) < a 6) : ∀ (m k f : Nat) (S : zS), k + m = (a 9).toNat → m < f → Cb (S.1 0 n) (zfold skA k a) → ∃ S', zy zF (d + 4) 46 f 54 [some (za 1 0 3), some (za 0 n 0), some (zi (zo k))] S = some (.inl none, S') ∧ Cb (S'.1 0 n) (spr (zfold skA (a 9).toNat a)) ∧ Fc n S S' := by
  have u9 := hw.1.2.2.2.2.2.2.2.2.2
  intro m
  induction m with
  | zero =>
    intro k f S hk hn h
    obtain ⟨f, rfl⟩ : ∃ f', f = f' + 1 := ⟨f - 1, by omega⟩
    obtain ⟨i1, i2, -⟩ := skA_inv hw k (by omega)
    have r9 := h.2.1.2.2.2.2.2.2.2.1
    rw [i2 9 (by omega)] at r9
    obtain ⟨S2, e2, M2, F2⟩ := c53 (d := d) h i1
    rw [show k = (a 9).toNat by omega] at M2
    refine ⟨S2, ?_, M2, F2⟩
    rw [ze_46_54]
    simp (maxSteps := 10000000) (disch := omega) only [r9, e2, zo_add, zo_sub, zo_mul, zo_neg, zo_lt, zo_le, zo_eq, zo_nn, zin_ok, zlt_eq, zr0, zr1, zr3, zr4, zr0x, zr1x, zr3x, zr4x, zb_and, zb_0, zmin_o, zmax_o, zabs_o, zo_div, zo_mod, ↓reduceIte, Int.reduceToNat, Int.reduceNeg, Int.reduceAdd, Int.reduceMul, Int.reduceSub, Int.reduceEq, Int.reduceLT, Int.reduceLE, if_true, if_false, Nat.reduceAdd, Nat.reduceMul]
    rw [if_pos (by omega)]
  | succ m ih =>
    intro k f S hk hn h
    obtain ⟨f, rfl⟩ : ∃ f', f = f' + 1 := ⟨f - 1, by omega⟩
    obtain ⟨i1, i2, -⟩ := skA_inv hw k (by omega)
    have r9 := h.2.1.2.2.2.2.2.2.2.1
    have e9 := i2 9 (by omega)
    rw [e9] at r9
    rw [ze_46_54]
    simp (maxSteps := 10000000) (disch := omega) only [r9, c7 h i1 (b := k) (by omega), zo_add, zo_sub, zo_mul, zo_neg, zo_lt, zo_le, zo_eq, zo_nn, zin_ok, zlt_eq, zr0, zr1, zr3, zr4, zr0x, zr1x, zr3x, zr4x, zb_and, zb_0, zmin_o, zmax_o, zabs_o, zo_div, zo_mod, ↓reduceIte, Int.reduceToNat, Int.reduceNeg, Int.reduceAdd, Int.reduceMul, Int.reduceSub, Int.reduceEq, Int.reduceLT, Int.reduceLE, if_true, if_false, Nat.reduceAdd, Nat.reduceMul]
    rw [if_neg (show ¬ a 9 ≤ k by omega)]
    by_cases c : zfold skA k a (40 + 10 * k + 6) = 0
    · obtain ⟨S2, e2, M2, F2⟩ := c52 (d := d) h i1 (b := k) (by omega) c (skA_ord hw h7 (by omega))
      have ez : zfold skA (k + 1) a = sok (zfold skA k a) k := by
        rw [show zfold skA (k + 1) a = (if zfold skA k a (40 + 10 * k + 6) = 0 then sok (zfold skA k a) k else zfold skA k a) from rfl, if_pos c]
      rw [← ez] at M2
      obtain ⟨S3, e3, M3, F3⟩ := ih (k + 1) f S2 (by omega) (by omega) M2
      refine ⟨S3, ?_, M3, Fc_trans F2 F3⟩
      rw [if_neg (by simp [c]), e2, zr0]
      exact e3
    · have ez : zfold skA (k + 1) a = zfold skA k a := by
        rw [show zfold skA (k + 1) a = (if zfold skA k a (40 + 10 * k + 6) = 0 then sok (zfold skA k a) k else zfold skA k a) from rfl, if_neg c]
      have h2 := h
      rw [← ez] at h2
      obtain ⟨S3, e3, M3, F3⟩ := ih (k + 1) f S (by omega) (by omega) h2
      refine ⟨S3, ?_, M3, F3⟩
      rw [if_pos (by simp [c])]
      exact e3
theorem c46_d (hw : WF T a) (hl : a 2 ≠ 0) (hm : ∀ j : Nat, (j : Int) < a 9 → a (40 + 10 * j + 8) + 2 ≤ 2 * a 6 ∧ a (40 + 10 * j + 9) + 2 ≤ 2 * a 6) (h7 : ∀ j : Nat, (j : Int) < a 9 → a (40 + 10 * j + 6) ≠ 0 → a (40 + 10 * j + 7) < a 6) : ∀ (m k f : Nat) (S : zS), k + m = (a 9).toNat → m + 20 < f → Cb (S.1 0 n) (zfold drA k a) → ∃ S', zy zF (d + 5) 46 f 24 [some (za 1 0 3), some (za 0 n 0), some (zi (zo k))] S = some (.inl none, S') ∧ Cb (S'.1 0 n) (spr (zfold skA (a 9).toNat (zfold drA (a 9).toNat a))) ∧ Fc n S S' := by
  have u9 := hw.1.2.2.2.2.2.2.2.2.2
  have u2 := hw.1.2.2.1
  intro m
  induction m with
  | zero =>
    intro k f S hk hn h
    obtain ⟨f, rfl⟩ : ∃ f', f = f' + 1 := ⟨f - 1, by omega⟩
    obtain ⟨i1, i2, -, i4, -⟩ := drA_inv hw hm k (by omega)
    have r9 := h.2.1.2.2.2.2.2.2.2.1
    have e9 := i2 9 (by omega)
    rw [e9] at r9
    obtain ⟨S2, e2, M2, F2⟩ := c46_s (n := n) (d := d + 1) i1 (fun j hj h6 => by
      rw [i4 j 6 (by omega) (by omega)] at h6
      rw [i4 j 7 (by omega) (by omega), i2 6 (by omega)]
      exact h7 j (by omega) h6) (a 9).toNat 0 f S (by omega) (by omega) h
    rw [e9, show k = (a 9).toNat by omega] at M2
    refine ⟨S2, ?_, M2, F2⟩
    rw [ze_46_24]
    simp (maxSteps := 10000000) (disch := omega) only [r9, zo_add, zo_sub, zo_mul, zo_neg, zo_lt, zo_le, zo_eq, zo_nn, zin_ok, zlt_eq, zr0, zr1, zr3, zr4, zr0x, zr1x, zr3x, zr4x, zb_and, zb_0, zmin_o, zmax_o, zabs_o, zo_div, zo_mod, ↓reduceIte, Int.reduceToNat, Int.reduceNeg, Int.reduceAdd, Int.reduceMul, Int.reduceSub, Int.reduceEq, Int.reduceLT, Int.reduceLE, if_true, if_false, Nat.reduceAdd, Nat.reduceMul]
    rw [if_pos (by omega)]
    exact e2
  | succ m ih =>
    intro k f S hk hn h
    obtain ⟨f, rfl⟩ : ∃ f', f = f' + 1 := ⟨f - 1, by omega⟩
    obtain ⟨i1, i2, -, i4, i5⟩ := drA_inv hw hm k (by omega)
    have r9 := h.2.1.2.2.2.2.2.2.2.1
    have e9 := i2 9 (by omega)
    rw [e9] at r9
    have e2 := i2 2 (by omega)
    rw [ze_46_24]
    simp (maxSteps := 10000000) (disch := omega) only [r9, c7 h i1 (b := k) (by omega), zo_add, zo_sub, zo_mul, zo_neg, zo_lt, zo_le, zo_eq, zo_nn, zin_ok, zlt_eq, zr0, zr1, zr3, zr4, zr0x, zr1x, zr3x, zr4x, zb_and, zb_0, zmin_o, zmax_o, zabs_o, zo_div, zo_mod, ↓reduceIte, Int.reduceToNat, Int.reduceNeg, Int.reduceAdd, Int.reduceMul, Int.reduceSub, Int.reduceEq, Int.reduceLT, Int.reduceLE, if_true, if_false, Nat.reduceAdd, Nat.reduceMul]
    rw [if_neg (show ¬ a 9 ≤ k by omega)]
    by_cases c : zfold drA k a (40 + 10 * k + 6) = 0
    · have e6 := i2 6 (by omega)
      have e5 := i5 k (by omega) (by omega)
      have mk := hm k (by omega)
      obtain ⟨S2, r3, M2, F2⟩ := c48 (d := d) h i1 (b := k) (by omega) c (by omega) (by omega) (by omega)
      have ez : zfold drA (k + 1) a = dft (zfold drA k a) k := by
        rw [show zfold drA (k + 1) a = (if 0 < zfold drA k a 2 ∧ zfold drA k a (40 + 10 * k + 6) = 0 then dft (zfold drA k a) k else zfold drA k a) from rfl, if_pos ⟨by omega, c⟩]
      rw [← ez] at M2
      obtain ⟨S3, e3, M3, F3⟩ := ih (k + 1) f S2 (by omega) (by omega) M2
      refine ⟨S3, ?_, M3, Fc_trans F2 F3⟩
      rw [if_neg (by simp [c]), r3, zr0]
      exact e3
    · have ez : zfold drA (k + 1) a = zfold drA k a := by
        rw [show zfold drA (k + 1) a = (if 0 < zfold drA k a 2 ∧ zfold drA k a (40 + 10 * k + 6) = 0 then dft (zfold drA k a) k else zfold drA k a) from rfl, if_neg (fun z => c z.2)]
      have h2 := h
      rw [← ez] at h2
      obtain ⟨S3, e3, M3, F3⟩ := ih (k + 1) f S (by omega) (by omega) h2
      refine ⟨S3, ?_, M3, F3⟩
      rw [if_pos (by simp [c])]
      exact e3
theorem c46 (h : Cb (S.1 0 n) a) (hw : WF T a) (hT : T + 1 ≤ 1000000) : ∃ S', zr_sem zF (d + 6) 46 [za 1 0 3, za 0 n 0] S = some (.inl none, S') ∧ Cb (S'.1 0 n) (pas a) ∧ Fc n S S' := by
  rw [ze_46]
  have hb := zF1_big
  have n12 := h.2.1.2.2.2.2.2.2.1
  have hA := Cb_n6 (v := a 6 + 1) h hw
  have wA := WF_time hw hT
  obtain ⟨S2, e2, M2, F2⟩ := c47 (d := d + 2) hA wA
  obtain ⟨w1, e6, e1⟩ := ps1_ok hw hT
  have e9 := e1 9 (by omega) (by omega)
  have M2 : Cb (S2.1 0 n) (ps1 a) := M2
  have u9 := hw.1.2.2.2.2.2.2.2.2.2
  have h7 : ∀ j : Nat, (j : Int) < ps1 a 9 → ps1 a (40 + 10 * j + 6) ≠ 0 → ps1 a (40 + 10 * j + 7) < ps1 a 6 := by
    intro j hj _
    rw [e1 (40 + 10 * j + 7) (by omega) (by omega), e6]
    have := (hw.2.2.2.1 j (by omega)).2.2.2.2.2.2.2.1
    omega
  have n8 := M2.2.1.2.2.1
  have u2 := w1.1.2.2.1
  have z : pas a = spr (zfold skA (ps1 a 9).toNat (zfold drA (ps1 a 9).toNat (ps1 a))) := by
    unfold pas ps3 ps2
    rw [e9]
  have hF : Fc n S S2 := Fc_trans (Fc_set (Fc_refl n S) 0 12 (zo (a 6 + 1))) F2
  rw [n12, zo_add, e2, zr0]
  simp (maxSteps := 10000000) (disch := omega) only [n8, zo_add, zo_sub, zo_mul, zo_neg, zo_lt, zo_le, zo_eq, zo_nn, zin_ok, zlt_eq, zr0, zr1, zr3, zr4, zr0x, zr1x, zr3x, zr4x, zb_and, zb_0, zmin_o, zmax_o, zabs_o, zo_div, zo_mod, ↓reduceIte, Int.reduceToNat, Int.reduceNeg, Int.reduceAdd, Int.reduceMul, Int.reduceSub, Int.reduceEq, Int.reduceLT, Int.reduceLE, if_true, if_false, Nat.reduceAdd, Nat.reduceMul]
  by_cases c : ps1 a 2 ≤ 0
  · rw [if_pos c]
    have z0 := drA_0 (a := ps1 a) (by omega)
    obtain ⟨S3, e3, M3, F3⟩ := c46_s (n := n) (d := d + 1) w1 h7 (ps1 a 9).toNat 0 zF1 S2 (by omega) (by omega) M2
    exact ⟨S3, e3, by rw [z, z0]; exact M3, Fc_trans hF F3⟩
  · rw [if_neg c]
    obtain ⟨S3, e3, M3, F3⟩ := c46_d (n := n) (d := d) w1 (by omega) (ps1_mv hw hT) h7 (ps1 a 9).toNat 0 zF1 S2 (by omega) (by omega) M2
    exact ⟨S3, e3, by rw [z]; exact M3, Fc_trans hF F3⟩
theorem c142_l {m0 : Nat} (h0 : m0 ≤ 10000) : ∀ (m k f : Nat) (S : zS) (a : Rw) (T : Int), k + m = m0 → m < f → Cb (S.1 0 n) a → WF T a → T + m ≤ 1000000 → ∃ S', zy zF (d + 6) 142 f 2 [some (za 1 0 0), some (za 0 n 0), some (zi (zo m0)), some (zi (zo k))] S = some (.inl none, S') ∧ Cb (S'.1 0 n) (pasN m a) ∧ Fc n S S' := by
  intro m
  induction m with
  | zero =>
    intro k f S a T hk hn h hw hT
    obtain ⟨f, rfl⟩ : ∃ f', f = f' + 1 := ⟨f - 1, by omega⟩
    refine ⟨S, ?_, h, Fc_refl n S⟩
    rw [ze_142_2]
    simp (maxSteps := 10000000) (disch := omega) only [zo_add, zo_sub, zo_mul, zo_neg, zo_lt, zo_le, zo_eq, zo_nn, zin_ok, zlt_eq, zr0, zr1, zr3, zr4, zr0x, zr1x, zr3x, zr4x, zb_and, zb_0, zmin_o, zmax_o, zabs_o, zo_div, zo_mod, ↓reduceIte, Int.reduceToNat, Int.reduceNeg, Int.reduceAdd, Int.reduceMul, Int.reduceSub, Int.reduceEq, Int.reduceLT, Int.reduceLE, if_true, if_false, Nat.reduceAdd, Nat.reduceMul]
    rw [if_pos (by omega)]
  | succ m ih =>
    intro k f S a T hk hn h hw hT
    obtain ⟨f, rfl⟩ : ∃ f', f = f' + 1 := ⟨f - 1, by omega⟩
    obtain ⟨S2, e2, M2, F2⟩ := c46 (d := d) h hw (by omega)
    obtain ⟨p1, -, -⟩ := pas_ok hw (by omega)
    obtain ⟨S3, e3, M3, F3⟩ := ih (k + 1) f S2 (pas a) (T + 1) (by omega) (by omega) M2 p1 (by omega)
    rw [pasN_1] at M3
    refine ⟨S3, ?_, M3, Fc_trans F2 F3⟩
    rw [ze_142_2]
    simp (maxSteps := 10000000) (disch := omega) only [e2, zo_add, zo_sub, zo_mul, zo_neg, zo_lt, zo_le, zo_eq, zo_nn, zin_ok, zlt_eq, zr0, zr1, zr3, zr4, zr0x, zr1x, zr3x, zr4x, zb_and, zb_0, zmin_o, zmax_o, zabs_o, zo_div, zo_mod, ↓reduceIte, Int.reduceToNat, Int.reduceNeg, Int.reduceAdd, Int.reduceMul, Int.reduceSub, Int.reduceEq, Int.reduceLT, Int.reduceLE, if_true, if_false, Nat.reduceAdd, Nat.reduceMul]
    rw [if_neg (by omega)]
    exact e3
theorem c142 (h : Cb (S.1 0 n) a) (hw : WF T a) {m : Nat} (h0 : m ≤ 10000) (hT : T + m ≤ 1000000) : ∃ S', zr_sem zF (d + 7) 142 [za 1 0 0, za 0 n 0, zi (zo m)] S = some (.inl none, S') ∧ Cb (S'.1 0 n) (pasN m a) ∧ Fc n S S' := by
  rw [ze_142]
  have hb := zF1_big
  exact c142_l h0 m 0 zF1 S a T (by omega) (by omega) h hw hT
end CH

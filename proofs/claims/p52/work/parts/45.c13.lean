/-! THE PURE SIDE 13: the class's turn: drifting -/
theorem zlimC (x : Int32) : zmax (zo (-300)) (zmin x (zo 300)) = zo (lim x) := by
  have h1 : (zo 300).toInt = 300 := zo_toInt (by omega) (by omega)
  have h2 : (zo (-300)).toInt = -300 := zo_toInt (by omega) (by omega)
  have hv : zo x.toInt = x := Int32.ofInt_toInt x
  unfold zmax zmin lim
  simp only [Int32.lt_iff_toInt_lt, h1, h2]
  by_cases c1 : 300 < x.toInt
  · rw [if_pos c1, if_pos c1, h1, if_pos (by omega)]
  · rw [if_neg c1, if_neg c1]
    by_cases c2 : x.toInt < -300
    · rw [if_pos c2, if_neg (by omega)]
    · rw [if_neg c2]
      by_cases c3 : -300 < x.toInt
      · rw [if_pos c3, hv]
      · rw [if_neg c3, show x.toInt = -300 by omega]
theorem limI_lim {x : Int} (h1 : -2147483648 ≤ x) (h2 : x < 2147483648) : lim (zo x) = limI x := by
  unfold lim limI
  have e := zo_toInt h1 h2
  simp only [Int32.lt_iff_toInt_lt, e, zo_toInt (a := 300) (by omega) (by omega), zo_toInt (a := -300) (by omega) (by omega)]
theorem cel_mod {a : Rw} {x y : Int} (h : (0 ≤ x ∧ x < a 0) ∧ (0 ≤ y ∧ y < a 1)) : (a 0 * y + x) % a 0 = x ∧ (a 0 * y + x) / a 0 = y := by
  have e1 : (a 0 * y + x) % a 0 = x := by rw [Int.mul_add_emod_self_left]; exact Int.emod_eq_of_lt h.1.1 h.1.2
  have e2 : (a 0 * y + x) / a 0 = y := by rw [Int.mul_add_ediv_left _ _ (by omega), Int.ediv_eq_zero_of_lt h.1.1 h.1.2]; omega
  exact ⟨e1, e2⟩
section CD
variable {S : zS} {n d : Nat} {a : Rw} {T : Int}
theorem occ_here (hw : WF T a) {b : Nat} (hb : (b : Int) < a 9) (h0 : a (40 + 10 * b + 6) = 0) : occ a (a (40 + 10 * b)) (-1) = b := by
  unfold occ
  refine zfst_is _ _ b (by omega) (by simp [h0]) (fun i hi => ?_)
  by_cases c : a (40 + 10 * i + 6) = 0 ∧ a (40 + 10 * i) = a (40 + 10 * b)
  · have := hw.2.2.2.2.2 i b (by omega) hb c.1 h0 c.2; omega
  · simp only [Bool.and_eq_false_iff, decide_eq_false_iff_not]
    by_cases c1 : a (40 + 10 * i + 6) = 0
    · exact Or.inr (Or.inr (fun e => c ⟨c1, e⟩))
    · exact Or.inr (Or.inl c1)
theorem occ_nb {c : Int} {b : Nat} (h : a (40 + 10 * b) ≠ c) : occ a c b = occ a c (-1) := by
  unfold occ
  refine zfst_congr _ _ (fun i _ _ => ?_)
  have e2 : decide ((i : Int) ≠ -1) = true := decide_eq_true (by omega)
  rw [e2]
  by_cases e : i = b
  · subst e; simp [h]
  · have e3 : decide ((i : Int) ≠ b) = true := decide_eq_true (by omega)
    rw [e3]
theorem occ_none {c : Int} (h : ∀ k : Nat, (k : Int) < a 9 → a (40 + 10 * k + 6) = 0 → a (40 + 10 * k) ≠ c) : occ a c (-1) = -1 := by
  refine zfst_isnone _ _ (fun i hi => ?_)
  simp only [Bool.and_eq_false_iff, decide_eq_false_iff_not]
  by_cases c1 : a (40 + 10 * i + 6) = 0
  · exact Or.inr (Or.inr (h i (by omega) c1))
  · exact Or.inr (Or.inl c1)
theorem occ_free {c b : Int} (h : occ a c b = -1) : ∀ k : Nat, (k : Int) < a 9 → (k : Int) ≠ b → a (40 + 10 * k + 6) = 0 → a (40 + 10 * k) ≠ c := by
  intro k hk hkb h6 hc
  have := zfst_none _ _ _ h k (by omega) (by omega)
  simp only [Bool.and_eq_false_iff, decide_eq_false_iff_not] at this
  rcases this with h | h | h
  · exact h hkb
  · exact h h6
  · exact h hc
theorem c64s {c : Nat} (hc : c < 100) {v : Int32} : zr_sem zF (d + 1) 64 [za 0 n 7, zi (zo c), zi v] S = some (.inl none, zs_set S 0 n 8 c v) := by
  rw [ze_64s]
  simp (maxSteps := 10000000) (disch := omega) only [Int.toNat_natCast, zo_add, zo_sub, zo_mul, zo_neg, zo_lt, zo_le, zo_eq, zo_nn, zin_ok, zlt_eq, zr0, zr1, zr3, zr4, zr0x, zr1x, zr3x, zr4x, zb_and, zb_0, zmin_o, zmax_o, zabs_o, zo_div, zo_mod, ↓reduceIte, Int.reduceToNat, Int.reduceNeg, Int.reduceAdd, Int.reduceMul, Int.reduceSub, Int.reduceEq, Int.reduceLT, Int.reduceLE, if_true, if_false, Nat.reduceAdd, Nat.reduceMul]
  rw [if_neg (by omega), if_neg (by omega)]
theorem c64o {c : Nat} (hc : c < 100) {v : Int32} : zr_sem zF (d + 1) 64 [za 0 n 9, zi (zo c), zi v] S = some (.inl none, zs_set S 0 n 10 c v) := by
  rw [ze_64o]
  simp (maxSteps := 10000000) (disch := omega) only [Int.toNat_natCast, zo_add, zo_sub, zo_mul, zo_neg, zo_lt, zo_le, zo_eq, zo_nn, zin_ok, zlt_eq, zr0, zr1, zr3, zr4, zr0x, zr1x, zr3x, zr4x, zb_and, zb_0, zmin_o, zmax_o, zabs_o, zo_div, zo_mod, ↓reduceIte, Int.reduceToNat, Int.reduceNeg, Int.reduceAdd, Int.reduceMul, Int.reduceSub, Int.reduceEq, Int.reduceLT, Int.reduceLE, if_true, if_false, Nat.reduceAdd, Nat.reduceMul]
  rw [if_neg (by omega), if_neg (by omega)]
theorem c64e {c : Nat} (hc : c < 12) {v : Int32} : zr_sem zF (d + 1) 64 [za 0 n 11, zi (zo c), zi v] S = some (.inl none, zs_set S 0 n 12 c v) := by
  rw [ze_64e]
  simp (maxSteps := 10000000) (disch := omega) only [Int.toNat_natCast, zo_add, zo_sub, zo_mul, zo_neg, zo_lt, zo_le, zo_eq, zo_nn, zin_ok, zlt_eq, zr0, zr1, zr3, zr4, zr0x, zr1x, zr3x, zr4x, zb_and, zb_0, zmin_o, zmax_o, zabs_o, zo_div, zo_mod, ↓reduceIte, Int.reduceToNat, Int.reduceNeg, Int.reduceAdd, Int.reduceMul, Int.reduceSub, Int.reduceEq, Int.reduceLT, Int.reduceLE, if_true, if_false, Nat.reduceAdd, Nat.reduceMul]
  rw [if_neg (by omega), if_neg (by omega)]
theorem c64x {c : Nat} (hc : c < 100) {v : Int32} : zr_sem zF (d + 1) 64 [za 1 0 7, zi (zo c), zi v] S = some (.inl none, zs_set S 1 0 8 c v) := by
  rw [ze_64g]
  simp (maxSteps := 10000000) (disch := omega) only [Int.toNat_natCast, zo_add, zo_sub, zo_mul, zo_neg, zo_lt, zo_le, zo_eq, zo_nn, zin_ok, zlt_eq, zr0, zr1, zr3, zr4, zr0x, zr1x, zr3x, zr4x, zb_and, zb_0, zmin_o, zmax_o, zabs_o, zo_div, zo_mod, ↓reduceIte, Int.reduceToNat, Int.reduceNeg, Int.reduceAdd, Int.reduceMul, Int.reduceSub, Int.reduceEq, Int.reduceLT, Int.reduceLE, if_true, if_false, Nat.reduceAdd, Nat.reduceMul]
  rw [if_neg (by omega), if_neg (by omega)]
theorem c63x {c : Nat} (hc : c < 100) : zr_sem zF (d + 1) 63 [za 1 0 7, zi (zo c)] S = some (.inl (some (zi (S.1 1 0 8 c))), S) := by
  rw [ze_63g]
  simp (maxSteps := 10000000) (disch := omega) only [Int.toNat_natCast, zo_add, zo_sub, zo_mul, zo_neg, zo_lt, zo_le, zo_eq, zo_nn, zin_ok, zlt_eq, zr0, zr1, zr3, zr4, zr0x, zr1x, zr3x, zr4x, zb_and, zb_0, zmin_o, zmax_o, zabs_o, zo_div, zo_mod, ↓reduceIte, Int.reduceToNat, Int.reduceNeg, Int.reduceAdd, Int.reduceMul, Int.reduceSub, Int.reduceEq, Int.reduceLT, Int.reduceLE, if_true, if_false, Nat.reduceAdd, Nat.reduceMul]
  rw [if_neg (by omega), if_neg (by omega)]
theorem c3N (h : CbN (S.1 0 n) a) (hw : WB T a) {x y : Int} (g1 : -2147483648 ≤ x) (g2 : x < 2147483648) (g3 : -2147483648 ≤ y) (g4 : y < 2147483648) : zr_sem zF (d + 1) 3 [za 0 n 0, zi (zo x), zi (zo y)] S = some (.inl (some (zi (zo (cAt a x y)))), S) := by
  rw [ze_3]
  obtain ⟨n6, n7, -⟩ := h
  obtain ⟨⟨u0, u0x⟩, ⟨u1, u1x⟩, -⟩ := hw
  simp (maxSteps := 10000000) (disch := omega) only [n6, n7, zo_add, zo_sub, zo_mul, zo_neg, zo_lt, zo_le, zo_eq, zo_nn, zin_ok, zlt_eq, zr0, zr1, zr3, zr4, zr0x, zr1x, zr3x, zr4x, zb_and, zb_0, zmin_o, zmax_o, zabs_o, zo_div, zo_mod, ↓reduceIte, Int.reduceToNat, Int.reduceNeg, Int.reduceAdd, Int.reduceMul, Int.reduceSub, Int.reduceEq, Int.reduceLT, Int.reduceLE, if_true, if_false, Nat.reduceAdd, Nat.reduceMul]
  by_cases c1 : x < 0
  · rw [if_pos c1, cAt_out (by omega)]
  · rw [if_neg c1]
    by_cases c2 : a 0 ≤ x
    · rw [if_pos c2, cAt_out (by omega)]
    · rw [if_neg c2]
      by_cases c3 : y < 0
      · rw [if_pos c3, cAt_out (by omega)]
      · rw [if_neg c3]
        by_cases c4 : a 1 ≤ y
        · rw [if_pos c4, cAt_out (by omega)]
        · rw [if_neg c4, cAt_in (by omega)]
theorem c23 {x : Int32} : zr_sem zF (d + 1) 23 [zi x] S = some (.inl (some (zi (zo (lim x)))), S) := by
  rw [ze_23, zlimC]

theorem c24_5 (h : Cb (S.1 0 n) a) (hw : WF T a) {b : Nat} (hb : (b : Int) < a 9) {v : Int32} : zr_sem zF (d + 2) 24 [za 0 n 0, zi (zo b), zi (zo 5), zi v] S = some (.inl none, zs_set S 0 n 2 (11 * b + 5) (zo (lim (zo (a (40 + 10 * b + 4)) + v)))) := by
  have u9 := hw.1.2.2.2.2.2.2.2.2.2
  rw [ze_24]
  simp (maxSteps := 10000000) (disch := omega) only [c67b_5 h hw hb, c23, c68b_5 h.1, zr0, zr1]
theorem c24_6 (h : Cb (S.1 0 n) a) (hw : WF T a) {b : Nat} (hb : (b : Int) < a 9) {v : Int32} : zr_sem zF (d + 2) 24 [za 0 n 0, zi (zo b), zi (zo 6), zi v] S = some (.inl none, zs_set S 0 n 2 (11 * b + 6) (zo (lim (zo (a (40 + 10 * b + 5)) + v)))) := by
  have u9 := hw.1.2.2.2.2.2.2.2.2.2
  rw [ze_24]
  simp (maxSteps := 10000000) (disch := omega) only [c67b_6 h hw hb, c23, c68b_6 h.1, zr0, zr1]
theorem c22 (h : Cb (S.1 0 n) a) (hw : WF T a) {b : Nat} (hb : (b : Int) < a 9) : ∃ S', zr_sem zF (d + 2) 22 [za 0 n 0, zi (zo b)] S = some (.inl none, S') ∧ Cb (S'.1 0 n) (up (up a (40 + 10 * b + 4) 0) (40 + 10 * b + 5) 0) ∧ Fc n S S' := by
  have u9 := hw.1.2.2.2.2.2.2.2.2.2
  have hA := Cb_b4 (v := 0) h hw hb
  have wA := WF_b4 (v := 0) hw hb (by omega)
  have hB := Cb_b5 (v := 0) hA wA (by simp (maxSteps := 10000000) (disch := omega) only [up_ne, up_self]; exact hb)
  rw [ze_22]
  refine ⟨_, ?_, hB, Fc_set (Fc_set (Fc_refl n S) _ _ _) _ _ _⟩
  simp (maxSteps := 10000000) (disch := omega) only [c68b_5 h.1, c68b_6 hA.1, zr0]
theorem Cb_place (h : Cb (S.1 0 n) a) (hw : WF T a) {b : Nat} (hb : (b : Int) < a 9) (h0 : a (40 + 10 * b + 6) = 0) {x y : Int} (hc : (0 ≤ x ∧ x < a 0) ∧ (0 ≤ y ∧ y < a 1)) (hf : ∀ k : Nat, (k : Int) < a 9 → k ≠ b → a (40 + 10 * k + 6) = 0 → a (40 + 10 * k) ≠ a 0 * y + x) :
    Cb ((zs_set (zs_set (zs_set (zs_set S 0 n 10 (a (40 + 10 * b)).toNat (zo (-1))) 0 n 2 (11 * b) (zo x)) 0 n 2 (11 * b + 1) (zo y)) 0 n 10 (a 0 * y + x).toNat (zo b)).1 0 n) (up a (40 + 10 * b) (a 0 * y + x)) := by
  have u9 := hw.1.2.2.2.2.2.2.2.2.2
  have gB := hw.2.2.2.1 b hb
  have gc := cel_lt hc
  have gm := cel_mod hc
  have wA := WF_cell hw hb gc hf
  refine ⟨tF h.1 (fun o _ => by simp (maxSteps := 10000000) (disch := omega) only [zs_ne, zs_eq]), tN h.2.1 (fun j _ _ => by simp (maxSteps := 10000000) (disch := omega) only [zs_ne, zs_eq]) (fun i hi => up_ne _ _ (by omega)), tD h.2.2.1 hw.1 (fun j => by simp (maxSteps := 10000000) (disch := omega) only [zs_ne, zs_eq]) (fun i hi _ => up_ne _ _ (by omega)), tT h.2.2.2.1 hw.1 (fun j => by simp (maxSteps := 10000000) (disch := omega) only [zs_ne, zs_eq]) (fun i hi _ => up_ne _ _ (by omega)), fun k hk => ?_, tS h.2.2.2.2.2.1 (fun j => by simp (maxSteps := 10000000) (disch := omega) only [zs_ne, zs_eq]) (up_ne _ _ (by omega)) (up_ne _ _ (by omega)) (fun i hi => up_ne _ _ (by omega)), fun c hcc => ?_, CbE_cg h.2.2.2.2.2.2.2 (by simp (maxSteps := 10000000) (disch := omega) only [zs_ne, zs_eq]) (fun j => by simp (maxSteps := 10000000) (disch := omega) only [zs_ne, zs_eq]) (up_ne _ _ (by omega)) (fun k hk => ⟨up_ne _ _ (by omega), up_ne _ _ (by omega)⟩)⟩
  · rw [up_ne _ _ (by omega)] at hk
    have g := h.2.2.2.2.1 k hk
    by_cases e : k = b
    · subst e
      simp (disch := omega) only [zs_ne, zs_eq, up_ne, up_self, g, gm, and_self]
    · simp (disch := omega) only [zs_ne, up_ne, g, and_self]
  · rw [up_ne _ _ (by omega), up_ne _ _ (by omega)] at hcc
    by_cases e1 : (c : Int) = a 0 * y + x
    · rw [show (a 0 * y + x).toNat = c by omega, zs_eq]
      have o := occ_here (b := b) wA (by simp (maxSteps := 10000000) (disch := omega) only [up_ne, up_self]; exact hb) (by simp (maxSteps := 10000000) (disch := omega) only [up_ne, up_self]; exact h0)
      rw [up_self, ← e1] at o
      rw [← e1, o]
    · rw [zs_ne (by omega), zs_ne (by omega), zs_ne (by omega)]
      by_cases e2 : (c : Int) = a (40 + 10 * b)
      · rw [show (a (40 + 10 * b)).toNat = c by omega, zs_eq]
        congr 1
        refine (occ_none (fun k hk h6 hcell => ?_)).symm
        rw [up_ne _ _ (by omega)] at hk h6
        by_cases ek : k = b
        · subst ek; rw [up_self] at hcell; omega
        · rw [up_ne _ _ (by omega)] at hcell
          exact ek (hw.2.2.2.2.2 k b hk hb h6 h0 (by omega))
      · rw [zs_ne (by omega), h.2.2.2.2.2.2.1 c hcc]
        congr 1
        unfold occ
        rw [up_ne _ _ (show (9 : Nat) ≠ 40 + 10 * b by omega)]
        refine zfst_congr _ _ (fun i _ hi => ?_)
        rw [up_ne _ _ (show 40 + 10 * i + 6 ≠ 40 + 10 * b by omega)]
        by_cases ek : i = b
        · subst ek
          rw [up_self, decide_eq_false (show ¬ a (40 + 10 * i) = (c : Int) by omega), decide_eq_false (show ¬ a 0 * y + x = (c : Int) by omega)]
        · rw [up_ne _ _ (show 40 + 10 * i ≠ 40 + 10 * b by omega)]
theorem c21 (h : Cb (S.1 0 n) a) (hw : WF T a) {b : Nat} (hb : (b : Int) < a 9) (h0 : a (40 + 10 * b + 6) = 0) {x y : Int} (hc : (0 ≤ x ∧ x < a 0) ∧ (0 ≤ y ∧ y < a 1)) (hf : ∀ k : Nat, (k : Int) < a 9 → k ≠ b → a (40 + 10 * k + 6) = 0 → a (40 + 10 * k) ≠ a 0 * y + x) :
    ∃ S', zr_sem zF (d + 2) 21 [za 0 n 0, zi (zo b), zi (zo x), zi (zo y)] S = some (.inl none, S') ∧ Cb (S'.1 0 n) (up a (40 + 10 * b) (a 0 * y + x)) ∧ Fc n S S' := by
  have hP := Cb_place h hw hb h0 hc hf
  have hwO := hw; obtain ⟨⟨⟨u0, u0x⟩, ⟨u1, u1x⟩, ⟨u2, u2x⟩, ⟨u3, u3x⟩, ⟨u4, u4x⟩, ⟨u5, u5x⟩, ⟨u6, u6x, uT⟩, ⟨u7, u7x⟩, ⟨u8, u8x⟩, ⟨u9, u9x⟩⟩, uD, uP, uB, uS, uI⟩ := hwO
  have gB := uB b hb
  have uN := WF_nc hw
  have gc := cel_lt hc
  have g := col_rng hw gB.1.1 gB.1.2
  have e1 : cAt a (a (40 + 10 * b) % a 0) (a (40 + 10 * b) / a 0) = ((a (40 + 10 * b)).toNat : Int) := by rw [cAt_of (by omega) gB.1.1 gB.1.2]; omega
  have e2 : cAt a x y = ((a 0 * y + x).toNat : Int) := by rw [cAt_in hc]; omega
  refine ⟨_, ?_, hP, Fc_set (Fc_set (Fc_set (Fc_set (Fc_refl n S) _ _ _) _ _ _) _ _ _) _ _ _⟩
  rw [ze_21]
  have hn : ∀ S1 : zS, CbF (S1.1 0 n) → CbN (S1.1 0 n) a → zr_sem zF (d + 1) 3 [za 0 n 0, zi (zo x), zi (zo y)] S1 = some (.inl (some (zi (zo (cAt a x y)))), S1) := fun S1 _ h2 => c3N h2 hw.1 (by omega) (by omega) (by omega) (by omega)
  simp (maxSteps := 10000000) (disch := omega) only [c67b_0 h hw hb, c67b_1 h hw hb, c3 h hw, e1, c64o, zr0, zr1]
  have hF : CbF ((zs_set S 0 n 10 (a (40 + 10 * b)).toNat (zo (-1))).1 0 n) := tF h.1 (fun o _ => by simp (maxSteps := 10000000) (disch := omega) only [zs_ne, zs_eq])
  have hF2 : CbF ((zs_set (zs_set S 0 n 10 (a (40 + 10 * b)).toNat (zo (-1))) 0 n 2 (11 * b) (zo x)).1 0 n) := tF h.1 (fun o _ => by simp (maxSteps := 10000000) (disch := omega) only [zs_ne, zs_eq])
  have hN3 : CbN ((zs_set (zs_set (zs_set S 0 n 10 (a (40 + 10 * b)).toNat (zo (-1))) 0 n 2 (11 * b) (zo x)) 0 n 2 (11 * b + 1) (zo y)).1 0 n) a := tN h.2.1 (fun j _ _ => by simp (maxSteps := 10000000) (disch := omega) only [zs_ne, zs_eq]) (fun i hi => rfl)
  have hF3 : CbF ((zs_set (zs_set (zs_set S 0 n 10 (a (40 + 10 * b)).toNat (zo (-1))) 0 n 2 (11 * b) (zo x)) 0 n 2 (11 * b + 1) (zo y)).1 0 n) := tF h.1 (fun o _ => by simp (maxSteps := 10000000) (disch := omega) only [zs_ne, zs_eq])
  simp (maxSteps := 10000000) (disch := omega) only [c68b_0 hF, c68b_1 hF2, hn _ hF3 hN3, e2, c64o, zr0, zr1]

theorem c51_0 (h : Cb (S.1 0 n) a) (hw : WF T a) {b j : Nat} (hb : (b : Int) < a 9) (hj : (j : Int) < a 9) (hjb : j ≠ b) : ∃ S', zr_sem zF (d + 2) 51 [za 1 0 3, za 0 n 0, zi (zo b), zi (zo j), zi (zo 5)] S = some (.inl none, S') ∧ Cb (S'.1 0 n) (up (up (up a (40 + 10 * j + 4) (limI (a (40 + 10 * j + 4) + (a (40 + 10 * b + 4) * a (40 + 10 * b + 1)).tdiv (a (40 + 10 * b + 1) + a (40 + 10 * j + 1))))) (40 + 10 * b + 4) 0) (40 + 10 * b + 9) (a (40 + 10 * b + 9) + 1)) ∧ Fc n S S' := by
  have hwO := hw; obtain ⟨⟨⟨u0, u0x⟩, ⟨u1, u1x⟩, ⟨u2, u2x⟩, ⟨u3, u3x⟩, ⟨u4, u4x⟩, ⟨u5, u5x⟩, ⟨u6, u6x, uT⟩, ⟨u7, u7x⟩, ⟨u8, u8x⟩, ⟨u9, u9x⟩⟩, uD, uP, uB, uS, uI⟩ := hwO
  have gB := uB b hb
  have gJ := uB j hj
  have td := tdiv_b (x := a (40 + 10 * b + 4)) (w1 := a (40 + 10 * b + 1)) (w2 := a (40 + 10 * j + 1)) (by omega) (by omega) (by omega) (by omega) (by omega)
  have hA := Cb_b4 (v := limI (a (40 + 10 * j + 4) + (a (40 + 10 * b + 4) * a (40 + 10 * b + 1)).tdiv (a (40 + 10 * b + 1) + a (40 + 10 * j + 1)))) h hw hj
  have wA := WF_b4 hw hj (limI_b (a (40 + 10 * j + 4) + (a (40 + 10 * b + 4) * a (40 + 10 * b + 1)).tdiv (a (40 + 10 * b + 1) + a (40 + 10 * j + 1))))
  have hB := Cb_b4 (v := 0) (b := b) hA wA (by simp (maxSteps := 10000000) (disch := omega) only [up_ne, up_self]; exact hb)
  have wB := WF_b4 (v := 0) (b := b) wA (by simp (maxSteps := 10000000) (disch := omega) only [up_ne, up_self]; exact hb) (by omega)
  have hC := Cb_b9 (v := a (40 + 10 * b + 9) + 1) (b := b) hB wB (by simp (maxSteps := 10000000) (disch := omega) only [up_ne, up_self]; exact hb)
  have e9 : up (up a (40 + 10 * j + 4) (limI (a (40 + 10 * j + 4) + (a (40 + 10 * b + 4) * a (40 + 10 * b + 1)).tdiv (a (40 + 10 * b + 1) + a (40 + 10 * j + 1))))) (40 + 10 * b + 4) 0 (40 + 10 * b + 9) = a (40 + 10 * b + 9) := by simp (maxSteps := 10000000) (disch := omega) only [up_ne, up_self]
  have r9 := c67b_10 (d := d) (b := b) hB wB (by simp (maxSteps := 10000000) (disch := omega) only [up_ne, up_self]; exact hb)
  rw [e9] at r9
  refine ⟨_, ?_, hC, Fc_set (Fc_set (Fc_set (Fc_refl n S) _ _ _) _ _ _) _ _ _⟩
  rw [ze_51]
  simp (maxSteps := 10000000) (disch := omega) only [c67b_2 h hw hb, c67b_2 h hw hj, c67b_5 h hw hb, c67b_5 h hw hj, zo_tdiv, c23, limI_lim, c68b_5 h.1, c68b_5 hA.1, r9, c68b_10 hB.1, zo_add, zo_sub, zo_mul, zo_neg, zo_lt, zo_le, zo_eq, zo_nn, zin_ok, zlt_eq, zr0, zr1, zr3, zr4, zr0x, zr1x, zr3x, zr4x, zb_and, zb_0, zmin_o, zmax_o, zabs_o, zo_div, zo_mod, ↓reduceIte, Int.reduceToNat, Int.reduceNeg, Int.reduceAdd, Int.reduceMul, Int.reduceSub, Int.reduceEq, Int.reduceLT, Int.reduceLE, if_true, if_false, Nat.reduceAdd, Nat.reduceMul]
  rw [if_neg (by omega), if_neg (by omega)]
theorem c50_0s (h : Cb (S.1 0 n) a) (hw : WF T a) {b : Nat} (hb : (b : Int) < a 9) (h0 : a (40 + 10 * b + 6) = 0) {st : Int} (hst : st = 1 ∨ st = -1) (hdr : -300 ≤ a (40 + 10 * b + 4) - 100 * st ∧ a (40 + 10 * b + 4) - 100 * st ≤ 300) {f : Nat} (hf : 1 ≤ f) : ∃ S', zys zF (d + 3) 50 f 36 [some (za 1 0 3), some (za 0 n 0), some (zi (zo b)), some (zi (zo 0)), some (zi (zo (a (40 + 10 * b + 4)))), none, none, none, none, none] [zi (zo st)] S = some (.inl none, S') ∧ Cb (S'.1 0 n) (movB a b 0 st) ∧ Fc n S S' := by
  obtain ⟨f, rfl⟩ : ∃ f', f = f' + 1 := ⟨f - 1, by omega⟩
  rw [ze_50_36]
  have hwO := hw; obtain ⟨⟨⟨u0, u0x⟩, ⟨u1, u1x⟩, ⟨u2, u2x⟩, ⟨u3, u3x⟩, ⟨u4, u4x⟩, ⟨u5, u5x⟩, ⟨u6, u6x, uT⟩, ⟨u7, u7x⟩, ⟨u8, u8x⟩, ⟨u9, u9x⟩⟩, uD, uP, uB, uS, uI⟩ := hwO
  have uN := WF_nc hw
  have gB := uB b hb
  have g := col_rng hw gB.1.1 gB.1.2
  have gcel := cel_of (a := a) (c := a (40 + 10 * b)) (by omega) gB.1.1 gB.1.2
  unfold movB
  simp only [show ((0 : Nat) = 1) = False by simp, show ((1 : Nat) = 0) = False by simp, if_true, if_false, Nat.reduceAdd]
  simp (maxSteps := 10000000) (disch := omega) only [c67b_0 h hw hb, c67b_1 h hw hb, zo_add, zo_sub, zo_mul, zo_neg, zo_lt, zo_le, zo_eq, zo_nn, zin_ok, zlt_eq, zr0, zr1, zr3, zr4, zr0x, zr1x, zr3x, zr4x, zb_and, zb_0, zmin_o, zmax_o, zabs_o, zo_div, zo_mod, ↓reduceIte, Int.reduceToNat, Int.reduceNeg, Int.reduceAdd, Int.reduceMul, Int.reduceSub, Int.reduceEq, Int.reduceLT, Int.reduceLE, if_true, if_false, Nat.reduceAdd, Nat.reduceMul]
  have hne : (0 ≤ a (40 + 10 * b) % a 0 + st ∧ a (40 + 10 * b) % a 0 + st < a 0) ∧ (0 ≤ a (40 + 10 * b) / a 0 + 0 ∧ a (40 + 10 * b) / a 0 + 0 < a 1) → a (40 + 10 * b) ≠ a 0 * (a (40 + 10 * b) / a 0 + 0) + (a (40 + 10 * b) % a 0 + st) := by
    intro _ e
    have hm := Int.mul_add (a 0) (a (40 + 10 * b) / a 0) 0
    rcases hst with es | es <;> subst es <;> omega
  generalize hx : a (40 + 10 * b) % a 0 + st = x at *
  generalize hy : a (40 + 10 * b) / a 0 + 0 = y at *
  rw [if_neg (by omega)]
  simp (maxSteps := 10000000) (disch := omega) only [c3 h hw, c63o h hw (cAt_rng a x y), zo_add, zo_sub, zo_mul, zo_neg, zo_lt, zo_le, zo_eq, zo_nn, zin_ok, zlt_eq, zr0, zr1, zr3, zr4, zr0x, zr1x, zr3x, zr4x, zb_and, zb_0, zmin_o, zmax_o, zabs_o, zo_div, zo_mod, ↓reduceIte, Int.reduceToNat, Int.reduceNeg, Int.reduceAdd, Int.reduceMul, Int.reduceSub, Int.reduceEq, Int.reduceLT, Int.reduceLE, if_true, if_false, Nat.reduceAdd, Nat.reduceMul]
  by_cases c : (0 ≤ x ∧ x < a 0) ∧ (0 ≤ y ∧ y < a 1)
  · have gc := cel_lt c
    have hnc := hne c
    have o1 := occ_ge a (a 0 * y + x) (-1)
    have o2 := occ_lt (a := a) (a 0 * y + x) (-1) (by omega)
    have eo := occ_nb (c := a 0 * y + x) hnc
    rw [cAt_in c, if_neg (not_not_intro c)]
    unfold ocC
    rw [if_neg (show ¬ a 0 * y + x = -1 by omega), eo]
    simp (maxSteps := 10000000) (disch := omega) only [zo_add, zo_sub, zo_mul, zo_neg, zo_lt, zo_le, zo_eq, zo_nn, zin_ok, zlt_eq, zr0, zr1, zr3, zr4, zr0x, zr1x, zr3x, zr4x, zb_and, zb_0, zmin_o, zmax_o, zabs_o, zo_div, zo_mod, ↓reduceIte, Int.reduceToNat, Int.reduceNeg, Int.reduceAdd, Int.reduceMul, Int.reduceSub, Int.reduceEq, Int.reduceLT, Int.reduceLE, if_true, if_false, Nat.reduceAdd, Nat.reduceMul]
    rw [if_neg (show ¬ a 0 * y + x = -1 by omega)]
    by_cases c2 : occ a (a 0 * y + x) (-1) = -1
    · rw [if_pos c2, if_neg (not_not_intro c2)]
      have hfree : ∀ k : Nat, (k : Int) < a 9 → k ≠ b → a (40 + 10 * k + 6) = 0 → a (40 + 10 * k) ≠ a 0 * y + x := fun k hk hkb => occ_free c2 k hk (by omega)
      obtain ⟨S2, r2, hA, F2⟩ := c21 (d := d + 1) h hw hb h0 c hfree
      have wA := WF_cell hw hb gc hfree
      have hB := Cb_b4 (v := a (40 + 10 * b + 4) - 100 * st) (b := b) hA wA (by simp (maxSteps := 10000000) (disch := omega) only [up_ne, up_self]; exact hb)
      have wB := WF_b4 (v := a (40 + 10 * b + 4) - 100 * st) (b := b) wA (by simp (maxSteps := 10000000) (disch := omega) only [up_ne, up_self]; exact hb) (by omega)
      have hC := Cb_b8 (v := a (40 + 10 * b + 8) + 1) (b := b) hB wB (by simp (maxSteps := 10000000) (disch := omega) only [up_ne, up_self]; exact hb)
      have e8 : up (up a (40 + 10 * b) (a 0 * y + x)) (40 + 10 * b + 4) (a (40 + 10 * b + 4) - 100 * st) (40 + 10 * b + 8) = a (40 + 10 * b + 8) := by simp (maxSteps := 10000000) (disch := omega) only [up_ne, up_self]
      have r9 := c67b_9 (d := d + 2) (b := b) hB wB (by simp (maxSteps := 10000000) (disch := omega) only [up_ne, up_self]; exact hb)
      rw [e8] at r9
      refine ⟨_, ?_, hC, Fc_trans F2 (Fc_set (Fc_set (Fc_refl n S2) _ _ _) _ _ _)⟩
      simp (maxSteps := 10000000) (disch := omega) only [r2, c68b_5 hA.1, r9, c68b_9 hB.1, zo_add, zo_sub, zo_mul, zo_neg, zo_lt, zo_le, zo_eq, zo_nn, zin_ok, zlt_eq, zr0, zr1, zr3, zr4, zr0x, zr1x, zr3x, zr4x, zb_and, zb_0, zmin_o, zmax_o, zabs_o, zo_div, zo_mod, ↓reduceIte, Int.reduceToNat, Int.reduceNeg, Int.reduceAdd, Int.reduceMul, Int.reduceSub, Int.reduceEq, Int.reduceLT, Int.reduceLE, if_true, if_false, Nat.reduceAdd, Nat.reduceMul]
    · rw [if_neg c2, if_pos c2]
      obtain ⟨j, hj⟩ : ∃ j : Nat, occ a (a 0 * y + x) (-1) = j := ⟨(occ a (a 0 * y + x) (-1)).toNat, by omega⟩
      have hjb : j ≠ b := by
        intro e; subst e
        have := zfst_some _ _ _ c2
        obtain ⟨i, e1, -, -, e4, -⟩ := this
        have e1 : occ a (a 0 * y + x) (-1) = i := e1
        have : i = j := by omega
        subst this
        simp only [Bool.and_eq_true, decide_eq_true_eq] at e4
        exact hnc e4.2.2
      rw [hj] at o1 o2 ⊢
      rw [Int.toNat_natCast]
      obtain ⟨S2, r2, hA, F2⟩ := c51_0 (d := d + 1) h hw hb o2 hjb
      exact ⟨S2, by simp (maxSteps := 10000000) (disch := omega) only [r2, zo_add, zo_sub, zo_mul, zo_neg, zo_lt, zo_le, zo_eq, zo_nn, zin_ok, zlt_eq, zr0, zr1, zr3, zr4, zr0x, zr1x, zr3x, zr4x, zb_and, zb_0, zmin_o, zmax_o, zabs_o, zo_div, zo_mod, ↓reduceIte, Int.reduceToNat, Int.reduceNeg, Int.reduceAdd, Int.reduceMul, Int.reduceSub, Int.reduceEq, Int.reduceLT, Int.reduceLE, if_true, if_false, Nat.reduceAdd, Nat.reduceMul], hA, F2⟩
  · rw [cAt_out c, if_pos c]
    refine ⟨_, ?_, Cb_b4 (v := 0) h hw hb, Fc_set (Fc_refl n S) _ _ _⟩
    simp (maxSteps := 10000000) (disch := omega) only [c68b_5 h.1, zo_add, zo_sub, zo_mul, zo_neg, zo_lt, zo_le, zo_eq, zo_nn, zin_ok, zlt_eq, zr0, zr1, zr3, zr4, zr0x, zr1x, zr3x, zr4x, zb_and, zb_0, zmin_o, zmax_o, zabs_o, zo_div, zo_mod, ↓reduceIte, Int.reduceToNat, Int.reduceNeg, Int.reduceAdd, Int.reduceMul, Int.reduceSub, Int.reduceEq, Int.reduceLT, Int.reduceLE, if_true, if_false, Nat.reduceAdd, Nat.reduceMul]
theorem c50_0 (h : Cb (S.1 0 n) a) (hw : WF T a) {b : Nat} (hb : (b : Int) < a 9) (h0 : a (40 + 10 * b + 6) = 0) : ∃ S', zr_sem zF (d + 4) 50 [za 1 0 3, za 0 n 0, zi (zo b), zi (zo 0)] S = some (.inl none, S') ∧ Cb (S'.1 0 n) (mov a b 0) ∧ Fc n S S' := by
  rw [ze_50]
  have hwO := hw; obtain ⟨⟨⟨u0, u0x⟩, ⟨u1, u1x⟩, ⟨u2, u2x⟩, ⟨u3, u3x⟩, ⟨u4, u4x⟩, ⟨u5, u5x⟩, ⟨u6, u6x, uT⟩, ⟨u7, u7x⟩, ⟨u8, u8x⟩, ⟨u9, u9x⟩⟩, uD, uP, uB, uS, uI⟩ := hwO
  have gB := uB b hb
  have hb2 := zF1_big
  rw [mov_B]
  simp only [Nat.reduceAdd]
  simp (maxSteps := 10000000) (disch := omega) only [c67b_5 h hw hb, zo_add, zo_sub, zo_mul, zo_neg, zo_lt, zo_le, zo_eq, zo_nn, zin_ok, zlt_eq, zr0, zr1, zr3, zr4, zr0x, zr1x, zr3x, zr4x, zb_and, zb_0, zmin_o, zmax_o, zabs_o, zo_div, zo_mod, ↓reduceIte, Int.reduceToNat, Int.reduceNeg, Int.reduceAdd, Int.reduceMul, Int.reduceSub, Int.reduceEq, Int.reduceLT, Int.reduceLE, if_true, if_false, Nat.reduceAdd, Nat.reduceMul]
  unfold iab
  by_cases c : a (40 + 10 * b + 4) < 100
  · rw [if_pos c]
    by_cases c2 : -100 < a (40 + 10 * b + 4)
    · rw [if_pos c2]
      obtain ⟨f, hf⟩ : ∃ f', zF1 = f' + 1 := ⟨zF1 - 1, by omega⟩
      rw [hf, ze_50_36]
      refine ⟨S, ?_, ?_, Fc_refl n S⟩
      · simp (maxSteps := 10000000) (disch := omega) only [zo_add, zo_sub, zo_mul, zo_neg, zo_lt, zo_le, zo_eq, zo_nn, zin_ok, zlt_eq, zr0, zr1, zr3, zr4, zr0x, zr1x, zr3x, zr4x, zb_and, zb_0, zmin_o, zmax_o, zabs_o, zo_div, zo_mod, ↓reduceIte, Int.reduceToNat, Int.reduceNeg, Int.reduceAdd, Int.reduceMul, Int.reduceSub, Int.reduceEq, Int.reduceLT, Int.reduceLE, if_true, if_false, Nat.reduceAdd, Nat.reduceMul]
      · have : (if (if 0 ≤ a (40 + 10 * b + 4) then a (40 + 10 * b + 4) else 0 - a (40 + 10 * b + 4)) < 100 then a else movB a b 0 (if 0 < a (40 + 10 * b + 4) then 1 else -1)) = a := if_pos (by split <;> omega)
        rw [this]; exact h
    · rw [if_neg c2]
      have e : (if (if 0 ≤ a (40 + 10 * b + 4) then a (40 + 10 * b + 4) else 0 - a (40 + 10 * b + 4)) < 100 then a else movB a b 0 (if 0 < a (40 + 10 * b + 4) then 1 else -1)) = movB a b 0 (-1) := by
        rw [if_neg (by split <;> omega), if_neg (by omega)]
      rw [e]
      exact c50_0s h hw hb h0 (Or.inr rfl) (by omega) (by omega)
  · rw [if_neg c]
    have e : (if (if 0 ≤ a (40 + 10 * b + 4) then a (40 + 10 * b + 4) else 0 - a (40 + 10 * b + 4)) < 100 then a else movB a b 0 (if 0 < a (40 + 10 * b + 4) then 1 else -1)) = movB a b 0 1 := by
      rw [if_neg (by split <;> omega), if_pos (by omega)]
    rw [e]
    exact c50_0s h hw hb h0 (Or.inl rfl) (by omega) (by omega)
theorem c51_1 (h : Cb (S.1 0 n) a) (hw : WF T a) {b j : Nat} (hb : (b : Int) < a 9) (hj : (j : Int) < a 9) (hjb : j ≠ b) : ∃ S', zr_sem zF (d + 2) 51 [za 1 0 3, za 0 n 0, zi (zo b), zi (zo j), zi (zo 6)] S = some (.inl none, S') ∧ Cb (S'.1 0 n) (up (up (up a (40 + 10 * j + 5) (limI (a (40 + 10 * j + 5) + (a (40 + 10 * b + 5) * a (40 + 10 * b + 1)).tdiv (a (40 + 10 * b + 1) + a (40 + 10 * j + 1))))) (40 + 10 * b + 5) 0) (40 + 10 * b + 9) (a (40 + 10 * b + 9) + 1)) ∧ Fc n S S' := by
  have hwO := hw; obtain ⟨⟨⟨u0, u0x⟩, ⟨u1, u1x⟩, ⟨u2, u2x⟩, ⟨u3, u3x⟩, ⟨u4, u4x⟩, ⟨u5, u5x⟩, ⟨u6, u6x, uT⟩, ⟨u7, u7x⟩, ⟨u8, u8x⟩, ⟨u9, u9x⟩⟩, uD, uP, uB, uS, uI⟩ := hwO
  have gB := uB b hb
  have gJ := uB j hj
  have td := tdiv_b (x := a (40 + 10 * b + 5)) (w1 := a (40 + 10 * b + 1)) (w2 := a (40 + 10 * j + 1)) (by omega) (by omega) (by omega) (by omega) (by omega)
  have hA := Cb_b5 (v := limI (a (40 + 10 * j + 5) + (a (40 + 10 * b + 5) * a (40 + 10 * b + 1)).tdiv (a (40 + 10 * b + 1) + a (40 + 10 * j + 1)))) h hw hj
  have wA := WF_b5 hw hj (limI_b (a (40 + 10 * j + 5) + (a (40 + 10 * b + 5) * a (40 + 10 * b + 1)).tdiv (a (40 + 10 * b + 1) + a (40 + 10 * j + 1))))
  have hB := Cb_b5 (v := 0) (b := b) hA wA (by simp (maxSteps := 10000000) (disch := omega) only [up_ne, up_self]; exact hb)
  have wB := WF_b5 (v := 0) (b := b) wA (by simp (maxSteps := 10000000) (disch := omega) only [up_ne, up_self]; exact hb) (by omega)
  have hC := Cb_b9 (v := a (40 + 10 * b + 9) + 1) (b := b) hB wB (by simp (maxSteps := 10000000) (disch := omega) only [up_ne, up_self]; exact hb)
  have e9 : up (up a (40 + 10 * j + 5) (limI (a (40 + 10 * j + 5) + (a (40 + 10 * b + 5) * a (40 + 10 * b + 1)).tdiv (a (40 + 10 * b + 1) + a (40 + 10 * j + 1))))) (40 + 10 * b + 5) 0 (40 + 10 * b + 9) = a (40 + 10 * b + 9) := by simp (maxSteps := 10000000) (disch := omega) only [up_ne, up_self]
  have r9 := c67b_10 (d := d) (b := b) hB wB (by simp (maxSteps := 10000000) (disch := omega) only [up_ne, up_self]; exact hb)
  rw [e9] at r9
  refine ⟨_, ?_, hC, Fc_set (Fc_set (Fc_set (Fc_refl n S) _ _ _) _ _ _) _ _ _⟩
  rw [ze_51]
  simp (maxSteps := 10000000) (disch := omega) only [c67b_2 h hw hb, c67b_2 h hw hj, c67b_6 h hw hb, c67b_6 h hw hj, zo_tdiv, c23, limI_lim, c68b_6 h.1, c68b_6 hA.1, r9, c68b_10 hB.1, zo_add, zo_sub, zo_mul, zo_neg, zo_lt, zo_le, zo_eq, zo_nn, zin_ok, zlt_eq, zr0, zr1, zr3, zr4, zr0x, zr1x, zr3x, zr4x, zb_and, zb_0, zmin_o, zmax_o, zabs_o, zo_div, zo_mod, ↓reduceIte, Int.reduceToNat, Int.reduceNeg, Int.reduceAdd, Int.reduceMul, Int.reduceSub, Int.reduceEq, Int.reduceLT, Int.reduceLE, if_true, if_false, Nat.reduceAdd, Nat.reduceMul]
  rw [if_neg (by omega), if_neg (by omega)]
theorem c50_1s (h : Cb (S.1 0 n) a) (hw : WF T a) {b : Nat} (hb : (b : Int) < a 9) (h0 : a (40 + 10 * b + 6) = 0) {st : Int} (hst : st = 1 ∨ st = -1) (hdr : -300 ≤ a (40 + 10 * b + 5) - 100 * st ∧ a (40 + 10 * b + 5) - 100 * st ≤ 300) {f : Nat} (hf : 1 ≤ f) : ∃ S', zys zF (d + 3) 50 f 36 [some (za 1 0 3), some (za 0 n 0), some (zi (zo b)), some (zi (zo 1)), some (zi (zo (a (40 + 10 * b + 5)))), none, none, none, none, none] [zi (zo st)] S = some (.inl none, S') ∧ Cb (S'.1 0 n) (movB a b 1 st) ∧ Fc n S S' := by
  obtain ⟨f, rfl⟩ : ∃ f', f = f' + 1 := ⟨f - 1, by omega⟩
  rw [ze_50_36]
  have hwO := hw; obtain ⟨⟨⟨u0, u0x⟩, ⟨u1, u1x⟩, ⟨u2, u2x⟩, ⟨u3, u3x⟩, ⟨u4, u4x⟩, ⟨u5, u5x⟩, ⟨u6, u6x, uT⟩, ⟨u7, u7x⟩, ⟨u8, u8x⟩, ⟨u9, u9x⟩⟩, uD, uP, uB, uS, uI⟩ := hwO
  have uN := WF_nc hw
  have gB := uB b hb
  have g := col_rng hw gB.1.1 gB.1.2
  have gcel := cel_of (a := a) (c := a (40 + 10 * b)) (by omega) gB.1.1 gB.1.2
  unfold movB
  simp only [show ((0 : Nat) = 1) = False by simp, show ((1 : Nat) = 0) = False by simp, if_true, if_false, Nat.reduceAdd]
  simp (maxSteps := 10000000) (disch := omega) only [c67b_0 h hw hb, c67b_1 h hw hb, zo_add, zo_sub, zo_mul, zo_neg, zo_lt, zo_le, zo_eq, zo_nn, zin_ok, zlt_eq, zr0, zr1, zr3, zr4, zr0x, zr1x, zr3x, zr4x, zb_and, zb_0, zmin_o, zmax_o, zabs_o, zo_div, zo_mod, ↓reduceIte, Int.reduceToNat, Int.reduceNeg, Int.reduceAdd, Int.reduceMul, Int.reduceSub, Int.reduceEq, Int.reduceLT, Int.reduceLE, if_true, if_false, Nat.reduceAdd, Nat.reduceMul]
  have hne : (0 ≤ a (40 + 10 * b) % a 0 + 0 ∧ a (40 + 10 * b) % a 0 + 0 < a 0) ∧ (0 ≤ a (40 + 10 * b) / a 0 + st ∧ a (40 + 10 * b) / a 0 + st < a 1) → a (40 + 10 * b) ≠ a 0 * (a (40 + 10 * b) / a 0 + st) + (a (40 + 10 * b) % a 0 + 0) := by
    intro _ e
    have hm := Int.mul_add (a 0) (a (40 + 10 * b) / a 0) st
    rcases hst with es | es <;> subst es <;> omega
  generalize hx : a (40 + 10 * b) % a 0 + 0 = x at *
  generalize hy : a (40 + 10 * b) / a 0 + st = y at *
  rw [if_neg (by omega)]
  simp (maxSteps := 10000000) (disch := omega) only [c3 h hw, c63o h hw (cAt_rng a x y), zo_add, zo_sub, zo_mul, zo_neg, zo_lt, zo_le, zo_eq, zo_nn, zin_ok, zlt_eq, zr0, zr1, zr3, zr4, zr0x, zr1x, zr3x, zr4x, zb_and, zb_0, zmin_o, zmax_o, zabs_o, zo_div, zo_mod, ↓reduceIte, Int.reduceToNat, Int.reduceNeg, Int.reduceAdd, Int.reduceMul, Int.reduceSub, Int.reduceEq, Int.reduceLT, Int.reduceLE, if_true, if_false, Nat.reduceAdd, Nat.reduceMul]
  by_cases c : (0 ≤ x ∧ x < a 0) ∧ (0 ≤ y ∧ y < a 1)
  · have gc := cel_lt c
    have hnc := hne c
    have o1 := occ_ge a (a 0 * y + x) (-1)
    have o2 := occ_lt (a := a) (a 0 * y + x) (-1) (by omega)
    have eo := occ_nb (c := a 0 * y + x) hnc
    rw [cAt_in c, if_neg (not_not_intro c)]
    unfold ocC
    rw [if_neg (show ¬ a 0 * y + x = -1 by omega), eo]
    simp (maxSteps := 10000000) (disch := omega) only [zo_add, zo_sub, zo_mul, zo_neg, zo_lt, zo_le, zo_eq, zo_nn, zin_ok, zlt_eq, zr0, zr1, zr3, zr4, zr0x, zr1x, zr3x, zr4x, zb_and, zb_0, zmin_o, zmax_o, zabs_o, zo_div, zo_mod, ↓reduceIte, Int.reduceToNat, Int.reduceNeg, Int.reduceAdd, Int.reduceMul, Int.reduceSub, Int.reduceEq, Int.reduceLT, Int.reduceLE, if_true, if_false, Nat.reduceAdd, Nat.reduceMul]
    rw [if_neg (show ¬ a 0 * y + x = -1 by omega)]
    by_cases c2 : occ a (a 0 * y + x) (-1) = -1
    · rw [if_pos c2, if_neg (not_not_intro c2)]
      have hfree : ∀ k : Nat, (k : Int) < a 9 → k ≠ b → a (40 + 10 * k + 6) = 0 → a (40 + 10 * k) ≠ a 0 * y + x := fun k hk hkb => occ_free c2 k hk (by omega)
      obtain ⟨S2, r2, hA, F2⟩ := c21 (d := d + 1) h hw hb h0 c hfree
      have wA := WF_cell hw hb gc hfree
      have hB := Cb_b5 (v := a (40 + 10 * b + 5) - 100 * st) (b := b) hA wA (by simp (maxSteps := 10000000) (disch := omega) only [up_ne, up_self]; exact hb)
      have wB := WF_b5 (v := a (40 + 10 * b + 5) - 100 * st) (b := b) wA (by simp (maxSteps := 10000000) (disch := omega) only [up_ne, up_self]; exact hb) (by omega)
      have hC := Cb_b8 (v := a (40 + 10 * b + 8) + 1) (b := b) hB wB (by simp (maxSteps := 10000000) (disch := omega) only [up_ne, up_self]; exact hb)
      have e8 : up (up a (40 + 10 * b) (a 0 * y + x)) (40 + 10 * b + 5) (a (40 + 10 * b + 5) - 100 * st) (40 + 10 * b + 8) = a (40 + 10 * b + 8) := by simp (maxSteps := 10000000) (disch := omega) only [up_ne, up_self]
      have r9 := c67b_9 (d := d + 2) (b := b) hB wB (by simp (maxSteps := 10000000) (disch := omega) only [up_ne, up_self]; exact hb)
      rw [e8] at r9
      refine ⟨_, ?_, hC, Fc_trans F2 (Fc_set (Fc_set (Fc_refl n S2) _ _ _) _ _ _)⟩
      simp (maxSteps := 10000000) (disch := omega) only [r2, c68b_6 hA.1, r9, c68b_9 hB.1, zo_add, zo_sub, zo_mul, zo_neg, zo_lt, zo_le, zo_eq, zo_nn, zin_ok, zlt_eq, zr0, zr1, zr3, zr4, zr0x, zr1x, zr3x, zr4x, zb_and, zb_0, zmin_o, zmax_o, zabs_o, zo_div, zo_mod, ↓reduceIte, Int.reduceToNat, Int.reduceNeg, Int.reduceAdd, Int.reduceMul, Int.reduceSub, Int.reduceEq, Int.reduceLT, Int.reduceLE, if_true, if_false, Nat.reduceAdd, Nat.reduceMul]
    · rw [if_neg c2, if_pos c2]
      obtain ⟨j, hj⟩ : ∃ j : Nat, occ a (a 0 * y + x) (-1) = j := ⟨(occ a (a 0 * y + x) (-1)).toNat, by omega⟩
      have hjb : j ≠ b := by
        intro e; subst e
        have := zfst_some _ _ _ c2
        obtain ⟨i, e1, -, -, e4, -⟩ := this
        have e1 : occ a (a 0 * y + x) (-1) = i := e1
        have : i = j := by omega
        subst this
        simp only [Bool.and_eq_true, decide_eq_true_eq] at e4
        exact hnc e4.2.2
      rw [hj] at o1 o2 ⊢
      rw [Int.toNat_natCast]
      obtain ⟨S2, r2, hA, F2⟩ := c51_1 (d := d + 1) h hw hb o2 hjb
      exact ⟨S2, by simp (maxSteps := 10000000) (disch := omega) only [r2, zo_add, zo_sub, zo_mul, zo_neg, zo_lt, zo_le, zo_eq, zo_nn, zin_ok, zlt_eq, zr0, zr1, zr3, zr4, zr0x, zr1x, zr3x, zr4x, zb_and, zb_0, zmin_o, zmax_o, zabs_o, zo_div, zo_mod, ↓reduceIte, Int.reduceToNat, Int.reduceNeg, Int.reduceAdd, Int.reduceMul, Int.reduceSub, Int.reduceEq, Int.reduceLT, Int.reduceLE, if_true, if_false, Nat.reduceAdd, Nat.reduceMul], hA, F2⟩
  · rw [cAt_out c, if_pos c]
    refine ⟨_, ?_, Cb_b5 (v := 0) h hw hb, Fc_set (Fc_refl n S) _ _ _⟩
    simp (maxSteps := 10000000) (disch := omega) only [c68b_6 h.1, zo_add, zo_sub, zo_mul, zo_neg, zo_lt, zo_le, zo_eq, zo_nn, zin_ok, zlt_eq, zr0, zr1, zr3, zr4, zr0x, zr1x, zr3x, zr4x, zb_and, zb_0, zmin_o, zmax_o, zabs_o, zo_div, zo_mod, ↓reduceIte, Int.reduceToNat, Int.reduceNeg, Int.reduceAdd, Int.reduceMul, Int.reduceSub, Int.reduceEq, Int.reduceLT, Int.reduceLE, if_true, if_false, Nat.reduceAdd, Nat.reduceMul]
theorem c50_1 (h : Cb (S.1 0 n) a) (hw : WF T a) {b : Nat} (hb : (b : Int) < a 9) (h0 : a (40 + 10 * b + 6) = 0) : ∃ S', zr_sem zF (d + 4) 50 [za 1 0 3, za 0 n 0, zi (zo b), zi (zo 1)] S = some (.inl none, S') ∧ Cb (S'.1 0 n) (mov a b 1) ∧ Fc n S S' := by
  rw [ze_50]
  have hwO := hw; obtain ⟨⟨⟨u0, u0x⟩, ⟨u1, u1x⟩, ⟨u2, u2x⟩, ⟨u3, u3x⟩, ⟨u4, u4x⟩, ⟨u5, u5x⟩, ⟨u6, u6x, uT⟩, ⟨u7, u7x⟩, ⟨u8, u8x⟩, ⟨u9, u9x⟩⟩, uD, uP, uB, uS, uI⟩ := hwO
  have gB := uB b hb
  have hb2 := zF1_big
  rw [mov_B]
  simp only [Nat.reduceAdd]
  simp (maxSteps := 10000000) (disch := omega) only [c67b_6 h hw hb, zo_add, zo_sub, zo_mul, zo_neg, zo_lt, zo_le, zo_eq, zo_nn, zin_ok, zlt_eq, zr0, zr1, zr3, zr4, zr0x, zr1x, zr3x, zr4x, zb_and, zb_0, zmin_o, zmax_o, zabs_o, zo_div, zo_mod, ↓reduceIte, Int.reduceToNat, Int.reduceNeg, Int.reduceAdd, Int.reduceMul, Int.reduceSub, Int.reduceEq, Int.reduceLT, Int.reduceLE, if_true, if_false, Nat.reduceAdd, Nat.reduceMul]
  unfold iab
  by_cases c : a (40 + 10 * b + 5) < 100
  · rw [if_pos c]
    by_cases c2 : -100 < a (40 + 10 * b + 5)
    · rw [if_pos c2]
      obtain ⟨f, hf⟩ : ∃ f', zF1 = f' + 1 := ⟨zF1 - 1, by omega⟩
      rw [hf, ze_50_36]
      refine ⟨S, ?_, ?_, Fc_refl n S⟩
      · simp (maxSteps := 10000000) (disch := omega) only [zo_add, zo_sub, zo_mul, zo_neg, zo_lt, zo_le, zo_eq, zo_nn, zin_ok, zlt_eq, zr0, zr1, zr3, zr4, zr0x, zr1x, zr3x, zr4x, zb_and, zb_0, zmin_o, zmax_o, zabs_o, zo_div, zo_mod, ↓reduceIte, Int.reduceToNat, Int.reduceNeg, Int.reduceAdd, Int.reduceMul, Int.reduceSub, Int.reduceEq, Int.reduceLT, Int.reduceLE, if_true, if_false, Nat.reduceAdd, Nat.reduceMul]
      · have : (if (if 0 ≤ a (40 + 10 * b + 5) then a (40 + 10 * b + 5) else 0 - a (40 + 10 * b + 5)) < 100 then a else movB a b 1 (if 0 < a (40 + 10 * b + 5) then 1 else -1)) = a := if_pos (by split <;> omega)
        rw [this]; exact h
    · rw [if_neg c2]
      have e : (if (if 0 ≤ a (40 + 10 * b + 5) then a (40 + 10 * b + 5) else 0 - a (40 + 10 * b + 5)) < 100 then a else movB a b 1 (if 0 < a (40 + 10 * b + 5) then 1 else -1)) = movB a b 1 (-1) := by
        rw [if_neg (by split <;> omega), if_neg (by omega)]
      rw [e]
      exact c50_1s h hw hb h0 (Or.inr rfl) (by omega) (by omega)
  · rw [if_neg c]
    have e : (if (if 0 ≤ a (40 + 10 * b + 5) then a (40 + 10 * b + 5) else 0 - a (40 + 10 * b + 5)) < 100 then a else movB a b 1 (if 0 < a (40 + 10 * b + 5) then 1 else -1)) = movB a b 1 1 := by
      rw [if_neg (by split <;> omega), if_pos (by omega)]
    rw [e]
    exact c50_1s h hw hb h0 (Or.inl rfl) (by omega) (by omega)
theorem c48 (h : Cb (S.1 0 n) a) (hw : WF T a) {b : Nat} (hb : (b : Int) < a 9) (h0 : a (40 + 10 * b + 6) = 0) (hl : a 2 ≠ 0) (h8 : a (40 + 10 * b + 8) + 2 ≤ 2 * a 6) (h9 : a (40 + 10 * b + 9) + 2 ≤ 2 * a 6) : ∃ S', zr_sem zF (d + 5) 48 [za 1 0 3, za 0 n 0, zi (zo b)] S = some (.inl none, S') ∧ Cb (S'.1 0 n) (dft a b) ∧ Fc n S S' := by
  rw [ze_48]
  have hwO := hw; obtain ⟨⟨⟨u0, u0x⟩, ⟨u1, u1x⟩, ⟨u2, u2x⟩, ⟨u3, u3x⟩, ⟨u4, u4x⟩, ⟨u5, u5x⟩, ⟨u6, u6x, uT⟩, ⟨u7, u7x⟩, ⟨u8, u8x⟩, ⟨u9, u9x⟩⟩, uD, uP, uB, uS, uI⟩ := hwO
  have gB := uB b hb
  have hZ : Cb ((zfl S (fl a (a (40 + 10 * b)) 0) (fl a (a (40 + 10 * b)) 1)).1 0 n) a := h
  have w1 := WF_b4 hw hb (lim_b (zo (a (40 + 10 * b + 4)) + gro a b 0))
  have w2 := WF_b5 (b := b) w1 (by simp (maxSteps := 10000000) (disch := omega) only [up_ne, up_self]; exact hb) (lim_b (zo (a (40 + 10 * b + 5)) + gro a b 1))
  have hA := Cb_b4 (v := lim (zo (a (40 + 10 * b + 4)) + gro a b 0)) hZ hw hb
  have hB := Cb_b5 (v := lim (zo (a (40 + 10 * b + 5)) + gro a b 1)) (b := b) hA w1 (by simp (maxSteps := 10000000) (disch := omega) only [up_ne, up_self]; exact hb)
  have e5 : up a (40 + 10 * b + 4) (lim (zo (a (40 + 10 * b + 4)) + gro a b 0)) (40 + 10 * b + 5) = a (40 + 10 * b + 5) := by simp (maxSteps := 10000000) (disch := omega) only [up_ne, up_self]
  have r6 := c24_6 (d := d + 2) (b := b) (v := gro a b 1) hA w1 (by simp (maxSteps := 10000000) (disch := omega) only [up_ne, up_self]; exact hb)
  rw [e5] at r6
  simp (maxSteps := 10000000) (disch := omega) only [c67b_0 h hw hb, c67b_1 h hw hb, c36 h hw gB.1.1 gB.1.2, c49x h hw hb hl, c49y h hw hb hl, c24_5 hZ hw hb, r6, zr0, zr1]
  have e8 : up (up a (40 + 10 * b + 4) (lim (zo (a (40 + 10 * b + 4)) + gro a b 0))) (40 + 10 * b + 5) (lim (zo (a (40 + 10 * b + 5)) + gro a b 1)) (40 + 10 * b + 8) = a (40 + 10 * b + 8) := by simp (maxSteps := 10000000) (disch := omega) only [up_ne, up_self]
  have e9 : up (up a (40 + 10 * b + 4) (lim (zo (a (40 + 10 * b + 4)) + gro a b 0))) (40 + 10 * b + 5) (lim (zo (a (40 + 10 * b + 5)) + gro a b 1)) (40 + 10 * b + 9) = a (40 + 10 * b + 9) := by simp (maxSteps := 10000000) (disch := omega) only [up_ne, up_self]
  have e6 : up (up a (40 + 10 * b + 4) (lim (zo (a (40 + 10 * b + 4)) + gro a b 0))) (40 + 10 * b + 5) (lim (zo (a (40 + 10 * b + 5)) + gro a b 1)) 6 = a 6 := by simp (maxSteps := 10000000) (disch := omega) only [up_ne, up_self]
  have e66 : up (up a (40 + 10 * b + 4) (lim (zo (a (40 + 10 * b + 4)) + gro a b 0))) (40 + 10 * b + 5) (lim (zo (a (40 + 10 * b + 5)) + gro a b 1)) (40 + 10 * b + 6) = a (40 + 10 * b + 6) := by simp (maxSteps := 10000000) (disch := omega) only [up_ne, up_self]
  have e99 : up (up a (40 + 10 * b + 4) (lim (zo (a (40 + 10 * b + 4)) + gro a b 0))) (40 + 10 * b + 5) (lim (zo (a (40 + 10 * b + 5)) + gro a b 1)) 9 = a 9 := by simp (maxSteps := 10000000) (disch := omega) only [up_ne, up_self]
  have hF := Fc_set (Fc_set (Fc_fl (Fc_refl n S) (fl a (a (40 + 10 * b)) 0) (fl a (a (40 + 10 * b)) 1)) 2 (11 * b + 5) (zo (lim (zo (a (40 + 10 * b + 4)) + gro a b 0)))) 2 (11 * b + 6) (zo (lim (zo (a (40 + 10 * b + 5)) + gro a b 1)))
  unfold dft
  generalize up (up a (40 + 10 * b + 4) (lim (zo (a (40 + 10 * b + 4)) + gro a b 0))) (40 + 10 * b + 5) (lim (zo (a (40 + 10 * b + 5)) + gro a b 1)) = a2 at *
  generalize zs_set (zs_set (zfl S (fl a (a (40 + 10 * b)) 0) (fl a (a (40 + 10 * b)) 1)) 0 n 2 (11 * b + 5) (zo (lim (zo (a (40 + 10 * b + 4)) + gro a b 0)))) 0 n 2 (11 * b + 6) (zo (lim (zo (a (40 + 10 * b + 5)) + gro a b 1))) = S2 at *
  obtain ⟨S3, r3, M3, F3⟩ := c50_0 (d := d) hB w2 (b := b) (by omega) (by omega)
  have k0 := mov_keep (b := b) w2 (by omega) 0 (Or.inl rfl)
  have w3 := WF_mov (b := b) w2 (by omega) 0 (Or.inl rfl) (by omega) (by omega)
  obtain ⟨S4, r4, M4, F4⟩ := c50_1 (d := d) M3 w3 (b := b) (by rw [k0.1 9 (by omega)]; omega) (by rw [k0.2.2.1 b 6 (by omega) (by omega)]; omega)
  rw [r3, zr0, r4, zr0]
  exact ⟨S4, rfl, M4, Fc_trans hF (Fc_trans F3 F4)⟩
end CD

/-! THE PURE SIDE 29: begin, drains, taps; adding a boat -/
def ndR (a : Rw) (c h r : Int) : Rw := up (up (up (up (up a (10 + 4 * (a 7).toNat) c) (10 + 4 * (a 7).toNat + 1) h) (10 + 4 * (a 7).toNat + 2) r) (10 + 4 * (a 7).toNat + 3) 0) 7 (a 7 + 1)
def ntR (a : Rw) (c r : Int) : Rw := up (up (up a (30 + 2 * (a 8).toNat) c) (30 + 2 * (a 8).toNat + 1) r) 8 (a 8 + 1)
section CU
variable {S : zS} {n d k : Nat} {a : Rw} {T c w s wt p r x q : Int} {u : Nat → Rw}
theorem WF_nd {h : Int} (hw : WF T a) (h7 : a 7 < 5) (hc : 0 ≤ c ∧ c < a 0 * a 1) (hh : 1 ≤ h ∧ h ≤ 99) (hr : 0 ≤ r ∧ r ≤ 99) : WF T (ndR a c h r) := by
  have hwO := hw; obtain ⟨⟨⟨u0, u0x⟩, ⟨u1, u1x⟩, ⟨u2, u2x⟩, ⟨u3, u3x⟩, ⟨u4, u4x⟩, ⟨u5, u5x⟩, ⟨u6, u6x, uT⟩, ⟨u7, u7x⟩, ⟨u8, u8x⟩, ⟨u9, u9x⟩⟩, uD, uP, uB, uS, uI⟩ := hwO
  obtain ⟨b, eb⟩ : ∃ b : Nat, a 7 = b := ⟨(a 7).toNat, by omega⟩
  have eb2 : (a 7).toNat = b := by omega
  have e7 : ndR a c h r 7 = a 7 + 1 := by unfold ndR; simp (maxSteps := 10000000) (disch := omega) only [up_ne, up_self]
  have ee : ∀ i, i ≠ 7 → i < 10 + 4 * b ∨ 10 + 4 * b + 4 ≤ i → ndR a c h r i = a i := by intro i h1 h2; unfold ndR; rw [eb2]; simp (maxSteps := 10000000) (disch := omega) only [up_ne, up_self]
  refine ⟨?_, fun k hk => ?_, fun k hk => ?_, fun k hk => ?_, fun k hk => ?_, fun k l hk hl hk6 hl6 he => ?_⟩
  · rw [e7]
    simp (disch := omega) only [ee]
    exact ⟨⟨u0, u0x⟩, ⟨u1, u1x⟩, ⟨u2, u2x⟩, ⟨u3, u3x⟩, ⟨u4, u4x⟩, ⟨u5, u5x⟩, ⟨u6, u6x, uT⟩, by omega, ⟨u8, u8x⟩, ⟨u9, u9x⟩⟩
  · rw [e7] at hk
    by_cases e : k = b
    · subst e
      rw [show ndR a c h r (10 + 4 * k) = c by unfold ndR; rw [eb2]; simp (maxSteps := 10000000) (disch := omega) only [up_ne, up_self], show ndR a c h r (10 + 4 * k + 1) = h by unfold ndR; rw [eb2]; simp (maxSteps := 10000000) (disch := omega) only [up_ne, up_self], show ndR a c h r (10 + 4 * k + 2) = r by unfold ndR; rw [eb2]; simp (maxSteps := 10000000) (disch := omega) only [up_ne, up_self], ee 0 (by omega) (by omega), ee 1 (by omega) (by omega)]
      exact ⟨hc, hh, hr⟩
    · simp (disch := omega) only [ee]
      exact uD k (by omega)
  · rw [ee 8 (by omega) (by omega)] at hk
    simp (disch := omega) only [ee]
    exact uP k hk
  · rw [ee 9 (by omega) (by omega)] at hk
    simp (disch := omega) only [ee]
    exact uB k hk
  · rw [ee 0 (by omega) (by omega), ee 1 (by omega) (by omega)] at hk
    simp (disch := omega) only [ee]
    exact uS k hk
  · rw [ee 9 (by omega) (by omega)] at hk hl
    rw [ee _ (by omega) (by omega)] at hk6 hl6
    rw [ee _ (by omega) (by omega), ee _ (by omega) (by omega)] at he
    exact uI k l hk hl hk6 hl6 he
theorem WF_nt (hw : WF T a) (h8 : a 8 < 5) (hc : 0 ≤ c ∧ c < a 0 * a 1) (hr : 0 ≤ r ∧ r ≤ 99) : WF T (ntR a c r) := by
  have hwO := hw; obtain ⟨⟨⟨u0, u0x⟩, ⟨u1, u1x⟩, ⟨u2, u2x⟩, ⟨u3, u3x⟩, ⟨u4, u4x⟩, ⟨u5, u5x⟩, ⟨u6, u6x, uT⟩, ⟨u7, u7x⟩, ⟨u8, u8x⟩, ⟨u9, u9x⟩⟩, uD, uP, uB, uS, uI⟩ := hwO
  obtain ⟨b, eb⟩ : ∃ b : Nat, a 8 = b := ⟨(a 8).toNat, by omega⟩
  have eb2 : (a 8).toNat = b := by omega
  have e8 : ntR a c r 8 = a 8 + 1 := by unfold ntR; simp (maxSteps := 10000000) (disch := omega) only [up_ne, up_self]
  have ee : ∀ i, i ≠ 8 → i < 30 + 2 * b ∨ 30 + 2 * b + 2 ≤ i → ntR a c r i = a i := by intro i h1 h2; unfold ntR; rw [eb2]; simp (maxSteps := 10000000) (disch := omega) only [up_ne, up_self]
  refine ⟨?_, fun k hk => ?_, fun k hk => ?_, fun k hk => ?_, fun k hk => ?_, fun k l hk hl hk6 hl6 he => ?_⟩
  · rw [e8]
    simp (disch := omega) only [ee]
    exact ⟨⟨u0, u0x⟩, ⟨u1, u1x⟩, ⟨u2, u2x⟩, ⟨u3, u3x⟩, ⟨u4, u4x⟩, ⟨u5, u5x⟩, ⟨u6, u6x, uT⟩, ⟨u7, u7x⟩, by omega, ⟨u9, u9x⟩⟩
  · rw [ee 7 (by omega) (by omega)] at hk
    simp (disch := omega) only [ee]
    exact uD k hk
  · rw [e8] at hk
    by_cases e : k = b
    · subst e
      rw [show ntR a c r (30 + 2 * k) = c by unfold ntR; rw [eb2]; simp (maxSteps := 10000000) (disch := omega) only [up_ne, up_self], show ntR a c r (30 + 2 * k + 1) = r by unfold ntR; rw [eb2]; simp (maxSteps := 10000000) (disch := omega) only [up_ne, up_self], ee 0 (by omega) (by omega), ee 1 (by omega) (by omega)]
      exact ⟨hc, hr⟩
    · simp (disch := omega) only [ee]
      exact uP k (by omega)
  · rw [ee 9 (by omega) (by omega)] at hk
    simp (disch := omega) only [ee]
    exact uB k hk
  · rw [ee 0 (by omega) (by omega), ee 1 (by omega) (by omega)] at hk
    simp (disch := omega) only [ee]
    exact uS k hk
  · rw [ee 9 (by omega) (by omega)] at hk hl
    rw [ee _ (by omega) (by omega)] at hk6 hl6
    rw [ee _ (by omega) (by omega), ee _ (by omega) (by omega)] at he
    exact uI k l hk hl hk6 hl6 he
theorem c18 {h : Int} (hC : Cb (S.1 0 n) a) (hw : WF T a) (h7 : a 7 < 5) {x y : Int} (hc : (0 ≤ x ∧ x < a 0) ∧ (0 ≤ y ∧ y < a 1)) : ∃ S', zr_sem zF (d + 2) 18 [za 0 n 0, zi (zo x), zi (zo y), zi (zo h), zi (zo r)] S = some (.inl none, S') ∧ Cb (S'.1 0 n) (ndR a (a 0 * y + x) h r) ∧ Fc n S S' := by
  have u := hw.1.2.2.2.2.2.2.2
  have gm := cel_mod hc
  obtain ⟨b, eb⟩ : ∃ b : Nat, a 7 = b := ⟨(a 7).toNat, by omega⟩
  have eb2 : (a 7).toNat = b := by omega
  have n14 := hC.2.1.2.2.2.2.2.2.2.2.1
  rw [eb] at n14
  have e7 : ndR a (a 0 * y + x) h r 7 = a 7 + 1 := by unfold ndR; simp (maxSteps := 10000000) (disch := omega) only [up_ne, up_self]
  have ee : ∀ i, i ≠ 7 → i < 10 + 4 * b ∨ 10 + 4 * b + 4 ≤ i → ndR a (a 0 * y + x) h r i = a i := by intro i h1 h2; unfold ndR; rw [eb2]; simp (maxSteps := 10000000) (disch := omega) only [up_ne, up_self]
  have F1 : CbF ((zs_set S 0 n 4 (6 * b) (zo x)).1 0 n) := tF hC.1 (fun o _ => by simp (maxSteps := 10000000) (disch := omega) only [zs_ne, zs_eq])
  have F2 : CbF ((zs_set (zs_set S 0 n 4 (6 * b) (zo x)) 0 n 4 (6 * b + 1) (zo y)).1 0 n) := tF hC.1 (fun o _ => by simp (maxSteps := 10000000) (disch := omega) only [zs_ne, zs_eq])
  have F3 : CbF ((zs_set (zs_set (zs_set S 0 n 4 (6 * b) (zo x)) 0 n 4 (6 * b + 1) (zo y)) 0 n 4 (6 * b + 2) (zo h)).1 0 n) := tF hC.1 (fun o _ => by simp (maxSteps := 10000000) (disch := omega) only [zs_ne, zs_eq])
  have F4 : CbF ((zs_set (zs_set (zs_set (zs_set S 0 n 4 (6 * b) (zo x)) 0 n 4 (6 * b + 1) (zo y)) 0 n 4 (6 * b + 2) (zo h)) 0 n 4 (6 * b + 3) (zo r)).1 0 n) := tF hC.1 (fun o _ => by simp (maxSteps := 10000000) (disch := omega) only [zs_ne, zs_eq])
  refine ⟨zs_set (zs_set (zs_set (zs_set (zs_set (zs_set S 0 n 4 (6 * b) (zo x)) 0 n 4 (6 * b + 1) (zo y)) 0 n 4 (6 * b + 2) (zo h)) 0 n 4 (6 * b + 3) (zo r)) 0 n 4 (6 * b + 5) (zo 0)) 0 n 0 14 (zo (b + 1)), ?_, ?_, Fc_set (Fc_set (Fc_set (Fc_set (Fc_set (Fc_set (Fc_refl n S) _ _ _) _ _ _) _ _ _) _ _ _) _ _ _) _ _ _⟩
  · rw [ze_18]
    simp (maxSteps := 1000000) (disch := omega) only [n14, c68d_0 hC.1, c68d_1 F1, c68d_2 F2, c68d_3 F3, c68d_5 F4, zs_ne, zr0, zo_add]
  · refine ⟨tF hC.1 (fun o _ => by simp (maxSteps := 10000000) (disch := omega) only [zs_ne, zs_eq]), ?_, fun k hk => ?_, tT hC.2.2.2.1 hw.1 (fun j => by simp (maxSteps := 10000000) (disch := omega) only [zs_ne, zs_eq]) (fun i hi _ => ee _ (by omega) (by omega)), tB hC.2.2.2.2.1 hw.1 (fun j => by simp (maxSteps := 10000000) (disch := omega) only [zs_ne, zs_eq]) (ee _ (by omega) (by omega)) (ee _ (by omega) (by omega)) (fun i hi _ => ee _ (by omega) (by omega)), tS hC.2.2.2.2.2.1 (fun j => by simp (maxSteps := 10000000) (disch := omega) only [zs_ne, zs_eq]) (ee _ (by omega) (by omega)) (ee _ (by omega) (by omega)) (fun i hi => ee _ (by omega) (by omega)), tO hC.2.2.2.2.2.2.1 (fun j => by simp (maxSteps := 10000000) (disch := omega) only [zs_ne, zs_eq]) (ee _ (by omega) (by omega)) (ee _ (by omega) (by omega)) (ee _ (by omega) (by omega)) (fun k hk => ⟨ee _ (by omega) (by omega), ee _ (by omega) (by omega)⟩), CbE_cg hC.2.2.2.2.2.2.2 (by simp (maxSteps := 10000000) (disch := omega) only [zs_ne, zs_eq]) (fun j => by simp (maxSteps := 10000000) (disch := omega) only [zs_ne, zs_eq]) (ee _ (by omega) (by omega)) (fun k hk => ⟨ee _ (by omega) (by omega), ee _ (by omega) (by omega)⟩)⟩
    · have g := hC.2.1
      unfold CbN at g ⊢
      rw [e7, eb]
      simp (disch := omega) only [zs_ne, zs_eq, ee, g, and_self]
    · rw [e7] at hk
      by_cases e : k = b
      · subst e
        rw [show ndR a (a 0 * y + x) h r (10 + 4 * k) = a 0 * y + x by unfold ndR; rw [eb2]; simp (maxSteps := 10000000) (disch := omega) only [up_ne, up_self], show ndR a (a 0 * y + x) h r (10 + 4 * k + 1) = h by unfold ndR; rw [eb2]; simp (maxSteps := 10000000) (disch := omega) only [up_ne, up_self], show ndR a (a 0 * y + x) h r (10 + 4 * k + 2) = r by unfold ndR; rw [eb2]; simp (maxSteps := 10000000) (disch := omega) only [up_ne, up_self], show ndR a (a 0 * y + x) h r (10 + 4 * k + 3) = 0 by unfold ndR; rw [eb2]; simp (maxSteps := 10000000) (disch := omega) only [up_ne, up_self], ee 0 (by omega) (by omega), gm.1, gm.2]
        simp (disch := omega) only [zs_ne, zs_eq, and_self]
      · have g := hC.2.2.1 k (by omega)
        simp (disch := omega) only [zs_ne, ee, g, and_self]
theorem c19 (hC : Cb (S.1 0 n) a) (hw : WF T a) (h8 : a 8 < 5) {x y : Int} (hc : (0 ≤ x ∧ x < a 0) ∧ (0 ≤ y ∧ y < a 1)) : ∃ S', zr_sem zF (d + 2) 19 [za 0 n 0, zi (zo x), zi (zo y), zi (zo r)] S = some (.inl none, S') ∧ Cb (S'.1 0 n) (ntR a (a 0 * y + x) r) ∧ Fc n S S' := by
  have u := hw.1.2.2.2.2.2.2.2
  have gm := cel_mod hc
  obtain ⟨b, eb⟩ : ∃ b : Nat, a 8 = b := ⟨(a 8).toNat, by omega⟩
  have eb2 : (a 8).toNat = b := by omega
  have n15 := hC.2.1.2.2.2.2.2.2.2.2.2
  rw [eb] at n15
  have e8 : ntR a (a 0 * y + x) r 8 = a 8 + 1 := by unfold ntR; simp (maxSteps := 10000000) (disch := omega) only [up_ne, up_self]
  have ee : ∀ i, i ≠ 8 → i < 30 + 2 * b ∨ 30 + 2 * b + 2 ≤ i → ntR a (a 0 * y + x) r i = a i := by intro i h1 h2; unfold ntR; rw [eb2]; simp (maxSteps := 10000000) (disch := omega) only [up_ne, up_self]
  have F1 : CbF ((zs_set S 0 n 6 (3 * b) (zo x)).1 0 n) := tF hC.1 (fun o _ => by simp (maxSteps := 10000000) (disch := omega) only [zs_ne, zs_eq])
  have F2 : CbF ((zs_set (zs_set S 0 n 6 (3 * b) (zo x)) 0 n 6 (3 * b + 1) (zo y)).1 0 n) := tF hC.1 (fun o _ => by simp (maxSteps := 10000000) (disch := omega) only [zs_ne, zs_eq])
  refine ⟨zs_set (zs_set (zs_set (zs_set S 0 n 6 (3 * b) (zo x)) 0 n 6 (3 * b + 1) (zo y)) 0 n 6 (3 * b + 2) (zo r)) 0 n 0 15 (zo (b + 1)), ?_, ?_, Fc_set (Fc_set (Fc_set (Fc_set (Fc_refl n S) _ _ _) _ _ _) _ _ _) _ _ _⟩
  · rw [ze_19]
    simp (maxSteps := 1000000) (disch := omega) only [n15, c68t_0 hC.1, c68t_1 F1, c68t_2 F2, zs_ne, zr0, zo_add]
  · refine ⟨tF hC.1 (fun o _ => by simp (maxSteps := 10000000) (disch := omega) only [zs_ne, zs_eq]), ?_, tD hC.2.2.1 hw.1 (fun j => by simp (maxSteps := 10000000) (disch := omega) only [zs_ne, zs_eq]) (fun i hi _ => ee _ (by omega) (by omega)), fun k hk => ?_, tB hC.2.2.2.2.1 hw.1 (fun j => by simp (maxSteps := 10000000) (disch := omega) only [zs_ne, zs_eq]) (ee _ (by omega) (by omega)) (ee _ (by omega) (by omega)) (fun i hi _ => ee _ (by omega) (by omega)), tS hC.2.2.2.2.2.1 (fun j => by simp (maxSteps := 10000000) (disch := omega) only [zs_ne, zs_eq]) (ee _ (by omega) (by omega)) (ee _ (by omega) (by omega)) (fun i hi => ee _ (by omega) (by omega)), tO hC.2.2.2.2.2.2.1 (fun j => by simp (maxSteps := 10000000) (disch := omega) only [zs_ne, zs_eq]) (ee _ (by omega) (by omega)) (ee _ (by omega) (by omega)) (ee _ (by omega) (by omega)) (fun k hk => ⟨ee _ (by omega) (by omega), ee _ (by omega) (by omega)⟩), CbE_cg hC.2.2.2.2.2.2.2 (by simp (maxSteps := 10000000) (disch := omega) only [zs_ne, zs_eq]) (fun j => by simp (maxSteps := 10000000) (disch := omega) only [zs_ne, zs_eq]) (ee _ (by omega) (by omega)) (fun k hk => ⟨ee _ (by omega) (by omega), ee _ (by omega) (by omega)⟩)⟩
    · have g := hC.2.1
      unfold CbN at g ⊢
      rw [e8, eb]
      simp (disch := omega) only [zs_ne, zs_eq, ee, g, and_self]
    · rw [e8] at hk
      by_cases e : k = b
      · subst e
        rw [show ntR a (a 0 * y + x) r (30 + 2 * k) = a 0 * y + x by unfold ntR; rw [eb2]; simp (maxSteps := 10000000) (disch := omega) only [up_ne, up_self], show ntR a (a 0 * y + x) r (30 + 2 * k + 1) = r by unfold ntR; rw [eb2]; simp (maxSteps := 10000000) (disch := omega) only [up_ne, up_self], ee 0 (by omega) (by omega), gm.1, gm.2]
        simp (disch := omega) only [zs_ne, zs_eq, and_self]
      · have g := hC.2.2.2.1 k (by omega)
        simp (disch := omega) only [zs_ne, ee, g, and_self]
theorem WF_beg (h1 : 3 ≤ w ∧ w ≤ 10) (h2 : 3 ≤ s ∧ s ≤ 10) (hT : 0 ≤ T ∧ T ≤ 1000000) : WF T (begR w s) := by
  have e : ∀ i, 4 ≤ i → begR w s i = 0 := by intro i hi; unfold begR; rw [if_neg (by omega), if_neg (by omega), if_neg (by omega), if_neg (by omega)]
  have e0 : begR w s 0 = w := rfl
  have e1 : begR w s 1 = s := rfl
  have e2 : begR w s 2 = 500 := rfl
  have e3 : begR w s 3 = 1 := rfl
  refine ⟨?_, fun k hk => ?_, fun k hk => ?_, fun k hk => ?_, fun k hk => ?_, fun k l hk => ?_⟩
  · rw [e0, e1, e2, e3, e 4 (by omega), e 5 (by omega), e 6 (by omega), e 7 (by omega), e 8 (by omega), e 9 (by omega)]; omega
  · rw [e 7 (by omega)] at hk; omega
  · rw [e 8 (by omega)] at hk; omega
  · rw [e 9 (by omega)] at hk; omega
  · rw [e _ (by omega)]; omega
  · rw [e 9 (by omega)] at hk; omega
theorem c65s_l {v : Int32} : ∀ (m k f : Nat) (S : zS), k + m = 100 → m < f → (∀ c, c < k → S.1 0 n 8 c = v) → ∃ S', zy zF d 65 f 2 [some (za 0 n 7), some (zi v), some (zi (zo k))] S = some (.inl none, S') ∧ (∀ c, c < 100 → S'.1 0 n 8 c = v) ∧ (∀ o j, o ≠ 8 → S'.1 0 n o j = S.1 0 n o j) ∧ Fc n S S' := by
  intro m
  induction m with
  | zero =>
    intro k f S hk hf hs
    obtain ⟨f, rfl⟩ : ∃ f', f = f' + 1 := ⟨f - 1, by omega⟩
    refine ⟨S, ?_, fun c hc => hs c (by omega), fun _ _ _ => rfl, Fc_refl n S⟩
    rw [ze_65s_2]
    simp (maxSteps := 10000000) (disch := omega) only [zo_add, zo_sub, zo_mul, zo_neg, zo_lt, zo_le, zo_eq, zo_nn, zin_ok, zlt_eq, zr0, zr1, zr3, zr4, zr0x, zr1x, zr3x, zr4x, zb_and, zb_0, zmin_o, zmax_o, zabs_o, zo_div, zo_mod, ↓reduceIte, Int.reduceToNat, Int.reduceNeg, Int.reduceAdd, Int.reduceMul, Int.reduceSub, Int.reduceEq, Int.reduceLT, Int.reduceLE, if_true, if_false, Nat.reduceAdd, Nat.reduceMul]
    rw [if_pos (by omega)]
  | succ m ih =>
    intro k f S hk hf hs
    obtain ⟨f, rfl⟩ : ∃ f', f = f' + 1 := ⟨f - 1, by omega⟩
    obtain ⟨S2, e2, h2, g2, F2⟩ := ih (k + 1) f (zs_set S 0 n 8 k v) (by omega) (by omega) (fun c hc => by
      by_cases e : c = k
      · subst e; exact zs_eq
      · rw [zs_ne (by omega)]; exact hs c (by omega))
    refine ⟨S2, ?_, h2, fun o j ho => by rw [g2 o j ho, zs_ne (by omega)], Fc_trans (Fc_set (Fc_refl n S) _ _ _) F2⟩
    rw [ze_65s_2]
    simp (maxSteps := 10000000) (disch := omega) only [Int.toNat_natCast, zo_add, zo_sub, zo_mul, zo_neg, zo_lt, zo_le, zo_eq, zo_nn, zin_ok, zlt_eq, zr0, zr1, zr3, zr4, zr0x, zr1x, zr3x, zr4x, zb_and, zb_0, zmin_o, zmax_o, zabs_o, zo_div, zo_mod, ↓reduceIte, Int.reduceToNat, Int.reduceNeg, Int.reduceAdd, Int.reduceMul, Int.reduceSub, Int.reduceEq, Int.reduceLT, Int.reduceLE, if_true, if_false, Nat.reduceAdd, Nat.reduceMul]
    rw [if_neg (by omega)]
    exact e2
theorem c65o_l {v : Int32} : ∀ (m k f : Nat) (S : zS), k + m = 100 → m < f → (∀ c, c < k → S.1 0 n 10 c = v) → ∃ S', zy zF d 65 f 2 [some (za 0 n 9), some (zi v), some (zi (zo k))] S = some (.inl none, S') ∧ (∀ c, c < 100 → S'.1 0 n 10 c = v) ∧ (∀ o j, o ≠ 10 → S'.1 0 n o j = S.1 0 n o j) ∧ Fc n S S' := by
  intro m
  induction m with
  | zero =>
    intro k f S hk hf hs
    obtain ⟨f, rfl⟩ : ∃ f', f = f' + 1 := ⟨f - 1, by omega⟩
    refine ⟨S, ?_, fun c hc => hs c (by omega), fun _ _ _ => rfl, Fc_refl n S⟩
    rw [ze_65o_2]
    simp (maxSteps := 10000000) (disch := omega) only [zo_add, zo_sub, zo_mul, zo_neg, zo_lt, zo_le, zo_eq, zo_nn, zin_ok, zlt_eq, zr0, zr1, zr3, zr4, zr0x, zr1x, zr3x, zr4x, zb_and, zb_0, zmin_o, zmax_o, zabs_o, zo_div, zo_mod, ↓reduceIte, Int.reduceToNat, Int.reduceNeg, Int.reduceAdd, Int.reduceMul, Int.reduceSub, Int.reduceEq, Int.reduceLT, Int.reduceLE, if_true, if_false, Nat.reduceAdd, Nat.reduceMul]
    rw [if_pos (by omega)]
  | succ m ih =>
    intro k f S hk hf hs
    obtain ⟨f, rfl⟩ : ∃ f', f = f' + 1 := ⟨f - 1, by omega⟩
    obtain ⟨S2, e2, h2, g2, F2⟩ := ih (k + 1) f (zs_set S 0 n 10 k v) (by omega) (by omega) (fun c hc => by
      by_cases e : c = k
      · subst e; exact zs_eq
      · rw [zs_ne (by omega)]; exact hs c (by omega))
    refine ⟨S2, ?_, h2, fun o j ho => by rw [g2 o j ho, zs_ne (by omega)], Fc_trans (Fc_set (Fc_refl n S) _ _ _) F2⟩
    rw [ze_65o_2]
    simp (maxSteps := 10000000) (disch := omega) only [Int.toNat_natCast, zo_add, zo_sub, zo_mul, zo_neg, zo_lt, zo_le, zo_eq, zo_nn, zin_ok, zlt_eq, zr0, zr1, zr3, zr4, zr0x, zr1x, zr3x, zr4x, zb_and, zb_0, zmin_o, zmax_o, zabs_o, zo_div, zo_mod, ↓reduceIte, Int.reduceToNat, Int.reduceNeg, Int.reduceAdd, Int.reduceMul, Int.reduceSub, Int.reduceEq, Int.reduceLT, Int.reduceLE, if_true, if_false, Nat.reduceAdd, Nat.reduceMul]
    rw [if_neg (by omega)]
    exact e2
theorem c0 (hF : CbF (S.1 0 n)) (h1 : 3 ≤ w ∧ w ≤ 10) (h2 : 3 ≤ s ∧ s ≤ 10) : ∃ S', zr_sem zF (d + 2) 0 [za 0 n 0, zi (zo w), zi (zo s)] S = some (.inl none, S') ∧ Cb (S'.1 0 n) (begR w s) ∧ Fc n S S' := by
  have hb := zF1_big
  have e : ∀ i, 4 ≤ i → begR w s i = 0 := by intro i hi; unfold begR; rw [if_neg (by omega), if_neg (by omega), if_neg (by omega), if_neg (by omega)]
  have nc : w * s ≤ 10 * 10 := Int.mul_le_mul h1.2 h2.2 (by omega) (by omega)
  obtain ⟨S1, e1, q1, r1, F1⟩ := c65s_l (n := n) (d := d) (v := zo 0) 100 0 zF1 (zs_set (zs_set (zs_set (zs_set (zs_set (zs_set (zs_set (zs_set (zs_set (zs_set (zs_set S 0 n 0 6 (zo w)) 0 n 0 7 (zo s)) 0 n 0 8 (zo 500)) 0 n 0 9 (zo 1)) 0 n 0 10 (zo 0)) 0 n 0 11 (zo 0)) 0 n 0 12 (zo 0)) 0 n 0 13 (zo 0)) 0 n 0 14 (zo 0)) 0 n 0 15 (zo 0)) 0 n 0 16 (zo 0)) (by omega) (by omega) (fun c hc => by omega)
  obtain ⟨S2, e2, q2, r2, F2⟩ := c65o_l (n := n) (d := d) (v := zo (-1)) 100 0 zF1 S1 (by omega) (by omega) (fun c hc => by omega)
  refine ⟨S2, ?_, ?_, Fc_trans (Fc_set (Fc_set (Fc_set (Fc_set (Fc_set (Fc_set (Fc_set (Fc_set (Fc_set (Fc_set (Fc_set (Fc_refl n S) _ _ _) _ _ _) _ _ _) _ _ _) _ _ _) _ _ _) _ _ _) _ _ _) _ _ _) _ _ _) _ _ _) (Fc_trans F1 F2)⟩
  · rw [ze_0, ze_65s]
    have e1' := e1
    rw [show ((0 : Nat) : Int) = 0 from rfl] at e1' e2
    rw [e1', zr0, ze_65o, e2, zr0]
  · have v : ∀ o j, o ≠ 8 → o ≠ 10 → S2.1 0 n o j = (zs_set (zs_set (zs_set (zs_set (zs_set (zs_set (zs_set (zs_set (zs_set (zs_set (zs_set S 0 n 0 6 (zo w)) 0 n 0 7 (zo s)) 0 n 0 8 (zo 500)) 0 n 0 9 (zo 1)) 0 n 0 10 (zo 0)) 0 n 0 11 (zo 0)) 0 n 0 12 (zo 0)) 0 n 0 13 (zo 0)) 0 n 0 14 (zo 0)) 0 n 0 15 (zo 0)) 0 n 0 16 (zo 0)).1 0 n o j := fun o j h8 h10 => by rw [r2 o j h10, r1 o j h8]
    refine ⟨tF hF (fun o ho => by rw [v o 1 (by omega) (by omega)]; simp (maxSteps := 10000000) (disch := omega) only [zs_ne, zs_eq]), ?_, fun k hk => ?_, fun k hk => ?_, fun k hk => ?_, fun c hc => ?_, fun c hc => ?_, ?_, fun i hi => ?_⟩
    · refine ⟨?_, ?_, ?_, ?_, ?_, ?_, ?_, ?_, ?_, ?_⟩
      all_goals (rw [v _ _ (by omega) (by omega)]; simp (maxSteps := 10000000) (disch := omega) only [zs_ne, zs_eq]; rfl)
    · rw [e 7 (by omega)] at hk; omega
    · rw [e 8 (by omega)] at hk; omega
    · rw [e 9 (by omega)] at hk; omega
    · have hc : (c : Int) < w * s := hc
      rw [r2 _ _ (by omega), q1 c (by omega), e _ (by omega)]
    · have hc : (c : Int) < w * s := hc
      rw [q2 c (by omega)]; rfl
    · rw [v _ _ (by omega) (by omega)]; simp (maxSteps := 10000000) (disch := omega) only [zs_ne, zs_eq]; rfl
    · have : nen (begR w s) = 0 := rfl
      omega
def spAdd (a : Rw) (x y w s : Int) : Sp := if vC a x y then (if (1 ≤ w ∧ w ≤ 99) ∧ (1 ≤ s ∧ s ≤ 999) then (if a 9 = 12 then (0, -2, false, a) else if occ a (a 0 * y + x) (-1) = -1 then (0, a 9, true, nbR a (a 0 * y + x) w s 0) else (0, -3, false, a)) else (2, 0, false, a)) else (1, 0, false, a)
theorem A122 (H : HC S k u a) (hw : WF T a) (g1 : -2147483648 ≤ p) (g2 : p < 2147483648) (g3 : -2147483648 ≤ r) (g4 : r < 2147483648) (g5 : -2147483648 ≤ x) (g6 : x < 2147483648) (g7 : -2147483648 ≤ q) (g8 : q < 2147483648) : OC (d + 4) 122 [za 1 0 0, zi (zo p), zi (zo r), zi (zo x), zi (zo q)] S k u a (spAdd a p r x q) := by
  have h := H.1
  have uN := WF_nc hw
  have u9 := hw.1.2.2.2.2.2.2.2.2.2
  have n13 := h.2.1.2.2.2.2.2.2.2.1
  unfold spAdd
  have e := ze_122 (d := d + 3) (S := S) (xa := zo p) (xb := zo r) (xc := zo x) (xd := zo q)
  rw [c139 h hw g1 g2 g3 g4] at e
  by_cases c : vC a p r
  · have l := cel_lt c
    rw [if_pos c, zr0, c141 g5 g6 (by omega) (by omega) (by omega) (by omega)] at e
    rw [if_pos c]
    by_cases c2 : 1 ≤ x ∧ x ≤ 99
    · rw [if_pos c2, zr0, c141 g7 g8 (by omega) (by omega) (by omega) (by omega)] at e
      by_cases c3 : 1 ≤ q ∧ q ≤ 999
      · rw [if_pos c3, zr0, n13] at e
        rw [if_pos ⟨c2, c3⟩]
        by_cases c4 : a 9 = 12
        · rw [c4, if_neg (show ¬ zo 12 < zo 12 by decide)] at e
          rw [if_pos c4]
          exact OC_n H e
        · have eo : ocC a (a 0 * r + p) = occ a (a 0 * r + p) (-1) := if_neg (by omega)
          have o1 := occ_ge a (a 0 * r + p) (-1)
          have o2 := occ_lt (a := a) (a 0 * r + p) (-1) (by omega)
          rw [if_pos (show zo (a 9) < zo 12 by rw [zo_lt (by omega) (by omega) (by omega) (by omega)]; omega), c3N h.2.1 hw.1 g1 g2 g3 g4, zr1, cAt_in c, c63o h hw (by omega), zr1, eo] at e
          rw [if_neg c4]
          by_cases c5 : occ a (a 0 * r + p) (-1) = -1
          · rw [c5, if_pos (show zo (-1) = zo (-1) from rfl)] at e
            rw [if_pos c5]
            obtain ⟨S1, e1, M1, cl⟩ := crec (d := d) H hw
            obtain ⟨S2, e2, M2, F2⟩ := c20 (d := d + 1) (w := x) (s := q) M1 hw (by omega) c c5
            rw [e1, zr0, e2, zr0, M2.2.1.2.2.2.2.2.2.2.1, nbR_9, zo_sub, show a 9 + 1 - 1 = a 9 by omega] at e
            exact cl _ _ _ _ _ _ F2 M2 e
          · rw [if_neg (show ¬ zo (occ a (a 0 * r + p) (-1)) = zo (-1) by rw [zo_eq (by omega) (by omega) (by omega) (by omega)]; exact c5)] at e
            rw [if_neg c5]
            exact OC_n H e
      · rw [if_neg c3] at e
        rw [if_neg (fun z => c3 z.2)]
        exact OC_x (t := 1) H (e.trans rfl)
    · rw [if_neg c2] at e
      rw [if_neg (fun z => c2 z.1)]
      exact OC_x (t := 1) H (e.trans rfl)
  · rw [if_neg c] at e
    rw [if_neg c]
    exact OC_x (t := 0) H (e.trans rfl)
end CU

/-! THE PURE SIDE 14: the class's turn: the level, ends, soaking -/
theorem zsum_at {f g : Nat → Int} (b : Nat) : ∀ n : Nat, b < n → (∀ i, i < n → i ≠ b → g i = f i) → zsum g n = zsum f n + (g b - f b) := by
  intro n
  induction n with
  | zero => intro h; omega
  | succ n ih =>
    intro h hi
    unfold zsum
    by_cases e : b = n
    · subst e
      rw [zsum_congr (f := g) (g := f) b (fun i h => hi i (by omega) (by omega))]
      omega
    · rw [ih (by omega) (fun i h1 h2 => hi i (by omega) h2), hi n (by omega) (by omega)]
      omega
section CE
variable {S : zS} {n d : Nat} {a : Rw} {T : Int}
theorem c47_d (h : Cb (S.1 0 n) a) (hw : WF T a) : ∀ (m k f : Nat), k + m = (a 7).toNat → m < f → zy zF (d + 2) 47 f 35 [none, some (za 0 n 0), some (zi (zo (a 2 + zsum (fun k => a (30 + 2 * k + 1)) (a 8).toNat - zsum (fun k => if wks a k = true then a (10 + 4 * k + 2) else 0) k))), some (zi (zo k))] S = some (.inl none, zs_set S 0 n 0 8 (zo (if lvS a < 0 then 0 else if 1000 < lvS a then 1000 else lvS a))) := by
  have hC := h; obtain ⟨⟨f1, f2, f3, f4, f5, f6⟩, ⟨n6, n7, n8, n9, n10, n11, n12, n13, n14, n15⟩, hD, hT, hB, hS, hOc, hE⟩ := hC
  have hwO := hw; obtain ⟨⟨⟨u0, u0x⟩, ⟨u1, u1x⟩, ⟨u2, u2x⟩, ⟨u3, u3x⟩, ⟨u4, u4x⟩, ⟨u5, u5x⟩, ⟨u6, u6x, uT⟩, ⟨u7, u7x⟩, ⟨u8, u8x⟩, ⟨u9, u9x⟩⟩, uD, uP, uB, uS, uI⟩ := hwO
  have s1 := zsum_rate hw (a 8).toNat (by omega)
  intro m
  induction m with
  | zero =>
    intro k f hk hn
    obtain ⟨f, rfl⟩ : ∃ f', f = f' + 1 := ⟨f - 1, by omega⟩
    have s2 := zsum_drain hw k (by omega)
    rw [ze_47_35]
    simp (maxSteps := 10000000) (disch := omega) only [n14, zo_add, zo_sub, zo_mul, zo_neg, zo_lt, zo_le, zo_eq, zo_nn, zin_ok, zlt_eq, zr0, zr1, zr3, zr4, zr0x, zr1x, zr3x, zr4x, zb_and, zb_0, zmin_o, zmax_o, zabs_o, zo_div, zo_mod, ↓reduceIte, Int.reduceToNat, Int.reduceNeg, Int.reduceAdd, Int.reduceMul, Int.reduceSub, Int.reduceEq, Int.reduceLT, Int.reduceLE, if_true, if_false, Nat.reduceAdd, Nat.reduceMul]
    rw [if_pos (by omega)]
    unfold lvS
    rw [show k = (a 7).toNat by omega] at s2 ⊢
    generalize a 2 + zsum (fun k => a (30 + 2 * k + 1)) (a 8).toNat - zsum (fun k => if wks a k = true then a (10 + 4 * k + 2) else 0) (a 7).toNat = x at *
    have e : (if 0 < (if 1000 < x then 1000 else x) then (if 1000 < x then 1000 else x) else 0) = if x < 0 then 0 else if 1000 < x then 1000 else x := by
      split <;> split <;> (try split) <;> omega
    rw [e]
  | succ m ih =>
    intro k f hk hn
    obtain ⟨f, rfl⟩ : ∃ f', f = f' + 1 := ⟨f - 1, by omega⟩
    have gD := uD k (by omega)
    have s2 := zsum_drain hw k (by omega)
    have i := ih (k + 1) f (by omega) (by omega)
    rw [show ((k + 1 : Nat) : Int) = (k : Int) + 1 from rfl] at i
    rw [show zsum (fun k => if wks a k = true then a (10 + 4 * k + 2) else 0) (k + 1) = zsum (fun k => if wks a k = true then a (10 + 4 * k + 2) else 0) k + (if wks a k = true then a (10 + 4 * k + 2) else 0) from rfl] at i
    rw [ze_47_35]
    simp (maxSteps := 10000000) (disch := omega) only [n14, c10 h hw (k := k) (by omega), c67d_3 h hw (b := k) (by omega), zo_add, zo_sub, zo_mul, zo_neg, zo_lt, zo_le, zo_eq, zo_nn, zin_ok, zlt_eq, zr0, zr1, zr3, zr4, zr0x, zr1x, zr3x, zr4x, zb_and, zb_0, zmin_o, zmax_o, zabs_o, zo_div, zo_mod, ↓reduceIte, Int.reduceToNat, Int.reduceNeg, Int.reduceAdd, Int.reduceMul, Int.reduceSub, Int.reduceEq, Int.reduceLT, Int.reduceLE, if_true, if_false, Nat.reduceAdd, Nat.reduceMul]
    rw [if_neg (by omega)]
    cases hk2 : wks a k with
    | true =>
      rw [hk2] at i
      rw [if_neg (by decide), Int.sub_sub]
      exact i
    | false =>
      rw [hk2] at i
      rw [if_pos rfl]
      rw [if_neg (by decide), Int.add_zero] at i
      exact i
theorem c47_t (h : Cb (S.1 0 n) a) (hw : WF T a) : ∀ (m k f : Nat), k + m = (a 8).toNat → m + 10 < f → zy zF (d + 2) 47 f 7 [none, some (za 0 n 0), some (zi (zo (a 2 + zsum (fun k => a (30 + 2 * k + 1)) k))), some (zi (zo k))] S = some (.inl none, zs_set S 0 n 0 8 (zo (if lvS a < 0 then 0 else if 1000 < lvS a then 1000 else lvS a))) := by
  have hC := h; obtain ⟨⟨f1, f2, f3, f4, f5, f6⟩, ⟨n6, n7, n8, n9, n10, n11, n12, n13, n14, n15⟩, hD, hT, hB, hS, hOc, hE⟩ := hC
  have hwO := hw; obtain ⟨⟨⟨u0, u0x⟩, ⟨u1, u1x⟩, ⟨u2, u2x⟩, ⟨u3, u3x⟩, ⟨u4, u4x⟩, ⟨u5, u5x⟩, ⟨u6, u6x, uT⟩, ⟨u7, u7x⟩, ⟨u8, u8x⟩, ⟨u9, u9x⟩⟩, uD, uP, uB, uS, uI⟩ := hwO
  intro m
  induction m with
  | zero =>
    intro k f hk hn
    obtain ⟨f, rfl⟩ : ∃ f', f = f' + 1 := ⟨f - 1, by omega⟩
    have i := c47_d (d := d) h hw (a 7).toNat 0 f (by omega) (by omega)
    rw [show zsum (fun k => if wks a k = true then a (10 + 4 * k + 2) else 0) 0 = 0 from rfl, Int.sub_zero] at i
    rw [ze_47_7]
    simp (maxSteps := 10000000) (disch := omega) only [n15, zo_add, zo_sub, zo_mul, zo_neg, zo_lt, zo_le, zo_eq, zo_nn, zin_ok, zlt_eq, zr0, zr1, zr3, zr4, zr0x, zr1x, zr3x, zr4x, zb_and, zb_0, zmin_o, zmax_o, zabs_o, zo_div, zo_mod, ↓reduceIte, Int.reduceToNat, Int.reduceNeg, Int.reduceAdd, Int.reduceMul, Int.reduceSub, Int.reduceEq, Int.reduceLT, Int.reduceLE, if_true, if_false, Nat.reduceAdd, Nat.reduceMul]
    rw [if_pos (by omega), show k = (a 8).toNat by omega]
    exact i
  | succ m ih =>
    intro k f hk hn
    obtain ⟨f, rfl⟩ : ∃ f', f = f' + 1 := ⟨f - 1, by omega⟩
    have gD := uP k (by omega)
    have i := ih (k + 1) f (by omega) (by omega)
    rw [show ((k + 1 : Nat) : Int) = (k : Int) + 1 from rfl] at i
    rw [show zsum (fun k => a (30 + 2 * k + 1)) (k + 1) = zsum (fun k => a (30 + 2 * k + 1)) k + a (30 + 2 * k + 1) from rfl] at i
    rw [ze_47_7]
    simp (maxSteps := 10000000) (disch := omega) only [n15, c67t_2 h hw (b := k) (by omega), zo_add, zo_sub, zo_mul, zo_neg, zo_lt, zo_le, zo_eq, zo_nn, zin_ok, zlt_eq, zr0, zr1, zr3, zr4, zr0x, zr1x, zr3x, zr4x, zb_and, zb_0, zmin_o, zmax_o, zabs_o, zo_div, zo_mod, ↓reduceIte, Int.reduceToNat, Int.reduceNeg, Int.reduceAdd, Int.reduceMul, Int.reduceSub, Int.reduceEq, Int.reduceLT, Int.reduceLE, if_true, if_false, Nat.reduceAdd, Nat.reduceMul]
    rw [if_neg (by omega), Int.add_assoc]
    exact i
theorem c47 (h : Cb (S.1 0 n) a) (hw : WF T a) : ∃ S', zr_sem zF (d + 3) 47 [za 1 0 3, za 0 n 0] S = some (.inl none, S') ∧ Cb (S'.1 0 n) (chL a) ∧ Fc n S S' := by
  have hb := zF1_big
  have n8 := h.2.1.2.2.1
  have i := c47_t (d := d) h hw (a 8).toNat 0 zF1 (by have := hw.1.2.2.2.2.2.2.2.2.1; omega) (by have := hw.1.2.2.2.2.2.2.2.2.1; omega)
  rw [show zsum (fun k => a (30 + 2 * k + 1)) 0 = 0 from rfl, Int.add_zero] at i
  refine ⟨_, ?_, Cb_n2 h hw, Fc_set (Fc_refl n S) _ _ _⟩
  rw [ze_47, n8]
  exact i
theorem nen_en {b : Nat} {st : Int} (hb : (b : Int) < a 9) (h0 : a (40 + 10 * b + 6) = 0) (hst : st ≠ 0) : nen (enB a b st) = nen a + 1 := by
  unfold nen
  rw [enB_at _ _ _ 9 (by omega) (by omega)]
  rw [zsum_at (f := fun k => if a (40 + 10 * k + 6) = 0 then 0 else 1) b _ (by omega) (fun i hi hib => by rw [enB_at _ _ _ _ (by omega) (by omega)])]
  simp [enB_6, h0, hst]
theorem rnk_en_o {b k : Nat} {st : Int} (hb : (b : Int) < a 9) (h0 : a (40 + 10 * b + 6) = 0) (hst : st ≠ 0) (hk : k ≠ b) (ho : a (40 + 10 * k + 7) < a 6 ∨ (a (40 + 10 * k + 7) = a 6 ∧ k < b)) : rnk (enB a b st) k = rnk a k := by
  unfold rnk
  rw [enB_at _ _ _ 9 (by omega) (by omega), enB_at a b st (40 + 10 * k + 7) (by omega) (by omega)]
  refine zsum_congr _ (fun i hi => ?_)
  by_cases e : i = b
  · subst e
    rw [enB_6, enB_7, h0, if_neg hst, if_pos rfl]
    rw [if_neg (by omega), if_neg (by omega)]
  · rw [enB_at a b st (40 + 10 * i + 6) (by omega) (by omega), enB_at a b st (40 + 10 * i + 7) (by omega) (by omega)]
theorem rnk_en_b {b : Nat} {st : Int} (hb : (b : Int) < a 9) (h0 : a (40 + 10 * b + 6) = 0) (hst : st ≠ 0) (ho : ∀ k : Nat, (k : Int) < a 9 → a (40 + 10 * k + 6) ≠ 0 → a (40 + 10 * k + 7) < a 6 ∨ (a (40 + 10 * k + 7) = a 6 ∧ k < b)) : rnk (enB a b st) b = nen a := by
  unfold rnk nen
  rw [enB_at _ _ _ 9 (by omega) (by omega), enB_7]
  refine zsum_congr _ (fun i hi => ?_)
  by_cases e : i = b
  · subst e
    rw [enB_6, enB_7, h0, if_neg hst, if_pos rfl]
    rw [if_neg (by omega), if_neg (by omega)]
  · rw [enB_at a b st (40 + 10 * i + 6) (by omega) (by omega), enB_at a b st (40 + 10 * i + 7) (by omega) (by omega)]
    by_cases c : a (40 + 10 * i + 6) = 0
    · rw [if_pos c, if_pos c]
    · rw [if_neg c, if_neg c]
      rcases ho i (by omega) c with g | g
      · rw [if_pos g]
      · rw [if_neg (by omega), if_pos g]
theorem nen_lt {b : Nat} (hb : (b : Int) < a 9) (h0 : a (40 + 10 * b + 6) = 0) : 0 ≤ nen a ∧ nen a < a 9 := by
  have e := nen_en (st := 1) hb h0 (by omega)
  have l : nen (enB a b 1) ≤ 1 * ((enB a b 1 9).toNat : Int) := zsum_le _ 1 _ (fun i _ => by split <;> omega)
  rw [enB_at _ _ _ 9 (by omega) (by omega)] at l
  have g : 0 ≤ nen a := zsum_ge _ _ (fun i _ => by split <;> omega)
  omega
theorem Cb_end (h : Cb (S.1 0 n) a) (hw : WE T a) {b : Nat} (hb : (b : Int) < a 9) (h0 : a (40 + 10 * b + 6) = 0) {st : Int} (hst : st = 1 ∨ st = 2) (ho : ∀ k : Nat, (k : Int) < a 9 → a (40 + 10 * k + 6) ≠ 0 → a (40 + 10 * k + 7) < a 6 ∨ (a (40 + 10 * k + 7) = a 6 ∧ k < b)) :
    Cb ((zs_set (zs_set (zs_set (zs_set (zs_set S 0 n 2 (11 * b + 7) (zo st)) 0 n 2 (11 * b + 8) (zo (a 6))) 0 n 10 (a (40 + 10 * b)).toNat (zo (-1))) 0 n 12 (nen a).toNat (zo b)) 0 n 0 16 (zo (nen a + 1))).1 0 n) (enB a b st) := by
  have u9 := hw.1.2.2.2.2.2.2
  have gB := hw.2.1 b hb
  have nb := nen_lt hb h0
  refine ⟨tF h.1 (fun o _ => by simp (maxSteps := 10000000) (disch := omega) only [zs_ne, zs_eq]), tN h.2.1 (fun j _ _ => by simp (maxSteps := 10000000) (disch := omega) only [zs_ne, zs_eq]) (fun i hi => enB_at _ _ _ _ (by omega) (by omega)), tD h.2.2.1 hw.1 (fun j => by simp (maxSteps := 10000000) (disch := omega) only [zs_ne, zs_eq]) (fun i hi _ => enB_at _ _ _ _ (by omega) (by omega)), tT h.2.2.2.1 hw.1 (fun j => by simp (maxSteps := 10000000) (disch := omega) only [zs_ne, zs_eq]) (fun i hi _ => enB_at _ _ _ _ (by omega) (by omega)), fun k hk => ?_, tS h.2.2.2.2.2.1 (fun j => by simp (maxSteps := 10000000) (disch := omega) only [zs_ne, zs_eq]) (enB_at _ _ _ _ (by omega) (by omega)) (enB_at _ _ _ _ (by omega) (by omega)) (fun i hi => enB_at _ _ _ _ (by omega) (by omega)), fun c hcc => ?_, ?_⟩
  · rw [enB_at _ _ _ _ (by omega) (by omega)] at hk
    have g := h.2.2.2.2.1 k hk
    by_cases e : k = b
    · subst e
      rw [enB_6, enB_7]
      simp (disch := omega) only [zs_ne, zs_eq, enB_at, g, and_self]
    · simp (disch := omega) only [zs_ne, enB_at, g, and_self]
  · rw [enB_at _ _ _ _ (by omega) (by omega), enB_at _ _ _ _ (by omega) (by omega)] at hcc
    rw [zs_ne (by omega), zs_ne (by omega)]
    by_cases e2 : (c : Int) = a (40 + 10 * b)
    · rw [show (a (40 + 10 * b)).toNat = c by omega, zs_eq]
      congr 1
      refine (occ_none (fun k hk h6 hcell => ?_)).symm
      rw [enB_at _ _ _ _ (by omega) (by omega)] at hk hcell
      by_cases ek : k = b
      · subst ek; rw [enB_6] at h6; omega
      · rw [enB_at _ _ _ _ (by omega) (by omega)] at h6
        exact ek (hw.2.2 k b hk hb h6 h0 (by omega))
    · rw [zs_ne (by omega), zs_ne (by omega), zs_ne (by omega), h.2.2.2.2.2.2.1 c hcc]
      congr 1
      unfold occ
      rw [enB_at _ _ _ 9 (by omega) (by omega)]
      refine zfst_congr _ _ (fun i _ hi => ?_)
      rw [enB_at a b st (40 + 10 * i) (by omega) (by omega)]
      by_cases ek : i = b
      · subst ek
        rw [decide_eq_false (show ¬ a (40 + 10 * i) = (c : Int) by omega), Bool.and_false, Bool.and_false]; simp
      · rw [enB_at a b st (40 + 10 * i + 6) (by omega) (by omega)]
  · refine ⟨by rw [zs_eq, nen_en hb h0 (by omega)], fun i hi => ?_⟩
    rw [nen_en hb h0 (by omega)] at hi
    by_cases e : (i : Int) = nen a
    · refine ⟨b, by rw [enB_at _ _ _ _ (by omega) (by omega)]; exact hb, by rw [enB_6]; omega, by rw [rnk_en_b hb h0 (by omega) ho, e], ?_⟩
      rw [zs_ne (by omega), show (nen a).toNat = i by omega, zs_eq]
    · obtain ⟨k, g1, g2, g3, g4⟩ := h.2.2.2.2.2.2.2.2 i (by omega)
      have hkb : k ≠ b := fun e => g2 (by rw [e]; exact h0)
      refine ⟨k, by rw [enB_at _ _ _ _ (by omega) (by omega)]; exact g1, by rw [enB_at _ _ _ _ (by omega) (by omega)]; exact g2, by rw [rnk_en_o hb h0 (by omega) hkb (ho k g1 g2), g3], ?_⟩
      rw [zs_ne (by omega), zs_ne (by omega), zs_ne (by omega), zs_ne (by omega), zs_ne (by omega)]
      exact g4
theorem c67r_0 (h : CbF (S.1 0 n)) {b : Nat} (hb : b < 12) : zr_sem zF (d + 1) 67 [za 0 n 1, zi (zo b), zi (zo 0)] S = some (.inl (some (zi (S.1 0 n 2 (11 * b)))), S) := by
  rw [ze_67b]
  have f1 := h.1
  have e : ((b : Int) * 11 + 0).toNat = 11 * b := by omega
  simp (maxSteps := 10000000) (disch := omega) only [f1, e, zo_add, zo_sub, zo_mul, zo_neg, zo_lt, zo_le, zo_eq, zo_nn, zin_ok, zlt_eq, zr0, zr1, zr3, zr4, zr0x, zr1x, zr3x, zr4x, zb_and, zb_0, zmin_o, zmax_o, zabs_o, zo_div, zo_mod, ↓reduceIte, Int.reduceToNat, Int.reduceNeg, Int.reduceAdd, Int.reduceMul, Int.reduceSub, Int.reduceEq, Int.reduceLT, Int.reduceLE, if_true, if_false, Nat.reduceAdd, Nat.reduceMul]
  rw [if_neg (by omega), if_neg (by omega)]
theorem c67r_1 (h : CbF (S.1 0 n)) {b : Nat} (hb : b < 12) : zr_sem zF (d + 1) 67 [za 0 n 1, zi (zo b), zi (zo 1)] S = some (.inl (some (zi (S.1 0 n 2 (11 * b + 1)))), S) := by
  rw [ze_67b]
  have f1 := h.1
  have e : ((b : Int) * 11 + 1).toNat = 11 * b + 1 := by omega
  simp (maxSteps := 10000000) (disch := omega) only [f1, e, zo_add, zo_sub, zo_mul, zo_neg, zo_lt, zo_le, zo_eq, zo_nn, zin_ok, zlt_eq, zr0, zr1, zr3, zr4, zr0x, zr1x, zr3x, zr4x, zb_and, zb_0, zmin_o, zmax_o, zabs_o, zo_div, zo_mod, ↓reduceIte, Int.reduceToNat, Int.reduceNeg, Int.reduceAdd, Int.reduceMul, Int.reduceSub, Int.reduceEq, Int.reduceLT, Int.reduceLE, if_true, if_false, Nat.reduceAdd, Nat.reduceMul]
  rw [if_neg (by omega), if_neg (by omega)]
theorem c67r_3 (h : CbF (S.1 0 n)) {b : Nat} (hb : b < 12) : zr_sem zF (d + 1) 67 [za 0 n 1, zi (zo b), zi (zo 3)] S = some (.inl (some (zi (S.1 0 n 2 (11 * b + 3)))), S) := by
  rw [ze_67b]
  have f1 := h.1
  have e : ((b : Int) * 11 + 3).toNat = 11 * b + 3 := by omega
  simp (maxSteps := 10000000) (disch := omega) only [f1, e, zo_add, zo_sub, zo_mul, zo_neg, zo_lt, zo_le, zo_eq, zo_nn, zin_ok, zlt_eq, zr0, zr1, zr3, zr4, zr0x, zr1x, zr3x, zr4x, zb_and, zb_0, zmin_o, zmax_o, zabs_o, zo_div, zo_mod, ↓reduceIte, Int.reduceToNat, Int.reduceNeg, Int.reduceAdd, Int.reduceMul, Int.reduceSub, Int.reduceEq, Int.reduceLT, Int.reduceLE, if_true, if_false, Nat.reduceAdd, Nat.reduceMul]
  rw [if_neg (by omega), if_neg (by omega)]
theorem c25 (h : Cb (S.1 0 n) a) (hw : WE T a) {b : Nat} (hb : (b : Int) < a 9) (h0 : a (40 + 10 * b + 6) = 0) {st : Int} (hst : st = 1 ∨ st = 2) (ho : ∀ k : Nat, (k : Int) < a 9 → a (40 + 10 * k + 6) ≠ 0 → a (40 + 10 * k + 7) < a 6 ∨ (a (40 + 10 * k + 7) = a 6 ∧ k < b)) : ∃ S', zr_sem zF (d + 3) 25 [za 0 n 0, zi (zo b), zi (zo st)] S = some (.inl none, S') ∧ Cb (S'.1 0 n) (enB a b st) ∧ Fc n S S' := by
  have hE := Cb_end h hw hb h0 hst ho
  have nb := nen_lt hb h0
  have hwO := hw.1
  obtain ⟨⟨u0, u0x⟩, ⟨u1, u1x⟩, ⟨u2, u2x⟩, ⟨u3, u3x⟩, ⟨u4, u4x⟩, ⟨u5, u5x⟩, ⟨u6, u6x, uT⟩, ⟨u7, u7x⟩, ⟨u8, u8x⟩, ⟨u9, u9x⟩⟩ := hwO
  have gB := hw.2.1 b hb
  have uN := WB_nc hw.1
  have g := cel_of (a := a) (c := a (40 + 10 * b)) (by omega) gB.1 gB.2
  have hF1 : CbF ((zs_set S 0 n 2 (11 * b + 7) (zo st)).1 0 n) := tF h.1 (fun o _ => by simp (maxSteps := 10000000) (disch := omega) only [zs_ne, zs_eq])
  have hF2 : CbF ((zs_set (zs_set S 0 n 2 (11 * b + 7) (zo st)) 0 n 2 (11 * b + 8) (zo (a 6))).1 0 n) := tF h.1 (fun o _ => by simp (maxSteps := 10000000) (disch := omega) only [zs_ne, zs_eq])
  have hN2 : CbN ((zs_set (zs_set S 0 n 2 (11 * b + 7) (zo st)) 0 n 2 (11 * b + 8) (zo (a 6))).1 0 n) a := tN h.2.1 (fun j _ _ => by simp (maxSteps := 10000000) (disch := omega) only [zs_ne, zs_eq]) (fun i hi => rfl)
  have gb := h.2.2.2.2.1 b hb
  have t0 : (zs_set (zs_set S 0 n 2 (11 * b + 7) (zo st)) 0 n 2 (11 * b + 8) (zo (a 6))).1 0 n 2 (11 * b) = zo (a (40 + 10 * b) % a 0) := by simp (maxSteps := 10000000) (disch := omega) only [zs_ne, zs_eq]; exact gb.1
  have t1 : (zs_set (zs_set S 0 n 2 (11 * b + 7) (zo st)) 0 n 2 (11 * b + 8) (zo (a 6))).1 0 n 2 (11 * b + 1) = zo (a (40 + 10 * b) / a 0) := by simp (maxSteps := 10000000) (disch := omega) only [zs_ne, zs_eq]; exact gb.2.1
  have e1 : cAt a (a (40 + 10 * b) % a 0) (a (40 + 10 * b) / a 0) = ((a (40 + 10 * b)).toNat : Int) := by rw [cAt_of (by omega) gB.1 gB.2]; omega
  have n12 := h.2.1.2.2.2.2.2.2.1
  have n16 := h.2.2.2.2.2.2.2.1
  have v12 : (zs_set S 0 n 2 (11 * b + 7) (zo st)).1 0 n 0 12 = zo (a 6) := by simp (maxSteps := 10000000) (disch := omega) only [zs_ne, zs_eq]; exact n12
  have v16 : (zs_set (zs_set (zs_set S 0 n 2 (11 * b + 7) (zo st)) 0 n 2 (11 * b + 8) (zo (a 6))) 0 n 10 (a (40 + 10 * b)).toNat (zo (-1))).1 0 n 0 16 = zo ((nen a).toNat : Int) := by simp (maxSteps := 10000000) (disch := omega) only [zs_ne, zs_eq]; rw [n16]; congr 1; omega
  have v16b : (zs_set (zs_set (zs_set (zs_set S 0 n 2 (11 * b + 7) (zo st)) 0 n 2 (11 * b + 8) (zo (a 6))) 0 n 10 (a (40 + 10 * b)).toNat (zo (-1))) 0 n 12 (nen a).toNat (zo b)).1 0 n 0 16 = zo (nen a) := by simp (maxSteps := 10000000) (disch := omega) only [zs_ne, zs_eq]; exact n16
  have r6 : zr_sem zF (d + 2) 6 [za 0 n 0, zi (zo b)] (zs_set (zs_set S 0 n 2 (11 * b + 7) (zo st)) 0 n 2 (11 * b + 8) (zo (a 6))) = some (.inl (some (zi (zo ((a (40 + 10 * b)).toNat : Int)))), zs_set (zs_set S 0 n 2 (11 * b + 7) (zo st)) 0 n 2 (11 * b + 8) (zo (a 6))) := by
    rw [ze_6]
    simp (maxSteps := 10000000) (disch := omega) only [c67r_0 hF2, c67r_1 hF2, t0, t1, c3N hN2 hw.1, e1, zr1]
  refine ⟨_, ?_, hE, Fc_set (Fc_set (Fc_set (Fc_set (Fc_set (Fc_refl n S) _ _ _) _ _ _) _ _ _) _ _ _) _ _ _⟩
  rw [ze_25]
  simp (maxSteps := 10000000) (disch := omega) only [c68b_7 h.1, v12, c68b_8 hF1, r6, c64o, v16, c64e, v16b, zo_add, zo_sub, zo_mul, zo_neg, zo_lt, zo_le, zo_eq, zo_nn, zin_ok, zlt_eq, zr0, zr1, zr3, zr4, zr0x, zr1x, zr3x, zr4x, zb_and, zb_0, zmin_o, zmax_o, zabs_o, zo_div, zo_mod, ↓reduceIte, Int.reduceToNat, Int.reduceNeg, Int.reduceAdd, Int.reduceMul, Int.reduceSub, Int.reduceEq, Int.reduceLT, Int.reduceLE, if_true, if_false, Nat.reduceAdd, Nat.reduceMul]
theorem enB_up {b : Nat} {st v : Int} {i : Nat} (h1 : i ≠ 40 + 10 * b + 6) (h2 : i ≠ 40 + 10 * b + 7) (h3 : i ≠ 6) : enB (up a i v) b st = up (enB a b st) i v := by
  unfold enB
  funext j
  rw [up_ne a v (show 6 ≠ i by omega)]
  unfold up
  by_cases z1 : j = 40 + 10 * b + 7
  · rw [if_pos z1, if_neg (by omega), if_pos z1]
  · rw [if_neg z1]
    by_cases z2 : j = 40 + 10 * b + 6
    · rw [if_pos z2, if_neg (by omega), if_neg z1, if_pos z2]
    · rw [if_neg z2, if_neg z1, if_neg z2]
theorem c52 (h : Cb (S.1 0 n) a) (hw : WF T a) {b : Nat} (hb : (b : Int) < a 9) (h0 : a (40 + 10 * b + 6) = 0) (ho : ∀ k : Nat, (k : Int) < a 9 → a (40 + 10 * k + 6) ≠ 0 → a (40 + 10 * k + 7) < a 6 ∨ (a (40 + 10 * k + 7) = a 6 ∧ k < b)) : ∃ S', zr_sem zF (d + 4) 52 [za 1 0 3, za 0 n 0, zi (zo b)] S = some (.inl none, S') ∧ Cb (S'.1 0 n) (sok a b) ∧ Fc n S S' := by
  rw [ze_52]
  have hwO := hw; obtain ⟨⟨⟨u0, u0x⟩, ⟨u1, u1x⟩, ⟨u2, u2x⟩, ⟨u3, u3x⟩, ⟨u4, u4x⟩, ⟨u5, u5x⟩, ⟨u6, u6x, uT⟩, ⟨u7, u7x⟩, ⟨u8, u8x⟩, ⟨u9, u9x⟩⟩, uD, uP, uB, uS, uI⟩ := hwO
  have uN := WF_nc hw
  have gB := uB b hb
  have gS := uS (a (40 + 10 * b)).toNat (by omega)
  have gW := gB.2.2.2.2.2.2.2.2.2.2 h0
  have eS : spC a (a (40 + 10 * b)) = a (160 + (a (40 + 10 * b)).toNat) := by unfold spC; rw [if_neg (by omega)]
  unfold sok
  simp (maxSteps := 10000000) (disch := omega) only [c6 h hw hb, c67b_4 h hw hb, c63s h hw (c := a (40 + 10 * b)) (by omega), eS, zo_add, zo_sub, zo_mul, zo_neg, zo_lt, zo_le, zo_eq, zo_nn, zin_ok, zlt_eq, zr0, zr1, zr3, zr4, zr0x, zr1x, zr3x, zr4x, zb_and, zb_0, zmin_o, zmax_o, zabs_o, zo_div, zo_mod, ↓reduceIte, Int.reduceToNat, Int.reduceNeg, Int.reduceAdd, Int.reduceMul, Int.reduceSub, Int.reduceEq, Int.reduceLT, Int.reduceLE, if_true, if_false, Nat.reduceAdd, Nat.reduceMul]
  generalize hv : a (40 + 10 * b + 3) + 1 + a (160 + (a (40 + 10 * b)).toNat) / 10 = v
  have bv : 1 ≤ v ∧ v ≤ a (40 + 10 * b + 2) + 10 := by omega
  have hA := Cb_b3 (v := v) h hw hb
  have hFA := Fc_set (Fc_refl n S) 2 (11 * b + 4) (zo v)
  have w8 := c68b_4 (d := d + 2) h.1 (b := b) (by omega) (v := zo v)
  rw [w8, zr0]
  generalize zs_set S 0 n 2 (11 * b + 4) (zo v) = S1 at *
  have eA : ∀ i, i ≠ 40 + 10 * b + 3 → up a (40 + 10 * b + 3) v i = a i := fun i hi => by simp (maxSteps := 10000000) (disch := omega) only [up_ne, up_self]
  have r3 := c67r_3 (d := d + 2) hA.1 (b := b) (by omega)
  have v3 := (hA.2.2.2.2.1 b (by rw [eA 9 (by omega)]; exact hb)).2.2.2.1
  rw [eA (40 + 10 * b + 2) (by omega)] at v3
  rw [v3] at r3
  have hoA : ∀ k : Nat, (k : Int) < up a (40 + 10 * b + 3) v 9 → up a (40 + 10 * b + 3) v (40 + 10 * k + 6) ≠ 0 → up a (40 + 10 * b + 3) v (40 + 10 * k + 7) < up a (40 + 10 * b + 3) v 6 ∨ (up a (40 + 10 * b + 3) v (40 + 10 * k + 7) = up a (40 + 10 * b + 3) v 6 ∧ k < b) := by
    intro k hk
    rw [eA 9 (by omega)] at hk
    rw [eA (40 + 10 * k + 6) (by omega), eA (40 + 10 * k + 7) (by omega), eA 6 (by omega)]
    exact ho k hk
  have wE : WE T (up a (40 + 10 * b + 3) v) := by
    have w0 := WE_of (WF_b3 (v := 0) hw hb (by omega))
    refine ⟨?_, fun k hk => ?_, fun k l hk hl => ?_⟩
    · have := w0.1
      unfold WB at this ⊢
      simp (disch := omega) only [up_ne] at this ⊢
      exact this
    · rw [eA 9 (by omega)] at hk
      rw [eA _ (by omega), eA 0 (by omega), eA 1 (by omega)]
      exact (uB k hk).1
    · rw [eA 9 (by omega)] at hk hl
      rw [eA _ (by omega), eA _ (by omega), eA _ (by omega), eA _ (by omega)]
      exact uI k l hk hl
  simp (maxSteps := 10000000) (disch := omega) only [r3, zo_add, zo_sub, zo_mul, zo_neg, zo_lt, zo_le, zo_eq, zo_nn, zin_ok, zlt_eq, zr0, zr1, zr3, zr4, zr0x, zr1x, zr3x, zr4x, zb_and, zb_0, zmin_o, zmax_o, zabs_o, zo_div, zo_mod, ↓reduceIte, Int.reduceToNat, Int.reduceNeg, Int.reduceAdd, Int.reduceMul, Int.reduceSub, Int.reduceEq, Int.reduceLT, Int.reduceLE, if_true, if_false, Nat.reduceAdd, Nat.reduceMul]
  by_cases c1 : a (40 + 10 * b + 2) < v
  · rw [if_pos c1, if_neg (show ¬ v ≤ a (40 + 10 * b + 2) by omega)]
    obtain ⟨S2, e2, M2, F2⟩ := c25 (d := d) (st := 1) hA wE (b := b) (by rw [eA 9 (by omega)]; exact hb) (by rw [eA _ (by omega)]; exact h0) (Or.inl rfl) hoA
    rw [e2, zr0]
    exact ⟨S2, rfl, M2, Fc_trans hFA F2⟩
  · rw [if_neg c1, if_pos (show v ≤ a (40 + 10 * b + 2) by omega)]
    have wA := WF_b3 (v := v) hw hb ⟨by omega, fun _ => by omega⟩
    have o1 := drIn_ge a (a (40 + 10 * b))
    have o2 := drIn_lt (a := a) (a (40 + 10 * b)) (by omega)
    have ed : drIn (up a (40 + 10 * b + 3) v) (a (40 + 10 * b)) = drIn a (a (40 + 10 * b)) := by
      unfold drIn
      rw [eA 7 (by omega)]
      refine zfst_congr _ _ (fun i _ hi => ?_)
      rw [eA _ (by omega)]
    have ew : wdr (up a (40 + 10 * b + 3) v) (a (40 + 10 * b)) b = wdr a (a (40 + 10 * b)) b := by
      unfold wdr
      rw [ed]
      by_cases z : drIn a (a (40 + 10 * b)) = -1
      · rw [if_pos z, if_pos z]
      · rw [if_neg z, if_neg z, eA _ (by omega), eA _ (by omega), eA _ (by omega)]
    have m1 := c11 (d := d) hA wA (c := a (40 + 10 * b)) (b := b) (by omega) (by omega) (by rw [eA 9 (by omega)]; exact hb)
    rw [ew] at m1
    rw [m1, zr1]
    by_cases c2 : wdr a (a (40 + 10 * b)) b = true
    · rw [c2, if_pos rfl, if_neg (by decide)]
      have hd : drIn a (a (40 + 10 * b)) ≠ -1 := by
        intro e; unfold wdr at c2; rw [if_pos e] at c2; cases c2
      have m2 := c12 (d := d + 1) hA wA (c := a (40 + 10 * b)) (by omega) (by omega)
      rw [ed] at m2
      rw [m2, zr1]
      obtain ⟨j, hj⟩ : ∃ j : Nat, drIn a (a (40 + 10 * b)) = j := ⟨(drIn a (a (40 + 10 * b))).toNat, by omega⟩
      rw [hj] at o2 ⊢
      rw [Int.toNat_natCast]
      have gJ := uD j o2
      have p5 := c67d_5 (d := d + 2) hA wA (b := j) (by rw [eA 7 (by omega)]; exact o2)
      rw [eA _ (by omega)] at p5
      have hB := Cb_d3 (v := a (10 + 4 * j + 3) + 1) (b := j) hA wA (by rw [eA 7 (by omega)]; exact o2)
      have wB := WF_d3 (v := a (10 + 4 * j + 3) + 1) (k0 := j) wA (by rw [eA 7 (by omega)]; exact o2)
      have eB : ∀ i, i ≠ 40 + 10 * b + 3 → i ≠ 10 + 4 * j + 3 → up (up a (40 + 10 * b + 3) v) (10 + 4 * j + 3) (a (10 + 4 * j + 3) + 1) i = a i := fun i hi hi2 => by simp (maxSteps := 10000000) (disch := omega) only [up_ne, up_self]
      have hoB : ∀ k : Nat, (k : Int) < up (up a (40 + 10 * b + 3) v) (10 + 4 * j + 3) (a (10 + 4 * j + 3) + 1) 9 → up (up a (40 + 10 * b + 3) v) (10 + 4 * j + 3) (a (10 + 4 * j + 3) + 1) (40 + 10 * k + 6) ≠ 0 → up (up a (40 + 10 * b + 3) v) (10 + 4 * j + 3) (a (10 + 4 * j + 3) + 1) (40 + 10 * k + 7) < up (up a (40 + 10 * b + 3) v) (10 + 4 * j + 3) (a (10 + 4 * j + 3) + 1) 6 ∨ (up (up a (40 + 10 * b + 3) v) (10 + 4 * j + 3) (a (10 + 4 * j + 3) + 1) (40 + 10 * k + 7) = up (up a (40 + 10 * b + 3) v) (10 + 4 * j + 3) (a (10 + 4 * j + 3) + 1) 6 ∧ k < b) := by
        intro k hk
        rw [eB 9 (by omega) (by omega)] at hk
        rw [eB (40 + 10 * k + 6) (by omega) (by omega), eB (40 + 10 * k + 7) (by omega) (by omega), eB 6 (by omega) (by omega)]
        exact ho k hk
      have p6 := c68d_5 (n := n) (S := S1) (d := d + 2) hA.1 (b := j) (v := zo (a (10 + 4 * j + 3) + 1)) (by omega)
      simp (maxSteps := 10000000) (disch := omega) only [p5, p6, zo_add, zo_sub, zo_mul, zo_neg, zo_lt, zo_le, zo_eq, zo_nn, zin_ok, zlt_eq, zr0, zr1, zr3, zr4, zr0x, zr1x, zr3x, zr4x, zb_and, zb_0, zmin_o, zmax_o, zabs_o, zo_div, zo_mod, ↓reduceIte, Int.reduceToNat, Int.reduceNeg, Int.reduceAdd, Int.reduceMul, Int.reduceSub, Int.reduceEq, Int.reduceLT, Int.reduceLE, if_true, if_false, Nat.reduceAdd, Nat.reduceMul]
      obtain ⟨S2, e2, M2, F2⟩ := c25 (d := d) (st := 2) hB (WE_of wB) (b := b) (by rw [eB 9 (by omega) (by omega)]; exact hb) (by rw [eB _ (by omega) (by omega)]; exact h0) (Or.inr rfl) hoB
      rw [enB_up (by omega) (by omega) (by omega)] at M2
      rw [e2, zr0]
      exact ⟨S2, rfl, M2, Fc_trans (Fc_set hFA _ _ _) F2⟩
    · rw [if_neg c2, show wdr a (a (40 + 10 * b)) b = false from Bool.eq_false_iff.mpr c2, if_pos (show zo (bI false) = zo 0 from rfl)]
      exact ⟨_, rfl, hA, hFA⟩
end CE

/-! THE PURE SIDE 33: towing: the questions; the law of the way -/
def twV (a : Rw) (D : Int → Int) (b : Nat) : Int := if a (40 + 10 * b + 6) = 0 then (if D (a (40 + 10 * b)) < 1000000 then D (a (40 + 10 * b)) else -1) else -1
def tsV (a : Rw) (D : Int → Int) (b : Nat) (t : Int) : Int := if a (40 + 10 * b + 6) = 0 then (if a (40 + 10 * b) = t then -1 else stp a (wgt a b) D (a (40 + 10 * b))) else -1
section CY
variable {S : zS} {d n : Nat} {a : Rw} {T t p r x : Int} {b : Nat} {w w2 D D2 g : Int → Int}
theorem RC_Ft {S S' : zS} (h : Ft S S') : RC S S' := ⟨fun k n o j a b => h.2 k n o j (by omega), fun hF => by rw [Ft_0 h 1]; exact hF⟩
theorem MA_q {mi : Nat} {av : List zV} {v : Int} {S' : zS} (h : zr_sem zF d mi av S = some (.inl (some (zi (zo v))), S')) (hF : Fq (mt S 0) S') : MA d mi av S 0 v := ⟨S', v, h, by rw [hF.2 _ _ _ _ (by omega)]; exact mt_10 S 0, fun _ => rfl, RM_trans (RM_mt S 0) ⟨hF.1, fun k n o j _ b => hF.2 k n o j (by omega)⟩⟩
theorem c86 (hw : WF T a) (hT : Tc S a w g) (hG : Gok a g) {c : Int} (hc : inN a c) : zr_sem zF (d + 2) 86 [za 1 0 9, zi (zo c)] S = some (.inl (some (zi (zo (if g c < 1000000 then g c else -1)))), S) := by
  have e1 := hc.1
  have e2 := hc.2
  have gc := hG c hc
  obtain ⟨i, rfl⟩ : ∃ i : Nat, c = i := ⟨c.toNat, by omega⟩
  rw [ze_86, c63d hw hT e2, zr1]
  by_cases c : g i < 1000000
  · rw [if_neg (show ¬ zo 1000000 ≤ zo (g i) by rw [zo_le (by omega) (by omega) (by omega) (by omega)]; omega), if_pos c, c63d hw hT e2, zr1]
  · rw [if_pos (show zo 1000000 ≤ zo (g i) by rw [zo_le (by omega) (by omega) (by omega) (by omega)]; omega), if_neg c]
theorem Sol_Gok (hS : Sol a w t D) {g : Int → Int} (h : ∀ c, inN a c → g c = D c) : Gok a g := fun c hc => by
  rw [h c hc]; exact (hS.2 c hc).1
theorem thr_cg {g : Int → Int} (h : ∀ c, inN a c → g c = D c) {c : Int} (hc : c = -1 ∨ inN a c) : thr w g c = thr w D c := by
  unfold thr
  rcases hc with e | e
  · rw [if_pos e, if_pos e]
  · rw [h c e]
theorem nea_cg {g : Int → Int} (h : ∀ c, inN a c → g c = D c) {p q : Int} (hp : p = -1 ∨ inN a p) (hq : q = -1 ∨ inN a q) : nea w g p q = nea w D p q := by
  unfold nea
  rw [thr_cg h hp, thr_cg h hq]
theorem stp_cg {g : Int → Int} (h : ∀ c, inN a c → g c = D c) (c : Int) : stp a w g c = stp a w D c := by
  have r0 := nb4_rng a c 0
  have r1 := nb4_rng a c 1
  have r2 := nb4_rng a c 2
  have r3 := nb4_rng a c 3
  have n1 := nea_rng (w := w) (g := D) r0 r1
  have n2 := nea_rng (w := w) (g := D) n1 r2
  have n3 := nea_rng (w := w) (g := D) n2 r3
  have e : bst a w g c = bst a w D c := by
    unfold bst
    rw [nea_cg h r0 r1, nea_cg h n1 r2, nea_cg h n2 r3]
  have e2 : thr w g (bst a w D c) = thr w D (bst a w D c) := thr_cg h n3
  unfold stp
  rw [e, e2]
theorem cel_inN (h : vC a p r) : inN a (a 0 * r + p) := cel_lt h
theorem A112 (h : Cb (S.1 0 0) a) (hw : WF T a) (hK : S.1 1 0 10 1 = zo 1000000 ∧ S.1 1 0 12 1 = zo 1000000) (g1 : -2147483648 ≤ p) (g2 : p < 2147483648) (g3 : -2147483648 ≤ r) (g4 : r < 2147483648) (g5 : -2147483648 ≤ x) (g6 : x < 2147483648) (hS : vB a p → vC a r x → Sol a (wgt a p.toNat) (a 0 * x + r) D) : CA (d + 7) 112 [za 1 0 0, zi (zo p), zi (zo r), zi (zo x)] S (if vB a p ∧ vC a r x then 0 else 1) (twV a D p.toNat) := by
  have e := ze_112 (d := d + 6) (S := S) (xa := zo p) (xb := zo r) (xc := zo x)
  rw [c138 h hw g1 g2] at e
  by_cases c : vB a p
  · rw [if_pos c, zr0, c139 h hw g3 g4 g5 g6] at e
    by_cases c2 : vC a r x
    · rw [if_pos ⟨c, c2⟩]
      obtain ⟨b, rfl⟩ : ∃ b : Nat, p = b := ⟨p.toNat, by omega⟩
      have hS := hS c c2
      rw [Int.toNat_natCast] at hS ⊢
      rw [if_pos c2, zr0, c7 h hw c.2, zr1] at e
      unfold twV
      by_cases c6 : a (40 + 10 * b + 6) = 0
      · obtain ⟨S1, g, s1, s2, s3, s4⟩ := c83 (d := d) h hw c.2 (cel_inN c2) hK hS
        have h1 : Cb (S1.1 0 0) a := by rw [Ft_0 s4 0]; exact h
        have gB : inN a (a (40 + 10 * b)) := (hw.2.2.2.1 b c.2).1
        rw [decide_eq_true c6, if_neg (by decide), c3 h hw g3 g4 g5 g6, zr1, cAt_in c2, s1, zr0, zc6 h1 hw c.2, zr1, c86 hw s2 (Sol_Gok hS s3) gB, zr1, s3 _ gB] at e
        rw [if_pos c6]
        exact ⟨S1, e, RC_Ft s4⟩
      · rw [decide_eq_false c6, if_pos (show zo (bI false) = zo 0 from rfl)] at e
        rw [if_neg c6]
        exact CA_v e
    · rw [if_neg c2] at e
      rw [if_neg (fun z => c2 z.2)]
      exact CA_x (t := 0) e
  · rw [if_neg c] at e
    rw [if_neg (fun z => c z.1)]
    exact CA_x (t := 0) e
theorem B218 (h : Md S 0 a) (hw : WF T a) (g1 : -2147483648 ≤ p) (g2 : p < 2147483648) (g3 : -2147483648 ≤ r) (g4 : r < 2147483648) (g5 : -2147483648 ≤ x) (g6 : x < 2147483648) (hS : vB a p → vC a r x → Sol a (wgt a p.toNat) (a 0 * x + r) D) : MA (d + 9) 218 [za 3 0 0, zi (zo p), zi (zo r), zi (zo x)] S (if vB a p ∧ vC a r x then 0 else 1) (twV a D p.toNat) := by
  have h0 := Md_mt h 0
  by_cases c : vB a p
  · have d1 : decide (0 ≤ p ∧ p ≤ a 9 - 1) = true := decide_eq_true (by omega)
    by_cases c2 : vC a r x
    · have d2 : decide ((0 ≤ r ∧ r < a 0) ∧ 0 ≤ x ∧ x < a 1) = true := decide_eq_true c2
      rw [if_pos ⟨c, c2⟩]
      obtain ⟨b, rfl⟩ : ∃ b : Nat, p = b := ⟨p.toNat, by omega⟩
      have hS := hS c c2
      rw [Int.toNat_natCast] at hS ⊢
      unfold twV
      by_cases c6 : a (40 + 10 * b + 6) = 0
      · have d6 : decide (a (40 + 10 * b + 6) = 0) = true := decide_eq_true c6
        rw [if_pos c6]
        obtain ⟨S1, r1, q1⟩ := m216 (d := d) h0 hw c.2 (cel_inN c2) hS
        refine MA_q (S' := S1) ?_ q1
        rw [ze_218]
        simp (maxSteps := 10000000) (disch := omega) only [m157 h hw, d1, m153 h hw, d2, bI_t, m148_1, m164 h0 hw c.2, d6, m154 h0, r1, Bool.true_eq_false, zo_add, zo_sub, zo_mul, zo_neg, zo_lt, zo_le, zo_eq, zo_nn, zin_ok, zlt_eq, zr0, zr1, zr3, zr4, zr0x, zr1x, zr3x, zr4x, zb_and, zb_0, zmin_o, zmax_o, zabs_o, zo_div, zo_mod, ↓reduceIte, Int.reduceToNat, Int.reduceNeg, Int.reduceAdd, Int.reduceMul, Int.reduceSub, Int.reduceEq, Int.reduceLT, Int.reduceLE, if_true, if_false, Nat.reduceAdd, Nat.reduceMul]
      · have d6 : decide (a (40 + 10 * b + 6) = 0) = false := decide_eq_false c6
        rw [if_neg c6]
        refine MA_v ?_
        rw [ze_218]
        simp (maxSteps := 10000000) (disch := omega) only [m157 h hw, d1, m153 h hw, d2, bI_t, bI_f, m148_1, m164 h0 hw c.2, d6, zo_add, zo_sub, zo_mul, zo_neg, zo_lt, zo_le, zo_eq, zo_nn, zin_ok, zlt_eq, zr0, zr1, zr3, zr4, zr0x, zr1x, zr3x, zr4x, zb_and, zb_0, zmin_o, zmax_o, zabs_o, zo_div, zo_mod, ↓reduceIte, Int.reduceToNat, Int.reduceNeg, Int.reduceAdd, Int.reduceMul, Int.reduceSub, Int.reduceEq, Int.reduceLT, Int.reduceLE, if_true, if_false, Nat.reduceAdd, Nat.reduceMul]
    · have d2 : decide ((0 ≤ r ∧ r < a 0) ∧ 0 ≤ x ∧ x < a 1) = false := decide_eq_false c2
      rw [if_neg (fun z => c2 z.2)]
      refine MA_x (t := 0) (w := 0) ?_
      rw [ze_218]
      simp (maxSteps := 10000000) (disch := omega) only [m157 h hw, d1, m153 h hw, d2, bI_t, bI_f, m148_0, zo_add, zo_sub, zo_mul, zo_neg, zo_lt, zo_le, zo_eq, zo_nn, zin_ok, zlt_eq, zr0, zr1, zr3, zr4, zr0x, zr1x, zr3x, zr4x, zb_and, zb_0, zmin_o, zmax_o, zabs_o, zo_div, zo_mod, ↓reduceIte, Int.reduceToNat, Int.reduceNeg, Int.reduceAdd, Int.reduceMul, Int.reduceSub, Int.reduceEq, Int.reduceLT, Int.reduceLE, if_true, if_false, Nat.reduceAdd, Nat.reduceMul]
      rfl
  · have d1 : decide (0 ≤ p ∧ p ≤ a 9 - 1) = false := decide_eq_false (by omega)
    rw [if_neg (fun z => c z.1)]
    refine MA_x (t := 0) (w := 0) ?_
    rw [ze_218]
    simp (maxSteps := 10000000) (disch := omega) only [m157 h hw, d1, bI_f, m148_0, zo_add, zo_sub, zo_mul, zo_neg, zo_lt, zo_le, zo_eq, zo_nn, zin_ok, zlt_eq, zr0, zr1, zr3, zr4, zr0x, zr1x, zr3x, zr4x, zb_and, zb_0, zmin_o, zmax_o, zabs_o, zo_div, zo_mod, ↓reduceIte, Int.reduceToNat, Int.reduceNeg, Int.reduceAdd, Int.reduceMul, Int.reduceSub, Int.reduceEq, Int.reduceLT, Int.reduceLE, if_true, if_false, Nat.reduceAdd, Nat.reduceMul]
    rfl
theorem A113 (h : Cb (S.1 0 0) a) (hw : WF T a) (hK : S.1 1 0 10 1 = zo 1000000 ∧ S.1 1 0 12 1 = zo 1000000) (g1 : -2147483648 ≤ p) (g2 : p < 2147483648) (g3 : -2147483648 ≤ r) (g4 : r < 2147483648) (g5 : -2147483648 ≤ x) (g6 : x < 2147483648) (hS : vB a p → vC a r x → Sol a (wgt a p.toNat) (a 0 * x + r) D) : CA (d + 7) 113 [za 1 0 0, zi (zo p), zi (zo r), zi (zo x)] S (if vB a p ∧ vC a r x then 0 else 1) (tsV a D p.toNat (a 0 * x + r)) := by
  have uN := WF_nc hw
  have u9 := hw.1.2.2.2.2.2.2.2.2.2
  have e := ze_113 (d := d + 6) (S := S) (xa := zo p) (xb := zo r) (xc := zo x)
  rw [c138 h hw g1 g2] at e
  by_cases c : vB a p
  · rw [if_pos c, zr0, c139 h hw g3 g4 g5 g6] at e
    by_cases c2 : vC a r x
    · rw [if_pos ⟨c, c2⟩]
      obtain ⟨b, rfl⟩ : ∃ b : Nat, p = b := ⟨p.toNat, by omega⟩
      have hS := hS c c2
      have lc := cel_inN c2
      have lc1 := lc.1
      have lc2 := lc.2
      have gB : inN a (a (40 + 10 * b)) := (hw.2.2.2.1 b c.2).1
      have gB1 := gB.1
      have gB2 := gB.2
      rw [Int.toNat_natCast] at hS ⊢
      rw [if_pos c2, zr0, c3 h hw g3 g4 g5 g6, zr1, cAt_in c2, c7 h hw c.2, zr1] at e
      unfold tsV
      by_cases c6 : a (40 + 10 * b + 6) = 0
      · rw [decide_eq_true c6, if_neg (by decide), zc6 h hw c.2, zr1] at e
        rw [if_pos c6]
        by_cases ct : a (40 + 10 * b) = a 0 * x + r
        · rw [if_pos (show zo (a (40 + 10 * b)) = zo (a 0 * x + r) by rw [ct])] at e
          rw [if_pos ct]
          exact CA_v e
        · obtain ⟨S1, g, s1, s2, s3, s4⟩ := c83 (d := d) h hw c.2 lc hK hS
          have h1 : Cb (S1.1 0 0) a := by rw [Ft_0 s4 0]; exact h
          rw [if_neg (show ¬ zo (a (40 + 10 * b)) = zo (a 0 * x + r) by rw [zo_eq (by omega) (by omega) (by omega) (by omega)]; exact ct), s1, zr0, zc6 h1 hw c.2, zr1, c87 h1 hw s2 (wgt_ok hw b) (Sol_Gok hS s3) gB, zr1, stp_cg s3] at e
          rw [if_neg ct]
          exact ⟨S1, e, RC_Ft s4⟩
      · rw [decide_eq_false c6, if_pos (show zo (bI false) = zo 0 from rfl)] at e
        rw [if_neg c6]
        exact CA_v e
    · rw [if_neg c2] at e
      rw [if_neg (fun z => c2 z.2)]
      exact CA_x (t := 0) e
  · rw [if_neg c] at e
    rw [if_neg (fun z => c z.1)]
    exact CA_x (t := 0) e
theorem B219 (h : Md S 0 a) (hw : WF T a) (g1 : -2147483648 ≤ p) (g2 : p < 2147483648) (g3 : -2147483648 ≤ r) (g4 : r < 2147483648) (g5 : -2147483648 ≤ x) (g6 : x < 2147483648) (hS : vB a p → vC a r x → Sol a (wgt a p.toNat) (a 0 * x + r) D) : MA (d + 9) 219 [za 3 0 0, zi (zo p), zi (zo r), zi (zo x)] S (if vB a p ∧ vC a r x then 0 else 1) (tsV a D p.toNat (a 0 * x + r)) := by
  have h0 := Md_mt h 0
  by_cases c : vB a p
  · have d1 : decide (0 ≤ p ∧ p ≤ a 9 - 1) = true := decide_eq_true (by omega)
    by_cases c2 : vC a r x
    · have d2 : decide ((0 ≤ r ∧ r < a 0) ∧ 0 ≤ x ∧ x < a 1) = true := decide_eq_true c2
      rw [if_pos ⟨c, c2⟩]
      obtain ⟨b, rfl⟩ : ∃ b : Nat, p = b := ⟨p.toNat, by omega⟩
      have hS := hS c c2
      rw [Int.toNat_natCast] at hS ⊢
      unfold tsV
      by_cases c6 : a (40 + 10 * b + 6) = 0
      · have d6 : decide (a (40 + 10 * b + 6) = 0) = true := decide_eq_true c6
        rw [if_pos c6]
        obtain ⟨S1, r1, q1⟩ := m217 (d := d) h0 hw c.2 (cel_inN c2) hS
        refine MA_q (S' := S1) ?_ q1
        rw [ze_219]
        simp (maxSteps := 10000000) (disch := omega) only [m157 h hw, d1, m153 h hw, d2, bI_t, m148_1, m164 h0 hw c.2, d6, m154 h0, r1, Bool.true_eq_false, zo_add, zo_sub, zo_mul, zo_neg, zo_lt, zo_le, zo_eq, zo_nn, zin_ok, zlt_eq, zr0, zr1, zr3, zr4, zr0x, zr1x, zr3x, zr4x, zb_and, zb_0, zmin_o, zmax_o, zabs_o, zo_div, zo_mod, ↓reduceIte, Int.reduceToNat, Int.reduceNeg, Int.reduceAdd, Int.reduceMul, Int.reduceSub, Int.reduceEq, Int.reduceLT, Int.reduceLE, if_true, if_false, Nat.reduceAdd, Nat.reduceMul]
      · have d6 : decide (a (40 + 10 * b + 6) = 0) = false := decide_eq_false c6
        rw [if_neg c6]
        refine MA_v ?_
        rw [ze_219]
        simp (maxSteps := 10000000) (disch := omega) only [m157 h hw, d1, m153 h hw, d2, bI_t, bI_f, m148_1, m164 h0 hw c.2, d6, zo_add, zo_sub, zo_mul, zo_neg, zo_lt, zo_le, zo_eq, zo_nn, zin_ok, zlt_eq, zr0, zr1, zr3, zr4, zr0x, zr1x, zr3x, zr4x, zb_and, zb_0, zmin_o, zmax_o, zabs_o, zo_div, zo_mod, ↓reduceIte, Int.reduceToNat, Int.reduceNeg, Int.reduceAdd, Int.reduceMul, Int.reduceSub, Int.reduceEq, Int.reduceLT, Int.reduceLE, if_true, if_false, Nat.reduceAdd, Nat.reduceMul]
    · have d2 : decide ((0 ≤ r ∧ r < a 0) ∧ 0 ≤ x ∧ x < a 1) = false := decide_eq_false c2
      rw [if_neg (fun z => c2 z.2)]
      refine MA_x (t := 0) (w := 0) ?_
      rw [ze_219]
      simp (maxSteps := 10000000) (disch := omega) only [m157 h hw, d1, m153 h hw, d2, bI_t, bI_f, m148_0, zo_add, zo_sub, zo_mul, zo_neg, zo_lt, zo_le, zo_eq, zo_nn, zin_ok, zlt_eq, zr0, zr1, zr3, zr4, zr0x, zr1x, zr3x, zr4x, zb_and, zb_0, zmin_o, zmax_o, zabs_o, zo_div, zo_mod, ↓reduceIte, Int.reduceToNat, Int.reduceNeg, Int.reduceAdd, Int.reduceMul, Int.reduceSub, Int.reduceEq, Int.reduceLT, Int.reduceLE, if_true, if_false, Nat.reduceAdd, Nat.reduceMul]
      rfl
  · have d1 : decide (0 ≤ p ∧ p ≤ a 9 - 1) = false := decide_eq_false (by omega)
    rw [if_neg (fun z => c z.1)]
    refine MA_x (t := 0) (w := 0) ?_
    rw [ze_219]
    simp (maxSteps := 10000000) (disch := omega) only [m157 h hw, d1, bI_f, m148_0, zo_add, zo_sub, zo_mul, zo_neg, zo_lt, zo_le, zo_eq, zo_nn, zin_ok, zlt_eq, zr0, zr1, zr3, zr4, zr0x, zr1x, zr3x, zr4x, zb_and, zb_0, zmin_o, zmax_o, zabs_o, zo_div, zo_mod, ↓reduceIte, Int.reduceToNat, Int.reduceNeg, Int.reduceAdd, Int.reduceMul, Int.reduceSub, Int.reduceEq, Int.reduceLT, Int.reduceLE, if_true, if_false, Nat.reduceAdd, Nat.reduceMul]
    rfl
/-- a dearer start's cell changes nothing that is nearer -/
theorem Sol_mono (hS : Sol a w t D) (hS2 : Sol a w2 t D2) (hle : ∀ c, inN a c → w c ≤ w2 c) (hW : Wok a w) : ∀ (m : Nat) (c : Int), D2 c ≤ m → inN a c → D c ≤ D2 c := by
  intro m
  induction m with
  | zero =>
    intro c hm hc
    have l2 := (hS2.2 c hc).1
    by_cases hct : c = t
    · rw [hct, hS.1, hS2.1]; exact Int.le_refl 0
    · exfalso
      have e := (hS2.2 c hc).2 hct
      have hi := bst_in (a := a) (w := w2) (D := D2) c (by split at e <;> omega)
      rw [thr_in hi] at e
      have := (hS2.2 _ hi).1
      have := hW _ hi
      have := hle _ hi
      split at e <;> omega
  | succ m ih =>
    intro c hm hc
    have l := (hS.2 c hc).1
    by_cases hct : c = t
    · rw [hct, hS.1, hS2.1]; exact Int.le_refl 0
    · have e := (hS2.2 c hc).2 hct
      by_cases z : thr w2 D2 (bst a w2 D2 c) < 1000000
      · rw [if_pos z] at e
        have hi := bst_in (a := a) (w := w2) (D := D2) c (by omega)
        obtain ⟨s, hs, es⟩ := bst_mem (a := a) (w := w2) (D := D2) c
        rw [thr_in hi] at e
        have := hW _ hi
        have := hle _ hi
        have i := ih _ (by omega) hi
        have := Sol_le hS hs hc hi es.symm hct
        omega
      · rw [if_neg z] at e
        omega
theorem Sol_low (hS : Sol a w t D) (hS2 : Sol a w2 t D2) (hle : ∀ c, inN a c → w c ≤ w2 c) (hW : Wok a w) {c0 : Int} (heq : ∀ c, inN a c → c ≠ c0 → w2 c = w c) : ∀ (m : Nat) (c : Int), D c ≤ m → D c < D c0 → D c < 1000000 → inN a c → D2 c = D c := by
  intro m
  induction m with
  | zero =>
    intro c hm h0 hl hc
    have l := (hS.2 c hc).1
    by_cases hct : c = t
    · rw [hct, hS.1, hS2.1]
    · exfalso
      have e := (hS.2 c hc).2 hct
      have hi := bst_in (a := a) (w := w) (D := D) c (by split at e <;> omega)
      rw [thr_in hi] at e
      have := (hS.2 _ hi).1
      have := hW _ hi
      split at e <;> omega
  | succ m ih =>
    intro c hm h0 hl hc
    have l := (hS.2 c hc).1
    by_cases hct : c = t
    · rw [hct, hS.1, hS2.1]
    · have e := (hS.2 c hc).2 hct
      have hi := bst_in (a := a) (w := w) (D := D) c (by split at e <;> omega)
      obtain ⟨s, hs, es⟩ := bst_mem (a := a) (w := w) (D := D) c
      rw [thr_in hi] at e
      have wi := hW _ hi
      have i := ih (bst a w D c) (by split at e <;> omega) (by split at e <;> omega) (by split at e <;> omega) hi
      have ne : bst a w D c ≠ c0 := fun z => by rw [z] at e wi; split at e <;> omega
      have ew := heq _ hi ne
      have u := Sol_le hS2 hs hc hi es.symm hct
      have := Sol_mono hS hS2 hle hW (D2 c).toNat c (by have := (hS2.2 c hc).1; omega) hc
      split at e <;> omega
theorem nea_st {m : Int} {p p2 q : Int} (hp : m ≤ thr w D p) (hq : m ≤ thr w D q) (iq : thr w D q = m → thr w2 D2 q = m) (lq : m < thr w D q → m < thr w2 D2 q) (i1 : thr w D p = m → p2 = p ∧ thr w2 D2 p2 = m) (i2 : m < thr w D p → m < thr w2 D2 p2) : (m ≤ thr w D (nea w D p q)) ∧ (thr w D (nea w D p q) = m → nea w2 D2 p2 q = nea w D p q ∧ thr w2 D2 (nea w2 D2 p2 q) = m) ∧ (m < thr w D (nea w D p q) → m < thr w2 D2 (nea w2 D2 p2 q)) := by
  unfold nea
  by_cases e : thr w D p = m
  · have z := i1 e
    have lq2 : m ≤ thr w2 D2 q := by
      by_cases y : thr w D q = m
      · rw [iq y]; exact Int.le_refl _
      · have := lq (by omega); omega
    rw [if_neg (show ¬ thr w D q < thr w D p by omega), if_neg (show ¬ thr w2 D2 q < thr w2 D2 p2 by omega)]
    exact ⟨hp, fun _ => z, fun y => by omega⟩
  · have z := i2 (by omega)
    by_cases y : thr w D q = m
    · have y2 := iq y
      rw [if_pos (show thr w D q < thr w D p by omega), if_pos (show thr w2 D2 q < thr w2 D2 p2 by omega)]
      exact ⟨hq, fun _ => ⟨rfl, y2⟩, fun y3 => by omega⟩
    · have y2 := lq (by omega)
      refine ⟨by split <;> omega, fun y3 => ?_, fun _ => by split <;> omega⟩
      split at y3 <;> omega
theorem bst_st (hS : Sol a w t D) (hS2 : Sol a w2 t D2) (hle : ∀ c, inN a c → w c ≤ w2 c) (hW : Wok a w) {c0 : Int} (heq : ∀ c, inN a c → c ≠ c0 → w2 c = w c) {c : Int} (hc : inN a c) (hct : c ≠ t) (h0 : D c < D c0 ∨ (c = c0)) (hl : D c < 1000000) (h00 : c = c0 → ∀ e, inN a e → w2 e = w e) : stp a w2 D2 c = stp a w D c := by
  have e := (hS.2 c hc).2 hct
  have z : thr w D (bst a w D c) < 1000000 := by split at e <;> omega
  rw [if_pos z] at e
  have side : ∀ s, s < 4 → (D c ≤ thr w D (nb4 a c s)) ∧ (thr w D (nb4 a c s) = D c → thr w2 D2 (nb4 a c s) = D c) ∧ (D c < thr w D (nb4 a c s) → D c < thr w2 D2 (nb4 a c s)) := by
    intro s hs
    have l := bst_le (a := a) (w := w) (D := D) c hs
    refine ⟨by omega, fun y => ?_, fun y => ?_⟩
    · rcases nb4_rng a c s with q | q
      · rw [q] at y; unfold thr at y; rw [if_pos rfl] at y; omega
      · have wi := hW _ q
        rw [thr_in q] at y ⊢
        have lo : D (nb4 a c s) < D c0 := by
          rcases h0 with h0 | h0
          · omega
          · rw [← h0]; omega
        have dd := (hS.2 _ q).1
        rw [Sol_low hS hS2 hle hW heq (D (nb4 a c s)).toNat _ (by omega) lo (by omega) q]
        rcases h0 with h0 | h0
        · rw [heq _ q (fun y2 => by rw [y2] at lo; omega)]; exact y
        · rw [h00 h0 _ q]; exact y
    · rcases nb4_rng a c s with q | q
      · rw [q] at y ⊢; unfold thr at y ⊢; rw [if_pos rfl] at y ⊢; exact y
      · rw [thr_in q] at y ⊢
        have := hle _ q
        have := Sol_mono hS hS2 hle hW (D2 (nb4 a c s)).toNat _ (by have := (hS2.2 _ q).1; omega) q
        omega
  have s0 := side 0 (by omega)
  have s1 := side 1 (by omega)
  have s2 := side 2 (by omega)
  have s3 := side 3 (by omega)
  have k1 := nea_st s0.1 s1.1 s1.2.1 s1.2.2 (fun y => ⟨rfl, s0.2.1 y⟩) s0.2.2
  have k2 := nea_st k1.1 s2.1 s2.2.1 s2.2.2 k1.2.1 k1.2.2
  have k3 := nea_st k2.1 s3.1 s3.2.1 s3.2.2 k2.2.1 k2.2.2
  have k4 : bst a w2 D2 c = bst a w D c ∧ thr w2 D2 (bst a w2 D2 c) = D c := k3.2.1 e.symm
  unfold stp
  rw [if_pos (by omega), if_pos z, k4.1]
end CY

/-! THE PURE SIDE 22: more questions -/
def sgn (a : Rw) (c : Int) : Int := if occ a c (-1) = -1 then (if drIn a c = -1 then (if tpIn a c = -1 then (if a (160 + c.toNat) ≤ 0 then 46 else 42) else 43) else if wks a (drIn a c).toNat = false then 111 else 79) else 97 + occ a c (-1)
def dist2 (a : Rw) (c d : Int) : Int := iab (c % a 0 - d % a 0) + iab (c / a 0 - d / a 0)
def nstF (a : Rw) (c : Int) : Nat → Int × Int
  | 0 => (-1, 1000000)
  | k + 1 => if a (40 + 10 * k + 6) = 0 ∧ dist2 a (a (40 + 10 * k)) c < (nstF a c k).2 then ((k : Int), dist2 a (a (40 + 10 * k)) c) else nstF a c k
def rsv (a : Rw) (b : Int) : Int := a (40 + 10 * b.toNat + 2) - a (40 + 10 * b.toNat + 3)
def sftF (a : Rw) : Nat → Int
  | 0 => -1
  | k + 1 => if a (40 + 10 * k + 6) = 0 ∧ (sftF a k = -1 ∨ rsv a k < rsv a (sftF a k)) then (k : Int) else sftF a k
def sftG (a : Rw) : Nat → Nat → Int
  | 0, _ => -1
  | m + 1, k => if a (40 + 10 * k + 6) = 0 ∧ (sftG a m (k + 1) = -1 ∨ rsv a k ≤ rsv a (sftG a m (k + 1))) then (k : Int) else sftG a m (k + 1)
def sftC (a : Rw) (x y : Int) : Int := if x = -1 then y else if y = -1 then x else if rsv a y < rsv a x then y else x
theorem sftF_ge (a : Rw) : ∀ k, sftF a k = -1 ∨ (0 ≤ sftF a k ∧ sftF a k < k) := by
  intro k
  induction k with
  | zero => exact Or.inl rfl
  | succ k ih => unfold sftF; split <;> omega
theorem sftG_ge (a : Rw) : ∀ m k, sftG a m k = -1 ∨ (k ≤ sftG a m k ∧ sftG a m k < k + m) := by
  intro m
  induction m with
  | zero => intro k; exact Or.inl rfl
  | succ m ih => intro k; unfold sftG; have := ih (k + 1); split <;> omega
theorem sft_FG (a : Rw) : ∀ m k n, k + m = n → sftC a (sftF a k) (sftG a m k) = sftF a n := by
  intro m
  induction m with
  | zero =>
    intro k n h
    rw [show n = k by omega]
    unfold sftC
    rw [show sftG a 0 k = -1 from rfl, if_pos rfl]
    split <;> omega
  | succ m ih =>
    intro k n h
    rw [← ih (k + 1) n (by omega)]
    have gF := sftF_ge a k
    have gG := sftG_ge a m (k + 1)
    rw [show sftG a (m + 1) k = if a (40 + 10 * k + 6) = 0 ∧ (sftG a m (k + 1) = -1 ∨ rsv a k ≤ rsv a (sftG a m (k + 1))) then (k : Int) else sftG a m (k + 1) from rfl,
      show sftF a (k + 1) = if a (40 + 10 * k + 6) = 0 ∧ (sftF a k = -1 ∨ rsv a k < rsv a (sftF a k)) then (k : Int) else sftF a k from rfl]
    generalize sftF a k = x at *
    generalize sftG a m (k + 1) = y at *
    by_cases c : a (40 + 10 * k + 6) = 0
    · by_cases c1 : y = -1 ∨ rsv a k ≤ rsv a y
      · have e1 : (if a (40 + 10 * k + 6) = 0 ∧ (y = -1 ∨ rsv a k ≤ rsv a y) then (k : Int) else y) = k := if_pos ⟨c, c1⟩
        rw [e1]
        by_cases c2 : x = -1 ∨ rsv a k < rsv a x
        · have e2 : (if a (40 + 10 * k + 6) = 0 ∧ (x = -1 ∨ rsv a k < rsv a x) then (k : Int) else x) = k := if_pos ⟨c, c2⟩
          rw [e2]
          unfold sftC
          split <;> (try split) <;> (try split) <;> (try split) <;> (try split) <;> omega
        · have e2 : (if a (40 + 10 * k + 6) = 0 ∧ (x = -1 ∨ rsv a k < rsv a x) then (k : Int) else x) = x := if_neg (fun z => c2 z.2)
          rw [e2]
          unfold sftC
          split <;> (try split) <;> (try split) <;> (try split) <;> (try split) <;> omega
      · have e1 : (if a (40 + 10 * k + 6) = 0 ∧ (y = -1 ∨ rsv a k ≤ rsv a y) then (k : Int) else y) = y := if_neg (fun z => c1 z.2)
        rw [e1]
        by_cases c2 : x = -1 ∨ rsv a k < rsv a x
        · have e2 : (if a (40 + 10 * k + 6) = 0 ∧ (x = -1 ∨ rsv a k < rsv a x) then (k : Int) else x) = k := if_pos ⟨c, c2⟩
          rw [e2]
          unfold sftC
          split <;> (try split) <;> (try split) <;> (try split) <;> (try split) <;> omega
        · have e2 : (if a (40 + 10 * k + 6) = 0 ∧ (x = -1 ∨ rsv a k < rsv a x) then (k : Int) else x) = x := if_neg (fun z => c2 z.2)
          rw [e2]
    · have e1 : (if a (40 + 10 * k + 6) = 0 ∧ (y = -1 ∨ rsv a k ≤ rsv a y) then (k : Int) else y) = y := if_neg (fun z => c z.1)
      have e2 : (if a (40 + 10 * k + 6) = 0 ∧ (x = -1 ∨ rsv a k < rsv a x) then (k : Int) else x) = x := if_neg (fun z => c z.1)
      rw [e1, e2]
theorem sft_eq (a : Rw) (n : Nat) : sftG a n 0 = sftF a n := by
  rw [← sft_FG a n 0 n (by omega)]
  unfold sftC
  rw [show sftF a 0 = -1 from rfl, if_pos rfl]
/-- the strongest cell among the first k -/
def stgF (a : Rw) : Nat → Int
  | 0 => -1
  | k + 1 => if stgF a k = -1 then (k : Int) else if Op.cmpValue (FP.fcmp (frc a k) (frc a (stgF a k))) .l ≤ zo 0 then stgF a k else (k : Int)
theorem stgF_rng (a : Rw) : ∀ k, 0 < k → 0 ≤ stgF a k ∧ stgF a k < k := by
  intro k
  induction k with
  | zero => intro h; omega
  | succ k ih =>
    intro _
    unfold stgF
    by_cases c : k = 0
    · subst c; rw [show stgF a 0 = -1 from rfl, if_pos rfl]; omega
    · have := ih (by omega)
      rw [if_neg (by omega)]
      split <;> omega
section CN
variable {S : zS} {n d : Nat} {a : Rw} {T p r : Int}
theorem A101 (h : Cb (S.1 0 0) a) (hw : WF T a) (g1 : -2147483648 ≤ p) (g2 : p < 2147483648) (g3 : -2147483648 ≤ r) (g4 : r < 2147483648) {q : Int} (hq : q = 0 ∨ q = 1) : ∃ S', zr_sem zF (d + 4) 101 [za 1 0 0, zi (zo p), zi (zo r), zi (zo q)] S = some (if vC a p r then .inl (some (zf (fl a (a 0 * r + p) (1 - q)))) else .inr 1, S') ∧ RC S S' := by
  have uN := WF_nc hw
  by_cases c : vC a p r
  · have l := cel_lt c
    have m := cel_mod c
    have e := c36 (d := d) h hw l.1 l.2
    rw [m.1, m.2] at e
    refine ⟨_, ?_, RC_fl S (fl a (a 0 * r + p) 0) (fl a (a 0 * r + p) 1)⟩
    rw [if_pos c, ze_101, c139 h hw g1 g2 g3 g4, if_pos c, zr0, e, zr0]
    rcases hq with z | z <;> subst z <;> rfl
  · refine ⟨_, ?_, RC_n S⟩
    rw [if_neg c, ze_101, c139 h hw g1 g2 g3 g4, if_neg c]; rfl
theorem B203 (h : Md S 0 a) (hw : WF T a) (g1 : -2147483648 ≤ p) (g2 : p < 2147483648) (g3 : -2147483648 ≤ r) (g4 : r < 2147483648) {q : Int} (hq : q = 0 ∨ q = 1) : zr_sem zF (d + 6) 203 [za 3 0 0, zi (zo p), zi (zo r), zi (zo q)] S = if vC a p r then some (.inl (some (zf (fl a (a 0 * r + p) (1 - q)))), mt S 0) else some (.inl (some (zf FP.fconst0)), mt S 1) := by
  have uN := WF_nc hw
  have h0 := Md_mt h 0
  by_cases c : vC a p r
  · have l := cel_lt c
    have e1 : decide ((0 ≤ p ∧ p < a 0) ∧ 0 ≤ r ∧ r < a 1) = true := decide_eq_true c
    rw [if_pos c, ze_203, m153 h hw g1 g2 g3 g4, e1, zr1, m148_b, zr1]
    rcases hq with z | z <;> subst z <;> simp (maxSteps := 10000000) (disch := omega) only [Bool.not_true, bI_f, m154 h0, m177 h0 hw l.1 l.2 (Or.inl rfl), m177 h0 hw l.1 l.2 (Or.inr rfl), zo_add, zo_sub, zo_mul, zo_neg, zo_lt, zo_le, zo_eq, zo_nn, zin_ok, zlt_eq, zr0, zr1, zr3, zr4, zr0x, zr1x, zr3x, zr4x, zb_and, zb_0, zmin_o, zmax_o, zabs_o, zo_div, zo_mod, ↓reduceIte, Int.reduceToNat, Int.reduceNeg, Int.reduceAdd, Int.reduceMul, Int.reduceSub, Int.reduceEq, Int.reduceLT, Int.reduceLE, if_true, if_false, Nat.reduceAdd, Nat.reduceMul]
  · have e1 : decide ((0 ≤ p ∧ p < a 0) ∧ 0 ≤ r ∧ r < a 1) = false := decide_eq_false c
    rw [if_neg c, ze_203, m153 h hw g1 g2 g3 g4, e1, zr1, m148_b, zr1]
    rfl
theorem gro_z (a : Rw) (b : Nat) (dir : Int) : zo (gro a b dir).toInt = gro a b dir := Int32.ofInt_toInt _
theorem A102 (h : Cb (S.1 0 0) a) (hw : WF T a) (g1 : -2147483648 ≤ p) (g2 : p < 2147483648) {q : Int} (hq : q = 0 ∨ q = 1) : CA (d + 4) 102 [za 1 0 0, zi (zo p), zi (zo q)] S (if vB a p then 0 else 1) (if a (40 + 10 * p.toNat + 6) = 0 ∧ a 2 ≠ 0 then (gro a p.toNat (1 - q)).toInt else 0) := by
  have n8 := h.2.1.2.2.1
  have u2 := hw.1.2.2.1
  by_cases c : vB a p
  · obtain ⟨b, rfl⟩ : ∃ b : Nat, p = b := ⟨p.toNat, by omega⟩
    have gB := hw.2.2.2.1 b c.2
    rw [if_pos c, Int.toNat_natCast]
    have e := ze_102 (d := d + 3) (S := S) (xa := zo b) (xb := zo q)
    rw [c138 h hw g1 g2, if_pos c, zr0, c7 h hw c.2, zr1, n8] at e
    by_cases c6 : a (40 + 10 * b + 6) = 0
    · rw [decide_eq_true c6, if_neg (show ¬ zo (bI true) = zo 0 by decide)] at e
      by_cases c2 : a 2 = 0
      · rw [c2, if_pos (show zo 0 = zo 0 from rfl)] at e
        rw [if_neg (fun z => z.2 c2)]
        exact CA_v e
      · rw [if_neg (zo_nz (by omega) (by omega) c2)] at e
        rw [if_pos ⟨c6, c2⟩]
        rw [c67b_0 h hw c.2, zr1, c67b_1 h hw c.2, zr1, c36 h hw gB.1.1 gB.1.2, zr0] at e
        refine ⟨_, e.trans ?_, RC_fl S (fl a (a (40 + 10 * b)) 0) (fl a (a (40 + 10 * b)) 1)⟩
        unfold zans
        rw [if_pos rfl, gro_z]
        rcases hq with z | z <;> subst z
        · rw [if_pos rfl, c49y h hw c.2 c2, zr1]; rfl
        · rw [if_neg (by decide), c49x h hw c.2 c2, zr1]; rfl
    · rw [decide_eq_false c6, if_pos (show zo (bI false) = zo 0 from rfl)] at e
      rw [if_neg (fun z => c6 z.1)]
      exact CA_v e
  · rw [if_neg c]
    refine CA_x (t := 0) ?_
    rw [ze_102, c138 h hw g1 g2, if_neg c]; rfl
theorem B204 (h : Md S 0 a) (hw : WF T a) (g1 : -2147483648 ≤ p) (g2 : p < 2147483648) {q : Int} (hq : q = 0 ∨ q = 1) : MA (d + 7) 204 [za 3 0 0, zi (zo p), zi (zo q)] S (if vB a p then 0 else 1) (if a (40 + 10 * p.toNat + 6) = 0 ∧ a 2 ≠ 0 then (gro a p.toNat (1 - q)).toInt else 0) := by
  have u9 := hw.1.2.2.2.2.2.2.2.2.2
  have u2 := hw.1.2.2.1
  have h0 := Md_mt h 0
  by_cases c : vB a p
  · have e1 : decide (0 ≤ p ∧ p ≤ a 9 - 1) = true := decide_eq_true (by omega)
    obtain ⟨b, rfl⟩ : ∃ b : Nat, p = b := ⟨p.toNat, by omega⟩
    rw [if_pos c, Int.toNat_natCast]
    refine MA_v ?_
    have h1 := h0.1
    have hq2 := h0.2.1
    have r2 := h0.2.2 2 (by omega)
    rw [ze_204, m157 h hw g1 g2, e1, zr1, m148_b, zr1]
    by_cases c2 : a 2 = 0
    · have eV : (if a (40 + 10 * b + 6) = 0 ∧ a 2 ≠ 0 then (gro a b (1 - q)).toInt else 0) = 0 := if_neg (fun z => z.2 c2)
      rw [eV]
      simp (maxSteps := 10000000) (disch := omega) only [Bool.not_true, bI_f, m164 h0 hw c.2, h1, hq2, r2, c2, zo_add, zo_sub, zo_mul, zo_neg, zo_lt, zo_le, zo_eq, zo_nn, zin_ok, zlt_eq, zr0, zr1, zr3, zr4, zr0x, zr1x, zr3x, zr4x, zb_and, zb_0, zmin_o, zmax_o, zabs_o, zo_div, zo_mod, ↓reduceIte, Int.reduceToNat, Int.reduceNeg, Int.reduceAdd, Int.reduceMul, Int.reduceSub, Int.reduceEq, Int.reduceLT, Int.reduceLE, if_true, if_false, Nat.reduceAdd, Nat.reduceMul]
      split <;> rfl
    · simp (maxSteps := 10000000) (disch := omega) only [Bool.not_true, bI_f, m164 h0 hw c.2, h1, hq2, r2, m179 h0 hw c.2 c2 (Or.inl rfl), m179 h0 hw c.2 c2 (Or.inr rfl), zo_add, zo_sub, zo_mul, zo_neg, zo_lt, zo_le, zo_eq, zo_nn, zin_ok, zlt_eq, zr0, zr1, zr3, zr4, zr0x, zr1x, zr3x, zr4x, zb_and, zb_0, zmin_o, zmax_o, zabs_o, zo_div, zo_mod, ↓reduceIte, Int.reduceToNat, Int.reduceNeg, Int.reduceAdd, Int.reduceMul, Int.reduceSub, Int.reduceEq, Int.reduceLT, Int.reduceLE, if_true, if_false, Nat.reduceAdd, Nat.reduceMul]
      by_cases c6 : a (40 + 10 * b + 6) = 0
      · have eV : (if a (40 + 10 * b + 6) = 0 ∧ a 2 ≠ 0 then (gro a b (1 - q)).toInt else 0) = (gro a b (1 - q)).toInt := if_pos ⟨c6, c2⟩
        rw [eV, gro_z, decide_eq_true c6]
        simp only [Bool.true_eq_false, if_false]
        rcases hq with z | z <;> subst z <;> simp [c2]
      · have eV : (if a (40 + 10 * b + 6) = 0 ∧ a 2 ≠ 0 then (gro a b (1 - q)).toInt else 0) = 0 := if_neg (fun z => c6 z.1)
        rw [eV, decide_eq_false c6]
        simp only [if_true]
  · have e1 : decide (0 ≤ p ∧ p ≤ a 9 - 1) = false := decide_eq_false (by omega)
    rw [if_neg c]
    refine MA_x (t := 0) (w := 0) ?_
    rw [ze_204, m157 h hw g1 g2, e1, zr1, m148_b, zr1]
    rfl
theorem c103_20 (hw : WF T a) {y : Nat} (hy : (y : Int) < a 1) : ∀ (m x f : Nat) (S : zS), ((x + m : Nat) : Int) = a 0 → m < f → Cb (S.1 0 0) a → ∃ S' f', f ≤ f' + (m + 1) ∧ zy zF (d + 4) 103 f 20 [some (za 1 0 0), some (zi (zo (stgF a (a 0 * y + x).toNat))), some (zf (if (a 0 * y + x).toNat = 0 then FP.fconst0 else frc a (stgF a (a 0 * y + x).toNat))), some (zi (zo y)), some (zi (zo x)), none] S = zy zF (d + 4) 103 f' 6 [some (za 1 0 0), some (zi (zo (stgF a (a 0 * ((y : Int) + 1)).toNat))), some (zf (frc a (stgF a (a 0 * ((y : Int) + 1)).toNat))), some (zi (zo ((y : Int) + 1))), none, none] S' ∧ RC S S' ∧ Cb (S'.1 0 0) a := by
  have uN := WF_nc hw
  have u0 := hw.1.1
  have u1 := hw.1.2.1
  intro m
  induction m with
  | zero =>
    intro x f S hx hf h
    obtain ⟨f, rfl⟩ : ∃ f', f = f' + 1 := ⟨f - 1, by omega⟩
    have n6 := h.2.1.1
    refine ⟨S, f, by omega, ?_, RC_refl S, h⟩
    rw [ze_103_20]
    simp (maxSteps := 10000000) (disch := omega) only [n6, zo_add, zo_sub, zo_mul, zo_neg, zo_lt, zo_le, zo_eq, zo_nn, zin_ok, zlt_eq, zr0, zr1, zr3, zr4, zr0x, zr1x, zr3x, zr4x, zb_and, zb_0, zmin_o, zmax_o, zabs_o, zo_div, zo_mod, ↓reduceIte, Int.reduceToNat, Int.reduceNeg, Int.reduceAdd, Int.reduceMul, Int.reduceSub, Int.reduceEq, Int.reduceLT, Int.reduceLE, if_true, if_false, Nat.reduceAdd, Nat.reduceMul]
    have : 0 ≤ a 0 * (y : Int) := Int.mul_nonneg (by omega) (by omega)
    rw [if_pos (by omega), show a 0 * ((y : Int) + 1) = a 0 * y + x by rw [Int.mul_add]; omega, if_neg (show ¬ (a 0 * (y : Int) + x).toNat = 0 by omega)]
  | succ m ih =>
    intro x f S hx hf h
    obtain ⟨f, rfl⟩ : ∃ f', f = f' + 1 := ⟨f - 1, by omega⟩
    have n6 := h.2.1.1
    have hc : (0 ≤ (x : Int) ∧ (x : Int) < a 0) ∧ (0 ≤ (y : Int) ∧ (y : Int) < a 1) := by omega
    have gc := cel_lt hc
    obtain ⟨k, hk⟩ : ∃ k : Nat, a 0 * (y : Int) + x = k := ⟨(a 0 * (y : Int) + x).toNat, by omega⟩
    have kxy := xy_of hw hc hk.symm
    have ek : cAt a x y = k := by rw [cAt_in hc, hk]
    have e38 := c38 (d := d) h hw (c := (k : Int)) (by omega) (by omega)
    rw [kxy.1, kxy.2] at e38
    have en : (a 0 * (y : Int) + ((x + 1 : Nat) : Int)).toNat = k + 1 := by omega
    have hS1 : Cb ((zfl S (fl a k 0) (fl a k 1)).1 0 0) a := h
    obtain ⟨S2, f2, q1, q2, q3, q4⟩ := ih (x + 1) f _ (by omega) (by omega) hS1
    refine ⟨S2, f2, by omega, ?_, RC_trans (RC_fl S (fl a k 0) (fl a k 1)) q3, q4⟩
    rw [← q2, en, hk, Int.toNat_natCast, ze_103_20]
    rw [if_neg (show ¬ k + 1 = 0 by omega)]
    simp (maxSteps := 10000000) (disch := omega) only [n6, e38, c3 hS1 hw, ek, zo_add, zo_sub, zo_mul, zo_neg, zo_lt, zo_le, zo_eq, zo_nn, zin_ok, zlt_eq, zr0, zr1, zr3, zr4, zr0x, zr1x, zr3x, zr4x, zb_and, zb_0, zmin_o, zmax_o, zabs_o, zo_div, zo_mod, ↓reduceIte, Int.reduceToNat, Int.reduceNeg, Int.reduceAdd, Int.reduceMul, Int.reduceSub, Int.reduceEq, Int.reduceLT, Int.reduceLE, if_true, if_false, Nat.reduceAdd, Nat.reduceMul]
    rw [if_neg (show ¬ a 0 ≤ (x : Int) by omega)]
    rw [show stgF a (k + 1) = if stgF a k = -1 then (k : Int) else if Op.cmpValue (FP.fcmp (frc a k) (frc a (stgF a k))) .l ≤ zo 0 then stgF a k else (k : Int) from rfl]
    have gk : stgF a k = -1 ∨ (0 ≤ stgF a k ∧ stgF a k < k) := by
      by_cases z : k = 0
      · subst z; exact Or.inl rfl
      · exact Or.inr (stgF_rng a k (by omega))
    by_cases z : k = 0
    · subst z
      rw [show stgF a 0 = -1 from rfl]
      rfl
    · have := stgF_rng a k (by omega)
      rw [if_neg z, if_neg (show ¬ stgF a k = -1 by omega)]
      have hne : ¬ zo (stgF a k) = zo (-1) := by rw [zo_eq (by omega) (by omega) (by omega) (by omega)]; omega
      rw [if_neg hne]
      by_cases c : Op.cmpValue (FP.fcmp (frc a k) (frc a (stgF a k))) .l ≤ zo 0
      · simp only [if_pos c]; rfl
      · simp only [if_neg c]; rfl
theorem c103_6 (hw : WF T a) : ∀ (m y f : Nat) (S : zS), ((y + m : Nat) : Int) = a 1 → 0 < y → 12 * m + 1 < f → Cb (S.1 0 0) a → ∃ S', zy zF (d + 4) 103 f 6 [some (za 1 0 0), some (zi (zo (stgF a (a 0 * (y : Int)).toNat))), some (zf (frc a (stgF a (a 0 * (y : Int)).toNat))), some (zi (zo y)), none, none] S = some (.inl (some (zi (zo (stgF a (a 0 * a 1).toNat)))), S') ∧ RC S S' := by
  have uN := WF_nc hw
  have u0 := hw.1.1
  have u1 := hw.1.2.1
  intro m
  induction m with
  | zero =>
    intro y f S hx h0 hf h
    obtain ⟨f, rfl⟩ : ∃ f', f = f' + 1 := ⟨f - 1, by omega⟩
    have n7 := h.2.1.2.1
    refine ⟨S, ?_, RC_refl S⟩
    rw [ze_103_6]
    simp (maxSteps := 10000000) (disch := omega) only [n7, zo_add, zo_sub, zo_mul, zo_neg, zo_lt, zo_le, zo_eq, zo_nn, zin_ok, zlt_eq, zr0, zr1, zr3, zr4, zr0x, zr1x, zr3x, zr4x, zb_and, zb_0, zmin_o, zmax_o, zabs_o, zo_div, zo_mod, ↓reduceIte, Int.reduceToNat, Int.reduceNeg, Int.reduceAdd, Int.reduceMul, Int.reduceSub, Int.reduceEq, Int.reduceLT, Int.reduceLE, if_true, if_false, Nat.reduceAdd, Nat.reduceMul]
    rw [if_pos (by omega), show (y : Int) = a 1 by omega]
  | succ m ih =>
    intro y f S hx h0 hf h
    obtain ⟨f, rfl⟩ : ∃ f', f = f' + 1 := ⟨f - 1, by omega⟩
    have n7 := h.2.1.2.1
    obtain ⟨S1, f1, q1, q2, q3, q4⟩ := c103_20 (d := d) hw (y := y) (by omega) (a 0).toNat 0 f S (by omega) (by omega) h
    obtain ⟨S2, p1, p2⟩ := ih (y + 1) f1 S1 (by omega) (by omega) (by omega) q4
    refine ⟨S2, ?_, RC_trans q3 p2⟩
    rw [ze_103_6]
    simp (maxSteps := 10000000) (disch := omega) only [n7, zo_add, zo_sub, zo_mul, zo_neg, zo_lt, zo_le, zo_eq, zo_nn, zin_ok, zlt_eq, zr0, zr1, zr3, zr4, zr0x, zr1x, zr3x, zr4x, zb_and, zb_0, zmin_o, zmax_o, zabs_o, zo_div, zo_mod, ↓reduceIte, Int.reduceToNat, Int.reduceNeg, Int.reduceAdd, Int.reduceMul, Int.reduceSub, Int.reduceEq, Int.reduceLT, Int.reduceLE, if_true, if_false, Nat.reduceAdd, Nat.reduceMul]
    have m1 : a 0 * 1 ≤ a 0 * (y : Int) := Int.mul_le_mul_of_nonneg_left (by omega) (by omega)
    rw [show a 0 * (y : Int) + ((0 : Nat) : Int) = a 0 * y by omega, if_neg (show ¬ (a 0 * (y : Int)).toNat = 0 by omega)] at q2
    rw [if_neg (by omega)]
    exact q2.trans p1
theorem A103 (h : Cb (S.1 0 0) a) (hw : WF T a) : CA (d + 5) 103 [za 1 0 0] S 0 (stgF a (a 0 * a 1).toNat) := by
  have hb := zF1_big
  have u0 := hw.1.1
  have u1 := hw.1.2.1
  have n7 := h.2.1.2.1
  obtain ⟨f, hf⟩ : ∃ f', zF1 = f' + 1 := ⟨zF1 - 1, by omega⟩
  obtain ⟨S1, f1, q1, q2, q3, q4⟩ := c103_20 (d := d) hw (y := 0) (by omega) (a 0).toNat 0 f S (by omega) (by omega) h
  obtain ⟨S2, p1, p2⟩ := c103_6 (d := d) hw (a 1 - 1).toNat 1 f1 S1 (by omega) (by omega) (by omega) q4
  refine ⟨S2, ?_, RC_trans q3 p2⟩
  rw [ze_103, hf, ze_103_6]
  simp (maxSteps := 10000000) (disch := omega) only [n7, zo_add, zo_sub, zo_mul, zo_neg, zo_lt, zo_le, zo_eq, zo_nn, zin_ok, zlt_eq, zr0, zr1, zr3, zr4, zr0x, zr1x, zr3x, zr4x, zb_and, zb_0, zmin_o, zmax_o, zabs_o, zo_div, zo_mod, ↓reduceIte, Int.reduceToNat, Int.reduceNeg, Int.reduceAdd, Int.reduceMul, Int.reduceSub, Int.reduceEq, Int.reduceLT, Int.reduceLE, if_true, if_false, Nat.reduceAdd, Nat.reduceMul]
  rw [if_neg (by omega)]
  rw [show a 0 * ((0 : Nat) : Int) + ((0 : Nat) : Int) = 0 by simp] at q2
  exact q2.trans p1
theorem m205_l (h : Md S 0 a) (hw : WF T a) : ∀ (m k f : Nat), k + m = (a 0 * a 1).toNat → 0 < k → m < f → zy zF (d + 6) 205 f 9 [some (za 3 0 0), some (zi (zo (stgF a k))), some (zi (zo k))] S = some (.inl (some (zi (zo (stgF a (a 0 * a 1).toNat)))), S) := by
  have uN := WF_nc hw
  intro m
  induction m with
  | zero =>
    intro k f hk h0 hf
    obtain ⟨f, rfl⟩ : ∃ f', f = f' + 1 := ⟨f - 1, by omega⟩
    rw [ze_205_9]
    simp (maxSteps := 10000000) (disch := omega) only [m152 h, zo_add, zo_sub, zo_mul, zo_neg, zo_lt, zo_le, zo_eq, zo_nn, zin_ok, zlt_eq, zr0, zr1, zr3, zr4, zr0x, zr1x, zr3x, zr4x, zb_and, zb_0, zmin_o, zmax_o, zabs_o, zo_div, zo_mod, ↓reduceIte, Int.reduceToNat, Int.reduceNeg, Int.reduceAdd, Int.reduceMul, Int.reduceSub, Int.reduceEq, Int.reduceLT, Int.reduceLE, if_true, if_false, Nat.reduceAdd, Nat.reduceMul]
    rw [if_pos (by omega), show k = (a 0 * a 1).toNat by omega]
  | succ m ih =>
    intro k f hk h0 hf
    obtain ⟨f, rfl⟩ : ∃ f', f = f' + 1 := ⟨f - 1, by omega⟩
    have g := stgF_rng a k h0
    have i := ih (k + 1) f (by omega) (by omega) (by omega)
    rw [show ((k + 1 : Nat) : Int) = (k : Int) + 1 from rfl] at i
    rw [show stgF a (k + 1) = if stgF a k = -1 then (k : Int) else if Op.cmpValue (FP.fcmp (frc a k) (frc a (stgF a k))) .l ≤ zo 0 then stgF a k else (k : Int) from rfl, if_neg (show ¬ stgF a k = -1 by omega)] at i
    rw [ze_205_9]
    simp (maxSteps := 10000000) (disch := omega) only [m152 h, m178 h hw (c := (k : Int)) (by omega) (by omega), m178 h hw (c := stgF a k) (by omega) (by omega), zo_add, zo_sub, zo_mul, zo_neg, zo_lt, zo_le, zo_eq, zo_nn, zin_ok, zlt_eq, zr0, zr1, zr3, zr4, zr0x, zr1x, zr3x, zr4x, zb_and, zb_0, zmin_o, zmax_o, zabs_o, zo_div, zo_mod, ↓reduceIte, Int.reduceToNat, Int.reduceNeg, Int.reduceAdd, Int.reduceMul, Int.reduceSub, Int.reduceEq, Int.reduceLT, Int.reduceLE, if_true, if_false, Nat.reduceAdd, Nat.reduceMul]
    rw [if_neg (by omega)]
    by_cases c : Op.cmpValue (FP.fcmp (frc a k) (frc a (stgF a k))) .l ≤ zo 0
    · rw [if_pos c] at i ⊢; exact i
    · rw [if_neg c] at i ⊢; exact i
theorem B205 (h : Md S 0 a) (hw : WF T a) : MA (d + 7) 205 [za 3 0 0] S 0 (stgF a (a 0 * a 1).toNat) := by
  have hb := zF1_big
  have uN := WF_nc hw
  have h0 := Md_mt h 0
  have l := m205_l (d := d) h0 hw ((a 0 * a 1).toNat - 1) 1 zF1 (by omega) (by omega) (by omega)
  have e := ze_205 (d := d + 6) (S := S)
  rw [mt_def] at e
  exact MA_v (e.trans l)
theorem dist2_b (hw : WF T a) {c e : Int} (h1 : 0 ≤ c) (h2 : c < a 0 * a 1) (h3 : 0 ≤ e) (h4 : e < a 0 * a 1) : 0 ≤ dist2 a c e ∧ dist2 a c e ≤ 20 := by
  have g1 := col_rng hw h1 h2
  have g2 := col_rng hw h3 h4
  have u0 := hw.1.1
  have u1 := hw.1.2.1
  have i1 := iab_b (c % a 0 - e % a 0)
  have i2 := iab_b (c / a 0 - e / a 0)
  unfold dist2
  omega
theorem nstF_rng (hw : WF T a) {c : Int} (h1 : 0 ≤ c) (h2 : c < a 0 * a 1) : ∀ k : Nat, (k : Int) ≤ a 9 → ((nstF a c k).1 = -1 ∧ (nstF a c k).2 = 1000000) ∨ ((0 ≤ (nstF a c k).1 ∧ (nstF a c k).1 < k) ∧ (0 ≤ (nstF a c k).2 ∧ (nstF a c k).2 ≤ 20)) := by
  intro k
  induction k with
  | zero => intro _; exact Or.inl ⟨rfl, rfl⟩
  | succ k ih =>
    intro hk
    have gB := hw.2.2.2.1 k (by omega)
    have b := dist2_b hw gB.1.1 gB.1.2 h1 h2
    have i := ih (by omega)
    unfold nstF
    split
    · exact Or.inr ⟨⟨by simp only []; omega, by simp only []; omega⟩, b⟩
    · omega
theorem c105_l (h : Cb (S.1 0 0) a) (hw : WF T a) {q : Nat} (hq : (q : Int) < a 7) : ∀ (m k f : Nat), k + m = (a 9).toNat → m < f → zy zF (d + 2) 105 f 18 [some (za 1 0 0), some (zi (zo q)), some (zi (zo (nstF a (a (10 + 4 * q)) k).1)), some (zi (zo (if (nstF a (a (10 + 4 * q)) k).1 = -1 then 0 else (nstF a (a (10 + 4 * q)) k).2))), some (zi (zo k)), none] S = some (.inl (some (zi (zo (nstF a (a (10 + 4 * q)) (a 9).toNat).1))), S) := by
  have hC := h; obtain ⟨⟨f1, f2, f3, f4, f5, f6⟩, ⟨n6, n7, n8, n9, n10, n11, n12, n13, n14, n15⟩, hD, hT, hB, hS, hOc, hE⟩ := hC
  have hwO := hw; obtain ⟨⟨⟨u0, u0x⟩, ⟨u1, u1x⟩, ⟨u2, u2x⟩, ⟨u3, u3x⟩, ⟨u4, u4x⟩, ⟨u5, u5x⟩, ⟨u6, u6x, uT⟩, ⟨u7, u7x⟩, ⟨u8, u8x⟩, ⟨u9, u9x⟩⟩, uD, uP, uB, uS, uI⟩ := hwO
  have gD := uD q hq
  have gd := col_rng hw gD.1.1 gD.1.2
  intro m
  induction m with
  | zero =>
    intro k f hk hf
    obtain ⟨f, rfl⟩ : ∃ f', f = f' + 1 := ⟨f - 1, by omega⟩
    rw [ze_105_18]
    simp (maxSteps := 10000000) (disch := omega) only [n13, zo_add, zo_sub, zo_mul, zo_neg, zo_lt, zo_le, zo_eq, zo_nn, zin_ok, zlt_eq, zr0, zr1, zr3, zr4, zr0x, zr1x, zr3x, zr4x, zb_and, zb_0, zmin_o, zmax_o, zabs_o, zo_div, zo_mod, ↓reduceIte, Int.reduceToNat, Int.reduceNeg, Int.reduceAdd, Int.reduceMul, Int.reduceSub, Int.reduceEq, Int.reduceLT, Int.reduceLE, if_true, if_false, Nat.reduceAdd, Nat.reduceMul]
    rw [if_pos (by omega), show k = (a 9).toNat by omega]
  | succ m ih =>
    intro k f hk hf
    obtain ⟨f, rfl⟩ : ∃ f', f = f' + 1 := ⟨f - 1, by omega⟩
    have gB := uB k (by omega)
    have gb := col_rng hw gB.1.1 gB.1.2
    have i := ih (k + 1) f (by omega) (by omega)
    rw [show ((k + 1 : Nat) : Int) = (k : Int) + 1 from rfl] at i
    have rg := nstF_rng hw gD.1.1 gD.1.2 k (by omega)
    have db := dist2_b hw gB.1.1 gB.1.2 gD.1.1 gD.1.2
    have ed : iab (a (40 + 10 * k) % a 0 - a (10 + 4 * q) % a 0) + iab (a (40 + 10 * k) / a 0 - a (10 + 4 * q) / a 0) = dist2 a (a (40 + 10 * k)) (a (10 + 4 * q)) := rfl
    rw [show nstF a (a (10 + 4 * q)) (k + 1) = if a (40 + 10 * k + 6) = 0 ∧ dist2 a (a (40 + 10 * k)) (a (10 + 4 * q)) < (nstF a (a (10 + 4 * q)) k).2 then ((k : Int), dist2 a (a (40 + 10 * k)) (a (10 + 4 * q))) else nstF a (a (10 + 4 * q)) k from rfl] at i
    rw [ze_105_18]
    simp (maxSteps := 10000000) (disch := omega) only [n13, c67b_0 h hw (b := k) (by omega), c67b_1 h hw (b := k) (by omega), c67d_0 h hw hq, c67d_1 h hw hq, c7 h hw (b := k) (by omega), zo_add, zo_sub, zo_mul, zo_neg, zo_lt, zo_le, zo_eq, zo_nn, zin_ok, zlt_eq, zr0, zr1, zr3, zr4, zr0x, zr1x, zr3x, zr4x, zb_and, zb_0, zmin_o, zmax_o, zabs_o, zo_div, zo_mod, ↓reduceIte, Int.reduceToNat, Int.reduceNeg, Int.reduceAdd, Int.reduceMul, Int.reduceSub, Int.reduceEq, Int.reduceLT, Int.reduceLE, if_true, if_false, Nat.reduceAdd, Nat.reduceMul]
    rw [if_neg (by omega), ed]
    by_cases c : a (40 + 10 * k + 6) = 0
    · rw [if_neg (by simp [c])]
      by_cases c1 : (nstF a (a (10 + 4 * q)) k).1 = -1
      · rw [if_pos ⟨c, by omega⟩] at i
        simp only [] at i
        rw [if_neg (show ¬ (k : Int) = -1 by omega)] at i
        rw [if_pos c1]
        exact i
      · rw [if_neg c1, if_neg c1]
        by_cases c2 : dist2 a (a (40 + 10 * k)) (a (10 + 4 * q)) < (nstF a (a (10 + 4 * q)) k).2
        · rw [if_pos ⟨c, c2⟩] at i
          simp only [] at i
          rw [if_neg (show ¬ (k : Int) = -1 by omega)] at i
          rw [if_neg (by omega)]
          exact i
        · rw [if_neg (fun z => c2 z.2), if_neg c1] at i
          rw [if_pos (by omega)]
          exact i
    · rw [if_neg (fun z => c z.1)] at i
      rw [if_pos (by simp [c])]
      exact i
theorem A105 (h : Cb (S.1 0 0) a) (hw : WF T a) (g1 : -2147483648 ≤ p) (g2 : p < 2147483648) : CA (d + 3) 105 [za 1 0 0, zi (zo p)] S (if vD a p then 0 else 1) (nstF a (a (10 + 4 * p.toNat)) (a 9).toNat).1 := by
  have u7 := hw.1.2.2.2.2.2.2.2
  have n14 := h.2.1.2.2.2.2.2.2.2.2.1
  have hb := zF1_big
  by_cases c : vD a p
  · obtain ⟨b, rfl⟩ : ∃ b : Nat, p = b := ⟨p.toNat, by omega⟩
    rw [if_pos c, Int.toNat_natCast]
    refine CA_v ?_
    rw [ze_105, n14, c140 g1 g2 (by omega) (by omega), if_pos c, zr0]
    exact c105_l (d := d) h hw c.2 (a 9).toNat 0 zF1 (by omega) (by omega)
  · rw [if_neg c]
    refine CA_x (t := 0) ?_
    rw [ze_105, n14, c140 g1 g2 (by omega) (by omega), if_neg c]; rfl
theorem dist2_sym (a : Rw) (c e : Int) : iab (c % a 0 - e % a 0) + iab (c / a 0 - e / a 0) = dist2 a e c := by
  unfold dist2 iab; split <;> split <;> split <;> split <;> omega
theorem m208_l (h : Md S 0 a) (hw : WF T a) {c : Int} (h5 : 0 ≤ c) (h6 : c < a 0 * a 1) : ∀ (m k f : Nat), k + m = (a 9).toNat → m < f → zy zF (d + 2) 208 f 30 [some (za 3 0 0), none, some (zi (zo c)), some (zi (zo (nstF a c k).1)), some (zi (zo (nstF a c k).2)), some (zi (zo k)), none] S = some (.inl (some (zi (zo (nstF a c (a 9).toNat).1))), S) := by
  have hh := h
  have hO := h; obtain ⟨h1, hq, h2⟩ := hO
  have hwO := hw; obtain ⟨⟨⟨u0, u0x⟩, ⟨u1, u1x⟩, ⟨u2, u2x⟩, ⟨u3, u3x⟩, ⟨u4, u4x⟩, ⟨u5, u5x⟩, ⟨u6, u6x, uT⟩, ⟨u7, u7x⟩, ⟨u8, u8x⟩, ⟨u9, u9x⟩⟩, uD, uP, uB, uS, uI⟩ := hwO
  have uN := WF_nc hw
  have gd := col_rng hw h5 h6
  intro m
  induction m with
  | zero =>
    intro k f hk hf
    obtain ⟨f, rfl⟩ : ∃ f', f = f' + 1 := ⟨f - 1, by omega⟩
    rw [ze_208_30]
    simp (maxSteps := 10000000) (disch := omega) only [h1, hq, h2, zo_add, zo_sub, zo_mul, zo_neg, zo_lt, zo_le, zo_eq, zo_nn, zin_ok, zlt_eq, zr0, zr1, zr3, zr4, zr0x, zr1x, zr3x, zr4x, zb_and, zb_0, zmin_o, zmax_o, zabs_o, zo_div, zo_mod, ↓reduceIte, Int.reduceToNat, Int.reduceNeg, Int.reduceAdd, Int.reduceMul, Int.reduceSub, Int.reduceEq, Int.reduceLT, Int.reduceLE, if_true, if_false, Nat.reduceAdd, Nat.reduceMul]
    rw [if_pos (by omega), show k = (a 9).toNat by omega]
  | succ m ih =>
    intro k f hk hf
    obtain ⟨f, rfl⟩ : ∃ f', f = f' + 1 := ⟨f - 1, by omega⟩
    have gB := uB k (by omega)
    have gb := col_rng hw gB.1.1 gB.1.2
    have i := ih (k + 1) f (by omega) (by omega)
    rw [show ((k + 1 : Nat) : Int) = (k : Int) + 1 from rfl] at i
    have rg := nstF_rng hw h5 h6 k (by omega)
    have db := dist2_b hw gB.1.1 gB.1.2 h5 h6
    have ed := dist2_sym a c (a (40 + 10 * k))
    rw [show nstF a c (k + 1) = if a (40 + 10 * k + 6) = 0 ∧ dist2 a (a (40 + 10 * k)) c < (nstF a c k).2 then ((k : Int), dist2 a (a (40 + 10 * k)) c) else nstF a c k from rfl] at i
    rw [ze_208_30]
    simp (maxSteps := 10000000) (disch := omega) only [h1, hq, h2, m155 hh hw, m156 hh hw, m160_0 hh, m150, m164 hh hw (b := k) (by omega), zo_add, zo_sub, zo_mul, zo_neg, zo_lt, zo_le, zo_eq, zo_nn, zin_ok, zlt_eq, zr0, zr1, zr3, zr4, zr0x, zr1x, zr3x, zr4x, zb_and, zb_0, zmin_o, zmax_o, zabs_o, zo_div, zo_mod, ↓reduceIte, Int.reduceToNat, Int.reduceNeg, Int.reduceAdd, Int.reduceMul, Int.reduceSub, Int.reduceEq, Int.reduceLT, Int.reduceLE, if_true, if_false, Nat.reduceAdd, Nat.reduceMul]
    rw [if_neg (by omega), ed]
    by_cases c1 : a (40 + 10 * k + 6) = 0
    · rw [if_neg (by simp [c1])]
      by_cases c2 : dist2 a (a (40 + 10 * k)) c < (nstF a c k).2
      · rw [if_pos ⟨c1, c2⟩] at i
        rw [if_neg (by omega)]
        exact i
      · rw [if_neg (fun z => c2 z.2)] at i
        rw [if_pos (by omega)]
        exact i
    · rw [if_neg (fun z => c1 z.1)] at i
      rw [if_pos (by simp [c1])]
      exact i
theorem B208 (h : Md S 0 a) (hw : WF T a) (g1 : -2147483648 ≤ p) (g2 : p < 2147483648) : MA (d + 3) 208 [za 3 0 0, zi (zo p)] S (if vD a p then 0 else 1) (nstF a (a (10 + 4 * p.toNat)) (a 9).toNat).1 := by
  have u7 := hw.1.2.2.2.2.2.2.2
  have hb := zF1_big
  have h0 := Md_mt h 0
  by_cases c : vD a p
  · have e1 : decide (0 ≤ p ∧ p ≤ a 7 - 1) = true := decide_eq_true (by omega)
    obtain ⟨b, rfl⟩ : ∃ b : Nat, p = b := ⟨p.toNat, by omega⟩
    have gD := hw.2.1 b c.2
    rw [if_pos c, Int.toNat_natCast]
    refine MA_v ?_
    have l := m208_l (d := d) h0 hw gD.1.1 gD.1.2 (a 9).toNat 0 zF1 (by omega) (by omega)
    rw [ze_208, m158 h hw g1 g2, e1, zr1, m148_b, zr1]
    simp (maxSteps := 10000000) (disch := omega) only [Bool.not_true, bI_f, m162_0 h0, zo_add, zo_sub, zo_mul, zo_neg, zo_lt, zo_le, zo_eq, zo_nn, zin_ok, zlt_eq, zr0, zr1, zr3, zr4, zr0x, zr1x, zr3x, zr4x, zb_and, zb_0, zmin_o, zmax_o, zabs_o, zo_div, zo_mod, ↓reduceIte, Int.reduceToNat, Int.reduceNeg, Int.reduceAdd, Int.reduceMul, Int.reduceSub, Int.reduceEq, Int.reduceLT, Int.reduceLE, if_true, if_false, Nat.reduceAdd, Nat.reduceMul]
    exact l
  · have e1 : decide (0 ≤ p ∧ p ≤ a 7 - 1) = false := decide_eq_false (by omega)
    rw [if_neg c]
    refine MA_x (t := 0) (w := 0) ?_
    rw [ze_208, m158 h hw g1 g2, e1, zr1, m148_b, zr1]
    rfl
end CN

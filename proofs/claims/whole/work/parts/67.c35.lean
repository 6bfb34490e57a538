/-! THE PURE SIDE 35: calm: the sweeps; class -/
def rv (e : Int → Int) (c : Int) : Int := if c = -1 then 0 else e c
def adj (a : Rw) (e : Int → Int) (c : Int) : Bool := decide (rv e (nb4 a c 0) = 2) || (decide (rv e (nb4 a c 1) = 2) || (decide (rv e (nb4 a c 2) = 2) || decide (rv e (nb4 a c 3) = 2)))
def swF (a : Rw) (e : Int → Int) : Nat → Int → Int
  | 0 => e
  | k + 1 => if swF a e k k = 1 ∧ adj a (swF a e k) k = true then gup (swF a e k) k 2 else swF a e k
def swS (a : Rw) (e : Int → Int) : Nat → Int
  | 0 => 0
  | k + 1 => if swF a e k k = 1 ∧ adj a (swF a e k) k = true then swS a e k + 1 else swS a e k
def rou (a : Rw) : Nat → (Int → Int) → Int
  | 0, _ => 0
  | m + 1, e => if swS a e (a 0 * a 1).toNat = 0 then 0 else swS a e (a 0 * a 1).toNat + rou a m (swF a e (a 0 * a 1).toNat)
def rsF (a : Rw) (v : Int) : Int → Int := fun c => if zo 0 < Op.cmpValue (FP.fcmp (frc a c) (FP.i2f (zo v))) .g then 0 else 1
def clmV (a : Rw) (c v : Int) : Int := if rsF a v c = 1 then 1 + rou a 100 (gup (rsF a v) c.toNat 2) else 0
def eB (a : Rw) (e : Int → Int) : Prop := ∀ c, inN a c → 0 ≤ e c ∧ e c ≤ 2
/-- the class's marks show e -/
def Ec (S : zS) (a : Rw) (e : Int → Int) : Prop := ∀ i : Nat, (i : Int) < a 0 * a 1 → S.1 1 0 6 i = zo (e i)
def Fe (S S' : zS) : Prop := S'.2 = S.2 ∧ ∀ k m o j, ¬(k = 1 ∧ m = 0 ∧ ((o = 4 ∧ j ≠ 0) ∨ o = 6)) → S'.1 k m o j = S.1 k m o j
theorem Fe_refl (S : zS) : Fe S S := ⟨rfl, fun _ _ _ _ _ => rfl⟩
theorem Fe_trans {S S1 S2 : zS} (h1 : Fe S S1) (h2 : Fe S1 S2) : Fe S S2 := ⟨h2.1.trans h1.1, fun k m o j a => (h2.2 k m o j a).trans (h1.2 k m o j a)⟩
theorem Fe_set {S S' : zS} (h : Fe S S') (j : Nat) (v : Int32) : Fe S (zs_set S' 1 0 6 j v) := ⟨h.1, fun k m o i b => by rw [zs_oth (by omega)]; exact h.2 k m o i b⟩
theorem Fe_fl {S S' : zS} (h : Fe S S') (u v : UInt32) : Fe S (zfl S' u v) := ⟨h.1, fun k m o j b => by
  show (if k = 1 ∧ m = 0 ∧ o = 4 ∧ j = 1 then u.toInt32 else if k = 1 ∧ m = 0 ∧ o = 4 ∧ j = 2 then v.toInt32 else S'.1 k m o j) = _
  rw [if_neg (by omega), if_neg (by omega)]; exact h.2 k m o j b⟩
theorem Fe_0 {S S' : zS} (h : Fe S S') (n : Nat) : S'.1 0 n = S.1 0 n := by funext o j; exact h.2 0 n o j (by omega)
theorem RC_Fe {S S' : zS} (h : Fe S S') : RC S S' := ⟨fun k n o j a b => h.2 k n o j (by omega), fun hF => by rw [Fe_0 h 1]; exact hF⟩
section CZ
variable {S : zS} {d n : Nat} {a : Rw} {T v p r x : Int} {e : Int → Int}
theorem rv_b (hB : eB a e) {c : Int} (h : c = -1 ∨ inN a c) : 0 ≤ rv e c ∧ rv e c ≤ 2 := by
  unfold rv
  rcases h with z | z
  · rw [if_pos z]; omega
  · rw [if_neg (by have := z.1; omega)]; exact hB c z
theorem rv_in {c : Int} (h : inN a c) : rv e c = e c := if_neg (by have := h.1; omega)
theorem swF_s (k : Nat) : swF a e (k + 1) = if swF a e k k = 1 ∧ adj a (swF a e k) k = true then gup (swF a e k) k 2 else swF a e k := rfl
theorem swS_s (k : Nat) : swS a e (k + 1) = if swF a e k k = 1 ∧ adj a (swF a e k) k = true then swS a e k + 1 else swS a e k := rfl
theorem rou_s (m : Nat) : rou a (m + 1) e = if swS a e (a 0 * a 1).toNat = 0 then 0 else swS a e (a 0 * a 1).toNat + rou a m (swF a e (a 0 * a 1).toNat) := rfl
theorem gup_B (hB : eB a e) {k : Nat} {v : Int} (hv : 0 ≤ v ∧ v ≤ 2) : eB a (gup e k v) := fun c hc => by
  unfold gup; split
  · exact hv
  · exact hB c hc
theorem swF_B (hB : eB a e) : ∀ k : Nat, eB a (swF a e k) := by
  intro k
  induction k with
  | zero => exact hB
  | succ k ih =>
    rw [swF_s]; split
    · exact gup_B ih (by omega)
    · exact ih
theorem swS_b : ∀ k : Nat, 0 ≤ swS a e k ∧ swS a e k ≤ k := by
  intro k
  induction k with
  | zero => exact ⟨Int.le_refl _, Int.le_refl _⟩
  | succ k ih =>
    rw [swS_s]; split
    · omega
    · omega
theorem rsF_B (a : Rw) (v : Int) : eB a (rsF a v) := fun c _ => by unfold rsF; split <;> omega
theorem Ec_gup (h : Ec S a e) {k : Nat} {v : Int} : Ec (zs_set S 1 0 6 k (zo v)) a (gup e k v) := fun i hi => by
  unfold gup
  by_cases z : i = k
  · subst z; rw [zs_self, if_pos rfl]
  · rw [zs_oth (by omega), if_neg (by omega)]; exact h i hi
theorem c63m (hw : WF T a) (h5 : S.1 1 0 5 1 = zo 0) (hE : Ec S a e) {c : Int} (h : c = -1 ∨ inN a c) : zr_sem zF (d + 1) 63 [za 1 0 5, zi (zo c)] S = some (.inl (some (zi (zo (rv e c)))), S) := by
  have uN := WF_nc hw
  rw [ze_63m]
  rcases h with z | z
  · subst z
    simp (maxSteps := 10000000) (disch := omega) only [h5, zo_add, zo_sub, zo_mul, zo_neg, zo_lt, zo_le, zo_eq, zo_nn, zin_ok, zlt_eq, zr0, zr1, zr3, zr4, zr0x, zr1x, zr3x, zr4x, zb_and, zb_0, zmin_o, zmax_o, zabs_o, zo_div, zo_mod, ↓reduceIte, Int.reduceToNat, Int.reduceNeg, Int.reduceAdd, Int.reduceMul, Int.reduceSub, Int.reduceEq, Int.reduceLT, Int.reduceLE, if_true, if_false, Nat.reduceAdd, Nat.reduceMul]
    rfl
  · have z1 := z.1
    have z2 := z.2
    rw [rv_in z]
    obtain ⟨i, rfl⟩ : ∃ i : Nat, c = i := ⟨c.toNat, by omega⟩
    simp (maxSteps := 10000000) (disch := omega) only [Int.toNat_natCast, hE i z2, zo_add, zo_sub, zo_mul, zo_neg, zo_lt, zo_le, zo_eq, zo_nn, zin_ok, zlt_eq, zr0, zr1, zr3, zr4, zr0x, zr1x, zr3x, zr4x, zb_and, zb_0, zmin_o, zmax_o, zabs_o, zo_div, zo_mod, ↓reduceIte, Int.reduceToNat, Int.reduceNeg, Int.reduceAdd, Int.reduceMul, Int.reduceSub, Int.reduceEq, Int.reduceLT, Int.reduceLE, if_true, if_false, Nat.reduceAdd, Nat.reduceMul]
    rw [if_neg (by omega), if_neg (by omega)]
theorem c64m {c : Nat} (hc : c < 100) {v : Int32} : zr_sem zF (d + 1) 64 [za 1 0 5, zi (zo c), zi v] S = some (.inl none, zs_set S 1 0 6 c v) := by
  rw [ze_64m]
  simp (maxSteps := 10000000) (disch := omega) only [Int.toNat_natCast, zo_add, zo_sub, zo_mul, zo_neg, zo_lt, zo_le, zo_eq, zo_nn, zin_ok, zlt_eq, zr0, zr1, zr3, zr4, zr0x, zr1x, zr3x, zr4x, zb_and, zb_0, zmin_o, zmax_o, zabs_o, zo_div, zo_mod, ↓reduceIte, Int.reduceToNat, Int.reduceNeg, Int.reduceAdd, Int.reduceMul, Int.reduceSub, Int.reduceEq, Int.reduceLT, Int.reduceLE, if_true, if_false, Nat.reduceAdd, Nat.reduceMul]
  rw [if_neg (by omega), if_neg (by omega)]
theorem c41 (h : Cb (S.1 0 n) a) (hw : WF T a) (h5 : S.1 1 0 5 1 = zo 0) (hE : Ec S a e) (hB : eB a e) {x y : Int} (hc : vC a x y) : zr_sem zF (d + 2) 41 [za 1 0 4, za 0 n 0, zi (zo x), zi (zo y)] S = some (.inl (some (zi (zo (bI (adj a e (a 0 * y + x)))))), S) := by
  have u0 := hw.1.1
  have u1 := hw.1.2.1
  have l1 := hc.1
  have l2 := hc.2
  have k := cel_mod hc
  have n0 : nb4 a (a 0 * y + x) 0 = cAt a x (y - 1) := by unfold nb4; rw [if_pos rfl, k.1, k.2]
  have n1 : nb4 a (a 0 * y + x) 1 = cAt a (x - 1) y := by unfold nb4; rw [if_neg (by omega), if_pos rfl, k.1, k.2]
  have n2 : nb4 a (a 0 * y + x) 2 = cAt a (x + 1) y := by unfold nb4; rw [if_neg (by omega), if_neg (by omega), if_pos rfl, k.1, k.2]
  have n3 : nb4 a (a 0 * y + x) 3 = cAt a x (y + 1) := by unfold nb4; rw [if_neg (by omega), if_neg (by omega), if_neg (by omega), k.1, k.2]
  have r0 := nb4_rng a (a 0 * y + x) 0
  have r1 := nb4_rng a (a 0 * y + x) 1
  have r2 := nb4_rng a (a 0 * y + x) 2
  have r3 := nb4_rng a (a 0 * y + x) 3
  have b0 := rv_b hB r0
  have b1 := rv_b hB r1
  have b2 := rv_b hB r2
  have b3 := rv_b hB r3
  have q2 : ∀ {t : Int}, 0 ≤ t ∧ t ≤ 2 → ¬ t = 2 → ¬ zo t = zo 2 := fun hb hn => by rw [zo_eq (by omega) (by omega) (by omega) (by omega)]; exact hn
  rw [ze_41, zo_sub, zo_sub, zo_add, zo_add, c3 h hw (by omega) (by omega) (by omega) (by omega), zr1, ← n0, c63m hw h5 hE r0, zr1]
  unfold adj
  by_cases d0 : rv e (nb4 a (a 0 * y + x) 0) = 2
  · rw [d0, if_pos rfl]; rfl
  rw [if_neg (q2 b0 d0), c3 h hw (by omega) (by omega) (by omega) (by omega), zr1, ← n1, c63m hw h5 hE r1, zr1, decide_eq_false d0, Bool.false_or]
  by_cases d1 : rv e (nb4 a (a 0 * y + x) 1) = 2
  · rw [d1, if_pos rfl]; rfl
  rw [if_neg (q2 b1 d1), c3 h hw (by omega) (by omega) (by omega) (by omega), zr1, ← n2, c63m hw h5 hE r2, zr1, decide_eq_false d1, Bool.false_or]
  by_cases d2 : rv e (nb4 a (a 0 * y + x) 2) = 2
  · rw [d2, if_pos rfl]; rfl
  rw [if_neg (q2 b2 d2), c3 h hw (by omega) (by omega) (by omega) (by omega), zr1, ← n3, c63m hw h5 hE r3, zr1, decide_eq_false d2, Bool.false_or]
  by_cases d3 : rv e (nb4 a (a 0 * y + x) 3) = 2
  · rw [d3, if_pos rfl]; rfl
  rw [if_neg (q2 b3 d3), decide_eq_false d3]
  rfl
theorem c40_x (hw : WF T a) {W : Nat} (hW : (W : Int) = a 0) (hB : eB a e) {y : Nat} (hy : (y : Int) < a 1) : ∀ (m x f : Nat) (S : zS), x + m = W → m + 1 < f → Cb (S.1 0 n) a → S.1 1 0 5 1 = zo 0 → Ec S a (swF a e (W * y + x)) → ∃ S' f', f ≤ f' + (m + 1) ∧ zy zF (d + 2) 40 f 15 [some (za 1 0 4), some (za 0 n 0), some (zi (zo (swS a e (W * y + x)))), some (zi (zo y)), some (zi (zo x)), none] S = zy zF (d + 2) 40 f' 4 [some (za 1 0 4), some (za 0 n 0), some (zi (zo (swS a e (W * (y + 1))))), some (zi (zo ((y + 1 : Nat) : Int))), none, none] S' ∧ Ec S' a (swF a e (W * (y + 1))) ∧ Fe S S' := by
  have u0 := hw.1.1
  have u1 := hw.1.2.1
  intro m
  induction m with
  | zero =>
    intro x f S hx hf h h5 hE
    have hC := h
    obtain ⟨⟨f1, f2, f3, f4, f5, f6⟩, ⟨n6, n7, n8, n9, n10, n11, n12, n13, n14, n15⟩, hD, hT, hBb, hS, hOc, hEe⟩ := hC
    obtain ⟨f, rfl⟩ : ∃ f', f = f' + 1 := ⟨f - 1, by omega⟩
    have ex : W * y + x = W * (y + 1) := by rw [Nat.mul_succ]; omega
    rw [ex] at hE ⊢
    refine ⟨S, f, by omega, ?_, hE, Fe_refl S⟩
    rw [ze_40_15, n6, if_pos (show zo (a 0) ≤ zo (x : Int) by rw [zo_le (by omega) (by omega) (by omega) (by omega)]; omega), zo_add]
    rfl
  | succ m ih =>
    intro x f S hx hf h h5 hE
    have hC := h
    obtain ⟨⟨f1, f2, f3, f4, f5, f6⟩, ⟨n6, n7, n8, n9, n10, n11, n12, n13, n14, n15⟩, hD, hT, hBb, hS, hOc, hEe⟩ := hC
    obtain ⟨f, rfl⟩ : ∃ f', f = f' + 1 := ⟨f - 1, by omega⟩
    have vc : vC a (x : Int) (y : Int) := ⟨⟨by omega, by omega⟩, ⟨by omega, by omega⟩⟩
    have ec : a 0 * (y : Int) + (x : Int) = ((W * y + x : Nat) : Int) := by rw [Int.natCast_add, Int.natCast_mul, hW]
    have ic := cel_inN vc
    have bS := swF_B hB (W * y + x)
    have bs := swS_b (a := a) (e := e) (W * y + x)
    have c41 := c41 (d := d) h hw h5 hE bS vc
    rw [ec] at ic c41
    have uN := WF_nc hw
    have l1 := ic.2
    have bk := bS _ ic
    have es : W * y + (x + 1) = W * y + x + 1 := by omega
    rw [ze_40_15, n6, if_neg (show ¬ zo (a 0) ≤ zo (x : Int) by rw [zo_le (by omega) (by omega) (by omega) (by omega)]; omega), c3 h hw (by omega) (by omega) (by omega) (by omega), zr1, cAt_in vc, ec, c63m hw h5 hE (Or.inr ic), zr1, rv_in ic, zo_add, show (x : Int) + 1 = ((x + 1 : Nat) : Int) from rfl]
    generalize hk : W * y + x = k at *
    by_cases z : swF a e k k = 1
    · rw [z, if_pos rfl, c41, zr1]
      by_cases j : adj a (swF a e k) k = true
      · have e2 : swF a e (k + 1) = gup (swF a e k) k 2 := by rw [swF_s, if_pos ⟨z, j⟩]
        have e3 : swS a e (k + 1) = swS a e k + 1 := by rw [swS_s, if_pos ⟨z, j⟩]
        have hE2 := Ec_gup hE (k := k) (v := 2)
        rw [← e2] at hE2
        have hF := Fe_set (Fe_refl S) k (zo 2)
        obtain ⟨S2, f2, q1, q2, q3, q4⟩ := ih (x + 1) f (zs_set S 1 0 6 k (zo 2)) (by omega) (by omega) (by rw [Fe_0 hF n]; exact h) (by rw [zs_oth (by omega)]; exact h5) (by rw [es]; exact hE2)
        rw [es, e3] at q2
        refine ⟨S2, f2, by omega, ?_, q3, Fe_trans hF q4⟩
        rw [j, if_neg (by decide), c64m (by omega), zr0, zo_add]
        exact q2
      · have e2 : swF a e (k + 1) = swF a e k := by rw [swF_s, if_neg (fun t => j t.2)]
        have e3 : swS a e (k + 1) = swS a e k := by rw [swS_s, if_neg (fun t => j t.2)]
        obtain ⟨S2, f2, q1, q2, q3, q4⟩ := ih (x + 1) f S (by omega) (by omega) h h5 (by rw [es, e2]; exact hE)
        rw [es, e3] at q2
        refine ⟨S2, f2, by omega, ?_, q3, q4⟩
        rw [Bool.eq_false_iff.2 j, if_pos (show zo (bI false) = zo 0 from rfl)]
        exact q2
    · have e2 : swF a e (k + 1) = swF a e k := by rw [swF_s, if_neg (fun t => z t.1)]
      have e3 : swS a e (k + 1) = swS a e k := by rw [swS_s, if_neg (fun t => z t.1)]
      obtain ⟨S2, f2, q1, q2, q3, q4⟩ := ih (x + 1) f S (by omega) (by omega) h h5 (by rw [es, e2]; exact hE)
      rw [es, e3] at q2
      refine ⟨S2, f2, by omega, ?_, q3, q4⟩
      rw [if_neg (show ¬ zo (swF a e k k) = zo 1 by rw [zo_eq (by omega) (by omega) (by omega) (by omega)]; exact z)]
      exact q2
theorem c40_y (hw : WF T a) {W : Nat} (hW : (W : Int) = a 0) (hB : eB a e) : ∀ (m y f : Nat) (S : zS), ((y + m : Nat) : Int) = a 1 → (W + 3) * m + 1 < f → Cb (S.1 0 n) a → S.1 1 0 5 1 = zo 0 → Ec S a (swF a e (W * y)) → ∃ S', zy zF (d + 2) 40 f 4 [some (za 1 0 4), some (za 0 n 0), some (zi (zo (swS a e (W * y)))), some (zi (zo y)), none, none] S = some (.inl (some (zi (zo (swS a e (a 0 * a 1).toNat)))), S') ∧ Ec S' a (swF a e (a 0 * a 1).toNat) ∧ Fe S S' := by
  have u0 := hw.1.1
  have u1 := hw.1.2.1
  intro m
  induction m with
  | zero =>
    intro y f S hy hf h h5 hE
    have n7 := h.2.1.2.1
    obtain ⟨f, rfl⟩ : ∃ f', f = f' + 1 := ⟨f - 1, by omega⟩
    have ex : (a 0 * a 1).toNat = W * y := by rw [← hW, ← hy, ← Int.natCast_mul, Int.toNat_natCast]; rfl
    rw [ex]
    refine ⟨S, ?_, hE, Fe_refl S⟩
    rw [ze_40_4, n7, if_pos (show zo (a 1) ≤ zo (y : Int) by rw [zo_le (by omega) (by omega) (by omega) (by omega)]; omega)]
  | succ m ih =>
    intro y f S hy hf h h5 hE
    have n7 := h.2.1.2.1
    rw [Nat.mul_succ] at hf
    obtain ⟨f, rfl⟩ : ∃ f', f = f' + 1 := ⟨f - 1, by omega⟩
    obtain ⟨S1, f1, p1, p2, p3, p4⟩ := c40_x (d := d) hw hW hB (y := y) (by omega) W 0 f S (by omega) (by omega) h h5 hE
    obtain ⟨S2, q1, q2, q3⟩ := ih (y + 1) f1 S1 (by omega) (by omega) (by rw [Fe_0 p4 n]; exact h) (by rw [p4.2 _ _ _ _ (by omega)]; exact h5) p3
    refine ⟨S2, ?_, q2, Fe_trans p4 q3⟩
    rw [ze_40_4, n7, if_neg (show ¬ zo (a 1) ≤ zo (y : Int) by rw [zo_le (by omega) (by omega) (by omega) (by omega)]; omega)]
    exact p2.trans q1
theorem c40 (h : Cb (S.1 0 n) a) (hw : WF T a) (h5 : S.1 1 0 5 1 = zo 0) (hE : Ec S a e) (hB : eB a e) : ∃ S', zr_sem zF (d + 3) 40 [za 1 0 4, za 0 n 0] S = some (.inl (some (zi (zo (swS a e (a 0 * a 1).toNat)))), S') ∧ Ec S' a (swF a e (a 0 * a 1).toNat) ∧ Fe S S' := by
  have hb := zF1_big
  have u0 := hw.1.1
  have u1 := hw.1.2.1
  obtain ⟨W, hW⟩ : ∃ W : Nat, (W : Int) = a 0 := ⟨(a 0).toNat, by omega⟩
  have m1 : (W + 3) * (a 1).toNat ≤ 13 * 10 := Nat.mul_le_mul (by omega) (by omega)
  obtain ⟨S2, q1, q2⟩ := c40_y (d := d) (n := n) hw hW hB (a 1).toNat 0 zF1 S (by omega) (by omega) h h5 hE
  exact ⟨S2, (ze_40 (d := d + 2)).trans q1, q2⟩
theorem c39_91 (hw : WF T a) : ∀ (m k f : Nat) (S : zS) (e : Int → Int) (l g : Int), k + m = 100 → m < f → Cb (S.1 0 n) a → S.1 1 0 5 1 = zo 0 → Ec S a e → eB a e → 0 ≤ l ∧ l ≤ 1 + 100 * k → 1 ≤ g ∧ g ≤ 100 → ∃ S', zy zF (d + 3) 39 f 91 [some (za 1 0 4), some (za 0 n 0), none, none, some (zi (zo l)), some (zi (zo g)), some (zi (zo k))] S = some (.inl (some (zi (zo (l + rou a m e)))), S') ∧ Fe S S' := by
  have uN := WF_nc hw
  intro m
  induction m with
  | zero =>
    intro k f S e l g hk hf h h5 hE hB hl hg
    obtain ⟨f, rfl⟩ : ∃ f', f = f' + 1 := ⟨f - 1, by omega⟩
    refine ⟨S, ?_, Fe_refl S⟩
    rw [ze_39_91, if_pos (show zo 100 ≤ zo (k : Int) by rw [zo_le (by omega) (by omega) (by omega) (by omega)]; omega), show rou a 0 e = 0 from rfl, Int.add_zero]
  | succ m ih =>
    intro k f S e l g hk hf h h5 hE hB hl hg
    obtain ⟨f, rfl⟩ : ∃ f', f = f' + 1 := ⟨f - 1, by omega⟩
    obtain ⟨S1, p1, p2, p3⟩ := c40 (d := d) h hw h5 hE hB
    have bs := swS_b (a := a) (e := e) (a 0 * a 1).toNat
    rw [ze_39_91, if_neg (show ¬ zo 100 ≤ zo (k : Int) by rw [zo_le (by omega) (by omega) (by omega) (by omega)]; omega), if_neg (show ¬ zo g ≤ zo 0 by rw [zo_le (by omega) (by omega) (by omega) (by omega)]; omega), p1, zr1, zo_add, zo_add, rou_s]
    have h51 : S1.1 1 0 5 1 = zo 0 := by rw [p3.2 _ _ _ _ (by omega)]; exact h5
    have h1 : Cb (S1.1 0 n) a := by rw [Fe_0 p3 n]; exact h
    by_cases z : swS a e (a 0 * a 1).toNat = 0
    · refine ⟨S1, ?_, p3⟩
      obtain ⟨f, rfl⟩ : ∃ f', f = f' + 1 := ⟨f - 1, by omega⟩
      rw [z, if_pos rfl, Int.add_zero, ze_39_91]
      by_cases y : zo 100 ≤ zo ((k : Int) + 1)
      · rw [if_pos y]
      · rw [if_neg y, if_pos (Int32.le_refl _)]
    · obtain ⟨S2, q1, q2⟩ := ih (k + 1) f S1 (swF a e (a 0 * a 1).toNat) (l + swS a e (a 0 * a 1).toNat) (swS a e (a 0 * a 1).toNat) (by omega) (by omega) h1 h51 p2 (swF_B hB _) (by omega) (by omega)
      refine ⟨S2, ?_, Fe_trans p3 q2⟩
      rw [if_neg z, ← Int.add_assoc]
      exact q1
theorem c39_3 (hw : WF T a) {c : Nat} (hc : (c : Int) < a 0 * a 1) (g1 : -2147483648 ≤ v) (g2 : v < 2147483648) : ∀ (m k f : Nat) (S : zS), k + m = (a 0 * a 1).toNat → m + 101 < f → Cb (S.1 0 n) a → S.1 1 0 5 1 = zo 0 → (∀ i : Nat, i < k → S.1 1 0 6 i = zo (rsF a v i)) → ∃ S', zy zF (d + 4) 39 f 3 [some (za 1 0 4), some (za 0 n 0), some (zi (zo c)), some (zi (zo v)), some (zi (zo k)), none, none] S = some (.inl (some (zi (zo (clmV a c v)))), S') ∧ Fe S S' := by
  have uN := WF_nc hw
  intro m
  induction m with
  | zero =>
    intro k f S hk hf h h5 hE
    obtain ⟨f, rfl⟩ : ∃ f', f = f' + 1 := ⟨f - 1, by omega⟩
    have hE : Ec S a (rsF a v) := fun i hi => hE i (by omega)
    have ic : inN a (c : Int) := ⟨by omega, hc⟩
    have bb := rsF_B a v _ ic
    rw [ze_39_3, c2 h, zr1, if_pos (show zo (a 0 * a 1) ≤ zo (k : Int) by rw [zo_le (by omega) (by omega) (by omega) (by omega)]; omega), c63m hw h5 hE (Or.inr ic), zr1, rv_in ic]
    unfold clmV
    by_cases z : rsF a v c = 1
    · rw [if_pos z, z, if_pos rfl, c64m (by omega), zr0, Int.toNat_natCast]
      have hF := Fe_set (Fe_refl S) c (zo 2)
      obtain ⟨S2, q1, q2⟩ := c39_91 (d := d + 1) (n := n) hw 100 0 f _ _ 1 1 rfl (by omega) (by rw [Fe_0 hF n]; exact h) (by rw [zs_oth (by omega)]; exact h5) (Ec_gup hE (k := c) (v := 2)) (gup_B (rsF_B a v) (by omega)) (by omega) (by omega)
      exact ⟨S2, q1, Fe_trans hF q2⟩
    · refine ⟨S, ?_, Fe_refl S⟩
      rw [if_neg z, if_neg (show ¬ zo (rsF a v c) = zo 1 by rw [zo_eq (by omega) (by omega) (by omega) (by omega)]; exact z)]
  | succ m ih =>
    intro k f S hk hf h h5 hE
    obtain ⟨f, rfl⟩ : ∃ f', f = f' + 1 := ⟨f - 1, by omega⟩
    have hF := Fe_fl (Fe_refl S) (fl a k 0) (fl a k 1)
    have h0 : ∀ u : Int32, Cb ((zs_set (zfl S (fl a k 0) (fl a k 1)) 1 0 6 k u).1 0 n) a := fun u => by rw [Fe_0 (Fe_set hF k u) n]; exact h
    have h50 : ∀ u : Int32, (zs_set (zfl S (fl a k 0) (fl a k 1)) 1 0 6 k u).1 1 0 5 1 = zo 0 := fun u => by rw [(Fe_set hF k u).2 _ _ _ _ (by omega)]; exact h5
    have st : ∀ i : Nat, i < k + 1 → (zs_set (zfl S (fl a k 0) (fl a k 1)) 1 0 6 k (zo (rsF a v k))).1 1 0 6 i = zo (rsF a v i) := fun i hi => by
      by_cases z : i = k
      · subst z; rw [zs_self]
      · rw [zs_oth (by omega)]
        show (if 1 = 1 ∧ 0 = 0 ∧ 6 = 4 ∧ i = 1 then (fl a k 0).toInt32 else if 1 = 1 ∧ 0 = 0 ∧ 6 = 4 ∧ i = 2 then (fl a k 1).toInt32 else S.1 1 0 6 i) = _
        rw [if_neg (by omega), if_neg (by omega)]; exact hE i (by omega)
    obtain ⟨S2, q1, q2⟩ := ih (k + 1) f _ (by omega) (by omega) (h0 _) (h50 _) st
    refine ⟨S2, ?_, Fe_trans (Fe_set hF k _) q2⟩
    rw [ze_39_3, c2 h, zr1, if_neg (show ¬ zo (a 0 * a 1) ≤ zo (k : Int) by rw [zo_le (by omega) (by omega) (by omega) (by omega)]; omega), c4 h hw (by omega) (by omega), zr1, c5 h hw (by omega) (by omega), zr1, c38 h hw (c := (k : Int)) (by omega) (by omega), zr3]
    by_cases z : zo 0 < Op.cmpValue (FP.fcmp (frc a k) (FP.i2f (zo v))) .g
    · have e1 : rsF a v k = 0 := if_pos z
      rw [e1] at q1
      rw [if_pos z, c64m (by omega), zr0, zo_add]
      exact q1
    · have e1 : rsF a v k = 1 := if_neg z
      rw [e1] at q1
      rw [if_neg z, c64m (by omega), zr0, zo_add]
      exact q1
theorem A104 (h : Cb (S.1 0 0) a) (hw : WF T a) (h5 : S.1 1 0 5 1 = zo 0) (g1 : -2147483648 ≤ p) (g2 : p < 2147483648) (g3 : -2147483648 ≤ r) (g4 : r < 2147483648) (g5 : -2147483648 ≤ x) (g6 : x < 2147483648) : CA (d + 7) 104 [za 1 0 0, zi (zo p), zi (zo r), zi (zo x)] S (if vC a p r then (if 0 ≤ x ∧ x ≤ 9999 then 0 else 2) else 1) (clmV a (a 0 * r + p) x) := by
  have hb := zF1_big
  have uN := WF_nc hw
  have e := ze_104 (d := d + 6) (S := S) (xa := zo p) (xb := zo r) (xc := zo x)
  rw [c139 h hw g1 g2 g3 g4] at e
  by_cases c : vC a p r
  · rw [if_pos c, zr0, c141 g5 g6 (by omega) (by omega) (by omega) (by omega)] at e
    rw [if_pos c]
    by_cases c2 : 0 ≤ x ∧ x ≤ 9999
    · have ic := cel_inN c
      have i1 := ic.1
      have i2 := ic.2
      rw [if_pos c2, zr0, c3 h hw g1 g2 g3 g4, zr1, cAt_in c] at e
      rw [if_pos c2]
      obtain ⟨i, hi⟩ : ∃ i : Nat, a 0 * r + p = i := ⟨(a 0 * r + p).toNat, by omega⟩
      rw [hi] at e i2 ⊢
      obtain ⟨S2, q1, q2⟩ := c39_3 (d := d + 1) (n := 0) hw i2 g5 g6 (a 0 * a 1).toNat 0 zF1 S (by omega) (by omega) h h5 (fun i z => by omega)
      rw [(ze_39 (d := d + 5)).trans q1, zr1] at e
      exact ⟨S2, e, RC_Fe q2⟩
    · rw [if_neg c2] at e
      rw [if_neg c2]
      exact CA_x (t := 1) e
  · rw [if_neg c] at e
    rw [if_neg c]
    exact CA_x (t := 0) e
end CZ

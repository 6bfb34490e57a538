/-! THE PURE SIDE 31: towing: class -/
def stp (a : Rw) (w D : Int → Int) (c : Int) : Int := if thr w D (bst a w D c) < 1000000 then bst a w D c else -1
/-- the class's costs and distances -/
def Tc (S : zS) (a : Rw) (w g : Int → Int) : Prop := (S.1 1 0 10 1 = zo 1000000 ∧ S.1 1 0 12 1 = zo 1000000) ∧ ∀ i : Nat, (i : Int) < a 0 * a 1 → S.1 1 0 11 i = zo (w i) ∧ S.1 1 0 13 i = zo (g i)
def Ft (S S' : zS) : Prop := S'.2 = S.2 ∧ ∀ k m o j, ¬(k = 1 ∧ m = 0 ∧ (o = 11 ∨ o = 13)) → S'.1 k m o j = S.1 k m o j
theorem Ft_refl (S : zS) : Ft S S := ⟨rfl, fun _ _ _ _ _ => rfl⟩
theorem Ft_trans {S S1 S2 : zS} (h1 : Ft S S1) (h2 : Ft S1 S2) : Ft S S2 := ⟨h2.1.trans h1.1, fun k m o j a => (h2.2 k m o j a).trans (h1.2 k m o j a)⟩
theorem Ft_set {S S' : zS} (h : Ft S S') (o j : Nat) (v : Int32) (ho : o = 11 ∨ o = 13) : Ft S (zs_set S' 1 0 o j v) := ⟨h.1, fun k m o2 i b => by rw [zs_oth (by omega)]; exact h.2 k m o2 i b⟩
theorem Ft_0 {S S' : zS} (h : Ft S S') (n : Nat) : S'.1 0 n = S.1 0 n := by funext o j; exact h.2 0 n o j (by omega)
section CW
variable {S : zS} {d n : Nat} {a : Rw} {T t : Int} {b : Nat} {w D g : Int → Int}
/-- all cells' numbers are small -/
def Gok (a : Rw) (g : Int → Int) : Prop := ∀ c, inN a c → 0 ≤ g c ∧ g c ≤ 1000000
theorem thr_b (hW : Wok a w) (hG : Gok a g) {c : Int} (h : c = -1 ∨ inN a c) : 1 ≤ thr w g c ∧ thr w g c ≤ 2000000 := by
  unfold thr
  rcases h with e | e
  · rw [if_pos e]; omega
  · rw [if_neg (by have := e.1; omega)]
    have := hW c e
    have := hG c e
    omega
theorem c63d (hw : WF T a) (hT : Tc S a w g) {i : Nat} (hi : (i : Int) < a 0 * a 1) : zr_sem zF (d + 1) 63 [za 1 0 12, zi (zo i)] S = some (.inl (some (zi (zo (g i)))), S) := by
  have uN := WF_nc hw
  have q := hT.2 i hi
  rw [ze_63d]
  simp (maxSteps := 10000000) (disch := omega) only [Int.toNat_natCast, q.2, zo_add, zo_sub, zo_mul, zo_neg, zo_lt, zo_le, zo_eq, zo_nn, zin_ok, zlt_eq, zr0, zr1, zr3, zr4, zr0x, zr1x, zr3x, zr4x, zb_and, zb_0, zmin_o, zmax_o, zabs_o, zo_div, zo_mod, ↓reduceIte, Int.reduceToNat, Int.reduceNeg, Int.reduceAdd, Int.reduceMul, Int.reduceSub, Int.reduceEq, Int.reduceLT, Int.reduceLE, if_true, if_false, Nat.reduceAdd, Nat.reduceMul]
  rw [if_neg (by omega), if_neg (by omega)]
theorem c63c (hw : WF T a) (hT : Tc S a w g) {i : Nat} (hi : (i : Int) < a 0 * a 1) : zr_sem zF (d + 1) 63 [za 1 0 10, zi (zo i)] S = some (.inl (some (zi (zo (w i)))), S) := by
  have uN := WF_nc hw
  have q := hT.2 i hi
  rw [ze_63c]
  simp (maxSteps := 10000000) (disch := omega) only [Int.toNat_natCast, q.1, zo_add, zo_sub, zo_mul, zo_neg, zo_lt, zo_le, zo_eq, zo_nn, zin_ok, zlt_eq, zr0, zr1, zr3, zr4, zr0x, zr1x, zr3x, zr4x, zb_and, zb_0, zmin_o, zmax_o, zabs_o, zo_div, zo_mod, ↓reduceIte, Int.reduceToNat, Int.reduceNeg, Int.reduceAdd, Int.reduceMul, Int.reduceSub, Int.reduceEq, Int.reduceLT, Int.reduceLE, if_true, if_false, Nat.reduceAdd, Nat.reduceMul]
  rw [if_neg (by omega), if_neg (by omega)]
theorem c85 (hw : WF T a) (hT : Tc S a w g) (hW : Wok a w) (hG : Gok a g) {c : Int} (h : c = -1 ∨ inN a c) : zr_sem zF (d + 2) 85 [za 1 0 9, zi (zo c)] S = some (.inl (some (zi (zo (thr w g c)))), S) := by
  have uN := WF_nc hw
  rw [ze_85]
  unfold thr
  rcases h with e | e
  · subst e
    rw [if_pos rfl, ze_63c, if_pos (show zo (-1) < zo 0 by decide), zr1, ze_63d, if_pos (show zo (-1) < zo 0 by decide), zr1, hT.1.1, hT.1.2, zo_add]; rfl
  · have e1 := e.1
    have e2 := e.2
    obtain ⟨i, rfl⟩ : ∃ i : Nat, c = i := ⟨c.toNat, by omega⟩
    rw [if_neg (show ¬ ((i : Int) = -1) by omega), c63c hw hT e2, zr1, c63d hw hT e2, zr1, zo_add]
theorem c88 (hw : WF T a) (hT : Tc S a w g) (hW : Wok a w) (hG : Gok a g) {p q : Int} (hp : p = -1 ∨ inN a p) (hq : q = -1 ∨ inN a q) : zr_sem zF (d + 3) 88 [za 1 0 9, zi (zo p), zi (zo q)] S = some (.inl (some (zi (zo (nea w g p q)))), S) := by
  have b1 := thr_b hW hG hp
  have b2 := thr_b hW hG hq
  rw [ze_88, c85 hw hT hW hG hq, zr1, c85 hw hT hW hG hp, zr1]
  unfold nea
  simp (maxSteps := 10000000) (disch := omega) only [zo_add, zo_sub, zo_mul, zo_neg, zo_lt, zo_le, zo_eq, zo_nn, zin_ok, zlt_eq, zr0, zr1, zr3, zr4, zr0x, zr1x, zr3x, zr4x, zb_and, zb_0, zmin_o, zmax_o, zabs_o, zo_div, zo_mod, ↓reduceIte, Int.reduceToNat, Int.reduceNeg, Int.reduceAdd, Int.reduceMul, Int.reduceSub, Int.reduceEq, Int.reduceLT, Int.reduceLE, if_true, if_false, Nat.reduceAdd, Nat.reduceMul]
  by_cases c : thr w g q < thr w g p
  · rw [if_pos c, if_neg (by omega)]
  · rw [if_neg c, if_pos (by omega)]
theorem nea_rng {p q : Int} (hp : p = -1 ∨ inN a p) (hq : q = -1 ∨ inN a q) : nea w g p q = -1 ∨ inN a (nea w g p q) := by
  unfold nea; split
  · exact hq
  · exact hp
theorem c87 (h : Cb (S.1 0 n) a) (hw : WF T a) (hT : Tc S a w g) (hW : Wok a w) (hG : Gok a g) {c : Int} (hc : inN a c) : zr_sem zF (d + 4) 87 [za 1 0 9, za 0 n 0, zi (zo c)] S = some (.inl (some (zi (zo (stp a w g c)))), S) := by
  have uN := WF_nc hw
  have u0 := hw.1.1
  have u1 := hw.1.2.1
  have gc := col_rng hw hc.1 hc.2
  have e1 := hc.1
  have e2 := hc.2
  have r0 := nb4_rng a c 0
  have r1 := nb4_rng a c 1
  have r2 := nb4_rng a c 2
  have r3 := nb4_rng a c 3
  have n1 := nea_rng (w := w) (g := g) r0 r1
  have n2 := nea_rng (w := w) (g := g) n1 r2
  have n3 := nea_rng (w := w) (g := g) n2 r3
  have bb := thr_b hW hG n3
  have k0 : cAt a (c % a 0) (c / a 0 - 1) = nb4 a c 0 := rfl
  have k1 : cAt a (c % a 0 - 1) (c / a 0) = nb4 a c 1 := rfl
  have k2 : cAt a (c % a 0 + 1) (c / a 0) = nb4 a c 2 := rfl
  have k3 : cAt a (c % a 0) (c / a 0 + 1) = nb4 a c 3 := rfl
  rw [ze_87]
  simp (maxSteps := 10000000) (disch := omega) only [c4 h hw, c5 h hw, c3 h hw, k0, k1, k2, k3, c88 hw hT hW hG r0 r1, c88 hw hT hW hG n1 r2, c88 hw hT hW hG n2 r3, c85 hw hT hW hG n3, zo_add, zo_sub, zo_mul, zo_neg, zo_lt, zo_le, zo_eq, zo_nn, zin_ok, zlt_eq, zr0, zr1, zr3, zr4, zr0x, zr1x, zr3x, zr4x, zb_and, zb_0, zmin_o, zmax_o, zabs_o, zo_div, zo_mod, ↓reduceIte, Int.reduceToNat, Int.reduceNeg, Int.reduceAdd, Int.reduceMul, Int.reduceSub, Int.reduceEq, Int.reduceLT, Int.reduceLE, if_true, if_false, Nat.reduceAdd, Nat.reduceMul]
  unfold stp
  show (if 1000000 ≤ thr w g (bst a w g c) then (some (.inl (some (zi (zo (-1)))), S) : Option zO) else some (.inl (some (zi (zo (bst a w g c)))), S)) = _
  by_cases z : thr w g (bst a w g c) < 1000000
  · rw [if_neg (by omega), if_pos z]
  · rw [if_pos (by omega), if_neg z]
theorem stp_rng (c : Int) : stp a w g c = -1 ∨ inN a (stp a w g c) := by
  unfold stp; split
  · exact bst_rng c
  · exact Or.inl rfl
theorem c64d {c : Nat} (hc : c < 100) {v : Int32} : zr_sem zF (d + 1) 64 [za 1 0 12, zi (zo c), zi v] S = some (.inl none, zs_set S 1 0 13 c v) := by
  rw [ze_64d]
  simp (maxSteps := 10000000) (disch := omega) only [Int.toNat_natCast, zo_add, zo_sub, zo_mul, zo_neg, zo_lt, zo_le, zo_eq, zo_nn, zin_ok, zlt_eq, zr0, zr1, zr3, zr4, zr0x, zr1x, zr3x, zr4x, zb_and, zb_0, zmin_o, zmax_o, zabs_o, zo_div, zo_mod, ↓reduceIte, Int.reduceToNat, Int.reduceNeg, Int.reduceAdd, Int.reduceMul, Int.reduceSub, Int.reduceEq, Int.reduceLT, Int.reduceLE, if_true, if_false, Nat.reduceAdd, Nat.reduceMul]
  rw [if_neg (by omega), if_neg (by omega)]
theorem c64c {c : Nat} (hc : c < 100) {v : Int32} : zr_sem zF (d + 1) 64 [za 1 0 10, zi (zo c), zi v] S = some (.inl none, zs_set S 1 0 11 c v) := by
  rw [ze_64c]
  simp (maxSteps := 10000000) (disch := omega) only [Int.toNat_natCast, zo_add, zo_sub, zo_mul, zo_neg, zo_lt, zo_le, zo_eq, zo_nn, zin_ok, zlt_eq, zr0, zr1, zr3, zr4, zr0x, zr1x, zr3x, zr4x, zb_and, zb_0, zmin_o, zmax_o, zabs_o, zo_div, zo_mod, ↓reduceIte, Int.reduceToNat, Int.reduceNeg, Int.reduceAdd, Int.reduceMul, Int.reduceSub, Int.reduceEq, Int.reduceLT, Int.reduceLE, if_true, if_false, Nat.reduceAdd, Nat.reduceMul]
  rw [if_neg (by omega), if_neg (by omega)]
def gup (g : Int → Int) (k : Nat) (v : Int) : Int → Int := fun c => if c = k then v else g c
theorem Tc_gup (hT : Tc S a w g) {k : Nat} {v : Int} : Tc (zs_set S 1 0 13 k (zo v)) a w (gup g k v) := by
  refine ⟨⟨by rw [zs_oth (by omega)]; exact hT.1.1, by rw [zs_oth (by omega)]; exact hT.1.2⟩, fun i hi => ⟨by rw [zs_oth (by omega)]; exact (hT.2 i hi).1, ?_⟩⟩
  unfold gup
  by_cases e : i = k
  · subst e; rw [zs_self, if_pos rfl]
  · rw [zs_oth (by omega), if_neg (by omega)]; exact (hT.2 i hi).2
/-- what a sweep has brought so far -/
def Swp (a : Rw) (w : Int → Int) (t : Int) (D g0 g : Int → Int) (k : Nat) (fl : Int) : Prop := Ap a t D g ∧ (∀ c, inN a c → g c ≤ g0 c) ∧ (fl = 0 ∨ fl = 1) ∧ (fl = 0 → ∀ c, inN a c → g c = g0 c) ∧ (∀ (c e : Int) (s : Nat), inN a c → c < k → s < 4 → nb4 a c s = e → inN a e → g0 e = D e → D c = w e + D e → D c < 1000000 → c ≠ t → g c = D c)
theorem Ap_Gok (hS : Sol a w t D) (h : Ap a t D g) : Gok a g := fun c hc => by
  have := h.2 c hc
  have := (hS.2 c hc).1
  omega
theorem c84_l (hw : WF T a) (hW : Wok a w) (hS : Sol a w t D) {g0 : Int → Int} : ∀ (m k f : Nat) (S : zS) (g : Int → Int) (fl : Int), k + m = (a 0 * a 1).toNat → m < f → Cb (S.1 0 n) a → Tc S a w g → Swp a w t D g0 g k fl → ∃ S' g' fl', zy zF (d + 4) 84 f 4 [some (za 1 0 9), some (za 0 n 0), some (zi (zo fl)), some (zi (zo k)), none] S = some (.inl (some (zi (zo fl'))), S') ∧ Tc S' a w g' ∧ Swp a w t D g0 g' (a 0 * a 1).toNat fl' ∧ Ft S S' := by
  have uN := WF_nc hw
  intro m
  induction m with
  | zero =>
    intro k f S g fl hk hf h hT hP
    obtain ⟨f, rfl⟩ : ∃ f', f = f' + 1 := ⟨f - 1, by omega⟩
    refine ⟨S, g, fl, ?_, hT, by rw [← show k = (a 0 * a 1).toNat by omega]; exact hP, Ft_refl S⟩
    rw [ze_84_4, c2 h, zr1]
    simp (maxSteps := 10000000) (disch := omega) only [zo_add, zo_sub, zo_mul, zo_neg, zo_lt, zo_le, zo_eq, zo_nn, zin_ok, zlt_eq, zr0, zr1, zr3, zr4, zr0x, zr1x, zr3x, zr4x, zb_and, zb_0, zmin_o, zmax_o, zabs_o, zo_div, zo_mod, ↓reduceIte, Int.reduceToNat, Int.reduceNeg, Int.reduceAdd, Int.reduceMul, Int.reduceSub, Int.reduceEq, Int.reduceLT, Int.reduceLE, if_true, if_false, Nat.reduceAdd, Nat.reduceMul]
    rw [if_pos (by omega)]
    rcases hP.2.2.1 with e | e <;> subst e <;> rfl
  | succ m ih =>
    intro k f S g fl hk hf h hT hP
    obtain ⟨f, rfl⟩ : ∃ f', f = f' + 1 := ⟨f - 1, by omega⟩
    have hc : inN a (k : Int) := ⟨by omega, by omega⟩
    obtain ⟨hA, hle, hfl, hsame, hprog⟩ := hP
    have hG := Ap_Gok hS hA
    have gk := hA.2 _ hc
    have gk0 := hG _ hc
    have sr := stp_rng (a := a) (w := w) (g := g) (k : Int)
    have tb := thr_b hW hG sr
    have bb := thr_b hW hG (bst_rng (a := a) (w := w) (D := g) (k : Int))
    rw [ze_84_4, c2 h, zr1]
    rw [if_neg (show ¬ zo (a 0 * a 1) ≤ zo (k : Int) by rw [zo_le (by omega) (by omega) (by omega) (by omega)]; omega), c87 h hw hT hW hG hc, zr1, c85 hw hT hW hG sr, zr1, c63d hw hT hc.2, zr1]
    have low : thr w g (stp a w g k) < g k → (k : Int) ≠ t ∧ D k ≤ thr w g (stp a w g k) := by
      intro l
      have hkt : (k : Int) ≠ t := fun e => by rw [e] at l; rw [hA.1] at l; rw [e] at tb; omega
      refine ⟨hkt, ?_⟩
      have z : thr w g (bst a w g k) < 1000000 := by
        by_cases z : thr w g (bst a w g k) < 1000000
        · exact z
        · exfalso
          have e : stp a w g k = -1 := if_neg z
          have e2 : thr w g (stp a w g k) = 2000000 := by rw [e]; rfl
          omega
      have es : stp a w g k = bst a w g k := if_pos z
      rw [es]
      have hi := bst_in (a := a) (w := w) (D := g) (k : Int) (by omega)
      obtain ⟨s, hs, hs2⟩ := bst_mem (a := a) (w := w) (D := g) (k : Int)
      have := Sol_le hS hs hc hi hs2.symm hkt
      have := (hA.2 _ hi).1
      rw [thr_in hi]; omega
    have settle : ∀ (e : Int) (s : Nat), s < 4 → nb4 a k s = e → inN a e → g0 e = D e → D k = w e + D e → D k < 1000000 → thr w g (stp a w g k) ≤ D k := by
      intro e s hs hn he h0 hD hl
      have ge : g e = D e := by have := hA.2 e he; have := hle e he; omega
      have l := bst_le (a := a) (w := w) (D := g) (k : Int) hs
      rw [hn, thr_in he, ge, ← hD] at l
      have es : stp a w g k = bst a w g k := if_pos (by omega)
      rw [es]; exact l
    by_cases c : thr w g (stp a w g k) < g k
    · have lw := low c
      have hA2 : Ap a t D (gup g k (thr w g (stp a w g k))) := by
        refine ⟨?_, fun x hx => ?_⟩
        · unfold gup; rw [if_neg (fun e => lw.1 e.symm)]; exact hA.1
        · unfold gup
          by_cases e : x = k
          · subst e; rw [if_pos rfl]; omega
          · rw [if_neg e]; exact hA.2 x hx
      have hP2 : Swp a w t D g0 (gup g k (thr w g (stp a w g k))) (k + 1) 1 := by
        refine ⟨hA2, fun x hx => ?_, Or.inr rfl, fun e => by omega, fun x e s hx hxk hs hn he h0 hD hl hxt => ?_⟩
        · unfold gup
          by_cases e : x = k
          · subst e; rw [if_pos rfl]; have := hle _ hx; omega
          · rw [if_neg e]; exact hle x hx
        · unfold gup
          by_cases z : x = k
          · subst z
            rw [if_pos rfl]
            have := settle e s hs hn he h0 hD hl
            omega
          · rw [if_neg z]; exact hprog x e s hx (by omega) hs hn he h0 hD hl hxt
      have hT2 := Tc_gup hT (k := k) (v := thr w g (stp a w g k))
      have hc2 : Cb ((zs_set S 1 0 13 k (zo (thr w g (stp a w g k)))).1 0 n) a := by rw [Ft_0 (Ft_set (Ft_refl S) 13 k _ (Or.inr rfl)) n]; exact h
      obtain ⟨S2, g2, fl2, q1, q2, q3, q4⟩ := ih (k + 1) f _ _ 1 (by omega) (by omega) hc2 hT2 hP2
      refine ⟨S2, g2, fl2, ?_, q2, q3, Ft_trans (Ft_set (Ft_refl S) 13 k _ (Or.inr rfl)) q4⟩
      rw [if_neg (show ¬ zo (g k) ≤ zo (thr w g (stp a w g k)) by rw [zo_le (by omega) (by omega) (by omega) (by omega)]; omega), c64d (by omega), zr0, zo_add]
      exact q1
    · have hP2 : Swp a w t D g0 g (k + 1) fl := by
        refine ⟨hA, hle, hfl, hsame, fun x e s hx hxk hs hn he h0 hD hl hxt => ?_⟩
        by_cases z : x = k
        · subst z
          have := settle e s hs hn he h0 hD hl
          omega
        · exact hprog x e s hx (by omega) hs hn he h0 hD hl hxt
      obtain ⟨S2, g2, fl2, q1, q2, q3, q4⟩ := ih (k + 1) f S g fl (by omega) (by omega) h hT hP2
      refine ⟨S2, g2, fl2, ?_, q2, q3, q4⟩
      rw [if_pos (show zo (g k) ≤ zo (thr w g (stp a w g k)) by rw [zo_le (by omega) (by omega) (by omega) (by omega)]; omega), zo_add]
      exact q1
theorem Swp_0 (h : Ap a t D g) : Swp a w t D g g 0 0 := ⟨h, fun _ _ => Int.le_refl _, Or.inl rfl, fun _ _ _ => rfl, fun c e s hc h0 => by have := hc.1; omega⟩
/-- a whole sweep settles a cell, or nothing is left -/
theorem Swp_end (hw : WF T a) (hW : Wok a w) (hS : Sol a w t D) (h0 : Ap a t D g) {g2 : Int → Int} {fl : Int} (h : Swp a w t D g g2 (a 0 * a 1).toNat fl) : (usD a D g = 0 ∨ usD a D g2 < usD a D g) ∧ (fl = 0 → usD a D g2 = 0) ∧ (usD a D g = 0 → usD a D g2 = 0) := by
  have uN := WF_nc hw
  have ug := us_ge a D g
  have ug2 := us_ge a D g2
  have P : usD a D g = 0 ∨ usD a D g2 < usD a D g := by
    by_cases z : usD a D g = 0
    · exact Or.inl z
    · right
      have : ∃ c, inN a c ∧ g c ≠ D c := by
        refine Classical.byContradiction (fun n => z ?_)
        have hall : ∀ c, inN a c → g c = D c := fun c hc => Classical.byContradiction (fun e => n ⟨c, hc, e⟩)
        have zz : ∀ m : Nat, zsum (fun _ => (0 : Int)) m = 0 := by intro m; induction m with | zero => rfl | succ m ih => unfold zsum; rw [ih]; rfl
        rw [← zz (a 0 * a 1).toNat]
        exact zsum_congr _ (fun i hi => if_pos (hall _ ⟨by omega, by omega⟩))
      obtain ⟨c, hc, hg⟩ := this
      obtain ⟨c, e, s, q1, q2, q3, q4, q5, q6, q7, q8, q9⟩ := unset hW hS h0 (D c).toNat c (by have := (hS.2 c hc).1; omega) hc hg
      exact us_drop hw h0 (fun x hx => ⟨(h.1.2 x hx).1, h.2.1 x hx⟩) q1 q2 (h.2.2.2.2 c e s q1 (by have := q1.2; omega) q3 q4 q5 q6 q7 q8 q9)
  refine ⟨P, fun e => ?_, fun e => ?_⟩
  · have s := us_same (D := D) hw (h.2.2.2.1 e)
    rcases P with z | z
    · omega
    · omega
  · have hall := us_0 hw e
    have zz : ∀ m : Nat, zsum (fun _ => (0 : Int)) m = 0 := by intro m; induction m with | zero => rfl | succ m ih => unfold zsum; rw [ih]; rfl
    rw [← zz (a 0 * a 1).toNat]
    refine zsum_congr _ (fun i hi => if_pos ?_)
    have hi2 : inN a (i : Int) := ⟨by omega, by omega⟩
    have := h.1.2 _ hi2
    have := h.2.1 _ hi2
    have := hall _ hi2
    omega
theorem c83_r (hw : WF T a) (hW : Wok a w) (hS : Sol a w t D) : ∀ (m k f : Nat) (S : zS) (g : Int → Int) (fl : Int), k + m = 100 → m < f → Cb (S.1 0 n) a → Tc S a w g → Ap a t D g → (usD a D g = 0 ∨ usD a D g + k ≤ 99) → (fl = 0 ∨ fl = 1) → (fl = 0 → usD a D g = 0) → ∃ S' g', zy zF (d + 5) 83 f 115 [some (za 1 0 9), some (za 0 n 0), none, none, none, some (zi (zo fl)), some (zi (zo k))] S = some (.inl none, S') ∧ Tc S' a w g' ∧ (∀ c, inN a c → g' c = D c) ∧ Ft S S' := by
  have hb := zF1_big
  have uN := WF_nc hw
  intro m
  induction m with
  | zero =>
    intro k f S g fl hk hf h hT hA hu hfl hz
    obtain ⟨f, rfl⟩ : ∃ f', f = f' + 1 := ⟨f - 1, by omega⟩
    have ug := us_ge a D g
    refine ⟨S, g, ?_, hT, us_0 hw (by omega), Ft_refl S⟩
    rw [ze_83_115, if_pos (show zo 100 ≤ zo (k : Int) by rw [zo_le (by omega) (by omega) (by omega) (by omega)]; omega)]
  | succ m ih =>
    intro k f S g fl hk hf h hT hA hu hfl hz
    obtain ⟨f, rfl⟩ : ∃ f', f = f' + 1 := ⟨f - 1, by omega⟩
    rw [ze_83_115, if_neg (show ¬ zo 100 ≤ zo (k : Int) by rw [zo_le (by omega) (by omega) (by omega) (by omega)]; omega)]
    by_cases c : fl = 0
    · subst c
      exact ⟨S, g, by rw [if_pos rfl], hT, us_0 hw (hz rfl), Ft_refl S⟩
    · have hfl1 : fl = 1 := by omega
      subst hfl1
      obtain ⟨S2, g2, fl2, q1, q2, q3, q4⟩ := c84_l (n := n) (d := d) hw hW hS (a 0 * a 1).toNat 0 zF1 S g 0 (by omega) (by omega) h hT (Swp_0 hA)
      rw [show ((0 : Nat) : Int) = 0 from rfl] at q1
      have E := Swp_end hw hW hS hA q3
      have hc2 : Cb (S2.1 0 n) a := by rw [Ft_0 q4 n]; exact h
      obtain ⟨S3, g3, r1, r2, r3, r4⟩ := ih (k + 1) f S2 g2 fl2 (by omega) (by omega) hc2 q2 q3.1 (by
        rcases E.1 with z | z
        · exact Or.inl (E.2.2 z)
        · have := us_ge a D g2
          rcases hu with y | y
          · omega
          · exact Or.inr (by omega)) q3.2.2.1 E.2.1
      refine ⟨S3, g3, ?_, r2, r3, Ft_trans q4 r4⟩
      rw [if_neg (by decide), ze_84, q1, zr1, zo_add]
      exact r1
theorem c83_i (hw : WF T a) (hW : Wok a (wgt a b)) (hb : (b : Int) < a 9) (ht : inN a t) (hK : S.1 1 0 10 1 = zo 1000000 ∧ S.1 1 0 12 1 = zo 1000000) : ∀ (m k f : Nat) (S1 : zS), k + m = (a 0 * a 1).toNat → m < f → Cb (S1.1 0 n) a → Ft S S1 → (∀ i : Nat, i < k → S1.1 1 0 11 i = zo (wgt a b i) ∧ S1.1 1 0 13 i = zo 1000000) → ∃ S' f', f ≤ f' + (m + 1) ∧ zy zF (d + 5) 83 f 10 [some (za 1 0 9), some (za 0 n 0), some (zi (zo b)), some (zi (zo t)), some (zi (zo (a (40 + 10 * b)))), some (zi (zo k)), none] S1 = zy zF (d + 5) 83 f' 115 [some (za 1 0 9), some (za 0 n 0), none, none, none, some (zi (zo 1)), some (zi (zo 0))] S' ∧ Tc S' a (wgt a b) (fun c => if c = t then 0 else 1000000) ∧ Ft S S' := by
  have uN := WF_nc hw
  have u9 := hw.1.2.2.2.2.2.2.2.2.2
  have gB := hw.2.2.2.1 b hb
  have t1 := ht.1
  have t2 := ht.2
  intro m
  induction m with
  | zero =>
    intro k f S1 hk hf h hF hs
    obtain ⟨f, rfl⟩ : ∃ f', f = f' + 1 := ⟨f - 1, by omega⟩
    obtain ⟨q, rfl⟩ : ∃ q : Nat, t = q := ⟨t.toNat, by omega⟩
    refine ⟨zs_set S1 1 0 13 q (zo 0), f, by omega, ?_, ⟨⟨by rw [zs_oth (by omega), hF.2 _ _ _ _ (by omega)]; exact hK.1, by rw [zs_oth (by omega), hF.2 _ _ _ _ (by omega)]; exact hK.2⟩, fun i hi => ⟨?_, ?_⟩⟩, Ft_set hF 13 q _ (Or.inr rfl)⟩
    · rw [ze_83_10, c2 h, zr1, if_pos (show zo (a 0 * a 1) ≤ zo (k : Int) by rw [zo_le (by omega) (by omega) (by omega) (by omega)]; omega), c64d (by omega), zr0]
    · rw [zs_oth (by omega)]; exact (hs i (by omega)).1
    · by_cases e : i = q
      · subst e
        show (zs_set S1 1 0 13 i (zo 0)).1 1 0 13 i = zo (if (i : Int) = (i : Int) then 0 else 1000000)
        rw [zs_self, if_pos rfl]
      · show (zs_set S1 1 0 13 q (zo 0)).1 1 0 13 i = zo (if (i : Int) = (q : Int) then 0 else 1000000)
        rw [zs_oth (by omega), if_neg (by omega)]; exact (hs i (by omega)).2
  | succ m ih =>
    intro k f S1 hk hf h hF hs
    obtain ⟨f, rfl⟩ : ∃ f', f = f' + 1 := ⟨f - 1, by omega⟩
    have gS := hw.2.2.2.2.1 k (by omega)
    have eS : spC a (k : Int) = a (160 + k) := by unfold spC; rw [if_neg (by omega), Int.toNat_natCast]
    have wk : ∀ v : Int, wgt a b k = v → ∃ S' f', f + 1 ≤ f' + (m + 1 + 1) ∧ zy zF (d + 5) 83 f 10 [some (za 1 0 9), some (za 0 n 0), some (zi (zo b)), some (zi (zo t)), some (zi (zo (a (40 + 10 * b)))), some (zi (zo (k + 1))), none] (zs_set (zs_set S1 1 0 11 k (zo v)) 1 0 13 k (zo 1000000)) = zy zF (d + 5) 83 f' 115 [some (za 1 0 9), some (za 0 n 0), none, none, none, some (zi (zo 1)), some (zi (zo 0))] S' ∧ Tc S' a (wgt a b) (fun c => if c = t then 0 else 1000000) ∧ Ft S S' := by
      intro v hv
      have hF2 : Ft S (zs_set (zs_set S1 1 0 11 k (zo v)) 1 0 13 k (zo 1000000)) := Ft_set (Ft_set hF 11 k _ (Or.inl rfl)) 13 k _ (Or.inr rfl)
      obtain ⟨S', f', p1, p2, p3, p4⟩ := ih (k + 1) f _ (by omega) (by omega) (by rw [Ft_0 (Ft_set (Ft_set (Ft_refl S1) 11 k _ (Or.inl rfl)) 13 k _ (Or.inr rfl)) n]; exact h) hF2 (fun i hi => by
        by_cases e : i = k
        · subst e; exact ⟨by rw [zs_oth (by omega), zs_self, hv], zs_self⟩
        · exact ⟨by rw [zs_oth (by omega), zs_oth (by omega)]; exact (hs i (by omega)).1, by rw [zs_oth (by omega), zs_oth (by omega)]; exact (hs i (by omega)).2⟩)
      exact ⟨S', f', by omega, p2, p3, p4⟩
    have e := ze_83_10 (d := d + 4 + 1) (k := f) (S := S1) (n := n) (l2 := zo b) (l3 := zo t) (l4 := zo (a (40 + 10 * b))) (l5 := zo k)
    rw [c2 h, zr1, if_neg (show ¬ zo (a 0 * a 1) ≤ zo (k : Int) by rw [zo_le (by omega) (by omega) (by omega) (by omega)]; omega)] at e
    by_cases c1 : (k : Int) = a (40 + 10 * b)
    · have ev : wgt a b k = 1 + a (160 + k) := by
        unfold wgt fre
        rw [decide_eq_true c1, Bool.true_or, if_pos rfl, Int.toNat_natCast]
      rw [if_pos (show zo (k : Int) = zo (a (40 + 10 * b)) by rw [c1]), c63s h hw (c := (k : Int)) (by omega), zr1, eS, zo_add, c64c (by omega), zr0, c64d (by omega), zr0, zo_add] at e
      obtain ⟨S', f', p1, p2, p3⟩ := wk _ ev
      exact ⟨S', f', p1, e.trans p2, p3⟩
    · rw [if_neg (show ¬ zo (k : Int) = zo (a (40 + 10 * b)) by rw [zo_eq (by omega) (by omega) (by omega) (by omega)]; exact c1), c8 h hw (c := (k : Int)) (by omega) hb, zr1] at e
      have df : decide ((k : Int) = a (40 + 10 * b)) = false := decide_eq_false c1
      by_cases c2 : occ a (k : Int) b = -1
      · rw [decide_eq_false (show ¬ occ a (k : Int) b ≠ -1 by omega), if_pos (show zo (bI false) = zo 0 from rfl), c11 h hw (c := (k : Int)) (by omega) (by omega) hb, zr1] at e
        by_cases c3 : wdr a (k : Int) b = true
        · have ev : wgt a b k = 1000000 := by
            unfold wgt fre intr
            rw [df, c3]; rfl
          rw [c3, if_neg (by decide), c64c (by omega), zr0, c64d (by omega), zr0, zo_add] at e
          obtain ⟨S', f', p1, p2, p3⟩ := wk _ ev
          exact ⟨S', f', p1, e.trans p2, p3⟩
        · have c3 : wdr a (k : Int) b = false := Bool.eq_false_iff.mpr c3
          have ev : wgt a b k = 1 + a (160 + k) := by
            unfold wgt fre intr
            rw [df, c3, decide_eq_true c2, Int.toNat_natCast]; rfl
          rw [c3, if_pos (show zo (bI false) = zo 0 from rfl), c63s h hw (c := (k : Int)) (by omega), zr1, eS, zo_add, c64c (by omega), zr0, c64d (by omega), zr0, zo_add] at e
          obtain ⟨S', f', p1, p2, p3⟩ := wk _ ev
          exact ⟨S', f', p1, e.trans p2, p3⟩
      · have ev : wgt a b k = 1000000 := by
          unfold wgt fre intr
          rw [df, decide_eq_false c2, Bool.and_false]; rfl
        rw [decide_eq_true (show occ a (k : Int) b ≠ -1 from c2), if_neg (by decide), c64c (by omega), zr0, c64d (by omega), zr0, zo_add] at e
        obtain ⟨S', f', p1, p2, p3⟩ := wk _ ev
        exact ⟨S', f', p1, e.trans p2, p3⟩
theorem c83 (h : Cb (S.1 0 n) a) (hw : WF T a) (hb : (b : Int) < a 9) (ht : inN a t) (hK : S.1 1 0 10 1 = zo 1000000 ∧ S.1 1 0 12 1 = zo 1000000) (hS : Sol a (wgt a b) t D) : ∃ S' g, zr_sem zF (d + 6) 83 [za 1 0 9, za 0 n 0, zi (zo b), zi (zo t)] S = some (.inl none, S') ∧ Tc S' a (wgt a b) g ∧ (∀ c, inN a c → g c = D c) ∧ Ft S S' := by
  have hb2 := zF1_big
  have uN := WF_nc hw
  have hW := wgt_ok hw b
  obtain ⟨S1, f1, p1, p2, p3, p4⟩ := c83_i (S := S) (n := n) (d := d) hw hW hb ht hK (a 0 * a 1).toNat 0 zF1 S (by omega) (by omega) h (Ft_refl S) (fun i hi => by omega)
  have us := us_start hw ht hS
  have hc1 : Cb (S1.1 0 n) a := by rw [Ft_0 p4 n]; exact h
  obtain ⟨S2, g2, q1, q2, q3, q4⟩ := c83_r (n := n) (d := d) hw hW hS 100 0 f1 S1 _ 1 (by omega) (by omega) hc1 p3 us.2 (Or.inr (by have := us.1; omega)) (Or.inr rfl) (fun e => by omega)
  refine ⟨S2, g2, ?_, q2, q3, Ft_trans p4 q4⟩
  rw [ze_83, c6 h hw hb, zr1]
  exact p2.trans q1
end CW

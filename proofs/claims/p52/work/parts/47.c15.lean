/-! THE PURE SIDE 15: the class's turn: spreading -/
def gv (g : Nat → Int) (c : Nat) (nb : Int) : Nat → Int := fun i => if nb = -1 then g i else g i - (if i = c then 1 else 0) + (if (i : Int) = nb then 1 else 0)
/-- what the cells before k bring to cell i -/
def spG (a : Rw) (k i : Nat) : Int :=
  (if 0 < (i : Int) % a 0 ∧ (i : Int) - 1 < k then spF a (((i : Int) - 1) % a 0) (((i : Int) - 1) / a 0) else 0) +
  (if (i : Int) % a 0 < a 0 - 1 ∧ (i : Int) + 1 < k then spF a (((i : Int) + 1) % a 0) (((i : Int) + 1) / a 0) else 0) +
  (if 0 < (i : Int) / a 0 ∧ (i : Int) - a 0 < k then spF a (((i : Int) - a 0) % a 0) (((i : Int) - a 0) / a 0) else 0) +
  (if (i : Int) / a 0 < a 1 - 1 ∧ (i : Int) + a 0 < k then spF a (((i : Int) + a 0) % a 0) (((i : Int) + a 0) / a 0) else 0) -
  (if i < k then spF a ((i : Int) % a 0) ((i : Int) / a 0) * spA a i else 0)
section CG
variable {S : zS} {n d : Nat} {a : Rw} {T : Int}
theorem xy_of (hw : WF T a) {x y : Int} (h : (0 ≤ x ∧ x < a 0) ∧ (0 ≤ y ∧ y < a 1)) {i : Int} (e : i = a 0 * y + x) : i % a 0 = x ∧ i / a 0 = y := by
  subst e; exact cel_mod h
theorem spF_out (a : Rw) {x y : Int} (h : ¬((0 ≤ x ∧ x < a 0) ∧ (0 ≤ y ∧ y < a 1))) : spF a x y = 0 := by
  unfold spF spIn
  rw [if_neg h, if_neg (by omega)]
/-- the whole of it -/
theorem spG_end (hw : WF T a) {i : Nat} (hi : (i : Int) < a 0 * a 1) : spG a (a 0 * a 1).toNat i = spN a i - a (160 + i) := by
  have uN := WF_nc hw
  have u0 := hw.1.1
  have u1 := hw.1.2.1
  have g := col_rng hw (c := i) (by omega) hi
  have gc := cel_of (a := a) (c := i) (by omega) (by omega) hi
  unfold spG spN
  generalize hx : (i : Int) % a 0 = x at *
  generalize hy : (i : Int) / a 0 = y at *
  have e1 : spF a (x - 1) y = if 0 < x ∧ (i : Int) - 1 < ((a 0 * a 1).toNat : Int) then spF a (((i : Int) - 1) % a 0) (((i : Int) - 1) / a 0) else 0 := by
    by_cases c : 0 < x
    · have m := xy_of hw (x := x - 1) (y := y) (i := (i : Int) - 1) (by omega) (by omega)
      rw [if_pos ⟨c, by omega⟩, m.1, m.2]
    · rw [if_neg (by omega), spF_out a (by omega)]
  have e2 : spF a (x + 1) y = if x < a 0 - 1 ∧ (i : Int) + 1 < ((a 0 * a 1).toNat : Int) then spF a (((i : Int) + 1) % a 0) (((i : Int) + 1) / a 0) else 0 := by
    by_cases c : x < a 0 - 1
    · have m := xy_of hw (x := x + 1) (y := y) (i := (i : Int) + 1) (by omega) (by omega)
      have l := cel_lt (a := a) (x := x + 1) (y := y) (by omega)
      rw [if_pos ⟨c, by omega⟩, m.1, m.2]
    · rw [if_neg (by omega), spF_out a (by omega)]
  have e3 : spF a x (y - 1) = if 0 < y ∧ (i : Int) - a 0 < ((a 0 * a 1).toNat : Int) then spF a (((i : Int) - a 0) % a 0) (((i : Int) - a 0) / a 0) else 0 := by
    by_cases c : 0 < y
    · have m := xy_of hw (x := x) (y := y - 1) (i := (i : Int) - a 0) (by omega) (by rw [Int.mul_sub]; omega)
      rw [if_pos ⟨c, by omega⟩, m.1, m.2]
    · rw [if_neg (by omega), spF_out a (by omega)]
  have e4 : spF a x (y + 1) = if y < a 1 - 1 ∧ (i : Int) + a 0 < ((a 0 * a 1).toNat : Int) then spF a (((i : Int) + a 0) % a 0) (((i : Int) + a 0) / a 0) else 0 := by
    by_cases c : y < a 1 - 1
    · have m := xy_of hw (x := x) (y := y + 1) (i := (i : Int) + a 0) (by omega) (by rw [Int.mul_add]; omega)
      have l := cel_lt (a := a) (x := x) (y := y + 1) (by omega)
      have l2 := Int.mul_add (a 0) y 1
      rw [if_pos ⟨c, by omega⟩, m.1, m.2]
    · rw [if_neg (by omega), spF_out a (by omega)]
  rw [e1, e2, e3, e4, if_pos (show i < (a 0 * a 1).toNat by omega)]
  omega
/-- the four cells beside cell k, as cell i sees them -/
theorem nbs (hw : WF T a) {i k : Nat} (hi : (i : Int) < a 0 * a 1) (hk : (k : Int) < a 0 * a 1) :
    ((i : Int) = cAt a ((k : Int) % a 0) ((k : Int) / a 0 - 1) ↔ ((i : Int) / a 0 < a 1 - 1 ∧ (i : Int) + a 0 = k)) ∧
    ((i : Int) = cAt a ((k : Int) % a 0 - 1) ((k : Int) / a 0) ↔ ((i : Int) % a 0 < a 0 - 1 ∧ (i : Int) + 1 = k)) ∧
    ((i : Int) = cAt a ((k : Int) % a 0 + 1) ((k : Int) / a 0) ↔ (0 < (i : Int) % a 0 ∧ (i : Int) - 1 = k)) ∧
    ((i : Int) = cAt a ((k : Int) % a 0) ((k : Int) / a 0 + 1) ↔ (0 < (i : Int) / a 0 ∧ (i : Int) - a 0 = k)) := by
  have uN := WF_nc hw
  have u0 := hw.1.1
  have u1 := hw.1.2.1
  have g := col_rng hw (c := i) (by omega) hi
  have gc := cel_of (a := a) (c := i) (by omega) (by omega) hi
  have g2 := col_rng hw (c := k) (by omega) hk
  have gc2 := cel_of (a := a) (c := k) (by omega) (by omega) hk
  generalize hx : (i : Int) % a 0 = x at *
  generalize hy : (i : Int) / a 0 = y at *
  generalize hx2 : (k : Int) % a 0 = p at *
  generalize hy2 : (k : Int) / a 0 = q at *
  have m1 := Int.mul_sub (a 0) q 1
  have m2 := Int.mul_add (a 0) q 1
  have m3 := Int.mul_add (a 0) y 1
  have m4 := Int.mul_sub (a 0) y 1
  refine ⟨⟨fun h => ?_, fun h => ?_⟩, ⟨fun h => ?_, fun h => ?_⟩, ⟨fun h => ?_, fun h => ?_⟩, ⟨fun h => ?_, fun h => ?_⟩⟩
  · unfold cAt at h
    split at h
    · have z := xy_of hw (x := p) (y := q - 1) (i := (i : Int)) (by omega) h
      omega
    · omega
  · have z := xy_of hw (x := x) (y := y + 1) (i := (k : Int)) (by omega) (by omega)
    rw [cAt_in (by omega)]; omega
  · unfold cAt at h
    split at h
    · have z := xy_of hw (x := p - 1) (y := q) (i := (i : Int)) (by omega) h
      omega
    · omega
  · have z := xy_of hw (x := x + 1) (y := y) (i := (k : Int)) (by omega) (by omega)
    rw [cAt_in (by omega)]; omega
  · unfold cAt at h
    split at h
    · have z := xy_of hw (x := p + 1) (y := q) (i := (i : Int)) (by omega) h
      omega
    · omega
  · have z := xy_of hw (x := x - 1) (y := y) (i := (k : Int)) (by omega) (by omega)
    rw [cAt_in (by omega)]; omega
  · unfold cAt at h
    split at h
    · have z := xy_of hw (x := p) (y := q + 1) (i := (i : Int)) (by omega) h
      omega
    · omega
  · have z := xy_of hw (x := x) (y := y - 1) (i := (k : Int)) (by omega) (by omega)
    rw [cAt_in (by omega)]; omega
theorem cAt_m1 (a : Rw) (x y : Int) (h : 0 < a 0) : (cAt a x y = -1) ↔ ¬((0 ≤ x ∧ x < a 0) ∧ (0 ≤ y ∧ y < a 1)) := by
  unfold cAt
  by_cases c : (0 ≤ x ∧ x < a 0) ∧ (0 ≤ y ∧ y < a 1)
  · have l := cel_lt c
    rw [if_pos c]; simp [c]; omega
  · rw [if_neg c]; simp; omega
/-- a cell that spreads -/
theorem spG_step (hw : WF T a) {i k : Nat} (hi : (i : Int) < a 0 * a 1) (hk : (k : Int) < a 0 * a 1) (hs : spF a ((k : Int) % a 0) ((k : Int) / a 0) = 1) :
    gv (gv (gv (gv (spG a k) k (cAt a ((k : Int) % a 0) ((k : Int) / a 0 - 1))) k (cAt a ((k : Int) % a 0 - 1) ((k : Int) / a 0))) k (cAt a ((k : Int) % a 0 + 1) ((k : Int) / a 0))) k (cAt a ((k : Int) % a 0) ((k : Int) / a 0 + 1)) i = spG a (k + 1) i := by
  have u0 := hw.1.1
  have u1 := hw.1.2.1
  have N := nbs hw hi hk
  have g2 := col_rng hw (c := k) (by omega) hk
  have b1 := cAt_m1 a ((k : Int) % a 0) ((k : Int) / a 0 - 1) (by omega)
  have b2 := cAt_m1 a ((k : Int) % a 0 - 1) ((k : Int) / a 0) (by omega)
  have b3 := cAt_m1 a ((k : Int) % a 0 + 1) ((k : Int) / a 0) (by omega)
  have b4 := cAt_m1 a ((k : Int) % a 0) ((k : Int) / a 0 + 1) (by omega)
  have hA : spA a k = (if cAt a ((k : Int) % a 0) ((k : Int) / a 0 - 1) = -1 then 0 else 1) + (if cAt a ((k : Int) % a 0 - 1) ((k : Int) / a 0) = -1 then 0 else 1) + (if cAt a ((k : Int) % a 0 + 1) ((k : Int) / a 0) = -1 then 0 else 1) + (if cAt a ((k : Int) % a 0) ((k : Int) / a 0 + 1) = -1 then 0 else 1) := by
    unfold spA
    simp only [b1, b2, b3, b4]
    have c1 : (¬((0 ≤ (k : Int) % a 0 ∧ (k : Int) % a 0 < a 0) ∧ 0 ≤ (k : Int) / a 0 - 1 ∧ (k : Int) / a 0 - 1 < a 1)) = ((k : Int) / a 0 = 0) := propext (by omega)
    have c2 : (¬((0 ≤ (k : Int) % a 0 - 1 ∧ (k : Int) % a 0 - 1 < a 0) ∧ 0 ≤ (k : Int) / a 0 ∧ (k : Int) / a 0 < a 1)) = ((k : Int) % a 0 = 0) := propext (by omega)
    have c3 : (¬((0 ≤ (k : Int) % a 0 + 1 ∧ (k : Int) % a 0 + 1 < a 0) ∧ 0 ≤ (k : Int) / a 0 ∧ (k : Int) / a 0 < a 1)) = ((k : Int) % a 0 = a 0 - 1) := propext (by omega)
    have c4 : (¬((0 ≤ (k : Int) % a 0 ∧ (k : Int) % a 0 < a 0) ∧ 0 ≤ (k : Int) / a 0 + 1 ∧ (k : Int) / a 0 + 1 < a 1)) = ((k : Int) / a 0 = a 1 - 1) := propext (by omega)
    simp only [c1, c2, c3, c4]
    split <;> split <;> split <;> split <;> omega
  have one : ∀ (g : Nat → Int) (nb : Int), gv g k nb i = g i - (if i = k then (if nb = -1 then 0 else 1) else 0) + (if (i : Int) = nb then 1 else 0) := by
    intro g nb
    unfold gv
    by_cases c : nb = -1
    · rw [if_pos c, if_pos c, if_neg (show ¬ (i : Int) = nb by omega)]; split <;> omega
    · rw [if_neg c, if_neg c]
  rw [one, one, one, one]
  simp only [N.1, N.2.1, N.2.2.1, N.2.2.2]
  have q : ∀ (P : Prop) [Decidable P] (e : Int) (f : Int), (e = k → f = 1) → (if P ∧ e < ((k + 1 : Nat) : Int) then f else 0) = (if P ∧ e < (k : Int) then f else 0) + (if P ∧ e = (k : Int) then 1 else 0) := by
    intro P _ e f hf
    by_cases p : P
    · by_cases c : e = k
      · rw [if_pos ⟨p, by omega⟩, if_neg (by omega), if_pos ⟨p, c⟩, hf c]; omega
      · by_cases c2 : e < k
        · rw [if_pos ⟨p, by omega⟩, if_pos ⟨p, c2⟩, if_neg (by omega)]; omega
        · rw [if_neg (by omega), if_neg (by omega), if_neg (by omega)]; omega
    · rw [if_neg (fun h => p h.1), if_neg (fun h => p h.1), if_neg (fun h => p h.1)]; omega
  unfold spG
  rw [q (0 < (i : Int) % a 0) ((i : Int) - 1) _ (fun e => by rw [e]; exact hs), q ((i : Int) % a 0 < a 0 - 1) ((i : Int) + 1) _ (fun e => by rw [e]; exact hs), q (0 < (i : Int) / a 0) ((i : Int) - a 0) _ (fun e => by rw [e]; exact hs), q ((i : Int) / a 0 < a 1 - 1) ((i : Int) + a 0) _ (fun e => by rw [e]; exact hs)]
  have qi : (if i < k + 1 then spF a ((i : Int) % a 0) ((i : Int) / a 0) * spA a i else 0) = (if i < k then spF a ((i : Int) % a 0) ((i : Int) / a 0) * spA a i else 0) + (if i = k then spA a k else 0) := by
    by_cases c : i = k
    · subst c; rw [if_pos (by omega), if_neg (by omega), if_pos rfl, hs]; omega
    · by_cases c2 : i < k
      · rw [if_pos (by omega), if_pos c2, if_neg c]; omega
      · rw [if_neg (by omega), if_neg c2, if_neg c]; omega
  rw [qi, hA]
  by_cases c : i = k
  · simp only [if_pos c]; omega
  · simp only [if_neg c]; omega
/-- a cell that does not -/
theorem spG_skip {i k : Nat} (hs : spF a ((k : Int) % a 0) ((k : Int) / a 0) = 0) : spG a (k + 1) i = spG a k i := by
  have q : ∀ (P : Prop) [Decidable P] (e : Int) (f : Int), (e = k → f = 0) → (if P ∧ e < ((k + 1 : Nat) : Int) then f else 0) = (if P ∧ e < (k : Int) then f else 0) := by
    intro P _ e f hf
    by_cases p : P
    · by_cases c : e = k
      · rw [if_pos ⟨p, by omega⟩, if_neg (by omega), hf c]
      · by_cases c2 : e < k
        · rw [if_pos ⟨p, by omega⟩, if_pos ⟨p, c2⟩]
        · rw [if_neg (by omega), if_neg (by omega)]
    · rw [if_neg (fun h => p h.1), if_neg (fun h => p h.1)]
  unfold spG
  rw [q (0 < (i : Int) % a 0) ((i : Int) - 1) _ (fun e => by rw [e]; exact hs), q ((i : Int) % a 0 < a 0 - 1) ((i : Int) + 1) _ (fun e => by rw [e]; exact hs), q (0 < (i : Int) / a 0) ((i : Int) - a 0) _ (fun e => by rw [e]; exact hs), q ((i : Int) / a 0 < a 1 - 1) ((i : Int) + a 0) _ (fun e => by rw [e]; exact hs)]
  have qi : (if i < k + 1 then spF a ((i : Int) % a 0) ((i : Int) / a 0) * spA a i else 0) = (if i < k then spF a ((i : Int) % a 0) ((i : Int) / a 0) * spA a i else 0) := by
    by_cases c : i = k
    · subst c; rw [if_pos (by omega), if_neg (by omega), hs]; omega
    · by_cases c2 : i < k
      · rw [if_pos (by omega), if_pos c2]
      · rw [if_neg (by omega), if_neg c2]
  rw [qi]
theorem spG_0 (hw : WF T a) {i : Nat} : spG a 0 i = 0 := by
  have u0 := hw.1.1
  have uN := WF_nc hw
  unfold spG
  have m := Int.emod_nonneg (i : Int) (show a 0 ≠ 0 by omega)
  have m2 : (i : Int) % a 0 ≤ i := by
    have := Int.mul_ediv_add_emod (i : Int) (a 0)
    have d : 0 ≤ a 0 * ((i : Int) / a 0) := Int.mul_nonneg (by omega) (Int.ediv_nonneg (by omega) (by omega))
    omega
  have m3 : 0 < (i : Int) / a 0 → a 0 ≤ i := by
    intro h
    have := Int.mul_ediv_add_emod (i : Int) (a 0)
    have d : a 0 * 1 ≤ a 0 * ((i : Int) / a 0) := Int.mul_le_mul_of_nonneg_left (by omega) (by omega)
    omega
  rw [if_neg (by omega), if_neg (by omega), if_neg (by omega), if_neg (by omega), if_neg (by omega)]
  omega
/-- only the gains change -/
def Fg (S S' : zS) : Prop := S'.2 = S.2 ∧ ∀ k m o j, ¬(k = 1 ∧ m = 0 ∧ o = 8) → S'.1 k m o j = S.1 k m o j
theorem Fg_refl (S : zS) : Fg S S := ⟨rfl, fun _ _ _ _ _ => rfl⟩
theorem Fg_trans {S S1 S2 : zS} (h1 : Fg S S1) (h2 : Fg S1 S2) : Fg S S2 := ⟨h2.1.trans h1.1, fun k m o j a => (h2.2 k m o j a).trans (h1.2 k m o j a)⟩
theorem Fg_set (S : zS) (j : Nat) (v : Int32) : Fg S (zs_set S 1 0 8 j v) := by
  refine ⟨rfl, fun k m o i h => ?_⟩
  rw [zs_at, if_neg (by omega)]
theorem Fg_Fc {S S' : zS} (n : Nat) (h : Fg S S') : Fc n S S' := ⟨h.1, fun k m o j _ b => h.2 k m o j (by omega)⟩
theorem Fg_Cb {S S' : zS} (h : Fg S S') {n : Nat} : S'.1 0 n = S.1 0 n := by
  funext o j; exact h.2 0 n o j (by omega)
theorem c65g_l {v : Int32} : ∀ (m k f : Nat) (S : zS), k + m = 100 → m < f → (∀ c, c < k → S.1 1 0 8 c = v) → ∃ S', zy zF d 65 f 2 [some (za 1 0 7), some (zi v), some (zi (zo k))] S = some (.inl none, S') ∧ (∀ c, c < 100 → S'.1 1 0 8 c = v) ∧ Fg S S' := by
  intro m
  induction m with
  | zero =>
    intro k f S hk hf hs
    obtain ⟨f, rfl⟩ : ∃ f', f = f' + 1 := ⟨f - 1, by omega⟩
    refine ⟨S, ?_, fun c hc => hs c (by omega), Fg_refl S⟩
    rw [ze_65g_2]
    simp (maxSteps := 10000000) (disch := omega) only [zo_add, zo_sub, zo_mul, zo_neg, zo_lt, zo_le, zo_eq, zo_nn, zin_ok, zlt_eq, zr0, zr1, zr3, zr4, zr0x, zr1x, zr3x, zr4x, zb_and, zb_0, zmin_o, zmax_o, zabs_o, zo_div, zo_mod, ↓reduceIte, Int.reduceToNat, Int.reduceNeg, Int.reduceAdd, Int.reduceMul, Int.reduceSub, Int.reduceEq, Int.reduceLT, Int.reduceLE, if_true, if_false, Nat.reduceAdd, Nat.reduceMul]
    rw [if_pos (by omega)]
  | succ m ih =>
    intro k f S hk hf hs
    obtain ⟨f, rfl⟩ : ∃ f', f = f' + 1 := ⟨f - 1, by omega⟩
    obtain ⟨S2, e2, h2, F2⟩ := ih (k + 1) f (zs_set S 1 0 8 k v) (by omega) (by omega) (fun c hc => by
      rw [zs_at]
      by_cases e : c = k
      · rw [if_pos ⟨rfl, rfl, rfl, e⟩]
      · rw [if_neg (by omega)]; exact hs c (by omega))
    refine ⟨S2, ?_, h2, Fg_trans (Fg_set S k v) F2⟩
    rw [ze_65g_2]
    simp (maxSteps := 10000000) (disch := omega) only [Int.toNat_natCast, zo_add, zo_sub, zo_mul, zo_neg, zo_lt, zo_le, zo_eq, zo_nn, zin_ok, zlt_eq, zr0, zr1, zr3, zr4, zr0x, zr1x, zr3x, zr4x, zb_and, zb_0, zmin_o, zmax_o, zabs_o, zo_div, zo_mod, ↓reduceIte, Int.reduceToNat, Int.reduceNeg, Int.reduceAdd, Int.reduceMul, Int.reduceSub, Int.reduceEq, Int.reduceLT, Int.reduceLE, if_true, if_false, Nat.reduceAdd, Nat.reduceMul]
    rw [if_neg (by omega)]
    exact e2
theorem c65g {v : Int32} : ∃ S', zr_sem zF (d + 1) 65 [za 1 0 7, zi v] S = some (.inl none, S') ∧ (∀ c, c < 100 → S'.1 1 0 8 c = v) ∧ Fg S S' := by
  rw [ze_65g]
  have hb := zF1_big
  exact c65g_l 100 0 zF1 S (by omega) (by omega) (fun c hc => by omega)
theorem c54 {g : Nat → Int} {c : Nat} (hc : c < 100) {nb : Int} (hn : nb = -1 ∨ (0 ≤ nb ∧ nb < 100)) (hg : ∀ i, i < 100 → S.1 1 0 8 i = zo (g i)) : ∃ S', zr_sem zF (d + 2) 54 [za 1 0 3, zi (zo c), zi (zo nb)] S = some (.inl none, S') ∧ (∀ i, i < 100 → S'.1 1 0 8 i = zo (gv g c nb i)) ∧ Fg S S' := by
  rw [ze_54]
  unfold gv
  by_cases e : nb = -1
  · subst e
    refine ⟨S, ?_, fun i hi => ?_, Fg_refl S⟩
    · rw [if_pos rfl]
    · rw [if_pos rfl]; exact hg i hi
  · obtain ⟨j, rfl⟩ : ∃ j : Nat, nb = j := ⟨nb.toNat, by omega⟩
    have hj : j < 100 := by omega
    refine ⟨zs_set (zs_set S 1 0 8 c (zo (g c) - zo 1)) 1 0 8 j ((zs_set S 1 0 8 c (zo (g c) - zo 1)).1 1 0 8 j + zo 1), ?_, fun i hi => ?_, Fg_trans (Fg_set S c (zo (g c) - zo 1)) (Fg_set _ j _)⟩
    · simp (maxSteps := 10000000) (disch := omega) only [zo_add, zo_sub, zo_mul, zo_neg, zo_lt, zo_le, zo_eq, zo_nn, zin_ok, zlt_eq, zr0, zr1, zr3, zr4, zr0x, zr1x, zr3x, zr4x, zb_and, zb_0, zmin_o, zmax_o, zabs_o, zo_div, zo_mod, ↓reduceIte, Int.reduceToNat, Int.reduceNeg, Int.reduceAdd, Int.reduceMul, Int.reduceSub, Int.reduceEq, Int.reduceLT, Int.reduceLE, if_true, if_false, Nat.reduceAdd, Nat.reduceMul]
      rw [if_neg e, c63x hc, zr1, hg c hc, c64x hc, zr0, c63x hj, zr1, c64x hj, zr0, zo_sub]
    · rw [if_neg e, zs_at, zs_at, zs_at, hg i hi, hg j hj]
      by_cases c1 : i = j
      · subst c1
        by_cases c2 : i = c
        · subst c2
          simp only [true_and, and_self, if_true]
          rw [zo_sub, zo_add]
        · simp only [true_and, and_self, if_true, c2, if_false]
          rw [zo_add]; congr 1; omega
      · rw [if_neg (fun h => c1 h.2.2.2)]
        by_cases c2 : i = c
        · subst c2
          rw [if_pos ⟨rfl, rfl, rfl, rfl⟩, if_pos rfl, if_neg (by omega), zo_sub]; congr 1; omega
        · rw [if_neg (fun h => c2 h.2.2.2), if_neg c2, if_neg (by omega)]; congr 1; omega
theorem c53_20 (hw : WF T a) {y : Nat} (hy : (y : Int) < a 1) : ∀ (m x f : Nat) (S : zS), ((x + m : Nat) : Int) = a 0 → m < f → Cb (S.1 0 n) a → (∀ i : Nat, (i : Int) < a 0 * a 1 → S.1 1 0 8 i = zo (spG a (a 0 * y + x).toNat i)) → ∃ S' f', f ≤ f' + (m + 1) ∧ zy zF (d + 3) 53 f 20 [some (za 1 0 3), some (za 0 n 0), some (zi (zo y)), some (zi (zo x)), none] S = zy zF (d + 3) 53 f' 10 [some (za 1 0 3), some (za 0 n 0), some (zi (zo ((y : Int) + 1))), none, none] S' ∧ (∀ i : Nat, (i : Int) < a 0 * a 1 → S'.1 1 0 8 i = zo (spG a (a 0 * ((y : Int) + 1)).toNat i)) ∧ Fg S S' := by
  have uN := WF_nc hw
  have u0 := hw.1.1
  have u1 := hw.1.2.1
  intro m
  induction m with
  | zero =>
    intro x f S hx hf h hg
    obtain ⟨f, rfl⟩ : ∃ f', f = f' + 1 := ⟨f - 1, by omega⟩
    have n6 := h.2.1.1
    refine ⟨S, f, by omega, ?_, fun i hi => ?_, Fg_refl S⟩
    · rw [ze_53_20]
      simp (maxSteps := 10000000) (disch := omega) only [n6, zo_add, zo_sub, zo_mul, zo_neg, zo_lt, zo_le, zo_eq, zo_nn, zin_ok, zlt_eq, zr0, zr1, zr3, zr4, zr0x, zr1x, zr3x, zr4x, zb_and, zb_0, zmin_o, zmax_o, zabs_o, zo_div, zo_mod, ↓reduceIte, Int.reduceToNat, Int.reduceNeg, Int.reduceAdd, Int.reduceMul, Int.reduceSub, Int.reduceEq, Int.reduceLT, Int.reduceLE, if_true, if_false, Nat.reduceAdd, Nat.reduceMul]
      rw [if_pos (by omega)]
    · rw [hg i hi, Int.mul_add, show a 0 * (y : Int) + x = a 0 * y + a 0 * 1 by omega]
  | succ m ih =>
    intro x f S hx hf h hg
    obtain ⟨f, rfl⟩ : ∃ f', f = f' + 1 := ⟨f - 1, by omega⟩
    have n6 := h.2.1.1
    have hc : (0 ≤ (x : Int) ∧ (x : Int) < a 0) ∧ (0 ≤ (y : Int) ∧ (y : Int) < a 1) := by omega
    have gc := cel_lt hc
    obtain ⟨k, hk⟩ : ∃ k : Nat, a 0 * (y : Int) + x = k := ⟨(a 0 * (y : Int) + x).toNat, by omega⟩
    have kxy := xy_of hw hc hk.symm
    have ek : cAt a x y = k := by rw [cAt_in hc, hk]
    have hkl : (k : Int) < a 0 * a 1 := by omega
    have gS := hw.2.2.2.2.1 k hkl
    have eS : spC a (k : Int) = a (160 + k) := by unfold spC; rw [if_neg (by omega), Int.toNat_natCast]
    have gcl := cel_of (a := a) (c := k) (by omega) (by omega) hkl
    have eF : spF a ((k : Int) % a 0) ((k : Int) / a 0) = if 4 ≤ a (160 + k) then 1 else 0 := by
      unfold spF spIn
      rw [if_pos gcl.1, gcl.2, Int.toNat_natCast]
    rw [hk, Int.toNat_natCast] at hg
    have en : (a 0 * (y : Int) + ((x + 1 : Nat) : Int)).toNat = k + 1 := by omega
    rw [ze_53_20]
    simp (maxSteps := 10000000) (disch := omega) only [n6, c3 h hw, ek, c63s h hw (c := k) (by omega), eS, zo_add, zo_sub, zo_mul, zo_neg, zo_lt, zo_le, zo_eq, zo_nn, zin_ok, zlt_eq, zr0, zr1, zr3, zr4, zr0x, zr1x, zr3x, zr4x, zb_and, zb_0, zmin_o, zmax_o, zabs_o, zo_div, zo_mod, ↓reduceIte, Int.reduceToNat, Int.reduceNeg, Int.reduceAdd, Int.reduceMul, Int.reduceSub, Int.reduceEq, Int.reduceLT, Int.reduceLE, if_true, if_false, Nat.reduceAdd, Nat.reduceMul]
    rw [if_neg (by omega)]
    by_cases c : a (160 + k) < 4
    · rw [if_pos c]
      rw [if_neg (by omega)] at eF
      obtain ⟨S2, f2, q1, q2, q3, q4⟩ := ih (x + 1) f S (by omega) (by omega) h (fun i hi => by rw [en, spG_skip eF]; exact hg i hi)
      exact ⟨S2, f2, by omega, q2, q3, q4⟩
    · rw [if_neg c]
      rw [if_pos (by omega)] at eF
      have rg : ∀ p q : Int, cAt a p q = -1 ∨ (0 ≤ cAt a p q ∧ cAt a p q < 100) := fun p q => by have := cAt_rng a p q; omega
      have h100 : ∀ (S : zS) (g : Nat → Int), (∀ i : Nat, (i : Int) < a 0 * a 1 → S.1 1 0 8 i = zo (g i)) → ∃ g2 : Nat → Int, (∀ i : Nat, (i : Int) < a 0 * a 1 → g2 i = g i) ∧ (∀ i, i < 100 → S.1 1 0 8 i = zo (g2 i)) := by
        intro S g hS
        refine ⟨fun i => if (i : Int) < a 0 * a 1 then g i else (S.1 1 0 8 i).toInt, fun i hi => if_pos hi, fun i _ => ?_⟩
        by_cases e : (i : Int) < a 0 * a 1
        · simp only [if_pos e]; exact hS i e
        · simp only [if_neg e]; exact (Int32.ofInt_toInt _).symm
      obtain ⟨g0, z0, hg0⟩ := h100 S _ hg
      obtain ⟨S1, e1, g1, F1⟩ := c54 (d := d + 1) (S := S) (c := k) (by omega) (rg x (y - 1)) hg0
      have h1 : Cb (S1.1 0 n) a := by rw [Fg_Cb F1]; exact h
      obtain ⟨S2, e2, g2, F2⟩ := c54 (d := d + 1) (S := S1) (c := k) (by omega) (rg (x - 1) y) g1
      have h2 : Cb (S2.1 0 n) a := by rw [Fg_Cb F2]; exact h1
      obtain ⟨S3, e3, g3, F3⟩ := c54 (d := d + 1) (S := S2) (c := k) (by omega) (rg (x + 1) y) g2
      have h3 : Cb (S3.1 0 n) a := by rw [Fg_Cb F3]; exact h2
      obtain ⟨S4, e4, g4, F4⟩ := c54 (d := d + 1) (S := S3) (c := k) (by omega) (rg x (y + 1)) g3
      have h4 : Cb (S4.1 0 n) a := by rw [Fg_Cb F4]; exact h3
      obtain ⟨S5, f5, q1, q2, q3, q4⟩ := ih (x + 1) f S4 (by omega) (by omega) h4 (fun i hi => by
        rw [en, g4 i (by omega), ← spG_step hw hi hkl eF, kxy.1, kxy.2]
        unfold gv
        rw [z0 i hi])
      refine ⟨S5, f5, by omega, ?_, q3, Fg_trans F1 (Fg_trans F2 (Fg_trans F3 (Fg_trans F4 q4)))⟩
      rw [← q2]
      simp (maxSteps := 10000000) (disch := omega) only [e1, c3 h1 hw, e2, c3 h2 hw, e3, c3 h3 hw, e4, zo_add, zo_sub, zo_mul, zo_neg, zo_lt, zo_le, zo_eq, zo_nn, zin_ok, zlt_eq, zr0, zr1, zr3, zr4, zr0x, zr1x, zr3x, zr4x, zb_and, zb_0, zmin_o, zmax_o, zabs_o, zo_div, zo_mod, ↓reduceIte, Int.reduceToNat, Int.reduceNeg, Int.reduceAdd, Int.reduceMul, Int.reduceSub, Int.reduceEq, Int.reduceLT, Int.reduceLE, if_true, if_false, Nat.reduceAdd, Nat.reduceMul]
      rfl
theorem c53_10 (hw : WF T a) : ∀ (m y f : Nat) (S : zS), ((y + m : Nat) : Int) = a 1 → 12 * m + 1 < f → Cb (S.1 0 n) a → (∀ i : Nat, (i : Int) < a 0 * a 1 → S.1 1 0 8 i = zo (spG a (a 0 * y).toNat i)) → ∃ S' f', f ≤ f' + (12 * m + 1) ∧ zy zF (d + 3) 53 f 10 [some (za 1 0 3), some (za 0 n 0), some (zi (zo y)), none, none] S = zy zF (d + 3) 53 f' 119 [some (za 1 0 3), some (za 0 n 0), some (zi (zo 0)), none, none] S' ∧ (∀ i : Nat, (i : Int) < a 0 * a 1 → S'.1 1 0 8 i = zo (spN a i - a (160 + i))) ∧ Fg S S' := by
  have uN := WF_nc hw
  have u0 := hw.1.1
  have u1 := hw.1.2.1
  intro m
  induction m with
  | zero =>
    intro y f S hx hf h hg
    obtain ⟨f, rfl⟩ : ∃ f', f = f' + 1 := ⟨f - 1, by omega⟩
    have n7 := h.2.1.2.1
    refine ⟨S, f, by omega, ?_, fun i hi => ?_, Fg_refl S⟩
    · rw [ze_53_10]
      simp (maxSteps := 10000000) (disch := omega) only [n7, zo_add, zo_sub, zo_mul, zo_neg, zo_lt, zo_le, zo_eq, zo_nn, zin_ok, zlt_eq, zr0, zr1, zr3, zr4, zr0x, zr1x, zr3x, zr4x, zb_and, zb_0, zmin_o, zmax_o, zabs_o, zo_div, zo_mod, ↓reduceIte, Int.reduceToNat, Int.reduceNeg, Int.reduceAdd, Int.reduceMul, Int.reduceSub, Int.reduceEq, Int.reduceLT, Int.reduceLE, if_true, if_false, Nat.reduceAdd, Nat.reduceMul]
      rw [if_pos (by omega)]
    · rw [hg i hi, show (y : Int) = a 1 by omega, spG_end hw hi]
  | succ m ih =>
    intro y f S hx hf h hg
    obtain ⟨f, rfl⟩ : ∃ f', f = f' + 1 := ⟨f - 1, by omega⟩
    have n7 := h.2.1.2.1
    obtain ⟨S1, f1, q1, q2, q3, q4⟩ := c53_20 (d := d) hw (y := y) (by omega) (a 0).toNat 0 f S (by omega) (by omega) h (fun i hi => by rw [hg i hi, show a 0 * (y : Int) + ((0 : Nat) : Int) = a 0 * y by omega])
    have h1 : Cb (S1.1 0 n) a := by rw [Fg_Cb q4]; exact h
    obtain ⟨S2, f2, p1, p2, p3, p4⟩ := ih (y + 1) f1 S1 (by omega) (by omega) h1 q3
    refine ⟨S2, f2, by omega, ?_, p3, Fg_trans q4 p4⟩
    rw [← p2]
    rw [ze_53_10]
    simp (maxSteps := 10000000) (disch := omega) only [n7, zo_add, zo_sub, zo_mul, zo_neg, zo_lt, zo_le, zo_eq, zo_nn, zin_ok, zlt_eq, zr0, zr1, zr3, zr4, zr0x, zr1x, zr3x, zr4x, zb_and, zb_0, zmin_o, zmax_o, zabs_o, zo_div, zo_mod, ↓reduceIte, Int.reduceToNat, Int.reduceNeg, Int.reduceAdd, Int.reduceMul, Int.reduceSub, Int.reduceEq, Int.reduceLT, Int.reduceLE, if_true, if_false, Nat.reduceAdd, Nat.reduceMul]
    rw [if_neg (by omega)]
    exact q2
theorem c17 (h : Cb (S.1 0 n) a) (hw : WF T a) {c : Nat} (hc : (c : Int) < a 0 * a 1) {v : Int} (hv : -1000 ≤ v ∧ v ≤ 1000) : zr_sem zF (d + 2) 17 [za 0 n 0, zi (zo c), zi (zo v)] S = some (.inl none, zs_set S 0 n 8 c (zo (if 99 < a (160 + c) + v then 99 else a (160 + c) + v))) := by
  have uN := WF_nc hw
  have gS := hw.2.2.2.2.1 c hc
  have eS : spC a (c : Int) = a (160 + c) := by unfold spC; rw [if_neg (by omega), Int.toNat_natCast]
  rw [ze_17]
  simp (maxSteps := 10000000) (disch := omega) only [c63s h hw (c := c) (by omega), eS, c64s, zo_add, zo_sub, zo_mul, zo_neg, zo_lt, zo_le, zo_eq, zo_nn, zin_ok, zlt_eq, zr0, zr1, zr3, zr4, zr0x, zr1x, zr3x, zr4x, zb_and, zb_0, zmin_o, zmax_o, zabs_o, zo_div, zo_mod, ↓reduceIte, Int.reduceToNat, Int.reduceNeg, Int.reduceAdd, Int.reduceMul, Int.reduceSub, Int.reduceEq, Int.reduceLT, Int.reduceLE, if_true, if_false, Nat.reduceAdd, Nat.reduceMul]
theorem WF_spk (hw : WF T a) (k : Nat) (hk : k ≤ ncl a) : WF T (spk a k) := by
  have uN := WF_nc hw
  refine WF_soapF hw (fun i hi => spk_lo a k hi) (fun c hc => ?_)
  unfold spk
  have s := (spr_ok hw).1.2.2.2.2.1 c (by rw [(spr_ok hw).2 0 (by omega), (spr_ok hw).2 1 (by omega)]; exact hc)
  have e : spr a (160 + c) = spv a c := by
    unfold spr ncl
    rw [if_pos (by omega), show 160 + c - 160 = c by omega]; rfl
  rw [e] at s
  by_cases l : 160 ≤ 160 + c ∧ 160 + c < 160 + k
  · rw [if_pos l, show 160 + c - 160 = c by omega]; exact s
  · rw [if_neg l]; exact hw.2.2.2.2.1 c hc
theorem c53_l (hw : WF T a) : ∀ (m k f : Nat) (S : zS), k + m = ncl a → m < f → Cb (S.1 0 n) (spk a k) → (∀ i : Nat, (i : Int) < a 0 * a 1 → S.1 1 0 8 i = zo (spN a i - a (160 + i))) → ∃ S', zy zF (d + 3) 53 f 119 [some (za 1 0 3), some (za 0 n 0), some (zi (zo k)), none, none] S = some (.inl none, S') ∧ Cb (S'.1 0 n) (spr a) ∧ Fc n S S' := by
  have uN := WF_nc hw
  have hnc : ncl a = (a 0 * a 1).toNat := rfl
  intro m
  induction m with
  | zero =>
    intro k f S hk hf h hg
    obtain ⟨f, rfl⟩ : ∃ f', f = f' + 1 := ⟨f - 1, by omega⟩
    have r := c2 (d := d + 2) h
    rw [spk_lo a k (by omega), spk_lo a k (by omega)] at r
    rw [show k = ncl a by omega, spk_end] at h
    refine ⟨S, ?_, h, Fc_refl n S⟩
    rw [ze_53_119]
    simp (maxSteps := 10000000) (disch := omega) only [r, zo_add, zo_sub, zo_mul, zo_neg, zo_lt, zo_le, zo_eq, zo_nn, zin_ok, zlt_eq, zr0, zr1, zr3, zr4, zr0x, zr1x, zr3x, zr4x, zb_and, zb_0, zmin_o, zmax_o, zabs_o, zo_div, zo_mod, ↓reduceIte, Int.reduceToNat, Int.reduceNeg, Int.reduceAdd, Int.reduceMul, Int.reduceSub, Int.reduceEq, Int.reduceLT, Int.reduceLE, if_true, if_false, Nat.reduceAdd, Nat.reduceMul]
    rw [if_pos (by omega)]
  | succ m ih =>
    intro k f S hk hf h hg
    obtain ⟨f, rfl⟩ : ∃ f', f = f' + 1 := ⟨f - 1, by omega⟩
    have r := c2 (d := d + 2) h
    rw [spk_lo a k (by omega), spk_lo a k (by omega)] at r
    have wk := WF_spk hw k (by omega)
    have bb := spN_b hw k (by omega)
    have gS := hw.2.2.2.2.1 k (by omega)
    have ea : spk a k (160 + k) = a (160 + k) := if_neg (by omega)
    have hcl : (k : Int) < spk a k 0 * spk a k 1 := by rw [spk_lo a k (by omega), spk_lo a k (by omega)]; omega
    have w := c17 (d := d + 1) (v := spN a k - a (160 + k)) h wk (c := k) hcl (by omega)
    rw [ea, show a (160 + k) + (spN a k - a (160 + k)) = spN a k by omega] at w
    have hA := Cb_s (v := spv a k) h wk (c := k) hcl
    rw [spk_up] at hA
    obtain ⟨S2, e2, M2, F2⟩ := ih (k + 1) f _ (by omega) (by omega) hA (fun i hi => by rw [zs_at, if_neg (by omega)]; exact hg i hi)
    refine ⟨S2, ?_, M2, Fc_trans (Fc_set (Fc_refl n S) _ _ _) F2⟩
    rw [ze_53_119]
    have hgk := hg k (by omega)
    unfold spv at e2
    simp (maxSteps := 10000000) (disch := omega) only [r, c63x (S := S) (d := d + 2) (c := k), hgk, w, zo_add, zo_sub, zo_mul, zo_neg, zo_lt, zo_le, zo_eq, zo_nn, zin_ok, zlt_eq, zr0, zr1, zr3, zr4, zr0x, zr1x, zr3x, zr4x, zb_and, zb_0, zmin_o, zmax_o, zabs_o, zo_div, zo_mod, ↓reduceIte, Int.reduceToNat, Int.reduceNeg, Int.reduceAdd, Int.reduceMul, Int.reduceSub, Int.reduceEq, Int.reduceLT, Int.reduceLE, if_true, if_false, Nat.reduceAdd, Nat.reduceMul]
    rw [if_neg (by omega)]
    exact e2
theorem c53 (h : Cb (S.1 0 n) a) (hw : WF T a) : ∃ S', zr_sem zF (d + 4) 53 [za 1 0 3, za 0 n 0] S = some (.inl none, S') ∧ Cb (S'.1 0 n) (spr a) ∧ Fc n S S' := by
  have hb := zF1_big
  have uN := WF_nc hw
  have u1 := hw.1.2.1
  have hnc : ncl a = (a 0 * a 1).toNat := rfl
  obtain ⟨S1, e1, g1, F1⟩ := c65g (d := d + 2) (S := S) (v := zo 0)
  have h1 : Cb (S1.1 0 n) a := by rw [Fg_Cb F1]; exact h
  obtain ⟨S2, f2, p1, p2, p3, p4⟩ := c53_10 (n := n) (d := d) hw (a 1).toNat 0 zF1 S1 (by omega) (by omega) h1 (fun i hi => by rw [g1 i (by omega), show (a 0 * ((0 : Nat) : Int)).toNat = 0 by simp, spG_0 hw])
  have h2 : Cb (S2.1 0 n) a := by rw [Fg_Cb p4]; exact h1
  rw [← spk_0 a] at h2
  obtain ⟨S3, e3, M3, F3⟩ := c53_l (n := n) (d := d) hw (ncl a) 0 f2 S2 (by omega) (by omega) h2 p3
  refine ⟨S3, ?_, M3, Fc_trans (Fg_Fc n (Fg_trans F1 p4)) F3⟩
  rw [ze_53, e1, zr0]
  exact p2.trans e3
end CG

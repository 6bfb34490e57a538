/-! THE PURE SIDE 32: towing: model -/
def Tm (S : zS) (a : Rw) (g : Int → Int) : Prop := ∀ i : Nat, (i : Int) < a 0 * a 1 → S.1 3 0 3 i = zo (g i)
def Fq (S S' : zS) : Prop := S'.2 = S.2 ∧ ∀ k m o j, ¬(k = 3 ∧ m = 0 ∧ o = 3) → S'.1 k m o j = S.1 k m o j
theorem Fq_refl (S : zS) : Fq S S := ⟨rfl, fun _ _ _ _ _ => rfl⟩
theorem Fq_trans {S S1 S2 : zS} (h1 : Fq S S1) (h2 : Fq S1 S2) : Fq S S2 := ⟨h2.1.trans h1.1, fun k m o j a => (h2.2 k m o j a).trans (h1.2 k m o j a)⟩
theorem Fq_set {S S' : zS} (h : Fq S S') (j : Nat) (v : Int32) : Fq S (zs_set S' 3 0 3 j v) := ⟨h.1, fun k m o i b => by rw [zs_oth (by omega)]; exact h.2 k m o i b⟩
theorem Fq_Md {S S' : zS} {q : Nat} {a : Rw} (h : Fq S S') (hM : Md S q a) : Md S' q a := ⟨by rw [h.2 _ _ _ _ (by omega)]; exact hM.1, hM.2.1, fun j hj => by rw [h.2 _ _ _ _ (by omega)]; exact hM.2.2 j hj⟩
theorem Fq_Fm {S S' : zS} (h : Fq S S') (q : Nat) : Fm q S S' := ⟨h.1, fun k m o j _ b => h.2 k m o j (by omega)⟩
def SwM (a : Rw) (w : Int → Int) (t : Int) (D g0 g : Int → Int) (k : Nat) (fl : Int) : Prop := Ap a t D g ∧ (∀ c, inN a c → g c ≤ g0 c) ∧ ((fl = 0 ∧ ∀ c, inN a c → g c = g0 c) ∨ (fl = 1 ∧ ∃ c, inN a c ∧ g c < g0 c)) ∧ (∀ (c e : Int) (s : Nat), inN a c → inN a e → e < k → s < 4 → nb4 a c s = e → g0 e = D e → D c = w e + D e → D c < 1000000 → c ≠ t → g c = D c)
def fsF (a : Rw) (w D : Int → Int) (c : Int) : Nat → Int × Int
  | 0 => (-1, 1000000)
  | s + 1 => if thr w D (nb4 a c s) < (fsF a w D c s).2 then (nb4 a c s, thr w D (nb4 a c s)) else fsF a w D c s
section CX
variable {S : zS} {d q : Nat} {a : Rw} {T t : Int} {b : Nat} {w D g : Int → Int}
theorem fs_step (c : Int) (s : Nat) (p : Int) (h : fsF a w D c s = if thr w D p < 1000000 then (p, thr w D p) else (-1, 1000000)) : fsF a w D c (s + 1) = if thr w D (nea w D p (nb4 a c s)) < 1000000 then (nea w D p (nb4 a c s), thr w D (nea w D p (nb4 a c s))) else (-1, 1000000) := by
  rw [show fsF a w D c (s + 1) = if thr w D (nb4 a c s) < (fsF a w D c s).2 then (nb4 a c s, thr w D (nb4 a c s)) else fsF a w D c s from rfl, h]
  unfold nea
  by_cases c1 : thr w D p < 1000000
  · rw [if_pos c1]
    by_cases c2 : thr w D (nb4 a c s) < thr w D p
    · rw [if_pos c2, if_pos c2, if_pos (by omega)]
    · rw [if_neg c2, if_neg c2, if_pos c1]
  · rw [if_neg c1]
    by_cases c2 : thr w D (nb4 a c s) < 1000000
    · have c3 : thr w D (nb4 a c s) < thr w D p := by omega
      rw [if_pos c3, if_pos c2]
    · by_cases c3 : thr w D (nb4 a c s) < thr w D p
      · rw [if_pos c3, if_neg c2]
      · rw [if_neg c3, if_neg c1]; exact if_neg c2
theorem fs_4 (c : Int) : (fsF a w D c 4).1 = stp a w D c := by
  have h1 : fsF a w D c 1 = if thr w D (nb4 a c 0) < 1000000 then (nb4 a c 0, thr w D (nb4 a c 0)) else (-1, 1000000) := rfl
  have h2 := fs_step c 1 _ h1
  have h3 := fs_step c 2 _ h2
  have h4 := fs_step c 3 _ h3
  rw [h4]
  unfold stp
  show (if thr w D (bst a w D c) < 1000000 then (bst a w D c, thr w D (bst a w D c)) else (-1, 1000000)).1 = _
  split <;> rfl
theorem m215 (h : Md S q a) (hw : WF T a) {c : Int} (hc : inN a c) {s : Nat} (hs : s < 4) : zr_sem zF (d + 3) 215 [za 3 0 0, zi (zo c), zi (zo s)] S = some (.inl (some (zi (zo (nb4 a c s)))), S) := by
  have uN := WF_nc hw
  have u0 := hw.1.1
  have u1 := hw.1.2.1
  have gc := col_rng hw hc.1 hc.2
  have e1 := hc.1
  have e2 := hc.2
  have fin : ∀ x y : Int, -10 ≤ x → x ≤ 20 → -10 ≤ y → y ≤ 20 → (zx_ret1 (zr_sem zF (d + 2) 153 [za 3 0 0, zi (zo x), zi (zo y)] S) (fun x63 S61 => if x63 = zo 0 then some (.inl (some (zi (zo (-1)))), S61) else zx_ret1 (zr_sem zF (d + 2) 154 [za 3 0 0, zi (zo x), zi (zo y)] S61) (fun x66 S64 => some (.inl (some (zi x66)), S64)) zxx) zxx) = some (.inl (some (zi (zo (cAt a x y)))), S) := by
    intro x y h1 h2 h3 h4
    rw [m153 h hw (by omega) (by omega) (by omega) (by omega), zr1]
    by_cases z : (0 ≤ x ∧ x < a 0) ∧ (0 ≤ y ∧ y < a 1)
    · rw [decide_eq_true z, if_neg (by decide), m154 h, zr1, cAt_in z]
    · rw [decide_eq_false z, if_pos (show zo (bI false) = zo 0 from rfl), cAt_out z]
  have : s = 0 ∨ s = 1 ∨ s = 2 ∨ s = 3 := by omega
  rw [ze_215]
  rcases this with z | z | z | z <;> subst z
  · simp (maxSteps := 10000000) (disch := omega) only [m155 h hw, m156 h hw, zo_add, zo_sub, zo_mul, zo_neg, zo_lt, zo_le, zo_eq, zo_nn, zin_ok, zlt_eq, zr0, zr1, zr3, zr4, zr0x, zr1x, zr3x, zr4x, zb_and, zb_0, zmin_o, zmax_o, zabs_o, zo_div, zo_mod, ↓reduceIte, Int.reduceToNat, Int.reduceNeg, Int.reduceAdd, Int.reduceMul, Int.reduceSub, Int.reduceEq, Int.reduceLT, Int.reduceLE, if_true, if_false, Nat.reduceAdd, Nat.reduceMul]
    have := fin (c % a 0 + 0) (c / a 0 + -1) (by omega) (by omega) (by omega) (by omega)
    rw [show c % a 0 + 0 = c % a 0 by omega, show c / a 0 + -1 = c / a 0 - 1 by omega] at this ⊢
    exact this
  · simp (maxSteps := 10000000) (disch := omega) only [m155 h hw, m156 h hw, zo_add, zo_sub, zo_mul, zo_neg, zo_lt, zo_le, zo_eq, zo_nn, zin_ok, zlt_eq, zr0, zr1, zr3, zr4, zr0x, zr1x, zr3x, zr4x, zb_and, zb_0, zmin_o, zmax_o, zabs_o, zo_div, zo_mod, ↓reduceIte, Int.reduceToNat, Int.reduceNeg, Int.reduceAdd, Int.reduceMul, Int.reduceSub, Int.reduceEq, Int.reduceLT, Int.reduceLE, if_true, if_false, Nat.reduceAdd, Nat.reduceMul]
    have := fin (c % a 0 + -1) (c / a 0 + 0) (by omega) (by omega) (by omega) (by omega)
    rw [show c % a 0 + -1 = c % a 0 - 1 by omega, show c / a 0 + 0 = c / a 0 by omega] at this ⊢
    exact this
  · simp (maxSteps := 10000000) (disch := omega) only [m155 h hw, m156 h hw, zo_add, zo_sub, zo_mul, zo_neg, zo_lt, zo_le, zo_eq, zo_nn, zin_ok, zlt_eq, zr0, zr1, zr3, zr4, zr0x, zr1x, zr3x, zr4x, zb_and, zb_0, zmin_o, zmax_o, zabs_o, zo_div, zo_mod, ↓reduceIte, Int.reduceToNat, Int.reduceNeg, Int.reduceAdd, Int.reduceMul, Int.reduceSub, Int.reduceEq, Int.reduceLT, Int.reduceLE, if_true, if_false, Nat.reduceAdd, Nat.reduceMul]
    have := fin (c % a 0 + 1) (c / a 0 + 0) (by omega) (by omega) (by omega) (by omega)
    rw [show c / a 0 + 0 = c / a 0 by omega] at this ⊢
    exact this
  · simp (maxSteps := 10000000) (disch := omega) only [m155 h hw, m156 h hw, zo_add, zo_sub, zo_mul, zo_neg, zo_lt, zo_le, zo_eq, zo_nn, zin_ok, zlt_eq, zr0, zr1, zr3, zr4, zr0x, zr1x, zr3x, zr4x, zb_and, zb_0, zmin_o, zmax_o, zabs_o, zo_div, zo_mod, ↓reduceIte, Int.reduceToNat, Int.reduceNeg, Int.reduceAdd, Int.reduceMul, Int.reduceSub, Int.reduceEq, Int.reduceLT, Int.reduceLE, if_true, if_false, Nat.reduceAdd, Nat.reduceMul]
    have := fin (c % a 0 + 0) (c / a 0 + 1) (by omega) (by omega) (by omega) (by omega)
    rw [show c % a 0 + 0 = c % a 0 by omega] at this ⊢
    exact this
theorem m212 (h : Md S q a) (hw : WF T a) {c : Int} (hc : inN a c) (hb : (b : Int) < a 9) : zr_sem zF (d + 4) 212 [za 3 0 0, zi (zo b), zi (zo c)] S = some (.inl (some (zi (zo (bI (fre a b c))))), S) := by
  have uN := WF_nc hw
  have hwO := hw; obtain ⟨⟨⟨u0, u0x⟩, ⟨u1, u1x⟩, ⟨u2, u2x⟩, ⟨u3, u3x⟩, ⟨u4, u4x⟩, ⟨u5, u5x⟩, ⟨u6, u6x, uT⟩, ⟨u7, u7x⟩, ⟨u8, u8x⟩, ⟨u9, u9x⟩⟩, uD, uP, uB, uS, uI⟩ := hwO
  have gB := uB b hb
  have e1 := hc.1
  have e2 := hc.2
  have o1 := occ_ge a c b
  have o2 := occ_lt (a := a) c b (by omega)
  have d1 := drIn_ge a c
  have d2 := drIn_lt (a := a) c (by omega)
  have oc : ∀ v : Bool, v = true → (if zo (occ a c b) = zo (-1) then (some (.inl (some (zi (zo 1))), S) : Option zO) else some (.inl (some (zi (zo 0))), S)) = some (.inl (some (zi (zo (bI (v && decide (occ a c b = -1)))))), S) := by
    intro v hv
    subst hv
    by_cases z : occ a c b = -1
    · rw [if_pos (by rw [z]), decide_eq_true z]; rfl
    · rw [if_neg (by rw [zo_eq (by omega) (by omega) (by omega) (by omega)]; exact z), decide_eq_false z]; rfl
  unfold fre intr
  rw [ze_212, m160_0 h (by omega), zr1]
  by_cases c1 : c = a (40 + 10 * b)
  · rw [if_pos (by rw [c1]), decide_eq_true c1]; rfl
  · rw [if_neg (by rw [zo_eq (by omega) (by omega) (by omega) (by omega)]; exact c1), decide_eq_false c1, Bool.false_or, m168 h hw (by omega) (by omega), zr1]
    by_cases c2 : drIn a c = -1
    · have ew : wdr a c b = false := by unfold wdr; rw [if_pos c2]
      rw [if_pos (by rw [c2]), m170 h hw (by omega) (by omega) (by omega) (by omega), zr1, ew]
      exact oc _ rfl
    · rw [if_neg (by rw [zo_eq (by omega) (by omega) (by omega) (by omega)]; exact c2)]
      obtain ⟨j, hj⟩ : ∃ j : Nat, drIn a c = j := ⟨(drIn a c).toNat, by omega⟩
      rw [hj] at d2 c2 ⊢
      have gJ := uD j d2
      rw [m162_2 h (by omega), zr1]
      by_cases c3 : a (10 + 4 * j + 2) ≤ 0
      · have ew : wdr a c b = false := by unfold wdr; rw [hj, if_neg c2, Int.toNat_natCast, if_pos c3]
        rw [if_pos (by rw [show zo 0 = zo 0 from rfl, zo_le (by omega) (by omega) (by omega) (by omega)]; exact c3), m170 h hw (by omega) (by omega) (by omega) (by omega), zr1, ew]
        exact oc _ rfl
      · rw [if_neg (by rw [zo_le (by omega) (by omega) (by omega) (by omega)]; exact c3), m162_1 h (by omega), zr1, m160_1 h (by omega), zr1]
        by_cases c4 : a (40 + 10 * b + 1) ≤ a (10 + 4 * j + 1)
        · have ew : wdr a c b = true := by unfold wdr; rw [hj, if_neg c2, Int.toNat_natCast, if_neg c3, decide_eq_true c4]
          rw [if_neg (by rw [zo_lt (by omega) (by omega) (by omega) (by omega)]; omega), ew]; rfl
        · have ew : wdr a c b = false := by unfold wdr; rw [hj, if_neg c2, Int.toNat_natCast, if_neg c3, decide_eq_false c4]
          rw [if_pos (by rw [zo_lt (by omega) (by omega) (by omega) (by omega)]; omega), m170 h hw (by omega) (by omega) (by omega) (by omega), zr1, ew]
          exact oc _ rfl
theorem m213 (h : Md S q a) (hw : WF T a) {c : Int} (hc : inN a c) (hb : (b : Int) < a 9) : zr_sem zF (d + 5) 213 [za 3 0 0, zi (zo b), zi (zo c)] S = some (.inl (some (zi (zo (wgt a b c)))), S) := by
  have uN := WF_nc hw
  have e1 := hc.1
  have e2 := hc.2
  have h1 := h.1
  have hq := h.2.1
  have eS := m_ix h (i := 160 + c) (j := 160 + c.toNat) (by omega) (by omega)
  rw [ze_213, m212 h hw hc hb, zr1]
  unfold wgt
  cases fre a b c with
  | false => rfl
  | true =>
    rw [if_neg (by decide)]
    simp (maxSteps := 10000000) (disch := omega) only [h1, hq, eS, zo_add, zo_sub, zo_mul, zo_neg, zo_lt, zo_le, zo_eq, zo_nn, zin_ok, zlt_eq, zr0, zr1, zr3, zr4, zr0x, zr1x, zr3x, zr4x, zb_and, zb_0, zmin_o, zmax_o, zabs_o, zo_div, zo_mod, ↓reduceIte, Int.reduceToNat, Int.reduceNeg, Int.reduceAdd, Int.reduceMul, Int.reduceSub, Int.reduceEq, Int.reduceLT, Int.reduceLE, if_true, if_false, Nat.reduceAdd, Nat.reduceMul]
/-- the sides of a cell that is gone over -/
theorem m214_s (hw : WF T a) (hb : (b : Int) < a 9) (hW : Wok a (wgt a b)) (hS : Sol a (wgt a b) t D) {k : Nat} (hk : inN a (k : Int)) {C : Int} {g0 : Int → Int} (hC : D k + wgt a b k ≤ C) (hC2 : 1 ≤ C ∧ C ≤ 2000000) : ∀ (m s f : Nat) (S : zS) (g : Int → Int) (fl : Int), s + m = 4 → m < f → Md S q a → Tm S a g → Ap a t D g → (∀ c, inN a c → g c ≤ g0 c) → ((fl = 0 ∧ ∀ c, inN a c → g c = g0 c) ∨ (fl = 1 ∧ ∃ c, inN a c ∧ g c < g0 c)) → (∀ s', s' < s → inN a (nb4 a k s') → g (nb4 a k s') ≤ C) → ∃ S' g' fl' f', f ≤ f' + (m + 1) ∧ zy zF (d + 6) 214 f 98 [some (za 3 0 0), some (zi (zo b)), none, some (zi (zo fl)), some (zi (zo k)), some (zi (zo C)), some (zi (zo s)), none] S = zy zF (d + 6) 214 f' 44 [some (za 3 0 0), some (zi (zo b)), none, some (zi (zo fl')), some (zi (zo ((k : Int) + 1))), none, none, none] S' ∧ Tm S' a g' ∧ Ap a t D g' ∧ (∀ c, inN a c → g' c ≤ g c) ∧ ((fl' = 0 ∧ ∀ c, inN a c → g' c = g0 c) ∨ (fl' = 1 ∧ ∃ c, inN a c ∧ g' c < g0 c)) ∧ (∀ s', s' < 4 → inN a (nb4 a k s') → g' (nb4 a k s') ≤ C) ∧ Fq S S' := by
  have uN := WF_nc hw
  have k2 := hk.2
  intro m
  induction m with
  | zero =>
    intro s f S g fl hs hf h hT hA hle hfl hP
    obtain ⟨f, rfl⟩ : ∃ f', f = f' + 1 := ⟨f - 1, by omega⟩
    refine ⟨S, g, fl, f, by omega, ?_, hT, hA, fun _ _ => Int.le_refl _, hfl, fun s' h' => hP s' (by omega), Fq_refl S⟩
    rw [ze_214_98, if_pos (show zo 4 ≤ zo (s : Int) by rw [zo_le (by omega) (by omega) (by omega) (by omega)]; omega), zo_add]
  | succ m ih =>
    intro s f S g fl hs hf h hT hA hle hfl hP
    obtain ⟨f, rfl⟩ : ∃ f', f = f' + 1 := ⟨f - 1, by omega⟩
    have nr := nb4_rng a (k : Int) s
    have e := ze_214_98 (d := d + 6) (k := f) (S := S) (l1 := zo b) (l3 := zo fl) (l4 := zo k) (l5 := zo C) (l6 := zo s)
    rw [if_neg (show ¬ zo 4 ≤ zo (s : Int) by rw [zo_le (by omega) (by omega) (by omega) (by omega)]; omega), m215 h hw hk (by omega), zr1, zo_add] at e
    have skip : (∀ _ : inN a (nb4 a k s), g (nb4 a k s) ≤ C) → zy zF (d + 6) 214 (f + 1) 98 [some (za 3 0 0), some (zi (zo b)), none, some (zi (zo fl)), some (zi (zo k)), some (zi (zo C)), some (zi (zo s)), none] S = zy zF (d + 6) 214 f 98 [some (za 3 0 0), some (zi (zo b)), none, some (zi (zo fl)), some (zi (zo k)), some (zi (zo C)), some (zi (zo ((s : Int) + 1))), none] S → ∃ S' g' fl' f', f + 1 ≤ f' + (m + 1 + 1) ∧ zy zF (d + 6) 214 (f + 1) 98 [some (za 3 0 0), some (zi (zo b)), none, some (zi (zo fl)), some (zi (zo k)), some (zi (zo C)), some (zi (zo s)), none] S = zy zF (d + 6) 214 f' 44 [some (za 3 0 0), some (zi (zo b)), none, some (zi (zo fl')), some (zi (zo ((k : Int) + 1))), none, none, none] S' ∧ Tm S' a g' ∧ Ap a t D g' ∧ (∀ c, inN a c → g' c ≤ g c) ∧ ((fl' = 0 ∧ ∀ c, inN a c → g' c = g0 c) ∨ (fl' = 1 ∧ ∃ c, inN a c ∧ g' c < g0 c)) ∧ (∀ s', s' < 4 → inN a (nb4 a k s') → g' (nb4 a k s') ≤ C) ∧ Fq S S' := by
      intro hn he
      obtain ⟨S', g', fl', f', p1, p2, p3⟩ := ih (s + 1) f S g fl (by omega) (by omega) h hT hA hle hfl (fun s' h' hi => by
        by_cases z : s' = s
        · subst z; exact hn hi
        · exact hP s' (by omega) hi)
      exact ⟨S', g', fl', f', by omega, he.trans p2, p3⟩
    by_cases c1 : nb4 a (k : Int) s = -1
    · rw [c1, if_pos (show zo (-1) = zo (-1) from rfl)] at e
      exact skip (fun hi => by rw [c1] at hi; have := hi.1; omega) e
    · have hi : inN a (nb4 a k s) := by rcases nr with z | z; exact absurd z c1; exact z
      have i1 := hi.1
      have i2 := hi.2
      have gA := hA.2 _ hi
      have gD := (hS.2 _ hi).1
      obtain ⟨j, hj⟩ : ∃ j : Nat, nb4 a (k : Int) s = j := ⟨(nb4 a (k : Int) s).toNat, by omega⟩
      rw [hj] at i1 i2 gA gD hi e skip
      have tj := hT j i2
      rw [if_neg (show ¬ zo (j : Int) = zo (-1) by rw [zo_eq (by omega) (by omega) (by omega) (by omega)]; omega), zin_ok (by omega) (by omega) (by omega), zo_nn (by omega) (by omega), Int.toNat_natCast, tj, zin_ok (by omega) (by omega) (by omega)] at e
      by_cases c2 : g j ≤ C
      · rw [if_pos (show zo (g j) ≤ zo C by rw [zo_le (by omega) (by omega) (by omega) (by omega)]; exact c2)] at e
        exact skip (fun _ => c2) e
      · rw [if_neg (show ¬ zo (g j) ≤ zo C by rw [zo_le (by omega) (by omega) (by omega) (by omega)]; exact c2), zlt_eq] at e
        have hjt : (j : Int) ≠ t := fun z => by rw [z, hA.1] at c2; omega
        have hsy := nb4_sym hw (by omega) hk hi hj
        have low : D j ≤ C := by have := Sol_le hS (by omega) hi hk hsy hjt; omega
        have hT2 : Tm (zs_set S 3 0 3 j (zo C)) a (gup g j C) := by
          intro i hi
          unfold gup
          by_cases z : i = j
          · subst z; rw [zs_self, if_pos rfl]
          · rw [zs_oth (by omega), if_neg (by omega)]; exact hT i hi
        have hA2 : Ap a t D (gup g j C) := by
          refine ⟨by unfold gup; rw [if_neg (fun z => hjt z.symm)]; exact hA.1, fun x hx => ?_⟩
          unfold gup
          by_cases z : x = j
          · subst z; rw [if_pos rfl]; omega
          · rw [if_neg z]; exact hA.2 x hx
        have le2 : ∀ c, inN a c → gup g j C c ≤ g c := by
          intro c hc
          unfold gup
          by_cases z : c = j
          · subst z; rw [if_pos rfl]; omega
          · rw [if_neg z]; exact Int.le_refl _
        obtain ⟨S', g', fl', f', p1, p2, p3, p4, p5, p6, p7, p8⟩ := ih (s + 1) f _ (gup g j C) 1 (by omega) (by omega) (Fq_Md (Fq_set (Fq_refl S) j _) h) hT2 hA2 (fun c hc => by have := le2 c hc; have := hle c hc; omega) (Or.inr ⟨rfl, j, hi, by unfold gup; rw [if_pos rfl]; have := hle _ hi; omega⟩) (fun s' h' hi' => by
          by_cases z : s' = s
          · subst z; rw [hj]; unfold gup; rw [if_pos rfl]; exact Int.le_refl _
          · have := hP s' (by omega) hi'
            have := le2 _ hi'
            omega)
        exact ⟨S', g', fl', f', by omega, e.trans p2, p3, p4, fun c hc => by have := p5 c hc; have := le2 c hc; omega, p6, p7, Fq_trans (Fq_set (Fq_refl S) j _) p8⟩
theorem m214_k (hw : WF T a) (hb : (b : Int) < a 9) (hW : Wok a (wgt a b)) (hS : Sol a (wgt a b) t D) {g0 : Int → Int} : ∀ (m k f : Nat) (S : zS) (g : Int → Int) (fl : Int), k + m = (a 0 * a 1).toNat → 7 * m < f → Md S q a → Tm S a g → SwM a (wgt a b) t D g0 g k fl → ∃ S' g' fl' f', f ≤ f' + (7 * m + 1) ∧ zy zF (d + 6) 214 f 44 [some (za 3 0 0), some (zi (zo b)), none, some (zi (zo fl)), some (zi (zo k)), none, none, none] S = zy zF (d + 6) 214 f' 35 [some (za 3 0 0), some (zi (zo b)), none, some (zi (zo fl')), none, none, none, none] S' ∧ Tm S' a g' ∧ SwM a (wgt a b) t D g0 g' (a 0 * a 1).toNat fl' ∧ Fq S S' := by
  have uN := WF_nc hw
  intro m
  induction m with
  | zero =>
    intro k f S g fl hk hf h hT hP
    obtain ⟨f, rfl⟩ : ∃ f', f = f' + 1 := ⟨f - 1, by omega⟩
    refine ⟨S, g, fl, f, by omega, ?_, hT, by rw [← show k = (a 0 * a 1).toNat by omega]; exact hP, Fq_refl S⟩
    rw [ze_214_44, m152 h, zr1, if_pos (show zo (a 0 * a 1) ≤ zo (k : Int) by rw [zo_le (by omega) (by omega) (by omega) (by omega)]; omega)]
  | succ m ih =>
    intro k f S g fl hk hf h hT hP
    obtain ⟨f, rfl⟩ : ∃ f', f = f' + 1 := ⟨f - 1, by omega⟩
    have hc : inN a (k : Int) := ⟨by omega, by omega⟩
    obtain ⟨hA, hle, hfl, hprog⟩ := hP
    have gk := hA.2 _ hc
    have gD := (hS.2 _ hc).1
    have wk := hW _ hc
    have tk := hT k hc.2
    have e := ze_214_44 (d := d + 6) (k := f) (S := S) (l1 := zo b) (l3 := zo fl) (l4 := zo k)
    rw [m152 h, zr1, if_neg (show ¬ zo (a 0 * a 1) ≤ zo (k : Int) by rw [zo_le (by omega) (by omega) (by omega) (by omega)]; omega), zin_ok (by omega) (by omega) (by omega), zo_nn (by omega) (by omega), Int.toNat_natCast, tk, zo_add] at e
    have skip : (g0 k = D k → wgt a b k + D k < 1000000 → False) → zy zF (d + 6) 214 (f + 1) 44 [some (za 3 0 0), some (zi (zo b)), none, some (zi (zo fl)), some (zi (zo k)), none, none, none] S = zy zF (d + 6) 214 f 44 [some (za 3 0 0), some (zi (zo b)), none, some (zi (zo fl)), some (zi (zo ((k : Int) + 1))), none, none, none] S → ∃ S' g' fl' f', f + 1 ≤ f' + (7 * (m + 1) + 1) ∧ zy zF (d + 6) 214 (f + 1) 44 [some (za 3 0 0), some (zi (zo b)), none, some (zi (zo fl)), some (zi (zo k)), none, none, none] S = zy zF (d + 6) 214 f' 35 [some (za 3 0 0), some (zi (zo b)), none, some (zi (zo fl')), none, none, none, none] S' ∧ Tm S' a g' ∧ SwM a (wgt a b) t D g0 g' (a 0 * a 1).toNat fl' ∧ Fq S S' := by
      intro hn he
      obtain ⟨S', g', fl', f', p1, p2, p3⟩ := ih (k + 1) f S g fl (by omega) (by omega) h hT ⟨hA, hle, hfl, fun c e s c1 c2 c3 c4 c5 c6 c7 c8 c9 => by
        by_cases z : e = k
        · subst z; exact absurd (by omega) (hn c6)
        · exact hprog c e s c1 c2 (by omega) c4 c5 c6 c7 c8 c9⟩
      exact ⟨S', g', fl', f', by omega, he.trans p2, p3⟩
    by_cases c1 : g k = 1000000
    · rw [if_pos (show zo (g k) = zo 1000000 by rw [c1])] at e
      exact skip (fun h1 h2 => by have := hle _ hc; omega) e
    · rw [if_neg (show ¬ zo (g k) = zo 1000000 by rw [zo_eq (by omega) (by omega) (by omega) (by omega)]; exact c1), m212 h hw hc hb, zr1] at e
      by_cases c2 : fre a b k = true
      · rw [c2, if_neg (by decide), zin_ok (by clear hfl; omega) (by clear hfl; omega) (by clear hfl; omega), m213 h hw hc hb, zr1, tk, zo_add] at e
        obtain ⟨S1, g1, fl1, f1, p1, p2, p3, p4, p5, p6, p7, p8⟩ := m214_s (q := q) (d := d) hw hb hW hS hc (C := g k + wgt a b k) (g0 := g0) (by omega) (by omega) 4 0 f S g fl (by omega) (by omega) h hT hA hle hfl (fun s' h' => by omega)
        have hP2 : SwM a (wgt a b) t D g0 g1 (k + 1) fl1 := by
          refine ⟨p4, fun c hc => by have := p5 c hc; have := hle c hc; omega, p6, fun c e s c1 c2 c3 c4 c5 c6 c7 c8 c9 => ?_⟩
          by_cases z : e = k
          · subst z
            have hsy := nb4_sym hw c4 c1 c2 c5
            have := p7 (3 - s) (by omega) (by rw [hsy]; exact c1)
            rw [hsy] at this
            have := hle _ c2
            have := (p4.2 c c1).1
            omega
          · have := hprog c e s c1 c2 (by omega) c4 c5 c6 c7 c8 c9
            have := p5 c c1
            have := (p4.2 c c1).1
            omega
        obtain ⟨S', g', fl', f', q1, q2, q3, q4, q5⟩ := ih (k + 1) f1 S1 g1 fl1 (by omega) (by omega) (Fq_Md p8 h) p3 hP2
        exact ⟨S', g', fl', f', by omega, e.trans (p2.trans q2), q3, q4, Fq_trans p8 q5⟩
      · have c2 : fre a b k = false := Bool.eq_false_iff.mpr c2
        rw [c2, if_pos (show zo (bI false) = zo 0 from rfl)] at e
        have ew : wgt a b k = 1000000 := by unfold wgt; rw [c2]; rfl
        exact skip (fun h1 h2 => by omega) e
theorem SwM_0 (h : Ap a t D g) : SwM a w t D g g 0 0 := ⟨h, fun _ _ => Int.le_refl _, Or.inl ⟨rfl, fun _ _ => rfl⟩, fun c e s _ he h0 => by have := he.1; omega⟩
theorem SwM_end (hw : WF T a) (hW : Wok a w) (hS : Sol a w t D) (h0 : Ap a t D g) {g2 : Int → Int} {fl : Int} (h : SwM a w t D g g2 (a 0 * a 1).toNat fl) : (usD a D g = 0 ∧ fl = 0 ∧ usD a D g2 = 0) ∨ (usD a D g2 < usD a D g ∧ (fl = 0 ∨ fl = 1) ∧ (fl = 0 → False)) := by
  have uN := WF_nc hw
  by_cases z : usD a D g = 0
  · left
    have all := us_0 hw z
    rcases h.2.2.1 with ⟨e, hs⟩ | ⟨e, c, hc, hl⟩
    · exact ⟨z, e, by rw [us_same hw hs]; exact z⟩
    · exfalso
      have := (h.1.2 c hc).1
      have := all c hc
      omega
  · right
    have : ∃ c, inN a c ∧ g c ≠ D c := by
      refine Classical.byContradiction (fun n => z ?_)
      have hall : ∀ c, inN a c → g c = D c := fun c hc => Classical.byContradiction (fun e => n ⟨c, hc, e⟩)
      have zz : ∀ m : Nat, zsum (fun _ => (0 : Int)) m = 0 := by intro m; induction m with | zero => rfl | succ m ih => unfold zsum; rw [ih]; rfl
      rw [← zz (a 0 * a 1).toNat]
      exact zsum_congr _ (fun i hi => if_pos (hall _ ⟨by omega, by omega⟩))
    obtain ⟨c, hc, hg⟩ := this
    obtain ⟨c, e, s, q1, q2, q3, q4, q5, q6, q7, q8, q9⟩ := unset hW hS h0 (D c).toNat c (by have := (hS.2 c hc).1; omega) hc hg
    have dr := us_drop hw h0 (fun x hx => ⟨(h.1.2 x hx).1, h.2.1 x hx⟩) q1 q2 (h.2.2.2 c e s q1 q5 (by have := q5.2; omega) q3 q4 q6 q7 q8 q9)
    refine ⟨dr, ?_, fun e0 => ?_⟩
    · rcases h.2.2.1 with ⟨e, _⟩ | ⟨e, _⟩
      · exact Or.inl e
      · exact Or.inr e
    · rcases h.2.2.1 with ⟨e, hs⟩ | ⟨e, _⟩
      · have := us_same (D := D) hw hs; omega
      · omega
theorem m214_r (hw : WF T a) (hb : (b : Int) < a 9) (hW : Wok a (wgt a b)) (hS : Sol a (wgt a b) t D) : ∀ (m f : Nat) (S : zS) (g : Int → Int), usD a D g ≤ m → 1000 * (m + 2) < f → Md S q a → Tm S a g → Ap a t D g → ∃ S' g', zy zF (d + 6) 214 f 35 [some (za 3 0 0), some (zi (zo b)), none, some (zi (zo 1)), none, none, none, none] S = some (.inl none, S') ∧ Tm S' a g' ∧ (∀ c, inN a c → g' c = D c) ∧ Fq S S' := by
  have uN := WF_nc hw
  intro m
  induction m with
  | zero =>
    intro f S g hu hf h hT hA
    obtain ⟨f, rfl⟩ : ∃ f', f = f' + 1 := ⟨f - 1, by omega⟩
    obtain ⟨S1, g1, fl1, f1, p1, p2, p3, p4, p5⟩ := m214_k (q := q) (d := d) hw hb hW hS (a 0 * a 1).toNat 0 f S g 0 (by omega) (by omega) h hT (SwM_0 hA)
    rw [show ((0 : Nat) : Int) = 0 from rfl] at p2
    have ug := us_ge a D g
    have ug1 := us_ge a D g1
    rcases SwM_end hw hW hS hA p4 with ⟨e1, e2, e3⟩ | ⟨e1, e2, e3⟩
    · subst e2
      obtain ⟨f1, rfl⟩ : ∃ f', f1 = f' + 1 := ⟨f1 - 1, by omega⟩
      refine ⟨S1, g1, ?_, p3, us_0 hw e3, p5⟩
      rw [ze_214_35, if_neg (by decide), p2, ze_214_35, if_pos rfl]
    · omega
  | succ m ih =>
    intro f S g hu hf h hT hA
    obtain ⟨f, rfl⟩ : ∃ f', f = f' + 1 := ⟨f - 1, by omega⟩
    obtain ⟨S1, g1, fl1, f1, p1, p2, p3, p4, p5⟩ := m214_k (q := q) (d := d) hw hb hW hS (a 0 * a 1).toNat 0 f S g 0 (by omega) (by omega) h hT (SwM_0 hA)
    rw [show ((0 : Nat) : Int) = 0 from rfl] at p2
    rcases SwM_end hw hW hS hA p4 with ⟨e1, e2, e3⟩ | ⟨e1, e2, e3⟩
    · subst e2
      obtain ⟨f1, rfl⟩ : ∃ f', f1 = f' + 1 := ⟨f1 - 1, by omega⟩
      refine ⟨S1, g1, ?_, p3, us_0 hw e3, p5⟩
      rw [ze_214_35, if_neg (by decide), p2, ze_214_35, if_pos rfl]
    · have : fl1 = 1 := by rcases e2 with z | z; exact absurd z (fun y => e3 y); exact z
      subst this
      obtain ⟨S2, g2, q1, q2, q3, q4⟩ := ih f1 S1 g1 (by omega) (by omega) (Fq_Md p5 h) p3 p4.1
      refine ⟨S2, g2, ?_, q2, q3, Fq_trans p5 q4⟩
      rw [ze_214_35, if_neg (by decide), p2]
      exact q1
theorem m214_i (hw : WF T a) (ht : inN a t) : ∀ (m k f : Nat) (S : zS), k + m = (a 0 * a 1).toNat → m < f → Md S q a → (∀ i : Nat, i < k → S.1 3 0 3 i = zo (if (i : Int) = t then 0 else 1000000)) → ∃ S' f', f ≤ f' + (m + 1) ∧ zy zF (d + 6) 214 f 2 [some (za 3 0 0), some (zi (zo b)), some (zi (zo t)), some (zi (zo k)), none, none, none, none] S = zy zF (d + 6) 214 f' 35 [some (za 3 0 0), some (zi (zo b)), none, some (zi (zo 1)), none, none, none, none] S' ∧ Tm S' a (fun c => if c = t then 0 else 1000000) ∧ Fq S S' := by
  have uN := WF_nc hw
  have t1 := ht.1
  have t2 := ht.2
  intro m
  induction m with
  | zero =>
    intro k f S hk hf h hs
    obtain ⟨f, rfl⟩ : ∃ f', f = f' + 1 := ⟨f - 1, by omega⟩
    refine ⟨S, f, by omega, ?_, fun i hi => hs i (by omega), Fq_refl S⟩
    rw [ze_214_2, m152 h, zr1, if_pos (show zo (a 0 * a 1) ≤ zo (k : Int) by rw [zo_le (by omega) (by omega) (by omega) (by omega)]; omega)]
  | succ m ih =>
    intro k f S hk hf h hs
    obtain ⟨f, rfl⟩ : ∃ f', f = f' + 1 := ⟨f - 1, by omega⟩
    obtain ⟨S2, f2, p1, p2, p3, p4⟩ := ih (k + 1) f (zs_set S 3 0 3 k (zo (if (k : Int) = t then 0 else 1000000))) (by omega) (by omega) (Fq_Md (Fq_set (Fq_refl S) k _) h) (fun i hi => by
      by_cases z : i = k
      · subst z; exact zs_self
      · rw [zs_oth (by omega)]; exact hs i (by omega))
    refine ⟨S2, f2, by omega, ?_, p3, Fq_trans (Fq_set (Fq_refl S) k _) p4⟩
    rw [← p2, ze_214_2, m152 h, zr1, if_neg (show ¬ zo (a 0 * a 1) ≤ zo (k : Int) by rw [zo_le (by omega) (by omega) (by omega) (by omega)]; omega)]
    simp (maxSteps := 10000000) (disch := omega) only [Int.toNat_natCast, zo_add, zo_sub, zo_mul, zo_neg, zo_lt, zo_le, zo_eq, zo_nn, zin_ok, zlt_eq, zr0, zr1, zr3, zr4, zr0x, zr1x, zr3x, zr4x, zb_and, zb_0, zmin_o, zmax_o, zabs_o, zo_div, zo_mod, ↓reduceIte, Int.reduceToNat, Int.reduceNeg, Int.reduceAdd, Int.reduceMul, Int.reduceSub, Int.reduceEq, Int.reduceLT, Int.reduceLE, if_true, if_false, Nat.reduceAdd, Nat.reduceMul]
    by_cases z : (k : Int) = t
    · rw [if_pos z, if_pos z]; rfl
    · rw [if_neg z, if_neg z]; rfl
theorem m214 (h : Md S q a) (hw : WF T a) (hb : (b : Int) < a 9) (ht : inN a t) (hS : Sol a (wgt a b) t D) : ∃ S' g, zr_sem zF (d + 7) 214 [za 3 0 0, zi (zo b), zi (zo t)] S = some (.inl none, S') ∧ Tm S' a g ∧ (∀ c, inN a c → g c = D c) ∧ Fq S S' := by
  have hb2 := zF1_big
  have uN := WF_nc hw
  have hW := wgt_ok hw b
  obtain ⟨S1, f1, p1, p2, p3, p4⟩ := m214_i (q := q) (d := d) (b := b) hw ht (a 0 * a 1).toNat 0 zF1 S (by omega) (by omega) h (fun i hi => by omega)
  have us := us_start hw ht hS
  obtain ⟨S2, g2, q1, q2, q3, q4⟩ := m214_r (q := q) (d := d) hw hb hW hS 99 f1 S1 _ us.1 (by omega) (Fq_Md p4 h) p3 us.2
  refine ⟨S2, g2, ?_, q2, q3, Fq_trans p4 q4⟩
  rw [ze_214]
  exact p2.trans q1
theorem m216 (h : Md S q a) (hw : WF T a) (hb : (b : Int) < a 9) (ht : inN a t) (hS : Sol a (wgt a b) t D) : ∃ S', zr_sem zF (d + 8) 216 [za 3 0 0, zi (zo b), zi (zo t)] S = some (.inl (some (zi (zo (if D (a (40 + 10 * b)) < 1000000 then D (a (40 + 10 * b)) else -1)))), S') ∧ Fq S S' := by
  have uN := WF_nc hw
  have u9 := hw.1.2.2.2.2.2.2.2.2.2
  have gB := (hw.2.2.2.1 b hb).1
  have hc : inN a (a (40 + 10 * b)) := gB
  have gD := (hS.2 _ hc).1
  obtain ⟨S1, g, e1, q1, q2, q3⟩ := m214 (d := d) h hw hb ht hS
  refine ⟨S1, ?_, q3⟩
  have h1 := Fq_Md q3 h
  obtain ⟨i, hi⟩ : ∃ i : Nat, a (40 + 10 * b) = i := ⟨(a (40 + 10 * b)).toNat, by omega⟩
  have ti := q1 i (by omega)
  have gi := q2 _ hc
  rw [hi] at gi gD hc ⊢
  rw [gi] at ti
  rw [ze_216, e1, zr0, m160_0 h1 (by omega), zr1, hi, zin_ok (by omega) (by omega) (by omega), zo_nn (by omega) (by omega), Int.toNat_natCast, ti]
  by_cases c : D i < 1000000
  · rw [if_neg (show ¬ zo (D i) = zo 1000000 by rw [zo_eq (by omega) (by omega) (by omega) (by omega)]; omega), if_pos c]
  · rw [if_pos (show zo (D i) = zo 1000000 by rw [zo_eq (by omega) (by omega) (by omega) (by omega)]; omega), if_neg c]
theorem m217_l (h : Md S q a) (hw : WF T a) (hb : (b : Int) < a 9) (hT : Tm S a g) (hS : Sol a (wgt a b) t D) (hg : ∀ c, inN a c → g c = D c) : ∀ (m s f : Nat), s + m = 4 → m < f → zy zF (d + 6) 217 f 27 [some (za 3 0 0), some (zi (zo b)), none, some (zi (zo (fsF a (wgt a b) D (a (40 + 10 * b)) s).1)), some (zi (zo (fsF a (wgt a b) D (a (40 + 10 * b)) s).2)), some (zi (zo s)), none, none] S = some (.inl (some (zi (zo (stp a (wgt a b) D (a (40 + 10 * b)))))), S) := by
  have uN := WF_nc hw
  have u9 := hw.1.2.2.2.2.2.2.2.2.2
  have gB := (hw.2.2.2.1 b hb).1
  have hc : inN a (a (40 + 10 * b)) := gB
  have hW := wgt_ok hw b
  have rng : ∀ s : Nat, (fsF a (wgt a b) D (a (40 + 10 * b)) s).2 ≤ 1000000 ∧ -10 ≤ (fsF a (wgt a b) D (a (40 + 10 * b)) s).2 := by
    intro s
    induction s with
    | zero => exact ⟨Int.le_refl _, by show (-10 : Int) ≤ 1000000; omega⟩
    | succ s ih =>
      rw [show fsF a (wgt a b) D (a (40 + 10 * b)) (s + 1) = if thr (wgt a b) D (nb4 a (a (40 + 10 * b)) s) < (fsF a (wgt a b) D (a (40 + 10 * b)) s).2 then (nb4 a (a (40 + 10 * b)) s, thr (wgt a b) D (nb4 a (a (40 + 10 * b)) s)) else fsF a (wgt a b) D (a (40 + 10 * b)) s from rfl]
      by_cases c : thr (wgt a b) D (nb4 a (a (40 + 10 * b)) s) < (fsF a (wgt a b) D (a (40 + 10 * b)) s).2
      · rw [if_pos c]
        have tb := thr_b hW (fun c hc => (hS.2 c hc).1) (nb4_rng a (a (40 + 10 * b)) s)
        exact ⟨by show thr (wgt a b) D (nb4 a (a (40 + 10 * b)) s) ≤ 1000000; omega, by show -10 ≤ thr (wgt a b) D (nb4 a (a (40 + 10 * b)) s); omega⟩
      · rw [if_neg c]; exact ih
  intro m
  induction m with
  | zero =>
    intro s f hs hf
    obtain ⟨f, rfl⟩ : ∃ f', f = f' + 1 := ⟨f - 1, by omega⟩
    rw [ze_217_27, if_pos (show zo 4 ≤ zo (s : Int) by rw [zo_le (by omega) (by omega) (by omega) (by omega)]; omega), show s = 4 by omega, fs_4]
  | succ m ih =>
    intro s f hs hf
    obtain ⟨f, rfl⟩ : ∃ f', f = f' + 1 := ⟨f - 1, by omega⟩
    have i := ih (s + 1) f (by omega) (by omega)
    have rs := rng s
    rw [show ((s + 1 : Nat) : Int) = (s : Int) + 1 from rfl, show fsF a (wgt a b) D (a (40 + 10 * b)) (s + 1) = if thr (wgt a b) D (nb4 a (a (40 + 10 * b)) s) < (fsF a (wgt a b) D (a (40 + 10 * b)) s).2 then (nb4 a (a (40 + 10 * b)) s, thr (wgt a b) D (nb4 a (a (40 + 10 * b)) s)) else fsF a (wgt a b) D (a (40 + 10 * b)) s from rfl] at i
    rw [ze_217_27, if_neg (show ¬ zo 4 ≤ zo (s : Int) by rw [zo_le (by omega) (by omega) (by omega) (by omega)]; omega), m160_0 h (by omega), zr1, m215 h hw hc (by omega), zr1, zo_add]
    rcases nb4_rng a (a (40 + 10 * b)) s with z | z
    · have et : thr (wgt a b) D (-1) = 2000000 := rfl
      rw [z, et, if_neg (by omega)] at i
      rw [z, if_pos (show zo (-1) = zo (-1) from rfl)]
      exact i
    · have z1 := z.1
      have z2 := z.2
      have gD := (hS.2 _ z).1
      have wz := hW _ z
      rw [thr_in z] at i
      rw [if_neg (show ¬ zo (nb4 a (a (40 + 10 * b)) s) = zo (-1) by rw [zo_eq (by omega) (by omega) (by omega) (by omega)]; omega), m212 h hw z hb, zr1]
      by_cases c2 : fre a b (nb4 a (a (40 + 10 * b)) s) = true
      · obtain ⟨j, hj⟩ : ∃ j : Nat, nb4 a (a (40 + 10 * b)) s = j := ⟨(nb4 a (a (40 + 10 * b)) s).toNat, by omega⟩
        rw [hj] at z z1 z2 gD wz i c2 ⊢
        have tj := hT j z2
        rw [hg _ z] at tj
        rw [c2, if_neg (by decide), zin_ok (by omega) (by omega) (by omega), zo_nn (by omega) (by omega), Int.toNat_natCast, tj]
        by_cases c3 : D j = 1000000
        · rw [if_pos (show zo (D j) = zo 1000000 by rw [c3])]
          rw [if_neg (by omega)] at i
          exact i
        · rw [if_neg (show ¬ zo (D j) = zo 1000000 by rw [zo_eq (by omega) (by omega) (by omega) (by omega)]; exact c3), m213 h hw z hb, zr1, zin_ok (by omega) (by omega) (by omega), tj, zo_add]
          by_cases c4 : wgt a b j + D j < (fsF a (wgt a b) D (a (40 + 10 * b)) s).2
          · rw [if_neg (show ¬ zo (fsF a (wgt a b) D (a (40 + 10 * b)) s).2 ≤ zo (wgt a b j + D j) by rw [zo_le (by omega) (by omega) (by omega) (by omega)]; omega)]
            rw [if_pos c4] at i
            exact i
          · rw [if_pos (show zo (fsF a (wgt a b) D (a (40 + 10 * b)) s).2 ≤ zo (wgt a b j + D j) by rw [zo_le (by omega) (by omega) (by omega) (by omega)]; omega)]
            rw [if_neg c4] at i
            exact i
      · have c2 : fre a b (nb4 a (a (40 + 10 * b)) s) = false := Bool.eq_false_iff.mpr c2
        have ew : wgt a b (nb4 a (a (40 + 10 * b)) s) = 1000000 := by unfold wgt; rw [c2]; rfl
        rw [if_neg (by omega)] at i
        rw [c2, if_pos (show zo (bI false) = zo 0 from rfl)]
        exact i
theorem m217 (h : Md S q a) (hw : WF T a) (hb : (b : Int) < a 9) (ht : inN a t) (hS : Sol a (wgt a b) t D) : ∃ S', zr_sem zF (d + 8) 217 [za 3 0 0, zi (zo b), zi (zo t)] S = some (.inl (some (zi (zo (if a (40 + 10 * b) = t then -1 else stp a (wgt a b) D (a (40 + 10 * b)))))), S') ∧ Fq S S' := by
  have hb2 := zF1_big
  have uN := WF_nc hw
  have u9 := hw.1.2.2.2.2.2.2.2.2.2
  have gB := (hw.2.2.2.1 b hb).1
  have t1 := ht.1
  have t2 := ht.2
  rw [ze_217, m160_0 h (by omega), zr1]
  by_cases c : a (40 + 10 * b) = t
  · exact ⟨S, by rw [if_pos (show zo (a (40 + 10 * b)) = zo t by rw [c]), if_pos c], Fq_refl S⟩
  · obtain ⟨S1, g, e1, q1, q2, q3⟩ := m214 (d := d) h hw hb ht hS
    refine ⟨S1, ?_, q3⟩
    rw [if_neg (show ¬ zo (a (40 + 10 * b)) = zo t by rw [zo_eq (by omega) (by omega) (by omega) (by omega)]; exact c), e1, zr0, if_neg c]
    exact m217_l (d := d + 1) (Fq_Md q3 h) hw hb q1 hS q2 4 0 zF1 (by omega) (by omega)
end CX

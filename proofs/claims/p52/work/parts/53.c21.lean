/-! THE PURE SIDE 21: more questions -/
def afS (a : Rw) : Nat → Nat → Int → Int
  | 0, _, _ => -1
  | m + 1, k, l => if a (40 + 10 * k + 6) = 0 then (if l = 0 then (k : Int) else afS a m (k + 1) (l - 1)) else afS a m (k + 1) l
theorem afS_succ (a : Rw) (m k : Nat) (l : Int) : afS a (m + 1) k l = if a (40 + 10 * k + 6) = 0 then (if l = 0 then (k : Int) else afS a m (k + 1) (l - 1)) else afS a m (k + 1) l := rfl
def acm (a : Rw) : Nat → Nat → Int
  | 0, _ => 0
  | m + 1, k => (if a (40 + 10 * k + 6) = 0 then 1 else 0) + acm a m (k + 1)
theorem acm_b (a : Rw) : ∀ m k, 0 ≤ acm a m k ∧ acm a m k ≤ m := by
  intro m
  induction m with
  | zero => intro k; unfold acm; omega
  | succ m ih => intro k; unfold acm; have := ih (k + 1); split <;> omega
theorem acm_sum (a : Rw) : ∀ m k, zsum (fun k => if a (40 + 10 * k + 6) = 0 then 1 else 0) k + acm a m k = zsum (fun k => if a (40 + 10 * k + 6) = 0 then 1 else 0) (k + m) := by
  intro m
  induction m with
  | zero => intro k; unfold acm; simp
  | succ m ih =>
    intro k
    have := ih (k + 1)
    unfold acm
    rw [show k + (m + 1) = k + 1 + m by omega, ← this]
    rw [show zsum (fun k => if a (40 + 10 * k + 6) = 0 then 1 else 0) (k + 1) = zsum (fun k => if a (40 + 10 * k + 6) = 0 then 1 else 0) k + (if a (40 + 10 * k + 6) = 0 then 1 else 0) from rfl]
    omega
theorem cnt_acm (a : Rw) : cnt a 0 = acm a (a 9).toNat 0 := by
  have := acm_sum a (a 9).toNat 0
  rw [Nat.zero_add] at this
  unfold cnt
  rw [← this]
  unfold zsum; omega
section CM
variable {S : zS} {n d : Nat} {a : Rw} {T p r : Int}
theorem c99_l (h : Cb (S.1 0 0) a) (hw : WF T a) (g1 : -2147483648 ≤ p) (g2 : p < 2147483648) : ∀ (m k f e : Nat), k + m = (a 9).toNat → m < f → e ≤ k → zy zF (d + 2) 99 f 16 [some (za 1 0 0), some (zi (zo p)), some (zi (zo e)), some (zi (zo k))] S = some (.inl (some (zi (zo (afS a m k (p - e))))), S) := by
  have u9 := hw.1.2.2.2.2.2.2.2.2.2
  have n13 := h.2.1.2.2.2.2.2.2.2.1
  intro m
  induction m with
  | zero =>
    intro k f e hk hf he
    obtain ⟨f, rfl⟩ : ∃ f', f = f' + 1 := ⟨f - 1, by omega⟩
    rw [ze_99_16]
    simp (maxSteps := 10000000) (disch := omega) only [n13, zo_add, zo_sub, zo_mul, zo_neg, zo_lt, zo_le, zo_eq, zo_nn, zin_ok, zlt_eq, zr0, zr1, zr3, zr4, zr0x, zr1x, zr3x, zr4x, zb_and, zb_0, zmin_o, zmax_o, zabs_o, zo_div, zo_mod, ↓reduceIte, Int.reduceToNat, Int.reduceNeg, Int.reduceAdd, Int.reduceMul, Int.reduceSub, Int.reduceEq, Int.reduceLT, Int.reduceLE, if_true, if_false, Nat.reduceAdd, Nat.reduceMul]
    rw [if_pos (by omega)]; rfl
  | succ m ih =>
    intro k f e hk hf he
    obtain ⟨f, rfl⟩ : ∃ f', f = f' + 1 := ⟨f - 1, by omega⟩
    have i1 := ih (k + 1) f e (by omega) (by omega) (by omega)
    have i2 := ih (k + 1) f (e + 1) (by omega) (by omega) (by omega)
    rw [show ((k + 1 : Nat) : Int) = (k : Int) + 1 from rfl] at i1 i2
    rw [show ((e + 1 : Nat) : Int) = (e : Int) + 1 from rfl] at i2
    rw [ze_99_16]
    simp (maxSteps := 10000000) (disch := omega) only [n13, c7 h hw (b := k) (by omega), i1, i2, zo_add, zo_sub, zo_mul, zo_neg, zo_lt, zo_le, zo_eq, zo_nn, zin_ok, zlt_eq, zr0, zr1, zr3, zr4, zr0x, zr1x, zr3x, zr4x, zb_and, zb_0, zmin_o, zmax_o, zabs_o, zo_div, zo_mod, ↓reduceIte, Int.reduceToNat, Int.reduceNeg, Int.reduceAdd, Int.reduceMul, Int.reduceSub, Int.reduceEq, Int.reduceLT, Int.reduceLE, if_true, if_false, Nat.reduceAdd, Nat.reduceMul]
    rw [if_neg (by omega)]
    rw [afS_succ]
    by_cases c : a (40 + 10 * k + 6) = 0
    · rw [if_neg (by simp [c]), if_pos c]
      by_cases c2 : (e : Int) = p
      · rw [if_pos c2, if_pos (by omega)]
      · rw [if_neg c2, if_neg (by omega), show p - e - 1 = p - ((e : Int) + 1) by omega]
    · rw [if_pos (by simp [c]), if_neg c]
theorem A99 (h : Cb (S.1 0 0) a) (hw : WF T a) (g1 : -2147483648 ≤ p) (g2 : p < 2147483648) : CA (d + 3) 99 [za 1 0 0, zi (zo p)] S (if 0 ≤ p ∧ p < cnt a 0 then 0 else 1) (afS a (a 9).toNat 0 p) := by
  have u9 := hw.1.2.2.2.2.2.2.2.2.2
  have hb := zF1_big
  have bc := acm_b a (a 9).toNat 0
  rw [← cnt_acm] at bc
  by_cases c : 0 ≤ p ∧ p < cnt a 0
  · rw [if_pos c]
    refine CA_v ?_
    rw [ze_99, c14 h hw (by omega) (by omega), zr1, c140 g1 g2 (by omega) (by omega), if_pos c, zr0]
    have := c99_l (d := d) h hw g1 g2 (a 9).toNat 0 zF1 0 (by omega) (by omega) (by omega)
    rw [show p - ((0 : Nat) : Int) = p by omega] at this
    exact this
  · rw [if_neg c]
    refine CA_x (t := 0) ?_
    rw [ze_99, c14 h hw (by omega) (by omega), zr1, c140 g1 g2 (by omega) (by omega), if_neg c]; rfl
theorem zsum_lt {f g : Nat → Int} {k : Nat} : ∀ n : Nat, k < n → (∀ i, i < n → f i ≤ g i) → f k < g k → zsum f n < zsum g n := by
  intro n
  induction n with
  | zero => intro h; omega
  | succ n ih =>
    intro h h1 h2
    unfold zsum
    have hn := h1 n (by omega)
    by_cases c : k = n
    · subst c
      have : zsum f k ≤ zsum g k := by
        clear ih h h2 hn
        induction k with
        | zero => exact Int.le_refl _
        | succ k ih => unfold zsum; have := ih (fun i hi => h1 i (by omega)); have := h1 k (by omega); omega
      omega
    · have := ih (by omega) (fun i hi => h1 i (by omega)) h2; omega
theorem rnk_lt {k b : Nat} (hk : (k : Int) < a 9) (h6 : a (40 + 10 * k + 6) ≠ 0) (hkb : a (40 + 10 * k + 7) < a (40 + 10 * b + 7) ∨ (a (40 + 10 * k + 7) = a (40 + 10 * b + 7) ∧ k < b)) : rnk a k < rnk a b := by
  unfold rnk
  refine zsum_lt (k := k) _ (by omega) (fun i hi => ?_) ?_
  · by_cases c : a (40 + 10 * i + 6) = 0
    · rw [if_pos c, if_pos c]; exact Int.le_refl _
    · rw [if_neg c, if_neg c]
      by_cases c1 : a (40 + 10 * i + 7) < a (40 + 10 * k + 7)
      · rw [if_pos c1, if_pos (by omega)]; exact Int.le_refl _
      · rw [if_neg c1]
        by_cases c2 : a (40 + 10 * i + 7) = a (40 + 10 * k + 7) ∧ i < k
        · rw [if_pos c2]
          by_cases c3 : a (40 + 10 * i + 7) < a (40 + 10 * b + 7)
          · rw [if_pos c3]; exact Int.le_refl _
          · rw [if_neg c3, if_pos (by omega)]; exact Int.le_refl _
        · rw [if_neg c2]; split <;> (try split) <;> omega
  · rw [if_neg h6, if_neg h6, if_neg (by omega), if_neg (by omega)]
    split <;> (try split) <;> omega
theorem rnk_inj {k b : Nat} (hk : (k : Int) < a 9) (h6 : a (40 + 10 * k + 6) ≠ 0) (hb : (b : Int) < a 9) (h6b : a (40 + 10 * b + 6) ≠ 0) (e : rnk a k = rnk a b) : k = b := by
  by_cases c : k = b
  · exact c
  · by_cases c1 : a (40 + 10 * k + 7) < a (40 + 10 * b + 7) ∨ (a (40 + 10 * k + 7) = a (40 + 10 * b + 7) ∧ k < b)
    · have := rnk_lt hk h6 c1; omega
    · have := rnk_lt (a := a) (k := b) (b := k) hb h6b (by omega); omega
theorem nen_b (hw : WF T a) : 0 ≤ nen a ∧ nen a ≤ 12 := by
  have u9 := hw.1.2.2.2.2.2.2.2.2.2
  have l1 : 0 ≤ nen a := zsum_ge _ _ (fun i _ => by split <;> omega)
  have l2 : nen a ≤ 1 * ((a 9).toNat : Int) := zsum_le _ 1 _ (fun i _ => by split <;> omega)
  omega
/-- the boat that ended as the i-th; -1 -/
def endB (a : Rw) (i : Int) : Int := zfst (fun k => decide (a (40 + 10 * k + 6) ≠ 0) && decide (rnk a k = i)) (a 9).toNat 0
def endN (a : Rw) (i w : Int) : Int := if w = 0 then endB a i else if w = 1 then a (40 + 10 * (endB a i).toNat + 7) else if w = 2 then a (40 + 10 * (endB a i).toNat + 6) else a (40 + 10 * (endB a i).toNat)
theorem endB_is {b : Nat} {i : Int} (hb : (b : Int) < a 9) (h6 : a (40 + 10 * b + 6) ≠ 0) (e : rnk a b = i) : endB a i = b := by
  unfold endB
  refine zfst_is _ _ b (by omega) ?_ (fun k hk => ?_)
  · simp [h6, e]
  · by_cases c : a (40 + 10 * k + 6) = 0
    · simp [c]
    · have : rnk a k ≠ i := fun z => by have := rnk_inj (a := a) (k := k) (b := b) (by omega) c hb h6 (by omega); omega
      simp [this]
theorem A100 (h : Cb (S.1 0 0) a) (hw : WF T a) (g1 : -2147483648 ≤ p) (g2 : p < 2147483648) (g3 : -2147483648 ≤ r) (g4 : r < 2147483648) : CA (d + 3) 100 [za 1 0 0, zi (zo p), zi (zo r)] S (if (0 ≤ p ∧ p < nen a) ∧ (0 ≤ r ∧ r ≤ 3) then 0 else 1) (endN a p r) := by
  have u9 := hw.1.2.2.2.2.2.2.2.2.2
  have nb := nen_b hw
  have n16 := h.2.2.2.2.2.2.2.1
  have f6 := h.1.2.2.2.2.2
  by_cases c : 0 ≤ p ∧ p < nen a
  · obtain ⟨i, rfl⟩ : ∃ i : Nat, p = i := ⟨p.toNat, by omega⟩
    obtain ⟨b, q1, q2, q3, q4⟩ := h.2.2.2.2.2.2.2.2 i c.2
    have eb := endB_is q1 q2 q3
    have r63 : zr_sem zF (d + 2) 63 [za 0 0 11, zi (zo i)] S = some (.inl (some (zi (zo b))), S) := by
      rw [ze_63e]
      simp (maxSteps := 10000000) (disch := omega) only [Int.toNat_natCast, q4, zo_add, zo_sub, zo_mul, zo_neg, zo_lt, zo_le, zo_eq, zo_nn, zin_ok, zlt_eq, zr0, zr1, zr3, zr4, zr0x, zr1x, zr3x, zr4x, zb_and, zb_0, zmin_o, zmax_o, zabs_o, zo_div, zo_mod, ↓reduceIte, Int.reduceToNat, Int.reduceNeg, Int.reduceAdd, Int.reduceMul, Int.reduceSub, Int.reduceEq, Int.reduceLT, Int.reduceLE, if_true, if_false, Nat.reduceAdd, Nat.reduceMul]
      rw [if_neg (by omega), if_neg (by omega)]
    have e := ze_100 (d := d + 2) (S := S) (xa := zo i) (xb := zo r)
    rw [n16, c140 (by omega) (by omega) (by omega) (by omega), if_pos c, zr0, r63, zr1, zo_toInt g3 g4] at e
    by_cases c2 : 0 ≤ r ∧ r ≤ 3
    · rw [if_pos ⟨c, c2⟩]
      refine CA_v (e.trans ?_)
      unfold endN
      rw [eb, Int.toNat_natCast]
      have : r = 0 ∨ r = 1 ∨ r = 2 ∨ r = 3 := by omega
      rcases this with z | z | z | z <;> subst z
      · rfl
      · simp (maxSteps := 10000000) (disch := omega) only [c67b_8 h hw q1, zo_add, zo_sub, zo_mul, zo_neg, zo_lt, zo_le, zo_eq, zo_nn, zin_ok, zlt_eq, zr0, zr1, zr3, zr4, zr0x, zr1x, zr3x, zr4x, zb_and, zb_0, zmin_o, zmax_o, zabs_o, zo_div, zo_mod, ↓reduceIte, Int.reduceToNat, Int.reduceNeg, Int.reduceAdd, Int.reduceMul, Int.reduceSub, Int.reduceEq, Int.reduceLT, Int.reduceLE, if_true, if_false, Nat.reduceAdd, Nat.reduceMul]
      · simp (maxSteps := 10000000) (disch := omega) only [c67b_7 h hw q1, zo_add, zo_sub, zo_mul, zo_neg, zo_lt, zo_le, zo_eq, zo_nn, zin_ok, zlt_eq, zr0, zr1, zr3, zr4, zr0x, zr1x, zr3x, zr4x, zb_and, zb_0, zmin_o, zmax_o, zabs_o, zo_div, zo_mod, ↓reduceIte, Int.reduceToNat, Int.reduceNeg, Int.reduceAdd, Int.reduceMul, Int.reduceSub, Int.reduceEq, Int.reduceLT, Int.reduceLE, if_true, if_false, Nat.reduceAdd, Nat.reduceMul]
      · simp (maxSteps := 10000000) (disch := omega) only [c6 h hw q1, zo_add, zo_sub, zo_mul, zo_neg, zo_lt, zo_le, zo_eq, zo_nn, zin_ok, zlt_eq, zr0, zr1, zr3, zr4, zr0x, zr1x, zr3x, zr4x, zb_and, zb_0, zmin_o, zmax_o, zabs_o, zo_div, zo_mod, ↓reduceIte, Int.reduceToNat, Int.reduceNeg, Int.reduceAdd, Int.reduceMul, Int.reduceSub, Int.reduceEq, Int.reduceLT, Int.reduceLE, if_true, if_false, Nat.reduceAdd, Nat.reduceMul]
    · rw [if_neg (fun z => c2 z.2)]
      refine CA_x (t := 0) (e.trans ?_)
      rw [if_neg (by omega), if_neg (by omega), if_neg (by omega), if_neg (by omega)]
  · rw [if_neg (fun z => c z.1)]
    refine CA_x (t := 0) ?_
    rw [ze_100, n16, c140 (by omega) (by omega) (by omega) (by omega), if_neg c]; rfl
end CM

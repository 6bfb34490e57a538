/-! THE PURE SIDE 24: forecasts: class -/
/-- how many turns until a thing no longer holds; -1 -/
def enG (P : Rw → Bool) : Nat → Rw → Int
  | 0, z => if P z = true then -1 else 0
  | m + 1, z => if P z = true then (if enG P m (pas z) = -1 then -1 else enG P m (pas z) + 1) else 0
def pAf (b : Nat) (z : Rw) : Bool := decide (z (40 + 10 * b + 6) = 0)
def pLv (z : Rw) : Bool := decide (0 < z 2)
theorem enG_b (P : Rw → Bool) : ∀ m z, -1 ≤ enG P m z ∧ enG P m z ≤ m := by
  intro m
  induction m with
  | zero => intro z; unfold enG; split <;> omega
  | succ m ih => intro z; unfold enG; have := ih (pas z); split <;> (try split) <;> omega
/-- the best of a row of values: the value, the number -/
def bstF (v : Nat → Int) (sk : Nat → Bool) (L0 : Int) : Nat → Int × Int
  | 0 => (L0, -1)
  | k + 1 => if sk k = true then bstF v sk L0 k else if (bstF v sk L0 k).1 < v k then (v k, (k : Int)) else bstF v sk L0 k
theorem bstF_succ (v : Nat → Int) (sk : Nat → Bool) (L0 : Int) (k : Nat) : bstF v sk L0 (k + 1) = if sk k = true then bstF v sk L0 k else if (bstF v sk L0 k).1 < v k then (v k, (k : Int)) else bstF v sk L0 k := rfl
theorem bstF_rng (v : Nat → Int) (sk : Nat → Bool) (L0 lo hi : Int) (h0 : lo ≤ L0 ∧ L0 ≤ hi) : ∀ k : Nat, (∀ i, i < k → sk i = false → lo ≤ v i ∧ v i ≤ hi) → (lo ≤ (bstF v sk L0 k).1 ∧ (bstF v sk L0 k).1 ≤ hi) ∧ (-1 ≤ (bstF v sk L0 k).2 ∧ (bstF v sk L0 k).2 < (k : Int) ∨ (bstF v sk L0 k).2 = -1) := by
  intro k
  induction k with
  | zero => intro _; exact ⟨h0, Or.inr rfl⟩
  | succ k ih =>
    intro h
    have i := ih (fun i hi => h i (by omega))
    rw [bstF_succ]
    by_cases c : sk k = true
    · rw [if_pos c]; exact ⟨i.1, by omega⟩
    · rw [if_neg c]
      have := h k (by omega) (Bool.eq_false_iff.mpr c)
      by_cases c2 : (bstF v sk L0 k).1 < v k
      · rw [if_pos c2]; exact ⟨this, by simp only []; omega⟩
      · rw [if_neg c2]; exact ⟨i.1, by omega⟩
theorem bstF_stop (v : Nat → Int) (sk : Nat → Bool) (L0 : Int) (k : Nat) (h : 40 ≤ (bstF v sk L0 k).1) : ∀ m : Nat, (∀ i, i < k + m → sk i = false → v i ≤ 40) → bstF v sk L0 (k + m) = bstF v sk L0 k := by
  intro m
  induction m with
  | zero => intro _; rfl
  | succ m ih =>
    intro hv
    have i := ih (fun i hi => hv i (by omega))
    rw [show k + (m + 1) = k + m + 1 from rfl, bstF_succ, i]
    by_cases c : sk (k + m) = true
    · rw [if_pos c]
    · have := hv (k + m) (by omega) (Bool.eq_false_iff.mpr c)
      rw [if_neg c, if_neg (by omega)]
def soaR (a : Rw) (k : Nat) (v : Int) : Rw := up a (160 + k) (if 99 < a (160 + k) + v then 99 else a (160 + k) + v)
def putR (a : Rw) (b : Nat) (c : Int) : Rw := up (up (up a (40 + 10 * b) c) (40 + 10 * b + 4) 0) (40 + 10 * b + 5) 0
def resV (a : Rw) (b : Nat) (v : Int) : Nat → Int := fun k => lifG b 40 (soaR a k v)
def refV (a : Rw) (b : Nat) : Nat → Int := fun k => lifG b 40 (putR a b k)
def refS (a : Rw) (b : Nat) : Nat → Bool := fun k => decide (occ a k b ≠ -1)
def pluV (a : Rw) : Nat → Int := fun k => cnt (pasN 40 (up a (10 + 4 * k + 2) 0)) 0
theorem pluV_eq (a : Rw) (k : Nat) : pluV a k = cnt (pasN 40 (up a (10 + 4 * k + 2) 0)) 0 := by delta pluV; rfl
def noS : Nat → Bool := fun _ => false
section CP
variable {S : zS} {n d : Nat} {a : Rw} {T p r : Int}
theorem WF_soaR (hw : WF T a) {k : Nat} (hk : (k : Int) < a 0 * a 1) {v : Int} (hv : 1 ≤ v ∧ v ≤ 99) : WF T (soaR a k v) := by
  have gS := hw.2.2.2.2.1 k hk
  unfold soaR
  refine WF_soapF hw (fun i hi => up_ne _ _ (by omega)) (fun c hc => ?_)
  by_cases e : c = k
  · subst e; rw [up_self]; split <;> omega
  · rw [up_ne _ _ (by omega)]; exact hw.2.2.2.2.1 c hc
theorem WF_putR (hw : WF T a) {b : Nat} (hb : (b : Int) < a 9) {c : Int} (hc : 0 ≤ c ∧ c < a 0 * a 1) (hf : occ a c b = -1) : WF T (putR a b c) := by
  have u9 := hw.1.2.2.2.2.2.2.2.2.2
  have w1 := WF_cell hw hb hc (fun k hk hkb => occ_free hf k hk (by omega))
  have w2 := WF_b4 (v := 0) (b := b) w1 (by simp (maxSteps := 10000000) (disch := omega) only [up_ne, up_self]; exact hb) (by omega)
  exact WF_b5 (v := 0) (b := b) w2 (by simp (maxSteps := 10000000) (disch := omega) only [up_ne, up_self]; exact hb) (by omega)
theorem putR_9 (b : Nat) (c : Int) : putR a b c 9 = a 9 := by unfold putR; simp (maxSteps := 10000000) (disch := omega) only [up_ne, up_self]
theorem putR_6 (b : Nat) (c : Int) : putR a b c (40 + 10 * b + 6) = a (40 + 10 * b + 6) := by unfold putR; simp (maxSteps := 10000000) (disch := omega) only [up_ne, up_self]
theorem soaR_9 (k : Nat) (v : Int) : soaR a k v 9 = a 9 := by unfold soaR; simp (maxSteps := 10000000) (disch := omega) only [up_ne, up_self]
/-- the trial bath: a copy -/
theorem c1t (h : Cb (S.1 0 0) a) (hw : WF T a) (hF : CbF (S.1 0 1)) : ∃ S', zr_sem zF (d + 2) 1 [za 0 1 0, za 0 0 0] S = some (.inl none, S') ∧ Cb (S'.1 0 1) a ∧ Cb (S'.1 0 0) a ∧ RC S S' := by
  obtain ⟨S1, e1, q1, q2⟩ := c1 (S := S) (n := 1) (p := 0) (d := d) (by omega)
  have hc := q1 a T h hw hF
  have e0 : S1.1 0 0 = S.1 0 0 := by funext o j; exact q2.2 0 0 o j (by omega) (by omega)
  exact ⟨S1, e1, hc, by rw [e0]; exact h, RC_Fc q2 hc.1⟩
theorem Fc1_0 {S S' : zS} (h : Fc 1 S S') : S'.1 0 0 = S.1 0 0 := by funext o j; exact h.2 0 0 o j (by omega) (by omega)
theorem RC_0 {S S' : zS} (h : RC S S') : S'.1 0 0 = S.1 0 0 := by funext o j; exact h.1 0 0 o j (by omega) (by omega)
theorem c115_l {b : Nat} (h60 : True) : ∀ (m k f : Nat) (S : zS) (z : Rw) (T : Int), k + m = 300 → m < f → Cb (S.1 0 0) a → a 6 + k = z 6 → Cb (S.1 0 1) z → WF T z → T + m ≤ 1000000 → (b : Int) < z 9 → ∃ S', zy zF (d + 6) 115 f 18 [some (za 1 0 0), some (zi (zo b)), some (zi (zo k))] S = some (.inl (some (zi (zo (if enG (pAf b) m z = -1 then -1 else k + enG (pAf b) m z)))), S') ∧ RC S S' := by
  intro m
  induction m with
  | zero =>
    intro k f S z T hk hf h h6 hz hw hT hb
    obtain ⟨f, rfl⟩ : ∃ f', f = f' + 1 := ⟨f - 1, by omega⟩
    have n12 := h.2.1.2.2.2.2.2.2.1
    have z12 := hz.2.1.2.2.2.2.2.2.1
    refine ⟨S, ?_, RC_refl S⟩
    rw [ze_115_18]
    simp (maxSteps := 10000000) (disch := omega) only [c7 hz hw hb, z12, n12, zo_add, zo_sub, zo_mul, zo_neg, zo_lt, zo_le, zo_eq, zo_nn, zin_ok, zlt_eq, zr0, zr1, zr3, zr4, zr0x, zr1x, zr3x, zr4x, zb_and, zb_0, zmin_o, zmax_o, zabs_o, zo_div, zo_mod, ↓reduceIte, Int.reduceToNat, Int.reduceNeg, Int.reduceAdd, Int.reduceMul, Int.reduceSub, Int.reduceEq, Int.reduceLT, Int.reduceLE, if_true, if_false, Nat.reduceAdd, Nat.reduceMul]
    rw [if_pos (by omega)]
    by_cases c : z (40 + 10 * b + 6) = 0
    · have ep : enG (pAf b) 0 z = -1 := if_pos (decide_eq_true c)
      rw [if_neg (show ¬ decide (z (40 + 10 * b + 6) = 0) = false by simp [c]), ep, if_pos rfl]
    · have ep : enG (pAf b) 0 z = 0 := if_neg (fun h => c (of_decide_eq_true h))
      rw [if_pos (show decide (z (40 + 10 * b + 6) = 0) = false by simp [c]), ep, if_neg (show ¬ (0 : Int) = -1 by omega), show z 6 - a 6 = (k : Int) + 0 by omega]
  | succ m ih =>
    intro k f S z T hk hf h h6 hz hw hT hb
    obtain ⟨f, rfl⟩ : ∃ f', f = f' + 1 := ⟨f - 1, by omega⟩
    have n12 := h.2.1.2.2.2.2.2.2.1
    have z12 := hz.2.1.2.2.2.2.2.2.1
    rw [ze_115_18]
    simp (maxSteps := 10000000) (disch := omega) only [c7 hz hw hb, z12, n12, zo_add, zo_sub, zo_mul, zo_neg, zo_lt, zo_le, zo_eq, zo_nn, zin_ok, zlt_eq, zr0, zr1, zr3, zr4, zr0x, zr1x, zr3x, zr4x, zb_and, zb_0, zmin_o, zmax_o, zabs_o, zo_div, zo_mod, ↓reduceIte, Int.reduceToNat, Int.reduceNeg, Int.reduceAdd, Int.reduceMul, Int.reduceSub, Int.reduceEq, Int.reduceLT, Int.reduceLE, if_true, if_false, Nat.reduceAdd, Nat.reduceMul]
    rw [if_neg (show ¬ (300 : Int) ≤ k by omega)]
    by_cases c : z (40 + 10 * b + 6) = 0
    · obtain ⟨S2, e2, M2, F2⟩ := c46 (d := d) hz hw (by omega)
      obtain ⟨p1, p2, p3⟩ := pas_ok hw (by omega)
      have p9 := p3 9 (by omega) (by omega) (by omega)
      obtain ⟨S3, e3, R3⟩ := ih (k + 1) f S2 (pas z) (T + 1) (by omega) (by omega) (by rw [Fc1_0 F2]; exact h) (by omega) M2 p1 (by omega) (by omega)
      have ep : enG (pAf b) (m + 1) z = if enG (pAf b) m (pas z) = -1 then -1 else enG (pAf b) m (pas z) + 1 := if_pos (decide_eq_true c)
      refine ⟨S3, ?_, RC_trans (RC_Fc F2 M2.1) R3⟩
      rw [if_neg (show ¬ decide (z (40 + 10 * b + 6) = 0) = false by simp [c]), e2, zr0, ep]
      refine e3.trans ?_
      have : (if enG (pAf b) m (pas z) = -1 then -1 else ((k + 1 : Nat) : Int) + enG (pAf b) m (pas z)) = (if (if enG (pAf b) m (pas z) = -1 then -1 else enG (pAf b) m (pas z) + 1) = -1 then -1 else (k : Int) + (if enG (pAf b) m (pas z) = -1 then -1 else enG (pAf b) m (pas z) + 1)) := by
        have := enG_b (pAf b) m (pas z)
        split <;> (try split) <;> omega
      rw [this]
    · have ep : enG (pAf b) (m + 1) z = 0 := if_neg (fun h => c (of_decide_eq_true h))
      refine ⟨S, ?_, RC_refl S⟩
      rw [if_pos (show decide (z (40 + 10 * b + 6) = 0) = false by simp [c]), if_pos (show decide (z (40 + 10 * b + 6) = 0) = false by simp [c]), ep, if_neg (show ¬ (0 : Int) = -1 by omega), show z 6 - a 6 = (k : Int) + 0 by omega]
theorem A115 (h : Cb (S.1 0 0) a) (hw : WF T a) (hT : T + 400 ≤ 1000000) (hF : CbF (S.1 0 1)) (g1 : -2147483648 ≤ p) (g2 : p < 2147483648) : CA (d + 7) 115 [za 1 0 0, zi (zo p)] S (if vB a p then 0 else 1) (enG (pAf p.toNat) 300 a) := by
  have hb2 := zF1_big
  by_cases c : vB a p
  · obtain ⟨b, rfl⟩ : ∃ b : Nat, p = b := ⟨p.toNat, by omega⟩
    rw [if_pos c, Int.toNat_natCast]
    obtain ⟨S1, e1, M1, M0, R1⟩ := c1t (d := d + 4) h hw hF
    obtain ⟨S2, e2, R2⟩ := c115_l (d := d) (b := b) trivial 300 0 zF1 S1 a T (by omega) (by omega) M0 (by omega) M1 hw (by omega) c.2
    refine ⟨S2, ?_, RC_trans R1 R2⟩
    rw [ze_115, c138 h hw g1 g2, if_pos c, zr0, e1, zr0]
    refine e2.trans ?_
    have := enG_b (pAf b) 300 a
    have e : (if enG (pAf b) 300 a = -1 then -1 else ((0 : Nat) : Int) + enG (pAf b) 300 a) = enG (pAf b) 300 a := by split <;> omega
    rw [e]; rfl
  · rw [if_neg c]
    refine CA_x (t := 0) ?_
    rw [ze_115, c138 h hw g1 g2, if_neg c]; rfl
theorem c116_l : ∀ (m k f : Nat) (S : zS) (z : Rw) (T : Int), k + m = 300 → m < f → Cb (S.1 0 0) a → a 6 + k = z 6 → Cb (S.1 0 1) z → WF T z → T + m ≤ 1000000 → ∃ S', zy zF (d + 6) 116 f 13 [some (za 1 0 0), some (zi (zo k))] S = some (.inl (some (zi (zo (if enG pLv m z = -1 then -1 else k + enG pLv m z)))), S') ∧ RC S S' := by
  intro m
  induction m with
  | zero =>
    intro k f S z T hk hf h h6 hz hw hT
    obtain ⟨f, rfl⟩ : ∃ f', f = f' + 1 := ⟨f - 1, by omega⟩
    have n12 := h.2.1.2.2.2.2.2.2.1
    have z12 := hz.2.1.2.2.2.2.2.2.1
    have z8 := hz.2.1.2.2.1
    have u2 := hw.1.2.2.1
    refine ⟨S, ?_, RC_refl S⟩
    rw [ze_116_13]
    simp (maxSteps := 10000000) (disch := omega) only [z8, z12, n12, zo_add, zo_sub, zo_mul, zo_neg, zo_lt, zo_le, zo_eq, zo_nn, zin_ok, zlt_eq, zr0, zr1, zr3, zr4, zr0x, zr1x, zr3x, zr4x, zb_and, zb_0, zmin_o, zmax_o, zabs_o, zo_div, zo_mod, ↓reduceIte, Int.reduceToNat, Int.reduceNeg, Int.reduceAdd, Int.reduceMul, Int.reduceSub, Int.reduceEq, Int.reduceLT, Int.reduceLE, if_true, if_false, Nat.reduceAdd, Nat.reduceMul]
    rw [if_pos (by omega)]
    by_cases c : 0 < z 2
    · have ep : enG pLv 0 z = -1 := if_pos (decide_eq_true c)
      rw [if_neg (show ¬ z 2 ≤ 0 by omega), ep, if_pos rfl]
    · have ep : enG pLv 0 z = 0 := if_neg (fun h => c (of_decide_eq_true h))
      rw [if_pos (show z 2 ≤ 0 by omega), ep, if_neg (show ¬ (0 : Int) = -1 by omega), show z 6 - a 6 = (k : Int) + 0 by omega]
  | succ m ih =>
    intro k f S z T hk hf h h6 hz hw hT
    obtain ⟨f, rfl⟩ : ∃ f', f = f' + 1 := ⟨f - 1, by omega⟩
    have n12 := h.2.1.2.2.2.2.2.2.1
    have z12 := hz.2.1.2.2.2.2.2.2.1
    have z8 := hz.2.1.2.2.1
    have u2 := hw.1.2.2.1
    rw [ze_116_13]
    simp (maxSteps := 10000000) (disch := omega) only [z8, z12, n12, zo_add, zo_sub, zo_mul, zo_neg, zo_lt, zo_le, zo_eq, zo_nn, zin_ok, zlt_eq, zr0, zr1, zr3, zr4, zr0x, zr1x, zr3x, zr4x, zb_and, zb_0, zmin_o, zmax_o, zabs_o, zo_div, zo_mod, ↓reduceIte, Int.reduceToNat, Int.reduceNeg, Int.reduceAdd, Int.reduceMul, Int.reduceSub, Int.reduceEq, Int.reduceLT, Int.reduceLE, if_true, if_false, Nat.reduceAdd, Nat.reduceMul]
    rw [if_neg (show ¬ (300 : Int) ≤ k by omega)]
    by_cases c : 0 < z 2
    · obtain ⟨S2, e2, M2, F2⟩ := c46 (d := d) hz hw (by omega)
      obtain ⟨p1, p2, p3⟩ := pas_ok hw (by omega)
      obtain ⟨S3, e3, R3⟩ := ih (k + 1) f S2 (pas z) (T + 1) (by omega) (by omega) (by rw [Fc1_0 F2]; exact h) (by omega) M2 p1 (by omega)
      have ep : enG pLv (m + 1) z = if enG pLv m (pas z) = -1 then -1 else enG pLv m (pas z) + 1 := if_pos (decide_eq_true c)
      refine ⟨S3, ?_, RC_trans (RC_Fc F2 M2.1) R3⟩
      rw [if_neg (show ¬ z 2 ≤ 0 by omega), e2, zr0, ep]
      refine e3.trans ?_
      have : (if enG pLv m (pas z) = -1 then -1 else ((k + 1 : Nat) : Int) + enG pLv m (pas z)) = (if (if enG pLv m (pas z) = -1 then -1 else enG pLv m (pas z) + 1) = -1 then -1 else (k : Int) + (if enG pLv m (pas z) = -1 then -1 else enG pLv m (pas z) + 1)) := by
        have := enG_b pLv m (pas z)
        split <;> (try split) <;> omega
      rw [this]
    · have ep : enG pLv (m + 1) z = 0 := if_neg (fun h => c (of_decide_eq_true h))
      refine ⟨S, ?_, RC_refl S⟩
      rw [if_pos (show z 2 ≤ 0 by omega), if_pos (show z 2 ≤ 0 by omega), ep, if_neg (show ¬ (0 : Int) = -1 by omega), show z 6 - a 6 = (k : Int) + 0 by omega]
theorem A116 (h : Cb (S.1 0 0) a) (hw : WF T a) (hT : T + 400 ≤ 1000000) (hF : CbF (S.1 0 1)) : CA (d + 7) 116 [za 1 0 0] S 0 (enG pLv 300 a) := by
  have hb2 := zF1_big
  obtain ⟨S1, e1, M1, M0, R1⟩ := c1t (d := d + 4) h hw hF
  obtain ⟨S2, e2, R2⟩ := c116_l (d := d) 300 0 zF1 S1 a T (by omega) (by omega) M0 (by omega) M1 hw (by omega)
  refine ⟨S2, ?_, RC_trans R1 R2⟩
  rw [ze_116, e1, zr0]
  refine e2.trans ?_
  have := enG_b pLv 300 a
  have e : (if enG pLv 300 a = -1 then -1 else ((0 : Nat) : Int) + enG pLv 300 a) = enG pLv 300 a := by split <;> omega
  rw [e]; rfl
theorem A117 {q : Int} (h : Cb (S.1 0 0) a) (hw : WF T a) (hT : T + 400 ≤ 1000000) (hF : CbF (S.1 0 1)) (g1 : -2147483648 ≤ p) (g2 : p < 2147483648) (g3 : -2147483648 ≤ r) (g4 : r < 2147483648) (g5 : -2147483648 ≤ q) (g6 : q < 2147483648) : CA (d + 8) 117 [za 1 0 0, zi (zo p), zi (zo r), zi (zo q)] S (if vB a p ∧ (0 ≤ r ∧ r ≤ 10) then (if 0 ≤ q ∧ q ≤ 300 then 0 else 2) else 1) (bnum (pasN q.toNat a) p.toNat r.toNat) := by
  by_cases c : vB a p
  · by_cases c2 : 0 ≤ r ∧ r ≤ 10
    · rw [if_pos ⟨c, c2⟩]
      by_cases c3 : 0 ≤ q ∧ q ≤ 300
      · obtain ⟨b, rfl⟩ : ∃ b : Nat, p = b := ⟨p.toNat, by omega⟩
        obtain ⟨w, rfl⟩ : ∃ w : Nat, r = w := ⟨r.toNat, by omega⟩
        obtain ⟨t, rfl⟩ : ∃ t : Nat, q = t := ⟨q.toNat, by omega⟩
        rw [if_pos c3, Int.toNat_natCast, Int.toNat_natCast, Int.toNat_natCast]
        obtain ⟨S1, e1, M1, M0, R1⟩ := c1t (d := d + 5) h hw hF
        obtain ⟨S2, e2, M2, F2⟩ := c142 (d := d) M1 hw (m := t) (by omega) (by omega)
        obtain ⟨p1, p2, p3⟩ := pasN_ok hw t (by omega)
        have p9 := p3 9 (by omega) (by omega) (by omega)
        refine ⟨S2, ?_, RC_trans R1 (RC_Fc F2 M2.1)⟩
        rw [ze_117, c138 h hw g1 g2, if_pos c, zr0, c140 g3 g4 (by omega) (by omega), if_pos (by omega), zr0, c141 (by omega) (by omega) (by omega) (by omega) (by omega) (by omega), if_pos c3, zr0, e1, zr0, e2, zr0, c67w M2 p1 (b := b) (by omega) (by omega), zr1]
        rfl
      · rw [if_neg c3]
        refine CA_x (t := 1) ?_
        rw [ze_117, c138 h hw g1 g2, if_pos c, zr0, c140 g3 g4 (by omega) (by omega), if_pos (by omega), zr0, c141 (by omega) (by omega) (by omega) (by omega) (by omega) (by omega), if_neg c3]; rfl
    · rw [if_neg (fun z => c2 z.2)]
      refine CA_x (t := 0) ?_
      rw [ze_117, c138 h hw g1 g2, if_pos c, zr0, c140 g3 g4 (by omega) (by omega), if_neg (by omega)]; rfl
  · rw [if_neg (fun z => c z.1)]
    refine CA_x (t := 0) ?_
    rw [ze_117, c138 h hw g1 g2, if_neg c]; rfl
theorem A118 (h : Cb (S.1 0 0) a) (hw : WF T a) (hT : T + 400 ≤ 1000000) (hF : CbF (S.1 0 1)) (g1 : -2147483648 ≤ p) (g2 : p < 2147483648) : CA (d + 8) 118 [za 1 0 0, zi (zo p)] S (if 0 ≤ p ∧ p ≤ 300 then 0 else 2) (cnt (pasN p.toNat a) 0) := by
  by_cases c : 0 ≤ p ∧ p ≤ 300
  · obtain ⟨t, rfl⟩ : ∃ t : Nat, p = t := ⟨p.toNat, by omega⟩
    rw [if_pos c, Int.toNat_natCast]
    obtain ⟨S1, e1, M1, M0, R1⟩ := c1t (d := d + 5) h hw hF
    obtain ⟨S2, e2, M2, F2⟩ := c142 (d := d) M1 hw (m := t) (by omega) (by omega)
    obtain ⟨p1, p2, p3⟩ := pasN_ok hw t (by omega)
    refine ⟨S2, ?_, RC_trans R1 (RC_Fc F2 M2.1)⟩
    rw [ze_118, c141 (by omega) (by omega) (by omega) (by omega) (by omega) (by omega), if_pos c, zr0, e1, zr0, e2, zr0, c14 M2 p1 (by omega) (by omega), zr1]
    rfl
  · rw [if_neg c]
    refine CA_x (t := 1) ?_
    rw [ze_118, c141 (by omega) (by omega) (by omega) (by omega) (by omega) (by omega), if_neg c]; rfl
theorem c119_l (hw : WF T a) (hT : T + 400 ≤ 1000000) {b : Nat} (hb : (b : Int) < a 9) {v : Int} (hv : 1 ≤ v ∧ v ≤ 99) {L0 : Int} (hL : 0 ≤ L0 ∧ L0 ≤ 40) : ∀ (m k f : Nat) (S : zS), k + m = (a 0 * a 1).toNat → m < f → Cb (S.1 0 0) a → CbF (S.1 0 1) → ∃ S', zy zF (d + 7) 119 f 48 [some (za 1 0 0), some (zi (zo b)), some (zi (zo v)), some (zi (zo (bstF (resV a b v) noS L0 k).1)), some (zi (zo (bstF (resV a b v) noS L0 k).2)), some (zi (zo k)), none] S = some (.inl (some (zi (zo (bstF (resV a b v) noS L0 (a 0 * a 1).toNat).2))), S') ∧ RC S S' := by
  have uN := WF_nc hw
  have hvv : ∀ i, 0 ≤ resV a b v i ∧ resV a b v i ≤ 40 := fun i => by have := lifG_b b 40 (soaR a i v); unfold resV; omega
  intro m
  induction m with
  | zero =>
    intro k f S hk hf h hF
    obtain ⟨f, rfl⟩ : ∃ f', f = f' + 1 := ⟨f - 1, by omega⟩
    refine ⟨S, ?_, RC_refl S⟩
    rw [ze_119_48]
    simp (maxSteps := 10000000) (disch := omega) only [c2 h, zo_add, zo_sub, zo_mul, zo_neg, zo_lt, zo_le, zo_eq, zo_nn, zin_ok, zlt_eq, zr0, zr1, zr3, zr4, zr0x, zr1x, zr3x, zr4x, zb_and, zb_0, zmin_o, zmax_o, zabs_o, zo_div, zo_mod, ↓reduceIte, Int.reduceToNat, Int.reduceNeg, Int.reduceAdd, Int.reduceMul, Int.reduceSub, Int.reduceEq, Int.reduceLT, Int.reduceLE, if_true, if_false, Nat.reduceAdd, Nat.reduceMul]
    rw [if_pos (by omega), show k = (a 0 * a 1).toNat by omega]
  | succ m ih =>
    intro k f S hk hf h hF
    obtain ⟨f, rfl⟩ : ∃ f', f = f' + 1 := ⟨f - 1, by omega⟩
    have rg := bstF_rng (resV a b v) noS L0 0 40 hL k (fun i _ _ => hvv i)
    rw [ze_119_48]
    simp (maxSteps := 10000000) (disch := omega) only [c2 h, zo_add, zo_sub, zo_mul, zo_neg, zo_lt, zo_le, zo_eq, zo_nn, zin_ok, zlt_eq, zr0, zr1, zr3, zr4, zr0x, zr1x, zr3x, zr4x, zb_and, zb_0, zmin_o, zmax_o, zabs_o, zo_div, zo_mod, ↓reduceIte, Int.reduceToNat, Int.reduceNeg, Int.reduceAdd, Int.reduceMul, Int.reduceSub, Int.reduceEq, Int.reduceLT, Int.reduceLE, if_true, if_false, Nat.reduceAdd, Nat.reduceMul]
    rw [if_neg (show ¬ a 0 * a 1 ≤ (k : Int) by omega)]
    by_cases c : 40 ≤ (bstF (resV a b v) noS L0 k).1
    · refine ⟨S, ?_, RC_refl S⟩
      have := bstF_stop (resV a b v) noS L0 k c (m + 1) (fun i _ _ => (hvv i).2)
      rw [if_pos c, ← this, show k + (m + 1) = (a 0 * a 1).toNat by omega]
    · rw [if_neg c]
      obtain ⟨S1, e1, M1, M0, R1⟩ := c1t (d := d + 5) h hw hF
      have e17 := c17 (d := d + 5) (v := v) M1 hw (c := k) (by omega) (by omega)
      have wA := WF_soaR hw (k := k) (by omega) hv
      have hA : Cb ((zs_set S1 0 1 8 k (zo (if 99 < a (160 + k) + v then 99 else a (160 + k) + v))).1 0 1) (soaR a k v) := Cb_s M1 hw (by omega)
      obtain ⟨S3, e3, M3, F3⟩ := c143 (d := d) hA wA (by omega) (b := b) (by rw [soaR_9]; exact hb)
      have R3 : RC S S3 := RC_trans R1 (RC_Fc (Fc_trans (Fc_set (Fc_refl 1 S1) _ _ _) F3) M3)
      obtain ⟨S4, e4, R4⟩ := ih (k + 1) f S3 (by omega) (by omega) (by rw [RC_0 R3]; exact h) M3
      refine ⟨S4, ?_, RC_trans R3 R4⟩
      rw [e1, zr0, e17, zr0, e3, zr1]
      rw [bstF_succ, show noS k = false from rfl, if_neg (by decide)] at e4
      have eV : resV a b v k = lifG b 40 (soaR a k v) := rfl
      rw [eV] at e4
      have lb := lifG_b b 40 (soaR a k v)
      rw [show ((k + 1 : Nat) : Int) = (k : Int) + 1 from rfl] at e4
      simp (maxSteps := 10000000) (disch := omega) only [zo_add, zo_sub, zo_mul, zo_neg, zo_lt, zo_le, zo_eq, zo_nn, zin_ok, zlt_eq, zr0, zr1, zr3, zr4, zr0x, zr1x, zr3x, zr4x, zb_and, zb_0, zmin_o, zmax_o, zabs_o, zo_div, zo_mod, ↓reduceIte, Int.reduceToNat, Int.reduceNeg, Int.reduceAdd, Int.reduceMul, Int.reduceSub, Int.reduceEq, Int.reduceLT, Int.reduceLE, if_true, if_false, Nat.reduceAdd, Nat.reduceMul]
      by_cases c2 : (bstF (resV a b v) noS L0 k).1 < lifG b 40 (soaR a k v)
      · rw [if_pos c2] at e4
        rw [if_neg (by omega)]; exact e4
      · rw [if_neg c2] at e4
        rw [if_pos (by omega)]; exact e4
theorem A119 (h : Cb (S.1 0 0) a) (hw : WF T a) (hT : T + 400 ≤ 1000000) (hF : CbF (S.1 0 1)) (g1 : -2147483648 ≤ p) (g2 : p < 2147483648) (g3 : -2147483648 ≤ r) (g4 : r < 2147483648) : CA (d + 8) 119 [za 1 0 0, zi (zo p), zi (zo r)] S (if vB a p then (if 1 ≤ r ∧ r ≤ 99 then 0 else 2) else 1) (if a (40 + 10 * p.toNat + 6) = 0 then (bstF (resV a p.toNat r) noS (lifG p.toNat 40 a) (a 0 * a 1).toNat).2 else -1) := by
  have hb2 := zF1_big
  have uN := WF_nc hw
  by_cases c : vB a p
  · rw [if_pos c]
    by_cases c2 : 1 ≤ r ∧ r ≤ 99
    · obtain ⟨b, rfl⟩ : ∃ b : Nat, p = b := ⟨p.toNat, by omega⟩
      rw [if_pos c2, Int.toNat_natCast]
      have e := ze_119 (d := d + 7) (S := S) (xa := zo b) (xb := zo r)
      rw [c138 h hw g1 g2, if_pos c, zr0, c141 (by omega) (by omega) (by omega) (by omega) (by omega) (by omega), if_pos c2, zr0, c7 h hw c.2, zr1] at e
      by_cases c3 : a (40 + 10 * b + 6) = 0
      · rw [if_pos c3]
        rw [decide_eq_true c3, if_neg (by decide)] at e
        obtain ⟨S1, e1, M1, M0, R1⟩ := c1t (d := d + 5) h hw hF
        obtain ⟨S2, e2, M2, F2⟩ := c143 (d := d) M1 hw (by omega) (b := b) c.2
        have lb := lifG_b b 40 a
        obtain ⟨S3, e3, R3⟩ := c119_l (d := d) (L0 := lifG b 40 a) hw hT c.2 c2 lb (a 0 * a 1).toNat 0 zF1 S2 (by omega) (by omega) (by rw [Fc1_0 F2]; exact M0) M2
        refine ⟨S3, e.trans ?_, RC_trans R1 (RC_trans (RC_Fc F2 M2) R3)⟩
        rw [e1, zr0, e2, zr1]
        exact e3
      · rw [if_neg c3]
        rw [decide_eq_false c3, if_pos (show zo (bI false) = zo 0 from rfl)] at e
        exact CA_v e
    · rw [if_neg c2]
      refine CA_x (t := 1) ?_
      rw [ze_119, c138 h hw g1 g2, if_pos c, zr0, c141 (by omega) (by omega) (by omega) (by omega) (by omega) (by omega), if_neg c2]; rfl
  · rw [if_neg c]
    refine CA_x (t := 0) ?_
    rw [ze_119, c138 h hw g1 g2, if_neg c]; rfl
theorem c120_l (hw : WF T a) (hT : T + 400 ≤ 1000000) {b : Nat} (hb : (b : Int) < a 9) (h0 : a (40 + 10 * b + 6) = 0) {L0 : Int} (hL : 0 ≤ L0 ∧ L0 ≤ 40) : ∀ (m k f : Nat) (S : zS), k + m = (a 0 * a 1).toNat → m < f → Cb (S.1 0 0) a → CbF (S.1 0 1) → ∃ S', zy zF (d + 7) 120 f 40 [some (za 1 0 0), some (zi (zo b)), some (zi (zo (bstF (refV a b) (refS a b) L0 k).1)), some (zi (zo (bstF (refV a b) (refS a b) L0 k).2)), some (zi (zo k)), none] S = some (.inl (some (zi (zo (bstF (refV a b) (refS a b) L0 (a 0 * a 1).toNat).2))), S') ∧ RC S S' := by
  have uN := WF_nc hw
  have u9 := hw.1.2.2.2.2.2.2.2.2.2
  have hvv : ∀ i, 0 ≤ refV a b i ∧ refV a b i ≤ 40 := fun i => by have := lifG_b b 40 (putR a b i); unfold refV; omega
  intro m
  induction m with
  | zero =>
    intro k f S hk hf h hF
    obtain ⟨f, rfl⟩ : ∃ f', f = f' + 1 := ⟨f - 1, by omega⟩
    refine ⟨S, ?_, RC_refl S⟩
    rw [ze_120_40]
    simp (maxSteps := 10000000) (disch := omega) only [c2 h, zo_add, zo_sub, zo_mul, zo_neg, zo_lt, zo_le, zo_eq, zo_nn, zin_ok, zlt_eq, zr0, zr1, zr3, zr4, zr0x, zr1x, zr3x, zr4x, zb_and, zb_0, zmin_o, zmax_o, zabs_o, zo_div, zo_mod, ↓reduceIte, Int.reduceToNat, Int.reduceNeg, Int.reduceAdd, Int.reduceMul, Int.reduceSub, Int.reduceEq, Int.reduceLT, Int.reduceLE, if_true, if_false, Nat.reduceAdd, Nat.reduceMul]
    rw [if_pos (by omega), show k = (a 0 * a 1).toNat by omega]
  | succ m ih =>
    intro k f S hk hf h hF
    obtain ⟨f, rfl⟩ : ∃ f', f = f' + 1 := ⟨f - 1, by omega⟩
    have rg := bstF_rng (refV a b) (refS a b) L0 0 40 hL k (fun i _ _ => hvv i)
    rw [ze_120_40]
    simp (maxSteps := 10000000) (disch := omega) only [c2 h, zo_add, zo_sub, zo_mul, zo_neg, zo_lt, zo_le, zo_eq, zo_nn, zin_ok, zlt_eq, zr0, zr1, zr3, zr4, zr0x, zr1x, zr3x, zr4x, zb_and, zb_0, zmin_o, zmax_o, zabs_o, zo_div, zo_mod, ↓reduceIte, Int.reduceToNat, Int.reduceNeg, Int.reduceAdd, Int.reduceMul, Int.reduceSub, Int.reduceEq, Int.reduceLT, Int.reduceLE, if_true, if_false, Nat.reduceAdd, Nat.reduceMul]
    rw [if_neg (show ¬ a 0 * a 1 ≤ (k : Int) by omega)]
    by_cases c : 40 ≤ (bstF (refV a b) (refS a b) L0 k).1
    · refine ⟨S, ?_, RC_refl S⟩
      have := bstF_stop (refV a b) (refS a b) L0 k c (m + 1) (fun i _ _ => (hvv i).2)
      rw [if_pos c, ← this, show k + (m + 1) = (a 0 * a 1).toNat by omega]
    · rw [if_neg c]
      rw [c8 h hw (c := (k : Int)) (by omega) hb, zr1]
      by_cases co : occ a (k : Int) b ≠ -1
      · obtain ⟨S4, e4, R4⟩ := ih (k + 1) f S (by omega) (by omega) h hF
        rw [bstF_succ, show refS a b k = true from decide_eq_true co, if_pos rfl] at e4
        refine ⟨S4, ?_, R4⟩
        rw [decide_eq_true co, if_neg (by decide)]
        exact e4
      · obtain ⟨S1, e1, M1, M0, R1⟩ := c1t (d := d + 5) h hw hF
        have co := Classical.not_not.mp co
        have gk := col_rng hw (c := (k : Int)) (by omega) (by omega)
        have gc := cel_of (a := a) (c := (k : Int)) (by have := hw.1.1; omega) (by omega) (by omega)
        have hfree : ∀ j : Nat, (j : Int) < a 9 → j ≠ b → a (40 + 10 * j + 6) = 0 → a (40 + 10 * j) ≠ a 0 * ((k : Int) / a 0) + (k : Int) % a 0 := fun j hj hjb h6 => by rw [gc.2]; exact occ_free co j hj (by omega) h6
        obtain ⟨S2, e2, M2, F2⟩ := c21 (d := d + 5) M1 hw hb h0 (x := (k : Int) % a 0) (y := (k : Int) / a 0) gc.1 hfree
        rw [gc.2] at M2
        have w1 := WF_cell hw hb (v := (k : Int)) (by omega) (fun j hj hjb h6 => occ_free co j hj (by omega) h6)
        obtain ⟨S3, e3, M3, F3⟩ := c22 (d := d + 5) M2 w1 (b := b) (by simp (maxSteps := 10000000) (disch := omega) only [up_ne, up_self]; exact hb)
        have wA := WF_putR hw hb (c := (k : Int)) (by omega) co
        obtain ⟨S5, e5, M5, F5⟩ := c143 (d := d) (a := putR a b k) M3 wA (by omega) (b := b) (by rw [putR_9]; exact hb)
        have R3 : RC S S5 := RC_trans R1 (RC_Fc (Fc_trans F2 (Fc_trans F3 F5)) M5)
        obtain ⟨S4, e4, R4⟩ := ih (k + 1) f S5 (by omega) (by omega) (by rw [RC_0 R3]; exact h) M5
        refine ⟨S4, ?_, RC_trans R3 R4⟩
        rw [decide_eq_false (show ¬ occ a (k : Int) b ≠ -1 by omega), if_pos (show zo (bI false) = zo 0 from rfl), e1, zr0, c4 M1 hw (by omega) (by omega), zr1, c5 M1 hw (by omega) (by omega), zr1, e2, zr0, e3, zr0, e5, zr1]
        rw [bstF_succ, show refS a b k = false from decide_eq_false (show ¬ occ a (k : Int) b ≠ -1 by omega), if_neg (by decide)] at e4
        have eV : refV a b k = lifG b 40 (putR a b k) := rfl
        rw [eV] at e4
        have lb := lifG_b b 40 (putR a b k)
        rw [show ((k + 1 : Nat) : Int) = (k : Int) + 1 from rfl] at e4
        simp (maxSteps := 10000000) (disch := omega) only [zo_add, zo_sub, zo_mul, zo_neg, zo_lt, zo_le, zo_eq, zo_nn, zin_ok, zlt_eq, zr0, zr1, zr3, zr4, zr0x, zr1x, zr3x, zr4x, zb_and, zb_0, zmin_o, zmax_o, zabs_o, zo_div, zo_mod, ↓reduceIte, Int.reduceToNat, Int.reduceNeg, Int.reduceAdd, Int.reduceMul, Int.reduceSub, Int.reduceEq, Int.reduceLT, Int.reduceLE, if_true, if_false, Nat.reduceAdd, Nat.reduceMul]
        by_cases c2 : (bstF (refV a b) (refS a b) L0 k).1 < lifG b 40 (putR a b k)
        · rw [if_pos c2] at e4
          rw [if_neg (by omega)]; exact e4
        · rw [if_neg c2] at e4
          rw [if_pos (by omega)]; exact e4
theorem A120 (h : Cb (S.1 0 0) a) (hw : WF T a) (hT : T + 400 ≤ 1000000) (hF : CbF (S.1 0 1)) (g1 : -2147483648 ≤ p) (g2 : p < 2147483648) : CA (d + 8) 120 [za 1 0 0, zi (zo p)] S (if vB a p then 0 else 1) (if a (40 + 10 * p.toNat + 6) = 0 then (bstF (refV a p.toNat) (refS a p.toNat) (lifG p.toNat 40 a) (a 0 * a 1).toNat).2 else -1) := by
  have hb2 := zF1_big
  have uN := WF_nc hw
  by_cases c : vB a p
  · obtain ⟨b, rfl⟩ : ∃ b : Nat, p = b := ⟨p.toNat, by omega⟩
    rw [if_pos c, Int.toNat_natCast]
    have e := ze_120 (d := d + 7) (S := S) (xa := zo b)
    rw [c138 h hw g1 g2, if_pos c, zr0, c7 h hw c.2, zr1] at e
    by_cases c3 : a (40 + 10 * b + 6) = 0
    · rw [if_pos c3]
      rw [decide_eq_true c3, if_neg (by decide)] at e
      obtain ⟨S1, e1, M1, M0, R1⟩ := c1t (d := d + 5) h hw hF
      obtain ⟨S2, e2, M2, F2⟩ := c143 (d := d) M1 hw (by omega) (b := b) c.2
      have lb := lifG_b b 40 a
      obtain ⟨S3, e3, R3⟩ := c120_l (d := d) (L0 := lifG b 40 a) hw hT c.2 c3 lb (a 0 * a 1).toNat 0 zF1 S2 (by omega) (by omega) (by rw [Fc1_0 F2]; exact M0) M2
      refine ⟨S3, e.trans ?_, RC_trans R1 (RC_trans (RC_Fc F2 M2) R3)⟩
      rw [e1, zr0, e2, zr1]
      exact e3
    · rw [if_neg c3]
      rw [decide_eq_false c3, if_pos (show zo (bI false) = zo 0 from rfl)] at e
      exact CA_v e
  · rw [if_neg c]
    refine CA_x (t := 0) ?_
    rw [ze_120, c138 h hw g1 g2, if_neg c]; rfl
theorem cnt_b (hw : WF T a) (st : Int) : 0 ≤ cnt a st ∧ cnt a st ≤ 12 := by
  have u9 := hw.1.2.2.2.2.2.2.2.2.2
  have l1 : 0 ≤ cnt a st := zsum_ge _ _ (fun i _ => by split <;> omega)
  have l2 : cnt a st ≤ 1 * ((a 9).toNat : Int) := zsum_le _ 1 _ (fun i _ => by split <;> omega)
  omega
theorem pluV_b (hw : WF T a) (hT : T + 400 ≤ 1000000) {k : Nat} (hk : (k : Int) < a 7) : 0 ≤ pluV a k ∧ pluV a k ≤ 12 := by
  have w := WF_d2 (v := 0) (k0 := k) hw hk (by omega)
  rw [pluV_eq]
  exact cnt_b (pasN_ok w 40 (by omega)).1 0
theorem c121_l (hw : WF T a) (hT : T + 400 ≤ 1000000) {L0 : Int} (hL : 0 ≤ L0 ∧ L0 ≤ 12) : ∀ (m k f : Nat) (S : zS), k + m = (a 7).toNat → m < f → Cb (S.1 0 0) a → CbF (S.1 0 1) → ∃ S', zy zF (d + 7) 121 f 34 [some (za 1 0 0), some (zi (zo (bstF (pluV a) noS L0 k).1)), some (zi (zo (bstF (pluV a) noS L0 k).2)), some (zi (zo k)), none] S = some (.inl (some (zi (zo (bstF (pluV a) noS L0 (a 7).toNat).2))), S') ∧ RC S S' := by
  have u7 := hw.1.2.2.2.2.2.2.2
  intro m
  induction m with
  | zero =>
    intro k f S hk hf h hF
    obtain ⟨f, rfl⟩ : ∃ f', f = f' + 1 := ⟨f - 1, by omega⟩
    have n14 := h.2.1.2.2.2.2.2.2.2.2.1
    refine ⟨S, ?_, RC_refl S⟩
    rw [ze_121_34]
    simp (maxSteps := 10000000) (disch := omega) only [n14, zo_add, zo_sub, zo_mul, zo_neg, zo_lt, zo_le, zo_eq, zo_nn, zin_ok, zlt_eq, zr0, zr1, zr3, zr4, zr0x, zr1x, zr3x, zr4x, zb_and, zb_0, zmin_o, zmax_o, zabs_o, zo_div, zo_mod, ↓reduceIte, Int.reduceToNat, Int.reduceNeg, Int.reduceAdd, Int.reduceMul, Int.reduceSub, Int.reduceEq, Int.reduceLT, Int.reduceLE, if_true, if_false, Nat.reduceAdd, Nat.reduceMul]
    rw [if_pos (by omega), show k = (a 7).toNat by omega]
  | succ m ih =>
    intro k f S hk hf h hF
    obtain ⟨f, rfl⟩ : ∃ f', f = f' + 1 := ⟨f - 1, by omega⟩
    have n14 := h.2.1.2.2.2.2.2.2.2.2.1
    have rg := bstF_rng (pluV a) noS L0 0 12 hL k (fun i hi _ => pluV_b hw hT (by omega))
    have pb := pluV_b hw hT (k := k) (by omega)
    obtain ⟨S1, e1, M1, M0, R1⟩ := c1t (d := d + 5) h hw hF
    have hA := Cb_d2 (v := 0) (b := k) M1 hw (by omega)
    have wA := WF_d2 (v := 0) (k0 := k) hw (by omega) (by omega)
    obtain ⟨S2, e2, M2, F2⟩ := c142 (d := d) hA wA (m := 40) (by omega) (by omega)
    obtain ⟨p1, p2, p3⟩ := pasN_ok wA 40 (by omega)
    have R3 : RC S S2 := RC_trans R1 (RC_Fc (Fc_trans (Fc_set (Fc_refl 1 S1) _ _ _) F2) M2.1)
    obtain ⟨S4, e4, R4⟩ := ih (k + 1) f S2 (by omega) (by omega) (by rw [RC_0 R3]; exact h) M2.1
    refine ⟨S4, ?_, RC_trans R3 R4⟩
    rw [ze_121_34]
    rw [show ((40 : Nat) : Int) = 40 from rfl] at e2
    simp (maxSteps := 10000000) (disch := omega) only [n14, e1, c68d_3 M1.1 (b := k), e2, c14 M2 p1, zo_add, zo_sub, zo_mul, zo_neg, zo_lt, zo_le, zo_eq, zo_nn, zin_ok, zlt_eq, zr0, zr1, zr3, zr4, zr0x, zr1x, zr3x, zr4x, zb_and, zb_0, zmin_o, zmax_o, zabs_o, zo_div, zo_mod, ↓reduceIte, Int.reduceToNat, Int.reduceNeg, Int.reduceAdd, Int.reduceMul, Int.reduceSub, Int.reduceEq, Int.reduceLT, Int.reduceLE, if_true, if_false, Nat.reduceAdd, Nat.reduceMul]
    rw [if_neg (show ¬ a 7 ≤ (k : Int) by omega)]
    rw [bstF_succ, show noS k = false from rfl, if_neg (by decide)] at e4
    have eV := pluV_eq a k
    rw [eV] at e4 pb
    rw [show ((k + 1 : Nat) : Int) = (k : Int) + 1 from rfl] at e4
    simp (maxSteps := 10000000) (disch := omega) only [zo_add, zo_sub, zo_mul, zo_neg, zo_lt, zo_le, zo_eq, zo_nn, zin_ok, zlt_eq, zr0, zr1, zr3, zr4, zr0x, zr1x, zr3x, zr4x, zb_and, zb_0, zmin_o, zmax_o, zabs_o, zo_div, zo_mod, ↓reduceIte, Int.reduceToNat, Int.reduceNeg, Int.reduceAdd, Int.reduceMul, Int.reduceSub, Int.reduceEq, Int.reduceLT, Int.reduceLE, if_true, if_false, Nat.reduceAdd, Nat.reduceMul]
    generalize cnt (pasN 40 (up a (10 + 4 * k + 2) 0)) 0 = V at *
    by_cases c2 : (bstF (pluV a) noS L0 k).1 < V
    · rw [if_pos c2] at e4
      rw [if_neg (by omega)]; exact e4
    · rw [if_neg c2] at e4
      rw [if_pos (by omega)]; exact e4
theorem A121 (h : Cb (S.1 0 0) a) (hw : WF T a) (hT : T + 400 ≤ 1000000) (hF : CbF (S.1 0 1)) : CA (d + 8) 121 [za 1 0 0] S 0 (bstF (pluV a) noS (cnt (pasN 40 a) 0) (a 7).toNat).2 := by
  have hb2 := zF1_big
  have u7 := hw.1.2.2.2.2.2.2.2
  obtain ⟨S1, e1, M1, M0, R1⟩ := c1t (d := d + 5) h hw hF
  obtain ⟨S2, e2, M2, F2⟩ := c142 (d := d) M1 hw (m := 40) (by omega) (by omega)
  obtain ⟨p1, p2, p3⟩ := pasN_ok hw 40 (by omega)
  have cb := cnt_b p1 0
  have r14 := c14 (d := d + 5) M2 p1 (c := 0) (by omega) (by omega)
  generalize cnt (pasN 40 a) 0 = L0 at *
  obtain ⟨S3, e3, R3⟩ := c121_l (d := d) (L0 := L0) hw hT cb (a 7).toNat 0 zF1 S2 (by omega) (by omega) (by rw [Fc1_0 F2]; exact M0) M2.1
  refine ⟨S3, ?_, RC_trans R1 (RC_trans (RC_Fc F2 M2.1) R3)⟩
  rw [show ((40 : Nat) : Int) = 40 from rfl] at e2
  rw [ze_121, e1, zr0, e2, zr0, r14, zr1]
  exact e3
end CP

/-! THE PURE SIDE 39: tokens: what they are; class -/
def rnF (f : Nat → Bool) : Nat → Nat → Nat
  | 0, p => p
  | m + 1, p => if f p = true then rnF f m (p + 1) else p
def rn (f : Nat → Bool) (n p : Nat) : Nat := rnF f (n - p) p
def isB (tx : Nat → Int) (p : Nat) : Bool := decide (tx p = 32) || decide (tx p = 10)
def isL (tx : Nat → Int) (p : Nat) : Bool := decide (97 ≤ tx p ∧ tx p ≤ 122)
def isD (tx : Nat → Int) (p : Nat) : Bool := decide (48 ≤ tx p ∧ tx p ≤ 57)
def tkS (tx : Nat → Int) (n p : Nat) : Nat := rn (isB tx) n p
def tyA (tx : Nat → Int) (n s : Nat) : Int := if s < n then (if isL tx s = true then 1 else if isD tx s = true then 2 else 3) else 0
def enA (tx : Nat → Int) (n s : Nat) : Nat := if s < n then (if isL tx s = true then rn (isL tx) n s else if isD tx s = true then rn (isD tx) n s else s + 1) else s
def tkT (tx : Nat → Int) (n p : Nat) : Int := tyA tx n (tkS tx n p)
def tkE (tx : Nat → Int) (n p : Nat) : Nat := enA tx n (tkS tx n p)
def nvF (tx : Nat → Int) (s : Nat) : Nat → Int
  | 0 => 0
  | k + 1 => 10 * nvF tx s k + tx (s + k) - 48
def tkV (tx : Nat → Int) (n p : Nat) : Int := nvF tx (tkS tx n p) (tkE tx n p - tkS tx n p)
def clp (v : Int) : Int := if 1000000 < v then 1000000 else v
def eqT (tx : Nat → Int) (s t : Nat) : Nat → Nat → Bool
  | 0, _ => true
  | m + 1, l => decide (zo (tx (s + l)) = zo (txc t l)) && eqT tx s t m (l + 1)
/-- is the token at p this word? -/
def kwB (tx : Nat → Int) (n t p : Nat) : Bool := decide (tkT tx n p = 1) && (decide (tkE tx n p - tkS tx n p = txl t) && eqT tx (tkS tx n p) t (txl t) 0)
/-- .. this sign? -/
def chB (tx : Nat → Int) (n : Nat) (c : Int) (p : Nat) : Bool := decide (tkT tx n p = 3) && decide (tx (tkS tx n p) = c)
abbrev Et : Type := Except (Int × Int) Nat
def nxt (tx : Nat → Int) (n : Nat) : Et → Et
  | .ok p => .ok (tkE tx n p)
  | .error e => .error e
def ert (tx : Nat → Int) (n : Nat) (c : Int) : Et → Et
  | .ok p => .error (c, (tkS tx n p : Nat))
  | .error e => .error e
def isO : Et → Bool
  | .ok _ => true
  | .error _ => false
def kwO (tx : Nat → Int) (n t : Nat) : Et → Bool
  | .ok p => kwB tx n t p
  | .error _ => false
def chO (tx : Nat → Int) (n : Nat) (c : Int) : Et → Bool
  | .ok p => chB tx n c p
  | .error _ => false
/-- a number is read, not yet passed -/
def nuE (tx : Nat → Int) (n : Nat) (lo hi : Int) : Et → Et
  | .ok p => if tkT tx n p = 2 then (if lo ≤ tkV tx n p ∧ tkV tx n p ≤ hi then .ok p else .error (2, (tkS tx n p : Nat))) else .error (1, (tkS tx n p : Nat))
  | .error e => .error e
def nuV (tx : Nat → Int) (n : Nat) (lo hi : Int) : Et → Int
  | .ok p => if tkT tx n p = 2 ∧ lo ≤ tkV tx n p ∧ tkV tx n p ≤ hi then tkV tx n p else lo
  | .error _ => lo
/-- frames -/
def Fa (S S' : zS) : Prop := S'.2 = S.2 ∧ ∀ k m o j, ¬(k = 1 ∧ m = 0 ∧ o = 14 ∧ 3 ≤ j ∧ j ≤ 6) → S'.1 k m o j = S.1 k m o j
def Fk (S S' : zS) : Prop := S'.2 = S.2 ∧ ∀ k m o j, ¬(k = 1 ∧ m = 0 ∧ o = 14 ∧ 3 ≤ j) → S'.1 k m o j = S.1 k m o j
theorem Fa_refl (S : zS) : Fa S S := ⟨rfl, fun _ _ _ _ _ => rfl⟩
theorem Fa_set {S S' : zS} (h : Fa S S') (j : Nat) (v : Int32) (hj : 3 ≤ j ∧ j ≤ 6) : Fa S (zs_set S' 1 0 14 j v) := ⟨h.1, fun k m o i b => by rw [zs_oth (by omega)]; exact h.2 k m o i b⟩
theorem Fk_refl (S : zS) : Fk S S := ⟨rfl, fun _ _ _ _ _ => rfl⟩
theorem Fk_trans {S S1 S2 : zS} (h1 : Fk S S1) (h2 : Fk S1 S2) : Fk S S2 := ⟨h2.1.trans h1.1, fun k m o j a => (h2.2 k m o j a).trans (h1.2 k m o j a)⟩
theorem Fk_set {S S' : zS} (h : Fk S S') (j : Nat) (v : Int32) (hj : 3 ≤ j) : Fk S (zs_set S' 1 0 14 j v) := ⟨h.1, fun k m o i b => by rw [zs_oth (by omega)]; exact h.2 k m o i b⟩
theorem Fa_Fk {S S' : zS} (h : Fa S S') : Fk S S' := ⟨h.1, fun k m o j b => h.2 k m o j (by omega)⟩
theorem Fk_0 {S S' : zS} (h : Fk S S') (n : Nat) : S'.1 0 n = S.1 0 n := by funext o j; exact h.2 0 n o j (by omega)
def TxC (S : zS) (tx : Nat → Int) (n : Nat) : Prop := (S.1 1 0 14 2 = zo n ∧ n ≤ 700) ∧ (∀ i, i < n → S.1 1 0 16 i = zo (tx i) ∧ 0 ≤ tx i ∧ tx i ≤ 255)
def TkC (S : zS) (tx : Nat → Int) (n p : Nat) : Prop := p ≤ n ∧ S.1 1 0 14 3 = zo (tkS tx n p : Nat) ∧ S.1 1 0 14 4 = zo (tkE tx n p : Nat) ∧ S.1 1 0 14 5 = zo (tkT tx n p) ∧ (tkT tx n p = 2 → S.1 1 0 14 6 = zo (clp (tkV tx n p))) ∧ (tkT tx n p = 3 → S.1 1 0 14 6 = zo (tx (tkS tx n p)))
def erC (S : zS) : Et → Nat → Prop
  | .ok q, p => q = p ∧ S.1 1 0 14 7 = zo 0 ∧ S.1 1 0 14 8 = zo (-1)
  | .error e, _ => S.1 1 0 14 7 = zo e.1 ∧ (1 ≤ e.1 ∧ e.1 ≤ 9) ∧ S.1 1 0 14 8 = zo e.2
def RkC (S : zS) (tx : Nat → Int) (n : Nat) (st : Et) : Prop := TxC S tx n ∧ ∃ p, TkC S tx n p ∧ erC S st p
section DC
variable {S : zS} {d n p t l s e : Nat} {tx : Nat → Int} {f : Nat → Bool} {x y z lo hi c v : Int} {st : Et}
theorem rn_s (h : p < n) (hf : f p = true) : rn f n p = rn f n (p + 1) := by
  unfold rn
  rw [show n - p = (n - (p + 1)) + 1 by omega]
  show (if f p = true then _ else _) = _
  rw [if_pos hf]
theorem rn_e (h : p < n → f p = false) : rn f n p = p := by
  unfold rn
  cases e : n - p with
  | zero => rfl
  | succ m =>
    show (if f p = true then _ else _) = _
    rw [if_neg (by rw [h (by omega)]; decide)]
theorem rnF_b : ∀ m p : Nat, p ≤ rnF f m p ∧ rnF f m p ≤ p + m := by
  intro m
  induction m with
  | zero => intro p; exact ⟨Nat.le_refl _, Nat.le_refl _⟩
  | succ m ih =>
    intro p
    have := ih (p + 1)
    unfold rnF
    split <;> omega
theorem rn_b (h : p ≤ n) : p ≤ rn f n p ∧ rn f n p ≤ n := by
  have := rnF_b (f := f) (n - p) p
  unfold rn; omega
theorem tkS_b (h : p ≤ n) : p ≤ tkS tx n p ∧ tkS tx n p ≤ n := rn_b h
theorem enA_b (h : s ≤ n) : s ≤ enA tx n s ∧ enA tx n s ≤ n ∧ (s < n → s < enA tx n s) := by
  unfold enA
  by_cases c : s < n
  · rw [if_pos c]
    by_cases c1 : isL tx s = true
    · rw [if_pos c1, rn_s c c1]; have := rn_b (f := isL tx) (show s + 1 ≤ n by omega); omega
    · rw [if_neg c1]
      by_cases c2 : isD tx s = true
      · rw [if_pos c2, rn_s c c2]; have := rn_b (f := isD tx) (show s + 1 ≤ n by omega); omega
      · rw [if_neg c2]; omega
  · rw [if_neg c]; omega
theorem tkE_b (h : p ≤ n) : tkS tx n p ≤ tkE tx n p ∧ tkE tx n p ≤ n ∧ p ≤ tkE tx n p ∧ (tkT tx n p ≠ 0 → p < tkE tx n p) := by
  have h1 := tkS_b (tx := tx) h
  have h2 := enA_b (tx := tx) h1.2
  unfold tkE
  refine ⟨h2.1, h2.2.1, by omega, fun z => ?_⟩
  unfold tkT tyA at z
  by_cases c : tkS tx n p < n
  · have := h2.2.2 c; omega
  · rw [if_neg c] at z; exact absurd rfl z
theorem tkT_b : 0 ≤ tkT tx n p ∧ tkT tx n p ≤ 3 := by
  unfold tkT tyA
  split
  · split
    · omega
    · split <;> omega
  · omega
theorem nvF_s (k : Nat) : nvF tx s (k + 1) = 10 * nvF tx s k + tx (s + k) - 48 := rfl
theorem clp_b (h : 0 ≤ v) : 0 ≤ clp v ∧ clp v ≤ 1000000 := by unfold clp; split <;> omega
theorem clp_in (h0 : 0 ≤ v) (h : hi < 1000000) : (lo ≤ clp v ∧ clp v ≤ hi) ↔ (lo ≤ v ∧ v ≤ hi) := by unfold clp; split <;> omega
theorem clp_e (h : v ≤ 1000000) : clp v = v := if_neg (by omega)
theorem TxC_k {S' : zS} (h : TxC S tx n) (hF : Fk S S') : TxC S' tx n := ⟨⟨by rw [hF.2 _ _ _ _ (by omega)]; exact h.1.1, h.1.2⟩, fun i hi => by rw [hF.2 _ _ _ _ (by omega)]; exact h.2 i hi⟩
theorem c63b (h : TxC S tx n) {i : Nat} (hi : i < n) : zr_sem zF (d + 1) 63 [za 1 0 15, zi (zo i)] S = some (.inl (some (zi (zo (tx i)))), S) := by
  have hn := h.1.2
  rw [ze_63b]
  simp (maxSteps := 10000000) (disch := omega) only [Int.toNat_natCast, (h.2 i hi).1, zo_add, zo_sub, zo_mul, zo_neg, zo_lt, zo_le, zo_eq, zo_nn, zin_ok, zlt_eq, zr0, zr1, zr3, zr4, zr0x, zr1x, zr3x, zr4x, zb_and, zb_0, zmin_o, zmax_o, zabs_o, zo_div, zo_mod, ↓reduceIte, Int.reduceToNat, Int.reduceNeg, Int.reduceAdd, Int.reduceMul, Int.reduceSub, Int.reduceEq, Int.reduceLT, Int.reduceLE, if_true, if_false, Nat.reduceAdd, Nat.reduceMul]
  rw [if_neg (by omega), if_neg (by omega)]
theorem c73 (g1 : -2147483648 ≤ x) (g2 : x < 2147483648) (g3 : -2147483648 ≤ y) (g4 : y < 2147483648) (g5 : -2147483648 ≤ z) (g6 : z < 2147483648) : zr_sem zF (d + 1) 73 [zi (zo x), zi (zo y), zi (zo z)] S = some (.inl (some (zi (zo (bI (decide (y ≤ x ∧ x ≤ z)))))), S) := by
  rw [ze_73]
  simp (maxSteps := 10000000) (disch := omega) only [zo_add, zo_sub, zo_mul, zo_neg, zo_lt, zo_le, zo_eq, zo_nn, zin_ok, zlt_eq, zr0, zr1, zr3, zr4, zr0x, zr1x, zr3x, zr4x, zb_and, zb_0, zmin_o, zmax_o, zabs_o, zo_div, zo_mod, ↓reduceIte, Int.reduceToNat, Int.reduceNeg, Int.reduceAdd, Int.reduceMul, Int.reduceSub, Int.reduceEq, Int.reduceLT, Int.reduceLE, if_true, if_false, Nat.reduceAdd, Nat.reduceMul]
  by_cases c : x < y
  · rw [if_pos c, decide_eq_false (by omega)]; rfl
  · rw [if_neg c]
    by_cases c2 : z < x
    · rw [if_pos c2, decide_eq_false (by omega)]; rfl
    · rw [if_neg c2, decide_eq_true (by omega)]; rfl
theorem c72_l (hn : n ≤ 700) : ∀ (m l f : Nat) (S : zS), l + m = n → m < f → TxC S tx n → ∃ S', zy zF (d + 1) 72 f 89 [some (za 1 0 14), some (zi (zo l))] S = some (.inl none, S') ∧ S'.1 1 0 14 4 = zo (rn (isL tx) n l : Nat) ∧ S'.2 = S.2 ∧ ∀ k m o j, ¬(k = 1 ∧ m = 0 ∧ o = 14 ∧ j = 4) → S'.1 k m o j = S.1 k m o j := by
  intro m
  induction m with
  | zero =>
    intro l f S hl hf h
    obtain ⟨f, rfl⟩ : ∃ f', f = f' + 1 := ⟨f - 1, by omega⟩
    refine ⟨zs_set S 1 0 14 4 (zo l), ?_, by rw [zs_self, rn_e (by omega)], rfl, fun k m o j b => zs_oth b⟩
    rw [ze_72_89, h.1.1, if_pos (show zo (n : Int) ≤ zo (l : Int) by rw [zo_le (by omega) (by omega) (by omega) (by omega)]; omega)]
  | succ m ih =>
    intro l f S hl hf h
    obtain ⟨f, rfl⟩ : ∃ f', f = f' + 1 := ⟨f - 1, by omega⟩
    have bt := (h.2 l (by omega)).2
    rw [ze_72_89, h.1.1, if_neg (show ¬ zo (n : Int) ≤ zo (l : Int) by rw [zo_le (by omega) (by omega) (by omega) (by omega)]; omega), c63b h (by omega), zr1, c73 (by omega) (by omega) (by omega) (by omega) (by omega) (by omega), zr1]
    by_cases c : isL tx l = true
    · obtain ⟨S2, q1, q2, q3, q4⟩ := ih (l + 1) f S (by omega) (by omega) h
      refine ⟨S2, ?_, by rw [rn_s (by omega) c]; exact q2, q3, q4⟩
      unfold isL at c
      rw [c, if_neg (by decide), zo_add]
      exact q1
    · refine ⟨zs_set S 1 0 14 4 (zo l), ?_, by rw [zs_self, rn_e (fun _ => Bool.eq_false_iff.2 c)], rfl, fun k m o j b => zs_oth b⟩
      unfold isL at c
      rw [Bool.eq_false_iff.2 c, if_pos (by rfl)]
theorem c72_d (hn : n ≤ 700) : ∀ (m l f : Nat) (S : zS), l + m = n → m < f → TxC S tx n → s ≤ l → 0 ≤ nvF tx s (l - s) → S.1 1 0 14 6 = zo (clp (nvF tx s (l - s))) → ∃ S', zy zF (d + 1) 72 f 149 [some (za 1 0 14), some (zi (zo l))] S = some (.inl none, S') ∧ S'.1 1 0 14 4 = zo (rn (isD tx) n l : Nat) ∧ S'.1 1 0 14 6 = zo (clp (nvF tx s (rn (isD tx) n l - s))) ∧ S'.2 = S.2 ∧ ∀ k m o j, ¬(k = 1 ∧ m = 0 ∧ o = 14 ∧ (j = 4 ∨ j = 6)) → S'.1 k m o j = S.1 k m o j := by
  intro m
  induction m with
  | zero =>
    intro l f S hl hf h hs hv h6
    obtain ⟨f, rfl⟩ : ∃ f', f = f' + 1 := ⟨f - 1, by omega⟩
    have er : rn (isD tx) n l = l := rn_e (by omega)
    refine ⟨zs_set S 1 0 14 4 (zo l), ?_, by rw [zs_self, er], by rw [zs_oth (by omega), er]; exact h6, rfl, fun k m o j b => zs_oth (by omega)⟩
    rw [ze_72_149, h.1.1, if_pos (show zo (n : Int) ≤ zo (l : Int) by rw [zo_le (by omega) (by omega) (by omega) (by omega)]; omega)]
  | succ m ih =>
    intro l f S hl hf h hs hv h6
    obtain ⟨f, rfl⟩ : ∃ f', f = f' + 1 := ⟨f - 1, by omega⟩
    have bt := (h.2 l (by omega)).2
    have cb := clp_b hv
    rw [ze_72_149, h.1.1, if_neg (show ¬ zo (n : Int) ≤ zo (l : Int) by rw [zo_le (by omega) (by omega) (by omega) (by omega)]; omega), c63b h (by omega), zr1, c73 (by omega) (by omega) (by omega) (by omega) (by omega) (by omega), zr1]
    by_cases c : isD tx l = true
    · have c' := of_decide_eq_true c
      have es : nvF tx s (l + 1 - s) = 10 * nvF tx s (l - s) + tx l - 48 := by rw [show l + 1 - s = (l - s) + 1 by omega, nvF_s, show s + (l - s) = l by omega]
      have ec : (if (1000000 : Int) < 10 * clp (nvF tx s (l - s)) + tx l - 48 then 1000000 else 10 * clp (nvF tx s (l - s)) + tx l - 48) = clp (nvF tx s (l + 1 - s)) := by
        rw [es]; unfold clp; split <;> (try split) <;> (try split) <;> omega
      have F : ∀ w : Int32, Fk S (zs_set S 1 0 14 6 w) := fun w => Fk_set (Fk_refl S) 6 w (by omega)
      obtain ⟨S2, q1, q2, q3, q4, q5⟩ := ih (l + 1) f (zs_set S 1 0 14 6 (zo (clp (nvF tx s (l + 1 - s))))) (by omega) (by omega) (TxC_k h (F _)) (by omega) (by omega) zs_self
      refine ⟨S2, ?_, by rw [rn_s (by omega) c]; exact q2, by rw [rn_s (by omega) c]; exact q3, q4, fun k m o j b => by rw [q5 k m o j (by omega), zs_oth (by omega)]⟩
      unfold isD at c
      rw [c, if_neg (by decide), c63b h (by omega), zr1, h6, zo_mul, zo_add, zo_add, zo_sub, zmin_o (by omega) (by omega) (by omega) (by omega), ec]
      exact q1
    · have er : rn (isD tx) n l = l := rn_e (fun _ => Bool.eq_false_iff.2 c)
      refine ⟨zs_set S 1 0 14 4 (zo l), ?_, by rw [zs_self, er], by rw [zs_oth (by omega), er]; exact h6, rfl, fun k m o j b => zs_oth (by omega)⟩
      unfold isD at c
      rw [Bool.eq_false_iff.2 c, if_pos (by rfl)]
end DC

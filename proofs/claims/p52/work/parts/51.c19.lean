/-! THE PURE SIDE 19: questions: what both answer -/
def zans (t : Nat) (v : Int) : Option zV ⊕ Nat := if t = 0 then .inl (some (zi (zo v))) else .inr t
/-- what the class's questions may change; what the model's may -/
def RC (S S' : zS) : Prop := (∀ k n o j, ¬(k = 0 ∧ n = 1) → ¬(k = 1 ∧ n = 0 ∧ ((o = 4 ∧ j ≠ 0) ∨ o = 6 ∨ o = 8 ∨ o = 11 ∨ o = 13)) → S'.1 k n o j = S.1 k n o j) ∧ (CbF (S.1 0 1) → CbF (S'.1 0 1))
theorem RC_refl (S : zS) : RC S S := ⟨fun _ _ _ _ _ _ => rfl, id⟩
theorem RC_n (S : zS) : RC S (zsn S) := ⟨fun _ _ _ _ _ _ => rfl, id⟩
def CA (d mi : Nat) (av : List zV) (S : zS) (t : Nat) (v : Int) : Prop := ∃ S', zr_sem zF d mi av S = some (zans t v, S') ∧ RC S S'
theorem CA_v {d mi : Nat} {av : List zV} {S : zS} {v : Int} (h : zr_sem zF d mi av S = some (.inl (some (zi (zo v))), S)) : CA d mi av S 0 v := ⟨S, h, RC_refl S⟩
theorem CA_x {d mi : Nat} {av : List zV} {S : zS} {t : Nat} {v : Int} (h : zr_sem zF d mi av S = some (.inr (t + 1), zsn S)) : CA d mi av S (t + 1) v := ⟨zsn S, h, RC_n S⟩
abbrev vB (a : Rw) (p : Int) : Prop := 0 ≤ p ∧ p < a 9
abbrev vD (a : Rw) (p : Int) : Prop := 0 ≤ p ∧ p < a 7
abbrev vT (a : Rw) (p : Int) : Prop := 0 ≤ p ∧ p < a 8
abbrev vC (a : Rw) (x y : Int) : Prop := (0 ≤ x ∧ x < a 0) ∧ (0 ≤ y ∧ y < a 1)
def bnum (a : Rw) (b w : Nat) : Int := if w = 0 then a (40 + 10 * b) % a 0 else if w = 1 then a (40 + 10 * b) / a 0 else a (40 + 10 * b + (w - 1))
def dnum (a : Rw) (k w : Nat) : Int := if w = 0 then a (10 + 4 * k) % a 0 else if w = 1 then a (10 + 4 * k) / a 0 else if w = 4 then bI (wks a k) else if w = 5 then a (10 + 4 * k + 3) else a (10 + 4 * k + (w - 1))
def tnum (a : Rw) (k w : Nat) : Int := if w = 0 then a (30 + 2 * k) % a 0 else if w = 1 then a (30 + 2 * k) / a 0 else a (30 + 2 * k + 1)
def sizV (a : Rw) (w : Int) : Int := if w = 0 then a 0 else if w = 1 then a 1 else if w = 2 then a 7 else if w = 3 then a 8 else if w = 4 then a 9 else if w = 5 then cnt a 0 else if w = 6 then cnt a 1 else if w = 7 then cnt a 2 else if w = 8 then a 6 else if w = 9 then a 2 else if w = 10 then a 3 else if w = 11 then wkn a else if w = 12 then spm a else if w = 13 then a 4 else a 5
section CK
variable {S : zS} {n d : Nat} {a : Rw} {T p r : Int}
theorem c138 (h : Cb (S.1 0 0) a) (hw : WF T a) (g1 : -2147483648 ≤ p) (g2 : p < 2147483648) : zr_sem zF (d + 1) 138 [za 1 0 0, zi (zo p)] S = if vB a p then some (.inl none, S) else some (.inr 1, zsn S) := by
  rw [ze_138]
  have hC := h; obtain ⟨⟨f1, f2, f3, f4, f5, f6⟩, ⟨n6, n7, n8, n9, n10, n11, n12, n13, n14, n15⟩, hD, hT, hB, hS, hOc, hE⟩ := hC
  have hwO := hw; obtain ⟨⟨⟨u0, u0x⟩, ⟨u1, u1x⟩, ⟨u2, u2x⟩, ⟨u3, u3x⟩, ⟨u4, u4x⟩, ⟨u5, u5x⟩, ⟨u6, u6x, uT⟩, ⟨u7, u7x⟩, ⟨u8, u8x⟩, ⟨u9, u9x⟩⟩, uD, uP, uB, uS, uI⟩ := hwO
  simp (maxSteps := 10000000) (disch := omega) only [n13, zo_add, zo_sub, zo_mul, zo_neg, zo_lt, zo_le, zo_eq, zo_nn, zin_ok, zlt_eq, zr0, zr1, zr3, zr4, zr0x, zr1x, zr3x, zr4x, zb_and, zb_0, zmin_o, zmax_o, zabs_o, zo_div, zo_mod, ↓reduceIte, Int.reduceToNat, Int.reduceNeg, Int.reduceAdd, Int.reduceMul, Int.reduceSub, Int.reduceEq, Int.reduceLT, Int.reduceLE, if_true, if_false, Nat.reduceAdd, Nat.reduceMul]
  by_cases c : p < 0
  · rw [if_pos c, if_neg (by omega)]
  · rw [if_neg c]
    by_cases c2 : p < a 9
    · rw [if_pos c2, if_pos (by omega)]
    · rw [if_neg c2, if_neg (by omega)]
theorem c139 (h : Cb (S.1 0 0) a) (hw : WF T a) (g1 : -2147483648 ≤ p) (g2 : p < 2147483648) (g3 : -2147483648 ≤ r) (g4 : r < 2147483648) : zr_sem zF (d + 2) 139 [za 1 0 0, zi (zo p), zi (zo r)] S = if vC a p r then some (.inl none, S) else some (.inr 1, zsn S) := by
  rw [ze_139]
  have uN := WF_nc hw
  have rg := cAt_rng a p r
  have u0 := hw.1.1
  simp (maxSteps := 10000000) (disch := omega) only [c3 h hw, zo_add, zo_sub, zo_mul, zo_neg, zo_lt, zo_le, zo_eq, zo_nn, zin_ok, zlt_eq, zr0, zr1, zr3, zr4, zr0x, zr1x, zr3x, zr4x, zb_and, zb_0, zmin_o, zmax_o, zabs_o, zo_div, zo_mod, ↓reduceIte, Int.reduceToNat, Int.reduceNeg, Int.reduceAdd, Int.reduceMul, Int.reduceSub, Int.reduceEq, Int.reduceLT, Int.reduceLE, if_true, if_false, Nat.reduceAdd, Nat.reduceMul]
  have e := cAt_m1 a p r (by omega)
  by_cases c : vC a p r
  · rw [if_pos c, if_neg (fun z => (e.mp z) c)]
  · rw [if_neg c, if_pos (e.mpr c)]
theorem c140 {m : Int} (g1 : -2147483648 ≤ p) (g2 : p < 2147483648) (g3 : -2147483648 ≤ m) (g4 : m < 2147483648) : zr_sem zF (d + 1) 140 [zi (zo p), zi (zo m)] S = if 0 ≤ p ∧ p < m then some (.inl none, S) else some (.inr 1, zsn S) := by
  rw [ze_140]
  simp (maxSteps := 10000000) (disch := omega) only [zo_add, zo_sub, zo_mul, zo_neg, zo_lt, zo_le, zo_eq, zo_nn, zin_ok, zlt_eq, zr0, zr1, zr3, zr4, zr0x, zr1x, zr3x, zr4x, zb_and, zb_0, zmin_o, zmax_o, zabs_o, zo_div, zo_mod, ↓reduceIte, Int.reduceToNat, Int.reduceNeg, Int.reduceAdd, Int.reduceMul, Int.reduceSub, Int.reduceEq, Int.reduceLT, Int.reduceLE, if_true, if_false, Nat.reduceAdd, Nat.reduceMul]
  by_cases c : p < 0
  · rw [if_pos c, if_neg (by omega)]
  · rw [if_neg c]
    by_cases c2 : p < m
    · rw [if_pos c2, if_pos (by omega)]
    · rw [if_neg c2, if_neg (by omega)]
theorem c141 {l m : Int} (g1 : -2147483648 ≤ p) (g2 : p < 2147483648) (g3 : -2147483648 ≤ m) (g4 : m < 2147483648) (g5 : -2147483648 ≤ l) (g6 : l < 2147483648) : zr_sem zF (d + 1) 141 [zi (zo p), zi (zo l), zi (zo m)] S = if l ≤ p ∧ p ≤ m then some (.inl none, S) else some (.inr 2, zsn S) := by
  rw [ze_141]
  simp (maxSteps := 10000000) (disch := omega) only [zo_add, zo_sub, zo_mul, zo_neg, zo_lt, zo_le, zo_eq, zo_nn, zin_ok, zlt_eq, zr0, zr1, zr3, zr4, zr0x, zr1x, zr3x, zr4x, zb_and, zb_0, zmin_o, zmax_o, zabs_o, zo_div, zo_mod, ↓reduceIte, Int.reduceToNat, Int.reduceNeg, Int.reduceAdd, Int.reduceMul, Int.reduceSub, Int.reduceEq, Int.reduceLT, Int.reduceLE, if_true, if_false, Nat.reduceAdd, Nat.reduceMul]
  by_cases c : p < l
  · rw [if_pos c, if_neg (by omega)]
  · rw [if_neg c]
    by_cases c2 : p ≤ m
    · rw [if_pos c2, if_pos (by omega)]
    · rw [if_neg c2, if_neg (by omega)]
theorem c67w (h : Cb (S.1 0 n) a) (hw : WF T a) {b w : Nat} (hb : (b : Int) < a 9) (hw2 : w ≤ 10) : zr_sem zF (d + 1) 67 [za 0 n 1, zi (zo b), zi (zo w)] S = some (.inl (some (zi (zo (bnum a b w)))), S) := by
  have : w = 0 ∨ w = 1 ∨ w = 2 ∨ w = 3 ∨ w = 4 ∨ w = 5 ∨ w = 6 ∨ w = 7 ∨ w = 8 ∨ w = 9 ∨ w = 10 := by omega
  rcases this with e | e | e | e | e | e | e | e | e | e | e <;> subst e
  · exact c67b_0 h hw hb
  · exact c67b_1 h hw hb
  · exact c67b_2 h hw hb
  · exact c67b_3 h hw hb
  · exact c67b_4 h hw hb
  · exact c67b_5 h hw hb
  · exact c67b_6 h hw hb
  · exact c67b_7 h hw hb
  · exact c67b_8 h hw hb
  · exact c67b_9 h hw hb
  · exact c67b_10 h hw hb
theorem A94 (h : Cb (S.1 0 0) a) (hw : WF T a) (g1 : -2147483648 ≤ p) (g2 : p < 2147483648) (g3 : -2147483648 ≤ r) (g4 : r < 2147483648) : CA (d + 2) 94 [za 1 0 0, zi (zo p), zi (zo r)] S (if vB a p ∧ (0 ≤ r ∧ r ≤ 10) then 0 else 1) (bnum a p.toNat r.toNat) := by
  have u9 := hw.1.2.2.2.2.2.2.2.2.2
  by_cases c : vB a p
  · by_cases c2 : 0 ≤ r ∧ r ≤ 10
    · obtain ⟨b, rfl⟩ : ∃ b : Nat, p = b := ⟨p.toNat, by omega⟩
      obtain ⟨w, rfl⟩ : ∃ w : Nat, r = w := ⟨r.toNat, by omega⟩
      rw [if_pos ⟨c, c2⟩, Int.toNat_natCast, Int.toNat_natCast]
      refine CA_v ?_
      rw [ze_94]
      simp (maxSteps := 10000000) (disch := omega) only [c138 h hw, c140, c67w h hw, zo_add, zo_sub, zo_mul, zo_neg, zo_lt, zo_le, zo_eq, zo_nn, zin_ok, zlt_eq, zr0, zr1, zr3, zr4, zr0x, zr1x, zr3x, zr4x, zb_and, zb_0, zmin_o, zmax_o, zabs_o, zo_div, zo_mod, ↓reduceIte, Int.reduceToNat, Int.reduceNeg, Int.reduceAdd, Int.reduceMul, Int.reduceSub, Int.reduceEq, Int.reduceLT, Int.reduceLE, if_true, if_false, Nat.reduceAdd, Nat.reduceMul]
      rw [if_pos c, zr0, if_pos (by omega), zr0, c67w h hw c.2 (by omega), zr1]
    · rw [if_neg (fun z => c2 z.2)]
      refine CA_x (t := 0) ?_
      rw [ze_94]
      simp (maxSteps := 10000000) (disch := omega) only [c138 h hw, c140, zo_add, zo_sub, zo_mul, zo_neg, zo_lt, zo_le, zo_eq, zo_nn, zin_ok, zlt_eq, zr0, zr1, zr3, zr4, zr0x, zr1x, zr3x, zr4x, zb_and, zb_0, zmin_o, zmax_o, zabs_o, zo_div, zo_mod, ↓reduceIte, Int.reduceToNat, Int.reduceNeg, Int.reduceAdd, Int.reduceMul, Int.reduceSub, Int.reduceEq, Int.reduceLT, Int.reduceLE, if_true, if_false, Nat.reduceAdd, Nat.reduceMul]
      rw [if_pos c, zr0, if_neg (by omega)]; rfl
  · rw [if_neg (fun z => c z.1)]
    refine CA_x (t := 0) ?_
    rw [ze_94]
    simp (maxSteps := 10000000) (disch := omega) only [c138 h hw, zo_add, zo_sub, zo_mul, zo_neg, zo_lt, zo_le, zo_eq, zo_nn, zin_ok, zlt_eq, zr0, zr1, zr3, zr4, zr0x, zr1x, zr3x, zr4x, zb_and, zb_0, zmin_o, zmax_o, zabs_o, zo_div, zo_mod, ↓reduceIte, Int.reduceToNat, Int.reduceNeg, Int.reduceAdd, Int.reduceMul, Int.reduceSub, Int.reduceEq, Int.reduceLT, Int.reduceLE, if_true, if_false, Nat.reduceAdd, Nat.reduceMul]
    rw [if_neg c]; rfl
end CK

/-! THE PURE SIDE 19: questions: what both answer -/
def zans (t : Nat) (v : Int) : Option zV ⊕ Nat := if t = 0 then .inl (some (zi (zo v))) else .inr t
/-- what the class's questions may change; what the model's may -/
def RC (S S' : zS) : Prop := (∀ k n o j, ¬(k = 0 ∧ n = 1) → ¬(k = 1 ∧ n = 0 ∧ ((o = 4 ∧ j ≠ 0) ∨ o = 6 ∨ o = 8 ∨ o = 11 ∨ o = 13)) → S'.1 k n o j = S.1 k n o j) ∧ (CbF (S.1 0 1) → CbF (S'.1 0 1))
def RM (S S' : zS) : Prop := S'.2 = S.2 ∧ ∀ k n o j, ¬(k = 2 ∧ n = 2) → ¬(k = 3 ∧ n = 0 ∧ (o = 2 ∨ o = 3 ∨ o = 4 ∨ (o = 0 ∧ j = 10))) → S'.1 k n o j = S.1 k n o j
theorem RC_refl (S : zS) : RC S S := ⟨fun _ _ _ _ _ _ => rfl, id⟩
theorem RC_n (S : zS) : RC S (zsn S) := ⟨fun _ _ _ _ _ _ => rfl, id⟩
theorem RC_trans {S S1 S2 : zS} (h1 : RC S S1) (h2 : RC S1 S2) : RC S S2 := ⟨fun k n o j a b => (h2.1 k n o j a b).trans (h1.1 k n o j a b), fun h => h2.2 (h1.2 h)⟩
theorem RC_fl (S : zS) (u v : UInt32) : RC S (zfl S u v) := ⟨fun k n o j a b => (Fc_fl (Fc_refl 1 S) u v).2 k n o j a b, id⟩
theorem RC_Fc {S S' : zS} (h : Fc 1 S S') (hF : CbF (S'.1 0 1)) : RC S S' := ⟨fun k n o j a b => h.2 k n o j a b, fun _ => hF⟩
theorem RM_refl (S : zS) : RM S S := ⟨rfl, fun _ _ _ _ _ _ => rfl⟩
theorem RM_trans {S S1 S2 : zS} (h1 : RM S S1) (h2 : RM S1 S2) : RM S S2 := ⟨h2.1.trans h1.1, fun k n o j a b => (h2.2 k n o j a b).trans (h1.2 k n o j a b)⟩
def mt (S : zS) (t : Int) : zS := zs_set S 3 0 0 10 (zo t)
theorem RM_mt (S : zS) (t : Int) : RM S (mt S t) := ⟨rfl, fun k n o j a b => zs_oth (by omega)⟩
theorem mt_mt (S : zS) (t u : Int) : mt (mt S t) u = mt S u := by
  refine Prod.ext ?_ rfl
  funext k n o j
  unfold mt
  simp only [zs_at]
  split <;> rfl
theorem Md_mt {S : zS} {q : Nat} {a : Rw} (h : Md S q a) (t : Int) : Md (mt S t) q a := by
  refine ⟨?_, h.2.1, fun j hj => ?_⟩
  · unfold mt; rw [zs_oth (by omega)]; exact h.1
  · unfold mt; rw [zs_oth (by omega)]; exact h.2.2 j hj
theorem mt_10 (S : zS) (t : Int) : (mt S t).1 3 0 0 10 = zo t := zs_self
def CA (d mi : Nat) (av : List zV) (S : zS) (t : Nat) (v : Int) : Prop := ∃ S', zr_sem zF d mi av S = some (zans t v, S') ∧ RC S S'
def MA (d mi : Nat) (av : List zV) (S : zS) (t : Nat) (v : Int) : Prop := ∃ S' w, zr_sem zF d mi av S = some (.inl (some (zi (zo w))), S') ∧ S'.1 3 0 0 10 = zo t ∧ (t = 0 → w = v) ∧ RM S S'
theorem CA_v {d mi : Nat} {av : List zV} {S : zS} {v : Int} (h : zr_sem zF d mi av S = some (.inl (some (zi (zo v))), S)) : CA d mi av S 0 v := ⟨S, h, RC_refl S⟩
theorem CA_x {d mi : Nat} {av : List zV} {S : zS} {t : Nat} {v : Int} (h : zr_sem zF d mi av S = some (.inr (t + 1), zsn S)) : CA d mi av S (t + 1) v := ⟨zsn S, h, RC_n S⟩
theorem MA_v {d mi : Nat} {av : List zV} {S : zS} {v : Int} (h : zr_sem zF d mi av S = some (.inl (some (zi (zo v))), mt S 0)) : MA d mi av S 0 v := ⟨mt S 0, v, h, mt_10 S 0, fun _ => rfl, RM_mt S 0⟩
theorem MA_x {d mi : Nat} {av : List zV} {S : zS} {t : Nat} {v w : Int} (h : zr_sem zF d mi av S = some (.inl (some (zi (zo w))), mt S ((t + 1 : Nat) : Int))) : MA d mi av S (t + 1) v := ⟨mt S ((t + 1 : Nat) : Int), w, h, mt_10 S _, fun e => by omega, RM_mt S _⟩
abbrev vB (a : Rw) (p : Int) : Prop := 0 ≤ p ∧ p < a 9
abbrev vD (a : Rw) (p : Int) : Prop := 0 ≤ p ∧ p < a 7
abbrev vT (a : Rw) (p : Int) : Prop := 0 ≤ p ∧ p < a 8
abbrev vC (a : Rw) (x y : Int) : Prop := (0 ≤ x ∧ x < a 0) ∧ (0 ≤ y ∧ y < a 1)
def bnum (a : Rw) (b w : Nat) : Int := if w = 0 then a (40 + 10 * b) % a 0 else if w = 1 then a (40 + 10 * b) / a 0 else a (40 + 10 * b + (w - 1))
def dnum (a : Rw) (k w : Nat) : Int := if w = 0 then a (10 + 4 * k) % a 0 else if w = 1 then a (10 + 4 * k) / a 0 else if w = 4 then bI (wks a k) else if w = 5 then a (10 + 4 * k + 3) else a (10 + 4 * k + (w - 1))
def tnum (a : Rw) (k w : Nat) : Int := if w = 0 then a (30 + 2 * k) % a 0 else if w = 1 then a (30 + 2 * k) / a 0 else a (30 + 2 * k + 1)
def sizV (a : Rw) (w : Int) : Int := if w = 0 then a 0 else if w = 1 then a 1 else if w = 2 then a 7 else if w = 3 then a 8 else if w = 4 then a 9 else if w = 5 then cnt a 0 else if w = 6 then cnt a 1 else if w = 7 then cnt a 2 else if w = 8 then a 6 else if w = 9 then a 2 else if w = 10 then a 3 else if w = 11 then wkn a else if w = 12 then spm a else if w = 13 then a 4 else a 5
section CK
variable {S : zS} {n d : Nat} {a : Rw} {T p r : Int}
theorem c138 (h : Cb (S.1 0 0) a) (hw : WF T a) (g1 : -2147483648 ≤ p) (g2 : p < 2147483648) : zr_sem zF (d + 1) 138 [za 1 0 0, zi (zo p)] S = if vB a p then some (.inl none, S) else some (.inr 1, zsn S) := by
  rw [ze_138]
  have hC := h; obtain ⟨⟨f1, f2, f3, f4, f5, f6⟩, ⟨n6, n7, n8, n9, n10, n11, n12, n13, n14, n15⟩, hD, hT, hB, hS, hOc, hE⟩ := hC
  have hwO := hw; obtain ⟨⟨⟨u0, u0x⟩, ⟨u1, u1x⟩, ⟨u2, u2x⟩, ⟨u3, u3x⟩, ⟨u4, u4x⟩, ⟨u5, u5x⟩, ⟨u6, u6x, uT⟩, ⟨u7, u7x⟩, ⟨u8, u8x⟩, ⟨u9, u9x⟩⟩, uD, uP, uB, uS, uI⟩ := hwO
  simp (maxSteps := 10000000) (disch := omega) only [n13, zo_add, zo_sub, zo_mul, zo_neg, zo_lt, zo_le, zo_eq, zo_nn, zin_ok, zlt_eq, zr0, zr1, zr3, zr4, zr0x, zr1x, zr3x, zr4x, zb_and, zb_0, zmin_o, zmax_o, zabs_o, zo_div, zo_mod, ↓reduceIte, Int.reduceToNat, Int.reduceNeg, Int.reduceAdd, Int.reduceMul, Int.reduceSub, Int.reduceEq, Int.reduceLT, Int.reduceLE, if_true, if_false, Nat.reduceAdd, Nat.reduceMul]
  by_cases c : p < 0
  · rw [if_pos c, if_neg (by omega)]
  · rw [if_neg c]
    by_cases c2 : p < a 9
    · rw [if_pos c2, if_pos (by omega)]
    · rw [if_neg c2, if_neg (by omega)]
theorem c139 (h : Cb (S.1 0 0) a) (hw : WF T a) (g1 : -2147483648 ≤ p) (g2 : p < 2147483648) (g3 : -2147483648 ≤ r) (g4 : r < 2147483648) : zr_sem zF (d + 2) 139 [za 1 0 0, zi (zo p), zi (zo r)] S = if vC a p r then some (.inl none, S) else some (.inr 1, zsn S) := by
  rw [ze_139]
  have uN := WF_nc hw
  have rg := cAt_rng a p r
  have u0 := hw.1.1
  simp (maxSteps := 10000000) (disch := omega) only [c3 h hw, zo_add, zo_sub, zo_mul, zo_neg, zo_lt, zo_le, zo_eq, zo_nn, zin_ok, zlt_eq, zr0, zr1, zr3, zr4, zr0x, zr1x, zr3x, zr4x, zb_and, zb_0, zmin_o, zmax_o, zabs_o, zo_div, zo_mod, ↓reduceIte, Int.reduceToNat, Int.reduceNeg, Int.reduceAdd, Int.reduceMul, Int.reduceSub, Int.reduceEq, Int.reduceLT, Int.reduceLE, if_true, if_false, Nat.reduceAdd, Nat.reduceMul]
  have e := cAt_m1 a p r (by omega)
  by_cases c : vC a p r
  · rw [if_pos c, if_neg (fun z => (e.mp z) c)]
  · rw [if_neg c, if_pos (e.mpr c)]
theorem c140 {m : Int} (g1 : -2147483648 ≤ p) (g2 : p < 2147483648) (g3 : -2147483648 ≤ m) (g4 : m < 2147483648) : zr_sem zF (d + 1) 140 [zi (zo p), zi (zo m)] S = if 0 ≤ p ∧ p < m then some (.inl none, S) else some (.inr 1, zsn S) := by
  rw [ze_140]
  simp (maxSteps := 10000000) (disch := omega) only [zo_add, zo_sub, zo_mul, zo_neg, zo_lt, zo_le, zo_eq, zo_nn, zin_ok, zlt_eq, zr0, zr1, zr3, zr4, zr0x, zr1x, zr3x, zr4x, zb_and, zb_0, zmin_o, zmax_o, zabs_o, zo_div, zo_mod, ↓reduceIte, Int.reduceToNat, Int.reduceNeg, Int.reduceAdd, Int.reduceMul, Int.reduceSub, Int.reduceEq, Int.reduceLT, Int.reduceLE, if_true, if_false, Nat.reduceAdd, Nat.reduceMul]
  by_cases c : p < 0
  · rw [if_pos c, if_neg (by omega)]
  · rw [if_neg c]
    by_cases c2 : p < m
    · rw [if_pos c2, if_pos (by omega)]
    · rw [if_neg c2, if_neg (by omega)]
theorem c141 {l m : Int} (g1 : -2147483648 ≤ p) (g2 : p < 2147483648) (g3 : -2147483648 ≤ m) (g4 : m < 2147483648) (g5 : -2147483648 ≤ l) (g6 : l < 2147483648) : zr_sem zF (d + 1) 141 [zi (zo p), zi (zo l), zi (zo m)] S = if l ≤ p ∧ p ≤ m then some (.inl none, S) else some (.inr 2, zsn S) := by
  rw [ze_141]
  simp (maxSteps := 10000000) (disch := omega) only [zo_add, zo_sub, zo_mul, zo_neg, zo_lt, zo_le, zo_eq, zo_nn, zin_ok, zlt_eq, zr0, zr1, zr3, zr4, zr0x, zr1x, zr3x, zr4x, zb_and, zb_0, zmin_o, zmax_o, zabs_o, zo_div, zo_mod, ↓reduceIte, Int.reduceToNat, Int.reduceNeg, Int.reduceAdd, Int.reduceMul, Int.reduceSub, Int.reduceEq, Int.reduceLT, Int.reduceLE, if_true, if_false, Nat.reduceAdd, Nat.reduceMul]
  by_cases c : p < l
  · rw [if_pos c, if_neg (by omega)]
  · rw [if_neg c]
    by_cases c2 : p ≤ m
    · rw [if_pos c2, if_pos (by omega)]
    · rw [if_neg c2, if_neg (by omega)]
theorem m148_0 : zr_sem zF (d + 1) 148 [za 3 0 0, zi (zo 0)] S = some (.inl (some (zi (zo 1))), mt S 1) := m148 (b := false)
theorem m148_1 : zr_sem zF (d + 1) 148 [za 3 0 0, zi (zo 1)] S = some (.inl (some (zi (zo 0))), mt S 0) := m148 (b := true)
theorem m148_b {b : Bool} : zr_sem zF (d + 1) 148 [za 3 0 0, zi (zo (bI b))] S = some (.inl (some (zi (zo (bI !b)))), mt S (bI !b)) := m148
theorem m146 {t : Int} : zr_sem zF (d + 1) 146 [za 3 0 0, zi (zo t)] S = some (.inl (some (zi (zo 0))), mt S t) := ze_146
theorem c67w (h : Cb (S.1 0 n) a) (hw : WF T a) {b w : Nat} (hb : (b : Int) < a 9) (hw2 : w ≤ 10) : zr_sem zF (d + 1) 67 [za 0 n 1, zi (zo b), zi (zo w)] S = some (.inl (some (zi (zo (bnum a b w)))), S) := by
  have : w = 0 ∨ w = 1 ∨ w = 2 ∨ w = 3 ∨ w = 4 ∨ w = 5 ∨ w = 6 ∨ w = 7 ∨ w = 8 ∨ w = 9 ∨ w = 10 := by omega
  rcases this with e | e | e | e | e | e | e | e | e | e | e <;> subst e
  · exact c67b_0 h hw hb
  · exact c67b_1 h hw hb
  · exact c67b_2 h hw hb
  · exact c67b_3 h hw hb
  · exact c67b_4 h hw hb
  · exact c67b_5 h hw hb
  · exact c67b_6 h hw hb
  · exact c67b_7 h hw hb
  · exact c67b_8 h hw hb
  · exact c67b_9 h hw hb
  · exact c67b_10 h hw hb
theorem m194 {q : Nat} (h : Md S q a) (hw : WF T a) {b w : Nat} (hb : (b : Int) < a 9) (hw2 : w ≤ 10) : zr_sem zF (d + 2) 194 [za 3 0 0, zi (zo b), zi (zo w)] S = some (.inl (some (zi (zo (bnum a b w)))), S) := by
  have u9 := hw.1.2.2.2.2.2.2.2.2.2
  have uN := WF_nc hw
  have gB := hw.2.2.2.1 b hb
  have : w = 0 ∨ w = 1 ∨ w = 2 ∨ w = 3 ∨ w = 4 ∨ w = 5 ∨ w = 6 ∨ w = 7 ∨ w = 8 ∨ w = 9 ∨ w = 10 := by omega
  rw [ze_194, zo_toInt (by omega) (by omega)]
  have e0 := m160_0 (d := d) h (b := b) (by omega)
  have e1 := m160_1 (d := d) h (b := b) (by omega)
  have e2 := m160_2 (d := d) h (b := b) (by omega)
  have e3 := m160_3 (d := d) h (b := b) (by omega)
  have e4 := m160_4 (d := d) h (b := b) (by omega)
  have e5 := m160_5 (d := d) h (b := b) (by omega)
  have e6 := m160_6 (d := d) h (b := b) (by omega)
  have e7 := m160_7 (d := d) h (b := b) (by omega)
  have e8 := m160_8 (d := d) h (b := b) (by omega)
  have e9 := m160_9 (d := d) h (b := b) (by omega)
  rcases this with e | e | e | e | e | e | e | e | e | e | e <;> subst e
  · simp (maxSteps := 10000000) (disch := omega) only [e0, m155 h hw, zo_add, zo_sub, zo_mul, zo_neg, zo_lt, zo_le, zo_eq, zo_nn, zin_ok, zlt_eq, zr0, zr1, zr3, zr4, zr0x, zr1x, zr3x, zr4x, zb_and, zb_0, zmin_o, zmax_o, zabs_o, zo_div, zo_mod, ↓reduceIte, Int.reduceToNat, Int.reduceNeg, Int.reduceAdd, Int.reduceMul, Int.reduceSub, Int.reduceEq, Int.reduceLT, Int.reduceLE, if_true, if_false, Nat.reduceAdd, Nat.reduceMul]; rfl
  · simp (maxSteps := 10000000) (disch := omega) only [e0, m156 h hw, zo_add, zo_sub, zo_mul, zo_neg, zo_lt, zo_le, zo_eq, zo_nn, zin_ok, zlt_eq, zr0, zr1, zr3, zr4, zr0x, zr1x, zr3x, zr4x, zb_and, zb_0, zmin_o, zmax_o, zabs_o, zo_div, zo_mod, ↓reduceIte, Int.reduceToNat, Int.reduceNeg, Int.reduceAdd, Int.reduceMul, Int.reduceSub, Int.reduceEq, Int.reduceLT, Int.reduceLE, if_true, if_false, Nat.reduceAdd, Nat.reduceMul]; rfl
  · rw [if_neg (by omega), if_neg (by omega), zo_sub, show ((2 : Nat) : Int) - 1 = 1 by omega, e1, zr1]; rfl
  · rw [if_neg (by omega), if_neg (by omega), zo_sub, show ((3 : Nat) : Int) - 1 = 2 by omega, e2, zr1]; rfl
  · rw [if_neg (by omega), if_neg (by omega), zo_sub, show ((4 : Nat) : Int) - 1 = 3 by omega, e3, zr1]; rfl
  · rw [if_neg (by omega), if_neg (by omega), zo_sub, show ((5 : Nat) : Int) - 1 = 4 by omega, e4, zr1]; rfl
  · rw [if_neg (by omega), if_neg (by omega), zo_sub, show ((6 : Nat) : Int) - 1 = 5 by omega, e5, zr1]; rfl
  · rw [if_neg (by omega), if_neg (by omega), zo_sub, show ((7 : Nat) : Int) - 1 = 6 by omega, e6, zr1]; rfl
  · rw [if_neg (by omega), if_neg (by omega), zo_sub, show ((8 : Nat) : Int) - 1 = 7 by omega, e7, zr1]; rfl
  · rw [if_neg (by omega), if_neg (by omega), zo_sub, show ((9 : Nat) : Int) - 1 = 8 by omega, e8, zr1]; rfl
  · rw [if_neg (by omega), if_neg (by omega), zo_sub, show ((10 : Nat) : Int) - 1 = 9 by omega, e9, zr1]; rfl
theorem A94 (h : Cb (S.1 0 0) a) (hw : WF T a) (g1 : -2147483648 ≤ p) (g2 : p < 2147483648) (g3 : -2147483648 ≤ r) (g4 : r < 2147483648) : CA (d + 2) 94 [za 1 0 0, zi (zo p), zi (zo r)] S (if vB a p ∧ (0 ≤ r ∧ r ≤ 10) then 0 else 1) (bnum a p.toNat r.toNat) := by
  have u9 := hw.1.2.2.2.2.2.2.2.2.2
  by_cases c : vB a p
  · by_cases c2 : 0 ≤ r ∧ r ≤ 10
    · obtain ⟨b, rfl⟩ : ∃ b : Nat, p = b := ⟨p.toNat, by omega⟩
      obtain ⟨w, rfl⟩ : ∃ w : Nat, r = w := ⟨r.toNat, by omega⟩
      rw [if_pos ⟨c, c2⟩, Int.toNat_natCast, Int.toNat_natCast]
      refine CA_v ?_
      rw [ze_94]
      simp (maxSteps := 10000000) (disch := omega) only [c138 h hw, c140, c67w h hw, zo_add, zo_sub, zo_mul, zo_neg, zo_lt, zo_le, zo_eq, zo_nn, zin_ok, zlt_eq, zr0, zr1, zr3, zr4, zr0x, zr1x, zr3x, zr4x, zb_and, zb_0, zmin_o, zmax_o, zabs_o, zo_div, zo_mod, ↓reduceIte, Int.reduceToNat, Int.reduceNeg, Int.reduceAdd, Int.reduceMul, Int.reduceSub, Int.reduceEq, Int.reduceLT, Int.reduceLE, if_true, if_false, Nat.reduceAdd, Nat.reduceMul]
      rw [if_pos c, zr0, if_pos (by omega), zr0, c67w h hw c.2 (by omega), zr1]
    · rw [if_neg (fun z => c2 z.2)]
      refine CA_x (t := 0) ?_
      rw [ze_94]
      simp (maxSteps := 10000000) (disch := omega) only [c138 h hw, c140, zo_add, zo_sub, zo_mul, zo_neg, zo_lt, zo_le, zo_eq, zo_nn, zin_ok, zlt_eq, zr0, zr1, zr3, zr4, zr0x, zr1x, zr3x, zr4x, zb_and, zb_0, zmin_o, zmax_o, zabs_o, zo_div, zo_mod, ↓reduceIte, Int.reduceToNat, Int.reduceNeg, Int.reduceAdd, Int.reduceMul, Int.reduceSub, Int.reduceEq, Int.reduceLT, Int.reduceLE, if_true, if_false, Nat.reduceAdd, Nat.reduceMul]
      rw [if_pos c, zr0, if_neg (by omega)]; rfl
  · rw [if_neg (fun z => c z.1)]
    refine CA_x (t := 0) ?_
    rw [ze_94]
    simp (maxSteps := 10000000) (disch := omega) only [c138 h hw, zo_add, zo_sub, zo_mul, zo_neg, zo_lt, zo_le, zo_eq, zo_nn, zin_ok, zlt_eq, zr0, zr1, zr3, zr4, zr0x, zr1x, zr3x, zr4x, zb_and, zb_0, zmin_o, zmax_o, zabs_o, zo_div, zo_mod, ↓reduceIte, Int.reduceToNat, Int.reduceNeg, Int.reduceAdd, Int.reduceMul, Int.reduceSub, Int.reduceEq, Int.reduceLT, Int.reduceLE, if_true, if_false, Nat.reduceAdd, Nat.reduceMul]
    rw [if_neg c]; rfl
theorem B195 (h : Md S 0 a) (hw : WF T a) (g1 : -2147483648 ≤ p) (g2 : p < 2147483648) (g3 : -2147483648 ≤ r) (g4 : r < 2147483648) : MA (d + 3) 195 [za 3 0 0, zi (zo p), zi (zo r)] S (if vB a p ∧ (0 ≤ r ∧ r ≤ 10) then 0 else 1) (bnum a p.toNat r.toNat) := by
  have u9 := hw.1.2.2.2.2.2.2.2.2.2
  have h0 := Md_mt h 0
  by_cases c : vB a p
  · have e1 : decide (0 ≤ p ∧ p ≤ a 9 - 1) = true := decide_eq_true (by omega)
    by_cases c2 : 0 ≤ r ∧ r ≤ 10
    · have e2 : decide (0 ≤ r ∧ r ≤ 10) = true := decide_eq_true c2
      obtain ⟨b, rfl⟩ : ∃ b : Nat, p = b := ⟨p.toNat, by omega⟩
      obtain ⟨w, rfl⟩ : ∃ w : Nat, r = w := ⟨r.toNat, by omega⟩
      rw [if_pos ⟨c, c2⟩, Int.toNat_natCast, Int.toNat_natCast]
      refine MA_v ?_
      rw [ze_195]
      simp (maxSteps := 10000000) (disch := omega) only [m157 h hw, e1, m147, e2, bI_t, m148_1, zo_add, zo_sub, zo_mul, zo_neg, zo_lt, zo_le, zo_eq, zo_nn, zin_ok, zlt_eq, zr0, zr1, zr3, zr4, zr0x, zr1x, zr3x, zr4x, zb_and, zb_0, zmin_o, zmax_o, zabs_o, zo_div, zo_mod, ↓reduceIte, Int.reduceToNat, Int.reduceNeg, Int.reduceAdd, Int.reduceMul, Int.reduceSub, Int.reduceEq, Int.reduceLT, Int.reduceLE, if_true, if_false, Nat.reduceAdd, Nat.reduceMul]
      rw [m194 h0 hw c.2 (by omega), zr1]
    · have e2 : decide (0 ≤ r ∧ r ≤ 10) = false := decide_eq_false c2
      rw [if_neg (fun z => c2 z.2)]
      refine MA_x (t := 0) (w := 0) ?_
      rw [ze_195]
      simp (maxSteps := 10000000) (disch := omega) only [m157 h hw, e1, m147, e2, bI_t, bI_f, m148_0, zo_add, zo_sub, zo_mul, zo_neg, zo_lt, zo_le, zo_eq, zo_nn, zin_ok, zlt_eq, zr0, zr1, zr3, zr4, zr0x, zr1x, zr3x, zr4x, zb_and, zb_0, zmin_o, zmax_o, zabs_o, zo_div, zo_mod, ↓reduceIte, Int.reduceToNat, Int.reduceNeg, Int.reduceAdd, Int.reduceMul, Int.reduceSub, Int.reduceEq, Int.reduceLT, Int.reduceLE, if_true, if_false, Nat.reduceAdd, Nat.reduceMul]
      rfl
  · have e1 : decide (0 ≤ p ∧ p ≤ a 9 - 1) = false := decide_eq_false (by omega)
    rw [if_neg (fun z => c z.1)]
    refine MA_x (t := 0) (w := 0) ?_
    rw [ze_195]
    simp (maxSteps := 10000000) (disch := omega) only [m157 h hw, e1, bI_f, m148_0, zo_add, zo_sub, zo_mul, zo_neg, zo_lt, zo_le, zo_eq, zo_nn, zin_ok, zlt_eq, zr0, zr1, zr3, zr4, zr0x, zr1x, zr3x, zr4x, zb_and, zb_0, zmin_o, zmax_o, zabs_o, zo_div, zo_mod, ↓reduceIte, Int.reduceToNat, Int.reduceNeg, Int.reduceAdd, Int.reduceMul, Int.reduceSub, Int.reduceEq, Int.reduceLT, Int.reduceLE, if_true, if_false, Nat.reduceAdd, Nat.reduceMul]
    rfl
end CK

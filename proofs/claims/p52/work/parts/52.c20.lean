/-! THE PURE SIDE 20: questions, one by one -/
section CL
variable {S : zS} {n d : Nat} {a : Rw} {T p r : Int}
theorem A93 (h : Cb (S.1 0 0) a) (hw : WF T a) (g1 : -2147483648 ≤ p) (g2 : p < 2147483648) : CA (d + 4) 93 [za 1 0 0, zi (zo p)] S (if 0 ≤ p ∧ p ≤ 14 then 0 else 1) (sizV a p) := by
  rw [show d + 4 = d + 4 from rfl]
  have e := ze_93 (d := d + 3) (S := S) (xa := zo p)
  rw [zo_toInt g1 g2] at e
  have hC := h; obtain ⟨⟨f1, f2, f3, f4, f5, f6⟩, ⟨n6, n7, n8, n9, n10, n11, n12, n13, n14, n15⟩, hD, hT, hB, hS, hOc, hE⟩ := hC
  by_cases c : 0 ≤ p ∧ p ≤ 14
  · rw [if_pos c]
    refine CA_v (e.trans ?_)
    have : p = 0 ∨ p = 1 ∨ p = 2 ∨ p = 3 ∨ p = 4 ∨ p = 5 ∨ p = 6 ∨ p = 7 ∨ p = 8 ∨ p = 9 ∨ p = 10 ∨ p = 11 ∨ p = 12 ∨ p = 13 ∨ p = 14 := by omega
    unfold sizV
    rcases this with e | e | e | e | e | e | e | e | e | e | e | e | e | e | e <;> subst e <;> simp (maxSteps := 10000000) (disch := omega) only [n6, n7, n8, n9, n10, n11, n12, n13, n14, n15, c14 h hw, c15 h hw, c16 h hw, zo_add, zo_sub, zo_mul, zo_neg, zo_lt, zo_le, zo_eq, zo_nn, zin_ok, zlt_eq, zr0, zr1, zr3, zr4, zr0x, zr1x, zr3x, zr4x, zb_and, zb_0, zmin_o, zmax_o, zabs_o, zo_div, zo_mod, ↓reduceIte, Int.reduceToNat, Int.reduceNeg, Int.reduceAdd, Int.reduceMul, Int.reduceSub, Int.reduceEq, Int.reduceLT, Int.reduceLE, if_true, if_false, Nat.reduceAdd, Nat.reduceMul]
  · rw [if_neg c]
    refine CA_x (t := 0) (e.trans ?_)
    rw [if_neg (by omega), if_neg (by omega), if_neg (by omega), if_neg (by omega), if_neg (by omega), if_neg (by omega), if_neg (by omega), if_neg (by omega), if_neg (by omega), if_neg (by omega), if_neg (by omega), if_neg (by omega), if_neg (by omega), if_neg (by omega), if_neg (by omega)]
theorem A95 (h : Cb (S.1 0 0) a) (hw : WF T a) (g1 : -2147483648 ≤ p) (g2 : p < 2147483648) (g3 : -2147483648 ≤ r) (g4 : r < 2147483648) : CA (d + 4) 95 [za 1 0 0, zi (zo p), zi (zo r)] S (if vD a p ∧ (0 ≤ r ∧ r ≤ 5) then 0 else 1) (dnum a p.toNat r.toNat) := by
  have u7 := hw.1.2.2.2.2.2.2.2.1
  have n14 := h.2.1.2.2.2.2.2.2.2.2.1
  by_cases c : vD a p
  · by_cases c2 : 0 ≤ r ∧ r ≤ 5
    · obtain ⟨b, rfl⟩ : ∃ b : Nat, p = b := ⟨p.toNat, by omega⟩
      obtain ⟨w, rfl⟩ : ∃ w : Nat, r = w := ⟨r.toNat, by omega⟩
      rw [if_pos ⟨c, c2⟩, Int.toNat_natCast, Int.toNat_natCast]
      refine CA_v ?_
      rw [ze_95, n14, c140 (by omega) (by omega) (by omega) (by omega), if_pos c, zr0, c140 (by omega) (by omega) (by omega) (by omega), if_pos (by omega), zr0]
      have : w = 0 ∨ w = 1 ∨ w = 2 ∨ w = 3 ∨ w = 4 ∨ w = 5 := by omega
      have e0 := c67d_0 (d := d + 2) h hw (b := b) c.2
      have e1 := c67d_1 (d := d + 2) h hw (b := b) c.2
      have e2 := c67d_2 (d := d + 2) h hw (b := b) c.2
      have e3 := c67d_3 (d := d + 2) h hw (b := b) c.2
      have e5 := c67d_5 (d := d + 2) h hw (b := b) c.2
      rcases this with e | e | e | e | e | e <;> subst e
      · rw [if_neg (by decide)]; exact (congrArg (fun z => zx_ret1 z _ _) e0).trans rfl
      · rw [if_neg (by decide)]; exact (congrArg (fun z => zx_ret1 z _ _) e1).trans rfl
      · rw [if_neg (by decide)]; exact (congrArg (fun z => zx_ret1 z _ _) e2).trans rfl
      · rw [if_neg (by decide)]; exact (congrArg (fun z => zx_ret1 z _ _) e3).trans rfl
      · rw [if_pos (by rfl), c10 h hw c.2, zr1]
        rw [show dnum a b 4 = bI (wks a b) from rfl]
        cases wks a b <;> rfl
      · rw [if_neg (by decide)]; exact (congrArg (fun z => zx_ret1 z _ _) e5).trans rfl
    · rw [if_neg (fun z => c2 z.2)]
      refine CA_x (t := 0) ?_
      rw [ze_95, n14, c140 (by omega) (by omega) (by omega) (by omega), if_pos c, zr0, c140 (by omega) (by omega) (by omega) (by omega), if_neg (by omega)]; rfl
  · rw [if_neg (fun z => c z.1)]
    refine CA_x (t := 0) ?_
    rw [ze_95, n14, c140 (by omega) (by omega) (by omega) (by omega), if_neg c]; rfl
theorem A96 (h : Cb (S.1 0 0) a) (hw : WF T a) (g1 : -2147483648 ≤ p) (g2 : p < 2147483648) (g3 : -2147483648 ≤ r) (g4 : r < 2147483648) : CA (d + 4) 96 [za 1 0 0, zi (zo p), zi (zo r)] S (if vT a p ∧ (0 ≤ r ∧ r ≤ 2) then 0 else 1) (tnum a p.toNat r.toNat) := by
  have u7 := hw.1.2.2.2.2.2.2.2.2.1
  have n15 := h.2.1.2.2.2.2.2.2.2.2.2
  by_cases c : vT a p
  · by_cases c2 : 0 ≤ r ∧ r ≤ 2
    · obtain ⟨b, rfl⟩ : ∃ b : Nat, p = b := ⟨p.toNat, by omega⟩
      obtain ⟨w, rfl⟩ : ∃ w : Nat, r = w := ⟨r.toNat, by omega⟩
      rw [if_pos ⟨c, c2⟩, Int.toNat_natCast, Int.toNat_natCast]
      refine CA_v ?_
      rw [ze_96, n15, c140 (by omega) (by omega) (by omega) (by omega), if_pos c, zr0, c140 (by omega) (by omega) (by omega) (by omega), if_pos (by omega), zr0]
      have : w = 0 ∨ w = 1 ∨ w = 2 := by omega
      have e0 := c67t_0 (d := d + 2) h hw (b := b) c.2
      have e1 := c67t_1 (d := d + 2) h hw (b := b) c.2
      have e2 := c67t_2 (d := d + 2) h hw (b := b) c.2
      rcases this with e | e | e <;> subst e
      · exact (congrArg (fun z => zx_ret1 z _ _) e0).trans rfl
      · exact (congrArg (fun z => zx_ret1 z _ _) e1).trans rfl
      · exact (congrArg (fun z => zx_ret1 z _ _) e2).trans rfl
    · rw [if_neg (fun z => c2 z.2)]
      refine CA_x (t := 0) ?_
      rw [ze_96, n15, c140 (by omega) (by omega) (by omega) (by omega), if_pos c, zr0, c140 (by omega) (by omega) (by omega) (by omega), if_neg (by omega)]; rfl
  · rw [if_neg (fun z => c z.1)]
    refine CA_x (t := 0) ?_
    rw [ze_96, n15, c140 (by omega) (by omega) (by omega) (by omega), if_neg c]; rfl
theorem A97 (h : Cb (S.1 0 0) a) (hw : WF T a) (g1 : -2147483648 ≤ p) (g2 : p < 2147483648) (g3 : -2147483648 ≤ r) (g4 : r < 2147483648) : CA (d + 3) 97 [za 1 0 0, zi (zo p), zi (zo r)] S (if vC a p r then 0 else 1) (a (160 + (a 0 * r + p).toNat)) := by
  have uN := WF_nc hw
  by_cases c : vC a p r
  · have l := cel_lt c
    rw [if_pos c]
    refine CA_v ?_
    rw [ze_97, c139 h hw g1 g2 g3 g4, if_pos c, zr0, c3 h hw g1 g2 g3 g4, zr1, cAt_in c, c63s h hw (by omega), zr1]
    unfold spC
    rw [if_neg (by omega)]
  · rw [if_neg c]
    refine CA_x (t := 0) ?_
    rw [ze_97, c139 h hw g1 g2 g3 g4, if_neg c]; rfl
theorem A98 (h : Cb (S.1 0 0) a) (hw : WF T a) (g1 : -2147483648 ≤ p) (g2 : p < 2147483648) (g3 : -2147483648 ≤ r) (g4 : r < 2147483648) : CA (d + 3) 98 [za 1 0 0, zi (zo p), zi (zo r)] S (if vC a p r then 0 else 1) (occ a (a 0 * r + p) (-1)) := by
  have uN := WF_nc hw
  by_cases c : vC a p r
  · have l := cel_lt c
    rw [if_pos c]
    refine CA_v ?_
    rw [ze_98, c139 h hw g1 g2 g3 g4, if_pos c, zr0, c3 h hw g1 g2 g3 g4, zr1, cAt_in c, c63o h hw (by omega), zr1]
    unfold ocC
    rw [if_neg (by omega)]
  · rw [if_neg c]
    refine CA_x (t := 0) ?_
    rw [ze_98, c139 h hw g1 g2 g3 g4, if_neg c]; rfl
end CL

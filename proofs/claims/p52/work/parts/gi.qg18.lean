/-! THE LAW'S PURE SIDE 28: questions leave the store as it is (tools: gen_gi.py) -/
section QU
variable {S : zS} {d : Nat} {a : Rw} {T p r : Int}
theorem zq_s (h : Cb (S.1 0 0) a) (hw : WF T a) (c : 0 ≤ p ∧ p ≤ 14) : zr_sem zF (d + 4) 93 [za 1 0 0, zi (zo p)] S = some (.inl (some (zi (zo (sizV a p)))), S) := by
  have e := ze_93 (d := d + 3) (S := S) (xa := zo p)
  rw [zo_toInt (by omega) (by omega)] at e
  have hC := h; obtain ⟨⟨f1, f2, f3, f4, f5, f6⟩, ⟨n6, n7, n8, n9, n10, n11, n12, n13, n14, n15⟩, hD, hT, hB, hS, hOc, hE⟩ := hC
  refine e.trans ?_
  have : p = 0 ∨ p = 1 ∨ p = 2 ∨ p = 3 ∨ p = 4 ∨ p = 5 ∨ p = 6 ∨ p = 7 ∨ p = 8 ∨ p = 9 ∨ p = 10 ∨ p = 11 ∨ p = 12 ∨ p = 13 ∨ p = 14 := by omega
  unfold sizV
  rcases this with e | e | e | e | e | e | e | e | e | e | e | e | e | e | e <;> subst e <;> simp (maxSteps := 10000000) (disch := omega) only [n6, n7, n8, n9, n10, n11, n12, n13, n14, n15, c14 h hw, c15 h hw, c16 h hw, zr1, ↓reduceIte, Int.reduceNeg, Int.reduceEq, if_true, if_false]
theorem zq_b (h : Cb (S.1 0 0) a) (hw : WF T a) {b w : Nat} (hb : (b : Int) < a 9) (h1 : w ≤ 10) : zr_sem zF (d + 4) 94 [za 1 0 0, zi (zo (b : Int)), zi (zo (w : Int))] S = some (.inl (some (zi (zo (bnum a b w)))), S) := by
  have u9 := hw.1.2.2.2.2.2.2.2.2.2
  have c : vB a (b : Int) := ⟨by omega, hb⟩
  rw [ze_94]
  simp (maxSteps := 10000000) (disch := omega) only [c138 h hw, c140, c67w h hw, zr0, zr1]
  rw [if_pos c, zr0, if_pos (by omega), zr0, c67w h hw hb h1, zr1]
theorem zq_d (h : Cb (S.1 0 0) a) (hw : WF T a) {b w : Nat} (hb : (b : Int) < a 7) (h1 : w ≤ 5) : zr_sem zF (d + 4) 95 [za 1 0 0, zi (zo (b : Int)), zi (zo (w : Int))] S = some (.inl (some (zi (zo (dnum a b w)))), S) := by
  have u7 := hw.1.2.2.2.2.2.2.2.1
  have n14 := h.2.1.2.2.2.2.2.2.2.2.1
  rw [ze_95, n14, c140 (by omega) (by omega) (by omega) (by omega), if_pos ⟨by omega, hb⟩, zr0, c140 (by omega) (by omega) (by omega) (by omega), if_pos (by omega), zr0]
  have : w = 0 ∨ w = 1 ∨ w = 2 ∨ w = 3 ∨ w = 4 ∨ w = 5 := by omega
  have e0 := c67d_0 (d := d + 2) h hw (b := b) hb
  have e1 := c67d_1 (d := d + 2) h hw (b := b) hb
  have e2 := c67d_2 (d := d + 2) h hw (b := b) hb
  have e3 := c67d_3 (d := d + 2) h hw (b := b) hb
  have e5 := c67d_5 (d := d + 2) h hw (b := b) hb
  rcases this with e | e | e | e | e | e <;> subst e
  · rw [if_neg (by decide)]; exact (congrArg (fun z => zx_ret1 z _ _) e0).trans rfl
  · rw [if_neg (by decide)]; exact (congrArg (fun z => zx_ret1 z _ _) e1).trans rfl
  · rw [if_neg (by decide)]; exact (congrArg (fun z => zx_ret1 z _ _) e2).trans rfl
  · rw [if_neg (by decide)]; exact (congrArg (fun z => zx_ret1 z _ _) e3).trans rfl
  · rw [if_pos (by rfl), c10 h hw hb, zr1]
    rw [show dnum a b 4 = bI (wks a b) from rfl]
    cases wks a b <;> rfl
  · rw [if_neg (by decide)]; exact (congrArg (fun z => zx_ret1 z _ _) e5).trans rfl
theorem zq_t (h : Cb (S.1 0 0) a) (hw : WF T a) {b w : Nat} (hb : (b : Int) < a 8) (h1 : w ≤ 2) : zr_sem zF (d + 4) 96 [za 1 0 0, zi (zo (b : Int)), zi (zo (w : Int))] S = some (.inl (some (zi (zo (tnum a b w)))), S) := by
  have u7 := hw.1.2.2.2.2.2.2.2.2.1
  have n15 := h.2.1.2.2.2.2.2.2.2.2.2
  rw [ze_96, n15, c140 (by omega) (by omega) (by omega) (by omega), if_pos ⟨by omega, hb⟩, zr0, c140 (by omega) (by omega) (by omega) (by omega), if_pos (by omega), zr0]
  have : w = 0 ∨ w = 1 ∨ w = 2 := by omega
  have e0 := c67t_0 (d := d + 2) h hw (b := b) hb
  have e1 := c67t_1 (d := d + 2) h hw (b := b) hb
  have e2 := c67t_2 (d := d + 2) h hw (b := b) hb
  rcases this with e | e | e <;> subst e
  · exact (congrArg (fun z => zx_ret1 z _ _) e0).trans rfl
  · exact (congrArg (fun z => zx_ret1 z _ _) e1).trans rfl
  · exact (congrArg (fun z => zx_ret1 z _ _) e2).trans rfl
theorem zq_c (h : Cb (S.1 0 0) a) (hw : WF T a) (c : vC a p r) : zr_sem zF (d + 4) 97 [za 1 0 0, zi (zo p), zi (zo r)] S = some (.inl (some (zi (zo (a (160 + (a 0 * r + p).toNat))))), S) := by
  have uN := WF_nc hw
  have w0 := hw.1.1
  have w1 := hw.1.2.1
  have l := cel_lt c
  rw [ze_97, c139 h hw (by omega) (by omega) (by omega) (by omega), if_pos c, zr0, c3 h hw (by omega) (by omega) (by omega) (by omega), zr1, cAt_in c, c63s h hw (by omega), zr1]
  unfold spC
  rw [if_neg (by omega)]
theorem zq_o (h : Cb (S.1 0 0) a) (hw : WF T a) (c : vC a p r) : zr_sem zF (d + 4) 98 [za 1 0 0, zi (zo p), zi (zo r)] S = some (.inl (some (zi (zo (occ a (a 0 * r + p) (-1))))), S) := by
  have uN := WF_nc hw
  have w0 := hw.1.1
  have w1 := hw.1.2.1
  have l := cel_lt c
  rw [ze_98, c139 h hw (by omega) (by omega) (by omega) (by omega), if_pos c, zr0, c3 h hw (by omega) (by omega) (by omega) (by omega), zr1, cAt_in c, c63o h hw (by omega), zr1]
  unfold ocC
  rw [if_neg (by omega)]
theorem zq_a (h : Cb (S.1 0 0) a) (hw : WF T a) (c : 0 ≤ p ∧ p < cnt a 0) : zr_sem zF (d + 4) 99 [za 1 0 0, zi (zo p)] S = some (.inl (some (zi (zo (afS a (a 9).toNat 0 p)))), S) := by
  have u9 := hw.1.2.2.2.2.2.2.2.2.2
  have hb := zF1_big
  have bc := acm_b a (a 9).toNat 0
  rw [← cnt_acm] at bc
  rw [ze_99, c14 h hw (by omega) (by omega), zr1, c140 (by omega) (by omega) (by omega) (by omega), if_pos c, zr0]
  have := c99_l (d := d + 1) h hw (p := p) (by omega) (by omega) (a 9).toNat 0 zF1 0 (by omega) (by omega) (by omega)
  rw [show p - ((0 : Nat) : Int) = p by omega] at this
  exact this
theorem zq_e (h : Cb (S.1 0 0) a) (hw : WF T a) (c : 0 ≤ p ∧ p < nen a) (c2 : 0 ≤ r ∧ r ≤ 3) : zr_sem zF (d + 4) 100 [za 1 0 0, zi (zo p), zi (zo r)] S = some (.inl (some (zi (zo (endN a p r)))), S) := by
  have u9 := hw.1.2.2.2.2.2.2.2.2.2
  have nb := nen_b hw
  have n16 := h.2.2.2.2.2.2.2.1
  have f6 := h.1.2.2.2.2.2
  obtain ⟨i, rfl⟩ : ∃ i : Nat, p = i := ⟨p.toNat, by omega⟩
  obtain ⟨b, q1, q2, q3, q4⟩ := h.2.2.2.2.2.2.2.2 i c.2
  have eb := endB_is q1 q2 q3
  have r63 : zr_sem zF (d + 3) 63 [za 0 0 11, zi (zo i)] S = some (.inl (some (zi (zo b))), S) := by
    rw [ze_63e]
    simp (maxSteps := 10000000) (disch := omega) only [Int.toNat_natCast, q4, zo_add, zo_sub, zo_mul, zo_neg, zo_lt, zo_le, zo_eq, zo_nn, zin_ok, zlt_eq, zr0, zr1, zr3, zr4, zr0x, zr1x, zr3x, zr4x, zb_and, zb_0, zmin_o, zmax_o, zabs_o, zo_div, zo_mod, ↓reduceIte, Int.reduceToNat, Int.reduceNeg, Int.reduceAdd, Int.reduceMul, Int.reduceSub, Int.reduceEq, Int.reduceLT, Int.reduceLE, if_true, if_false, Nat.reduceAdd, Nat.reduceMul]
    rw [if_neg (by omega), if_neg (by omega)]
  have e := ze_100 (d := d + 3) (S := S) (xa := zo i) (xb := zo r)
  rw [n16, c140 (by omega) (by omega) (by omega) (by omega), if_pos c, zr0, r63, zr1, zo_toInt (by omega) (by omega)] at e
  refine e.trans ?_
  unfold endN
  rw [eb, Int.toNat_natCast]
  have : r = 0 ∨ r = 1 ∨ r = 2 ∨ r = 3 := by omega
  rcases this with z | z | z | z <;> subst z
  · rfl
  · simp (maxSteps := 10000000) (disch := omega) only [c67b_8 h hw q1, zr1, ↓reduceIte, Int.reduceEq, if_true, if_false]
  · simp (maxSteps := 10000000) (disch := omega) only [c67b_7 h hw q1, zr1, ↓reduceIte, Int.reduceEq, if_true, if_false]
  · simp (maxSteps := 10000000) (disch := omega) only [c6 h hw q1, zr1, ↓reduceIte, Int.reduceEq, if_true, if_false]
end QU
section QV
variable {S : zS} {w : qW} {d : Nat} {a : Rw} {Tm : Int} {st : List zV} {nx : List zV → qS → Option qO}
theorem ps_0 (h : Cb (S.1 0 0) a) (hw : WF Tm a) : qz_ret 1 (zr_sem zF (d + 4) 93 [za 1 0 0, zi (zo 0)] S) w st nx = nx (zi (zo (a 0)) :: st) (S, w) := qz_1 (zq_s h hw (p := 0) (by omega))
theorem ps_1 (h : Cb (S.1 0 0) a) (hw : WF Tm a) : qz_ret 1 (zr_sem zF (d + 4) 93 [za 1 0 0, zi (zo 1)] S) w st nx = nx (zi (zo (a 1)) :: st) (S, w) := qz_1 (zq_s h hw (p := 1) (by omega))
theorem ps_2 (h : Cb (S.1 0 0) a) (hw : WF Tm a) : qz_ret 1 (zr_sem zF (d + 4) 93 [za 1 0 0, zi (zo 2)] S) w st nx = nx (zi (zo (a 7)) :: st) (S, w) := qz_1 (zq_s h hw (p := 2) (by omega))
theorem ps_3 (h : Cb (S.1 0 0) a) (hw : WF Tm a) : qz_ret 1 (zr_sem zF (d + 4) 93 [za 1 0 0, zi (zo 3)] S) w st nx = nx (zi (zo (a 8)) :: st) (S, w) := qz_1 (zq_s h hw (p := 3) (by omega))
theorem ps_4 (h : Cb (S.1 0 0) a) (hw : WF Tm a) : qz_ret 1 (zr_sem zF (d + 4) 93 [za 1 0 0, zi (zo 4)] S) w st nx = nx (zi (zo (a 9)) :: st) (S, w) := qz_1 (zq_s h hw (p := 4) (by omega))
theorem ps_5 (h : Cb (S.1 0 0) a) (hw : WF Tm a) : qz_ret 1 (zr_sem zF (d + 4) 93 [za 1 0 0, zi (zo 5)] S) w st nx = nx (zi (zo (cnt a 0)) :: st) (S, w) := qz_1 (zq_s h hw (p := 5) (by omega))
theorem ps_6 (h : Cb (S.1 0 0) a) (hw : WF Tm a) : qz_ret 1 (zr_sem zF (d + 4) 93 [za 1 0 0, zi (zo 6)] S) w st nx = nx (zi (zo (cnt a 1)) :: st) (S, w) := qz_1 (zq_s h hw (p := 6) (by omega))
theorem ps_7 (h : Cb (S.1 0 0) a) (hw : WF Tm a) : qz_ret 1 (zr_sem zF (d + 4) 93 [za 1 0 0, zi (zo 7)] S) w st nx = nx (zi (zo (cnt a 2)) :: st) (S, w) := qz_1 (zq_s h hw (p := 7) (by omega))
theorem ps_8 (h : Cb (S.1 0 0) a) (hw : WF Tm a) : qz_ret 1 (zr_sem zF (d + 4) 93 [za 1 0 0, zi (zo 8)] S) w st nx = nx (zi (zo (a 6)) :: st) (S, w) := qz_1 (zq_s h hw (p := 8) (by omega))
theorem ps_9 (h : Cb (S.1 0 0) a) (hw : WF Tm a) : qz_ret 1 (zr_sem zF (d + 4) 93 [za 1 0 0, zi (zo 9)] S) w st nx = nx (zi (zo (a 2)) :: st) (S, w) := qz_1 (zq_s h hw (p := 9) (by omega))
theorem ps_11 (h : Cb (S.1 0 0) a) (hw : WF Tm a) : qz_ret 1 (zr_sem zF (d + 4) 93 [za 1 0 0, zi (zo 11)] S) w st nx = nx (zi (zo (wkn a)) :: st) (S, w) := qz_1 (zq_s h hw (p := 11) (by omega))
theorem ps_12 (h : Cb (S.1 0 0) a) (hw : WF Tm a) : qz_ret 1 (zr_sem zF (d + 4) 93 [za 1 0 0, zi (zo 12)] S) w st nx = nx (zi (zo (spm a)) :: st) (S, w) := qz_1 (zq_s h hw (p := 12) (by omega))
theorem pb_0 (h : Cb (S.1 0 0) a) (hw : WF Tm a) {b : Nat} (hb : (b : Int) < a 9) : qz_ret 1 (zr_sem zF (d + 4) 94 [za 1 0 0, zi (zo (b : Int)), zi (zo 0)] S) w st nx = nx (zi (zo (a (40 + 10 * b) % a 0)) :: st) (S, w) := qz_1 (zq_b h hw (w := 0) hb (by omega))
theorem pb_1 (h : Cb (S.1 0 0) a) (hw : WF Tm a) {b : Nat} (hb : (b : Int) < a 9) : qz_ret 1 (zr_sem zF (d + 4) 94 [za 1 0 0, zi (zo (b : Int)), zi (zo 1)] S) w st nx = nx (zi (zo (a (40 + 10 * b) / a 0)) :: st) (S, w) := qz_1 (zq_b h hw (w := 1) hb (by omega))
theorem pb_2 (h : Cb (S.1 0 0) a) (hw : WF Tm a) {b : Nat} (hb : (b : Int) < a 9) : qz_ret 1 (zr_sem zF (d + 4) 94 [za 1 0 0, zi (zo (b : Int)), zi (zo 2)] S) w st nx = nx (zi (zo (a (40 + 10 * b + 1))) :: st) (S, w) := qz_1 (zq_b h hw (w := 2) hb (by omega))
theorem pb_3 (h : Cb (S.1 0 0) a) (hw : WF Tm a) {b : Nat} (hb : (b : Int) < a 9) : qz_ret 1 (zr_sem zF (d + 4) 94 [za 1 0 0, zi (zo (b : Int)), zi (zo 3)] S) w st nx = nx (zi (zo (a (40 + 10 * b + 2))) :: st) (S, w) := qz_1 (zq_b h hw (w := 3) hb (by omega))
theorem pb_4 (h : Cb (S.1 0 0) a) (hw : WF Tm a) {b : Nat} (hb : (b : Int) < a 9) : qz_ret 1 (zr_sem zF (d + 4) 94 [za 1 0 0, zi (zo (b : Int)), zi (zo 4)] S) w st nx = nx (zi (zo (a (40 + 10 * b + 3))) :: st) (S, w) := qz_1 (zq_b h hw (w := 4) hb (by omega))
theorem pb_5 (h : Cb (S.1 0 0) a) (hw : WF Tm a) {b : Nat} (hb : (b : Int) < a 9) : qz_ret 1 (zr_sem zF (d + 4) 94 [za 1 0 0, zi (zo (b : Int)), zi (zo 5)] S) w st nx = nx (zi (zo (a (40 + 10 * b + 4))) :: st) (S, w) := qz_1 (zq_b h hw (w := 5) hb (by omega))
theorem pb_6 (h : Cb (S.1 0 0) a) (hw : WF Tm a) {b : Nat} (hb : (b : Int) < a 9) : qz_ret 1 (zr_sem zF (d + 4) 94 [za 1 0 0, zi (zo (b : Int)), zi (zo 6)] S) w st nx = nx (zi (zo (a (40 + 10 * b + 5))) :: st) (S, w) := qz_1 (zq_b h hw (w := 6) hb (by omega))
theorem pb_7 (h : Cb (S.1 0 0) a) (hw : WF Tm a) {b : Nat} (hb : (b : Int) < a 9) : qz_ret 1 (zr_sem zF (d + 4) 94 [za 1 0 0, zi (zo (b : Int)), zi (zo 7)] S) w st nx = nx (zi (zo (a (40 + 10 * b + 6))) :: st) (S, w) := qz_1 (zq_b h hw (w := 7) hb (by omega))
theorem pb_8 (h : Cb (S.1 0 0) a) (hw : WF Tm a) {b : Nat} (hb : (b : Int) < a 9) : qz_ret 1 (zr_sem zF (d + 4) 94 [za 1 0 0, zi (zo (b : Int)), zi (zo 8)] S) w st nx = nx (zi (zo (a (40 + 10 * b + 7))) :: st) (S, w) := qz_1 (zq_b h hw (w := 8) hb (by omega))
theorem pb_9 (h : Cb (S.1 0 0) a) (hw : WF Tm a) {b : Nat} (hb : (b : Int) < a 9) : qz_ret 1 (zr_sem zF (d + 4) 94 [za 1 0 0, zi (zo (b : Int)), zi (zo 9)] S) w st nx = nx (zi (zo (a (40 + 10 * b + 8))) :: st) (S, w) := qz_1 (zq_b h hw (w := 9) hb (by omega))
theorem pb_10 (h : Cb (S.1 0 0) a) (hw : WF Tm a) {b : Nat} (hb : (b : Int) < a 9) : qz_ret 1 (zr_sem zF (d + 4) 94 [za 1 0 0, zi (zo (b : Int)), zi (zo 10)] S) w st nx = nx (zi (zo (a (40 + 10 * b + 9))) :: st) (S, w) := qz_1 (zq_b h hw (w := 10) hb (by omega))
theorem pd_0 (h : Cb (S.1 0 0) a) (hw : WF Tm a) {b : Nat} (hb : (b : Int) < a 7) : qz_ret 1 (zr_sem zF (d + 4) 95 [za 1 0 0, zi (zo (b : Int)), zi (zo 0)] S) w st nx = nx (zi (zo (a (10 + 4 * b) % a 0)) :: st) (S, w) := qz_1 (zq_d h hw (w := 0) hb (by omega))
theorem pd_1 (h : Cb (S.1 0 0) a) (hw : WF Tm a) {b : Nat} (hb : (b : Int) < a 7) : qz_ret 1 (zr_sem zF (d + 4) 95 [za 1 0 0, zi (zo (b : Int)), zi (zo 1)] S) w st nx = nx (zi (zo (a (10 + 4 * b) / a 0)) :: st) (S, w) := qz_1 (zq_d h hw (w := 1) hb (by omega))
theorem pd_2 (h : Cb (S.1 0 0) a) (hw : WF Tm a) {b : Nat} (hb : (b : Int) < a 7) : qz_ret 1 (zr_sem zF (d + 4) 95 [za 1 0 0, zi (zo (b : Int)), zi (zo 2)] S) w st nx = nx (zi (zo (a (10 + 4 * b + 1))) :: st) (S, w) := qz_1 (zq_d h hw (w := 2) hb (by omega))
theorem pd_3 (h : Cb (S.1 0 0) a) (hw : WF Tm a) {b : Nat} (hb : (b : Int) < a 7) : qz_ret 1 (zr_sem zF (d + 4) 95 [za 1 0 0, zi (zo (b : Int)), zi (zo 3)] S) w st nx = nx (zi (zo (a (10 + 4 * b + 2))) :: st) (S, w) := qz_1 (zq_d h hw (w := 3) hb (by omega))
theorem pd_4 (h : Cb (S.1 0 0) a) (hw : WF Tm a) {b : Nat} (hb : (b : Int) < a 7) : qz_ret 1 (zr_sem zF (d + 4) 95 [za 1 0 0, zi (zo (b : Int)), zi (zo 4)] S) w st nx = nx (zi (zo (bI (wks a b))) :: st) (S, w) := qz_1 (zq_d h hw (w := 4) hb (by omega))
theorem pd_5 (h : Cb (S.1 0 0) a) (hw : WF Tm a) {b : Nat} (hb : (b : Int) < a 7) : qz_ret 1 (zr_sem zF (d + 4) 95 [za 1 0 0, zi (zo (b : Int)), zi (zo 5)] S) w st nx = nx (zi (zo (a (10 + 4 * b + 3))) :: st) (S, w) := qz_1 (zq_d h hw (w := 5) hb (by omega))
theorem pt_2 (h : Cb (S.1 0 0) a) (hw : WF Tm a) {b : Nat} (hb : (b : Int) < a 8) : qz_ret 1 (zr_sem zF (d + 4) 96 [za 1 0 0, zi (zo (b : Int)), zi (zo 2)] S) w st nx = nx (zi (zo (a (30 + 2 * b + 1))) :: st) (S, w) := qz_1 (zq_t h hw (w := 2) hb (by omega))
theorem pc_0 (h : Cb (S.1 0 0) a) (hw : WF Tm a) {x y : Int} (c : vC a x y) : qz_ret 1 (zr_sem zF (d + 4) 97 [za 1 0 0, zi (zo x), zi (zo y)] S) w st nx = nx (zi (zo (a (160 + (a 0 * y + x).toNat))) :: st) (S, w) := qz_1 (zq_c h hw c)
theorem po_0 (h : Cb (S.1 0 0) a) (hw : WF Tm a) {x y : Int} (c : vC a x y) : qz_ret 1 (zr_sem zF (d + 4) 98 [za 1 0 0, zi (zo x), zi (zo y)] S) w st nx = nx (zi (zo (occ a (a 0 * y + x) (-1))) :: st) (S, w) := qz_1 (zq_o h hw c)
theorem pa_0 (h : Cb (S.1 0 0) a) (hw : WF Tm a) {p : Int} (c : 0 ≤ p ∧ p < cnt a 0) : qz_ret 1 (zr_sem zF (d + 4) 99 [za 1 0 0, zi (zo p)] S) w st nx = nx (zi (zo (afS a (a 9).toNat 0 p)) :: st) (S, w) := qz_1 (zq_a h hw c)
theorem pe_0 (h : Cb (S.1 0 0) a) (hw : WF Tm a) {p : Int} (c : 0 ≤ p ∧ p < nen a) : qz_ret 1 (zr_sem zF (d + 4) 100 [za 1 0 0, zi (zo p), zi (zo 0)] S) w st nx = nx (zi (zo (endB a p)) :: st) (S, w) := qz_1 (zq_e h hw c (r := 0) (by omega))
theorem pe_1 (h : Cb (S.1 0 0) a) (hw : WF Tm a) {p : Int} (c : 0 ≤ p ∧ p < nen a) : qz_ret 1 (zr_sem zF (d + 4) 100 [za 1 0 0, zi (zo p), zi (zo 1)] S) w st nx = nx (zi (zo (a (40 + 10 * (endB a p).toNat + 7))) :: st) (S, w) := qz_1 (zq_e h hw c (r := 1) (by omega))
theorem pe_2 (h : Cb (S.1 0 0) a) (hw : WF Tm a) {p : Int} (c : 0 ≤ p ∧ p < nen a) : qz_ret 1 (zr_sem zF (d + 4) 100 [za 1 0 0, zi (zo p), zi (zo 2)] S) w st nx = nx (zi (zo (a (40 + 10 * (endB a p).toNat + 6))) :: st) (S, w) := qz_1 (zq_e h hw c (r := 2) (by omega))
theorem pe_3 (h : Cb (S.1 0 0) a) (hw : WF Tm a) {p : Int} (c : 0 ≤ p ∧ p < nen a) : qz_ret 1 (zr_sem zF (d + 4) 100 [za 1 0 0, zi (zo p), zi (zo 3)] S) w st nx = nx (zi (zo (a (40 + 10 * (endB a p).toNat))) :: st) (S, w) := qz_1 (zq_e h hw c (r := 3) (by omega))
theorem px_42 {T : qS} {v : Int} (h1 : -1000000 ≤ v) (h2 : v ≤ 1000000) : qx_ret 1 (q_sem zF (d + 4) 42 [zi (zo v)] T) st nx = nx (zi (zo (iab v)) :: st) T := qr_1 (Q42 h1 h2)
end QV
section IFS
variable {α : Type} {a b : Int} {x y : α}
theorem il_p {i : Decidable (zo a < zo b)} (h : a < b) (h1 : -2147483648 ≤ a) (h2 : b < 2147483648) : @ite α (zo a < zo b) i x y = x := by
  rw [if_pos]; rw [zo_lt h1 (by omega) (by omega) h2]; exact h
theorem il_n {i : Decidable (zo a < zo b)} (h : b ≤ a) (h1 : -2147483648 ≤ b) (h2 : a < 2147483648) : @ite α (zo a < zo b) i x y = y := by
  rw [if_neg]; rw [zo_lt (by omega) h2 h1 (by omega)]; omega
theorem ie_p {i : Decidable (zo a ≤ zo b)} (h : a ≤ b) (h1 : -2147483648 ≤ a) (h2 : b < 2147483648) : @ite α (zo a ≤ zo b) i x y = x := by
  rw [if_pos]; rw [zo_le h1 (by omega) (by omega) h2]; exact h
theorem ie_n {i : Decidable (zo a ≤ zo b)} (h : b < a) (h1 : -2147483648 ≤ b) (h2 : a < 2147483648) : @ite α (zo a ≤ zo b) i x y = y := by
  rw [if_neg]; rw [zo_le (by omega) h2 h1 (by omega)]; omega
theorem iq_p {i : Decidable (zo a = zo b)} (h : a = b) : @ite α (zo a = zo b) i x y = x := by
  rw [if_pos]; rw [h]
theorem iq_n {i : Decidable (zo a = zo b)} (h : a < b ∨ b < a) (h1 : -2147483648 ≤ a) (h2 : -2147483648 ≤ b) (h3 : a < 2147483648) (h4 : b < 2147483648) : @ite α (zo a = zo b) i x y = y := by
  rw [if_neg]; rw [zo_eq h1 h3 h2 h4]; omega
end IFS
theorem bI_r (b : Bool) : 0 ≤ bI b ∧ bI b ≤ 1 := by cases b <;> decide

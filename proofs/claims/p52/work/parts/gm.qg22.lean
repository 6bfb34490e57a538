/-! THE LAW'S PURE SIDE 32: what holds at all times: the drains, the ended, the soap -/
section LU
variable {S : zS} {w : qW} {d f : Nat} {a : Rw} {Tm : Int}
theorem h392 (h : Cb (S.1 0 0) a) (hw : WF Tm a) (hl : LI a) {l4 : Int32} : ∀ (m q : Nat), q + m = (a 7).toNat → qy (d + 4) 43 (f + m + 1) 392 [some (za 1 0 0), some (zi (zo (a 0))), some (zi (zo (a 1))), none, some (zi l4), some (zi (zo (cnt a 0))), some (zi (zo (zsum (fun k => a (10 + 4 * k + 3)) q))), some (zi (zo (zsum (fun k => if wks a k = true then 1 else 0) q))), some (zi (zo (q : Int))), none, none, none, none, none] [] (S, w) = qy (d + 4) 43 f 547 [some (za 1 0 0), some (zi (zo (a 0))), some (zi (zo (a 1))), none, some (zi l4), some (zi (zo (cnt a 0))), none, none, some (zi (zo 0)), none, none, none, none, none] [] (S, w) := by
  have w7 := hw.1.2.2.2.2.2.2.2
  intro m
  induction m with
  | zero =>
    intro q hq
    have e1 : zsum (fun k => a (10 + 4 * k + 3)) q = cnt a 2 := by rw [← hl.2, show q = (a 7).toNat by omega]
    have e2 : zsum (fun k => if wks a k = true then 1 else 0) q = wkn a := by rw [show q = (a 7).toNat by omega]; rfl
    rw [qy43, e1, e2]
    simp (disch := omega) only [qe_43_392_1iioiiiiiooooo__424, qe_43_399_1iioiiiiiooooo_ii_420, qe_43_518_1iioiiiiiooooo_ii_415, qe_43_529_1iioiiiiiooooo_ii_410, qe_43_539_1iioiiiiiooooo_ii_405, ps_2 h hw, ps_7 h hw, ps_11 h hw, ps_5 h hw, ↓ie_p, ↓ie_n, ↓iq_p]
  | succ m ih =>
    intro q hq
    have hq7 : (q : Int) < a 7 := by omega
    have gd := hw.2.1 q hq7
    obtain ⟨cd1, cd2⟩ := cellr hw gd.1
    have i := ih (q + 1) (by omega)
    rw [show zsum (fun k => a (10 + 4 * k + 3)) (q + 1) = zsum (fun k => a (10 + 4 * k + 3)) q + a (10 + 4 * q + 3) from rfl, show zsum (fun k => if wks a k = true then 1 else 0) (q + 1) = zsum (fun k => if wks a k = true then 1 else 0) q + bI (wks a q) from rfl, show ((q + 1 : Nat) : Int) = (q : Int) + 1 from rfl] at i
    have wi := wks_iff hw hq7
    generalize zsum (fun k => a (10 + 4 * k + 3)) q = z1 at i ⊢
    generalize zsum (fun k => if wks a k = true then 1 else 0) q = z2 at i ⊢
    rw [show f + (m + 1) + 1 = (f + m + 1) + 1 by omega, qy43]
    simp (disch := omega) only [qe_43_392_1iioiiiiiooooo__424, qe_43_399_1iioiiiiiooooo_ii_420, qe_43_411_1iioiiiiiooooo_ii_414, qe_43_423_1iioiiiiiooooo_ii_407, qe_43_434_1iioiiiiiooooo_i1_400, qe_43_441_1iioiiiiiooooo_ii1_396, qe_43_444_1iioiiiiiooooo_i_395, qe_43_453_1iioiiiiiioooo_i_390, ps_2 h hw, pd_5 h hw hq7, pd_4 h hw hq7, pd_0 h hw hq7, pd_1 h hw hq7, po_0 h hw cd1, cd2, zo_add, ↓ie_p, ↓ie_n]
    have ob : occ a (a (10 + 4 * q)) (-1) = -1 ∨ ∃ j : Nat, occ a (a (10 + 4 * q)) (-1) = j ∧ (j : Int) < a 9 := by
      by_cases c : occ a (a (10 + 4 * q)) (-1) = -1
      · exact Or.inl c
      · obtain ⟨j, e1, e2, -⟩ := occ_at c
        exact Or.inr ⟨j, e1, e2⟩
    cases hk : wks a q with
    | true =>
      rw [hk] at i
      obtain ⟨k1, k2⟩ := wi.mp hk
      rw [show bI true = 1 from rfl] at i ⊢
      rw [iq_p rfl, pd_3 h hw hq7, qe_43_469_1iioiiiiiioooo_ii_382, ie_n (by omega) (by omega) (by omega)]
      rcases ob with e | ⟨j, e, j9⟩
      · rw [e, il_p (by omega) (by omega) (by omega), iq_p rfl, zo_add]
        exact i
      · have gj := hw.2.2.2.1 j j9
        rw [e, Int.toNat_natCast] at k2
        rw [e, il_n (by omega) (by omega) (by omega), pb_2 h hw j9, qe_43_484_1iioiiiiiioooo_ii_375, pd_2 h hw hq7, qe_43_491_1iioiiiiiioooo_iii_371, il_n (by omega) (by omega) (by omega), iq_p rfl, zo_add]
        exact i
    | false =>
      rw [hk] at i
      have wi2 := mt wi.mpr (by rw [hk]; decide)
      rw [show bI false = 0 from rfl] at i ⊢
      rw [iq_n (by omega) (by omega) (by omega) (by omega) (by omega), pd_3 h hw hq7, qe_43_469_1iioiiiiiioooo_ii_383]
      by_cases c : a (10 + 4 * q + 2) ≤ 0
      · rw [ie_p (by omega) (by omega) (by omega), iq_p rfl, zo_add]
        exact i
      · rw [ie_n (by omega) (by omega) (by omega)]
        rcases ob with e | ⟨j, e, j9⟩
        · omega
        · have gj := hw.2.2.2.1 j j9
          rw [e, Int.toNat_natCast] at wi2
          rw [e, il_n (by omega) (by omega) (by omega), pb_2 h hw j9, qe_43_484_1iioiiiiiioooo_ii_376, pd_2 h hw hq7, qe_43_491_1iioiiiiiioooo_iii_372, il_p (by omega) (by omega) (by omega), iq_p rfl, zo_add]
          exact i
theorem h547 (h : Cb (S.1 0 0) a) (hw : WF Tm a) {l5 : Int32} : ∀ (m q : Nat), q + m = (nen a).toNat → qy (d + 4) 43 (f + m + 1) 547 [some (za 1 0 0), some (zi (zo (a 0))), some (zi (zo (a 1))), none, some (zi (zo (nen a))), some (zi l5), none, none, some (zi (zo (q : Int))), none, none, none, none, none] [] (S, w) = qy (d + 4) 43 f 702 [some (za 1 0 0), some (zi (zo (a 0))), some (zi (zo (a 1))), none, none, some (zi l5), none, none, some (zi (zo 0)), some (zi (zo 0)), some (zi (zo 0)), none, none, none] [] (S, w) := by
  have w0 := hw.1.1
  have w1 := hw.1.2.1
  have w6 := hw.1.2.2.2.2.2.2.1
  have w7 := hw.1.2.2.2.2.2.2.2
  have nb := nen_b hw
  intro m
  induction m with
  | zero =>
    intro q hq
    rw [qy43, qe_43_547_1iioiiooiooooo__424, ie_p (by omega) (by omega) (by omega)]
  | succ m ih =>
    intro q hq
    have hqn : 0 ≤ (q : Int) ∧ (q : Int) < nen a := by omega
    obtain ⟨b, b1, b2, b3, b4⟩ := end_at h hqn.2
    have gb := hw.2.2.2.1 b b2
    obtain ⟨cb1, cb2⟩ := cellr hw gb.1
    have i := ih (q + 1) (by omega)
    rw [show ((q + 1 : Nat) : Int) = (q : Int) + 1 from rfl] at i
    rw [show f + (m + 1) + 1 = (f + m + 1) + 1 by omega, qy43]
    simp (disch := omega) only [qe_43_547_1iioiiooiooooo__424, qe_43_561_1iioiiooiooooo_i_417, qe_43_570_1iioiiooiioooo_i_412, qe_43_578_1iioiiooiioooo_ii_408, qe_43_588_1iioiiooiioooo_i_403, qe_43_596_1iioiiooiioooo_ii_399, qe_43_606_1iioiiooiioooo_i_394, qe_43_614_1iioiiooiioooo_iii_389, qe_43_622_1iioiiooiioooo_iii_384, pe_0 h hw, pe_1 h hw, pe_2 h hw, pe_3 h hw, b1, Int.toNat_natCast, pb_8 h hw b2, pb_7 h hw b2, pb_1 h hw b2, pb_0 h hw b2, cb2, zo_add, zo_mul, ↓ie_p, ↓ie_n, ↓iq_p]
    by_cases c : q = 0
    · rw [ie_p (by omega) (by omega) (by omega)]
      exact i
    · have hqp : ((q - 1 : Nat) : Int) < nen a := by omega
      obtain ⟨p, p1, p2, p3, p4⟩ := end_at h hqp
      have gp := hw.2.2.2.1 p p2
      have lt := end_lt p2 p3 b2 b3 (by rw [p4, b4]; omega)
      have eq1 : (q : Int) - 1 = ((q - 1 : Nat) : Int) := by omega
      rw [ie_n (by omega) (by omega) (by omega)]
      simp (disch := omega) only [qe_43_640_1iioiiooiioooo_i_376, qe_43_649_1iioiiooiioooo_ii_370, qe_43_659_1iioiiooiioooo_i_365, qe_43_668_1iioiiooiioooo_ii_359, pe_1 h hw, b1, zo_sub, eq1, p1, Int.toNat_natCast, ↓il_n]
      by_cases c2 : a (40 + 10 * b + 7) = a (40 + 10 * p + 7)
      · rw [iq_p c2, pe_0 h hw (p := ((q - 1 : Nat) : Int)) (by omega), p1, qe_43_682_1iioiiooiioooo_ii_351, il_p (by omega) (by omega) (by omega), zo_add]
        exact i
      · rw [iq_n (by omega) (by omega) (by omega) (by omega) (by omega), zo_add]
        exact i
theorem h702 (h : Cb (S.1 0 0) a) (hw : WF Tm a) : ∀ (m q : Nat), q + m = (a 0 * a 1).toNat → qy (d + 4) 43 (f + m + 1) 702 [some (za 1 0 0), some (zi (zo (a 0))), some (zi (zo (a 1))), none, none, some (zi (zo (cnt a 0))), none, none, some (zi (zo (zsum (isb a) q))), some (zi (zo (zsum (fun k => a (160 + k)) q))), some (zi (zo (q : Int))), none, none, none] [] (S, w) = some (some (zi (zo 1)), (S, w)) := by
  have w0 := hw.1.1
  have w1 := hw.1.2.1
  have wn := WF_nc hw
  intro m
  induction m with
  | zero =>
    intro q hq
    have e1 : zsum (isb a) q = cnt a 0 := by rw [← isb_cnt hw, show q = (a 0 * a 1).toNat by omega]
    have e2 : zsum (fun k => a (160 + k)) q = spm a := by rw [show q = (a 0 * a 1).toNat by omega]; rfl
    rw [qy43, e1, e2]
    simp (disch := omega) only [qe_43_702_1iiooiooiiiooo__424, qe_43_791_1iiooiooiiiooo_ii_412, ps_12 h hw, zo_mul, ↓ie_p, ↓ie_n, ↓iq_p]
  | succ m ih =>
    intro q hq
    have hq9 : 0 ≤ (q : Int) ∧ (q : Int) < a 0 * a 1 := by omega
    obtain ⟨cb1, cb2⟩ := cellr hw hq9
    have gs := hw.2.2.2.2.1 q hq9.2
    have og := occ_ge a (q : Int) (-1)
    have ol := occ_lt (a := a) (q : Int) (-1) (by have := hw.1.2.2.2.2.2.2.2.2.2; omega)
    have w9 := hw.1.2.2.2.2.2.2.2.2.2
    have i := ih (q + 1) (by omega)
    rw [show zsum (isb a) (q + 1) = zsum (isb a) q + isb a q from rfl, show zsum (fun k => a (160 + k)) (q + 1) = zsum (fun k => a (160 + k)) q + a (160 + q) from rfl, show ((q + 1 : Nat) : Int) = (q : Int) + 1 from rfl] at i
    generalize zsum (isb a) q = z1 at i ⊢
    generalize zsum (fun k => a (160 + k)) q = z2 at i ⊢
    rw [show f + (m + 1) + 1 = (f + m + 1) + 1 by omega, qy43]
    simp (disch := omega) only [qe_43_702_1iiooiooiiiooo__424, qe_43_722_1iiooiooiiiooo_i_411, qe_43_759_1iiooiooiiiioo_ii_392, zo_mul, ↓zo_mod, zo_div, pc_0 h hw cb1, po_0 h hw cb1, cb2, Int.toNat_natCast, zo_add, ↓ie_p, ↓ie_n, ↓il_n, ↓iq_n]
    unfold isb at i
    by_cases c : occ a (q : Int) (-1) < 0
    · rw [if_pos c] at i
      rw [il_p c (by omega) (by omega)]
      exact i
    · rw [if_neg c] at i
      rw [il_n (by omega) (by omega) (by omega)]
      exact i
/-- what holds at all times, holds -/
theorem Q43 (h : Cb (S.1 0 0) a) (hw : WF Tm a) (hl : LI a) : q_sem zF (d + 5) 43 [za 1 0 0] (S, w) = some (some (zi (zo 1)), (S, w)) := by
  have w2 := hw.1.2.2.1
  have w7 := hw.1.2.2.2.2.2.2.2
  have nb := nen_b hw
  have wn := WF_nc hw
  have ca := cnt_all hw
  obtain ⟨f, hf⟩ : ∃ f, zF1 = f + 1000 := ⟨zF1 - 1000, by have := zF1_big; omega⟩
  obtain ⟨f1, k1, k2⟩ := h79 (d := d) (w := w) h hw hl (a 9).toNat 0 (f + 1000) (by omega) (by omega)
  obtain ⟨f2, k3⟩ : ∃ f2, f1 = f2 + (a 7).toNat + 1 := ⟨f1 - (a 7).toNat - 1, by omega⟩
  obtain ⟨f3, k4⟩ : ∃ f3, f2 = f3 + (nen a).toNat + 1 := ⟨f2 - (nen a).toNat - 1, by omega⟩
  obtain ⟨f4, k5⟩ : ∃ f4, f3 = f4 + (a 0 * a 1).toNat + 1 := ⟨f3 - (a 0 * a 1).toNat - 1, by omega⟩
  rw [qn_43_1ooooooooooooo, hf]
  simp (disch := omega) only [qe_43_0_1ooooooooooooo__424, qe_43_5_1ooooooooooooo_i_421, qe_43_11_1ioooooooooooo_i_417, qe_43_17_1iiooooooooooo_i_413, qe_43_36_1iiiiiiioooooo_i_401, qe_43_45_1iiiiiiioooooo_i_397, qe_43_56_1iiiiiiioooooo_i_392, qe_43_62_1iiiiiiioooooo_ii_389, qe_43_69_1iiiiiiioooooo_ii_385, ps_0 h hw, ps_1 h hw, ps_4 h hw, ps_9 h hw, ps_5 h hw, ps_6 h hw, ps_7 h hw, zo_add, ↓il_n, ↓iq_p]
  refine Eq.trans k2 ?_
  rw [k3]
  refine (h392 (f := f2) h hw hl (a 7).toNat 0 (by omega)).trans ?_
  rw [k4]
  refine (h547 (f := f3) h hw (nen a).toNat 0 (by omega)).trans ?_
  rw [k5]
  exact h702 (f := f4) h hw (a 0 * a 1).toNat 0 (by omega)
end LU

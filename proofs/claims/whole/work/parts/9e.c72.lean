/-! THE PURE SIDE 72: the law's loop: the plain questions (written by tools/gen72.py) -/
section DX
variable {S S' : zS} {n len k tn : Nat} {a s : Rw} {T fl ep : Int} {u : Nat → Rw} {f : Bool} {fb tx : Nat → Int} {pc cut W M : Nat} {av : List zV}
theorem RM5 {S S' : zS} (h : RM S S') : S'.1 5 = S.1 5 := by funext n o j; exact h.2 5 n o j (by omega) (by omega)
theorem RC5 {S S' : zS} (h : RC S S') : S'.1 5 = S.1 5 := by funext n o j; exact h.1 5 n o j (by omega) (by omega)
theorem dcs {x : UInt32} (h : FP.fIsNaN x = false) : Op.cmpValue (FP.dcmp (FP.f2d x) (FP.f2d x)) .l = zo 0 := by
  have e : FP.f2d x = FP.Core.f2d x := if_neg (by rw [show FP.Core.fIsNaN x = false from h]; decide)
  have h2 : FP.Core.dIsNaN (FP.Core.f2d x) = false := FP.Core.f2d_out h
  have h3 : FP.Core.val64 (FP.Core.f2d x) ≠ .nan := by
    intro z
    have := (FP.Core.dIsNaN_iff (FP.Core.f2d x)).mpr z
    rw [h2] at this
    cases this
  rw [e, show FP.dcmp (FP.Core.f2d x) (FP.Core.f2d x) = some .eq from FP.Core.dcmp_self h3]
  rfl
theorem st_1120 (hI : Iv T S a k u f s fl fb tn tx ep) (hT : T + 400 ≤ 1000000) (hl : S.1 5 0 1 0 = zo (len : Nat)) (hn : n + 6 ≤ len) (hb : len ≤ 3072) : Stz n T S 1120 := by
  obtain ⟨S1, p1, p2⟩ := A103 (d := 36) hI.1.1.1 hI.2.2.1
  have p1 : zr_sem zF 41 103 [za 1 0 0] S = some (.inl (some (zi (zo _))), S1) := p1
  have I1 := Iv_RC hI p2
  have h := I1.2.1.1.1
  have h8 := I1.2.1.2.1
  obtain ⟨S2, w, q1, q2, q3, q4⟩ := B205 (d := 34) h hI.2.2.1
  exact Stz_d (fun q => by rw [zMj_1120, p1, zr1, q1, zr1, q3 rfl, if_pos rfl]) (Iv_RM I1 q4) ((RM5 q4).trans (RC5 p2)) (Nat.le_trans (zg_l (by decide) q1) (zg_x (by decide) p1))
theorem st_1269 (hI : Iv T S a k u f s fl fb tn tx ep) (hT : T + 400 ≤ 1000000) (hl : S.1 5 0 1 0 = zo (len : Nat)) (hn : n + 6 ≤ len) (hb : len ≤ 3072) : Stz n T S 1269 := by
  obtain ⟨S1, p1, p2⟩ := A106 (d := 38) hI.1.1.1 hI.2.2.1
  have p1 : zr_sem zF 41 106 [za 1 0 0] S = some (.inl (some (zi (zo _))), S1) := p1
  have I1 := Iv_RC hI p2
  have h := I1.2.1.1.1
  have h8 := I1.2.1.2.1
  obtain ⟨S2, w, q1, q2, q3, q4⟩ := B210 (d := 37) h hI.2.2.1
  exact Stz_d (fun q => by rw [zMj_1269, p1, zr1, q1, zr1, q3 rfl, if_pos rfl]) (Iv_RM I1 q4) ((RM5 q4).trans (RC5 p2)) (Nat.le_trans (zg_l (by decide) q1) (zg_x (by decide) p1))
theorem st_1554 (hI : Iv T S a k u f s fl fb tn tx ep) (hT : T + 400 ≤ 1000000) (hl : S.1 5 0 1 0 = zo (len : Nat)) (hn : n + 6 ≤ len) (hb : len ≤ 3072) : Stz n T S 1554 := by
  obtain ⟨S1, p1, p2⟩ := A116 (d := 34) hI.1.1.1 hI.2.2.1 hT (hI.1.1.2.2.2 1 (by decide))
  have p1 : zr_sem zF 41 116 [za 1 0 0] S = some (.inl (some (zi (zo _))), S1) := p1
  have I1 := Iv_RC hI p2
  have h := I1.2.1.1.1
  have h8 := I1.2.1.2.1
  obtain ⟨S2, w, q1, q2, q3, q4⟩ := B221 (d := 32) h h8 hI.2.2.1 hT
  exact Stz_d (fun q => by rw [zMj_1554, p1, zr1, q1, zr1, q3 rfl, if_pos rfl]) (Iv_RM I1 q4) ((RM5 q4).trans (RC5 p2)) (Nat.le_trans (zg_l (by decide) q1) (zg_x (by decide) p1))
theorem st_1827 (hI : Iv T S a k u f s fl fb tn tx ep) (hT : T + 400 ≤ 1000000) (hl : S.1 5 0 1 0 = zo (len : Nat)) (hn : n + 6 ≤ len) (hb : len ≤ 3072) : Stz n T S 1827 := by
  obtain ⟨S1, p1, p2⟩ := A121 (d := 33) hI.1.1.1 hI.2.2.1 hT (hI.1.1.2.2.2 1 (by decide))
  have p1 : zr_sem zF 41 121 [za 1 0 0] S = some (.inl (some (zi (zo _))), S1) := p1
  have I1 := Iv_RC hI p2
  have h := I1.2.1.1.1
  have h8 := I1.2.1.2.1
  obtain ⟨S2, w, q1, q2, q3, q4⟩ := B226 (d := 30) h h8 hI.2.2.1 hT
  exact Stz_d (fun q => by rw [zMj_1827, p1, zr1, q1, zr1, q3 rfl, if_pos rfl]) (Iv_RM I1 q4) ((RM5 q4).trans (RC5 p2)) (Nat.le_trans (zg_l (by decide) q1) (zg_x (by decide) p1))
theorem st_1840 (hI : Iv T S a k u f s fl fb tn tx ep) (hT : T + 400 ≤ 1000000) (hl : S.1 5 0 1 0 = zo (len : Nat)) (hn : n + 6 ≤ len) (hb : len ≤ 3072) : Stz n T S 1840 := by
  have p1 := A108 (d := 38) hI.1.1.1 hI.2.2.1
  have p2 := B227 (d := 38) hI.2.1.1.1 hI.2.2.1
  refine Stz_i (cut := 1878) (S' := mt S 0) (fun _ => zM_1878) (fun q => ?_) (Iv_RM hI (RM_mt S 0)) (RM5 (RM_mt S 0)) (Nat.le_succ _)
  rw [zMj_1840, p1, zr4, p2, zr4]
  by_cases c : Op.cmpValue (FP.dcmp (sofD a) (sofD a)) .l = zo 0
  · rw [if_pos c]
  · rw [if_neg c, if_neg c, if_neg c]
theorem st_1881 (hI : Iv T S a k u f s fl fb tn tx ep) (hT : T + 400 ≤ 1000000) (hl : S.1 5 0 1 0 = zo (len : Nat)) (hn : n + 6 ≤ len) (hb : len ≤ 3072) : Stz n T S 1881 := by
  have p1 := A109 (d := 38) hI.1.1.1 hI.2.2.1
  have p2 := B228 (d := 38) hI.2.1.1.1 hI.2.2.1
  refine Stz_i (cut := 1921) (S' := mt S 0) (fun _ => zM_1921) (fun q => ?_) (Iv_RM hI (RM_mt S 0)) (RM5 (RM_mt S 0)) (Nat.le_succ _)
  have nn : ¬ FP.fIsNaN (ashF a) = true := by
    unfold ashF
    split
    · decide
    · rename_i c
      rw [ash_nan hI.2.2.1 c]; decide
  rw [zMj_1881, p1, zr3, if_neg nn, p2, zr3, if_neg nn]
  by_cases c : Op.cmpValue (FP.dcmp (FP.f2d (ashF a)) (FP.f2d (ashF a))) .l = zo 0
  · rw [if_pos c]
  · rw [if_neg c, if_neg c, if_neg c]
theorem st_1036 (hI : Iv T S a k u f s fl fb tn tx ep) (hT : T + 400 ≤ 1000000) (hl : S.1 5 0 1 0 = zo (len : Nat)) (hn : n + 6 ≤ len) (hb : len ≤ 3072) : Stz n T S 1036 := by
  obtain ⟨P1, E1, G11, G12⟩ := i32 (S.1 5 0 0 (zo ((n : Int) + 1)).toNatClampNeg)
  intro kk hk
  obtain ⟨kk, rfl⟩ : ∃ k', kk = k' + 3 := ⟨kk - 3, by omega⟩
  by_cases c : S.1 5 0 0 (zo ((n : Int) + 2)).toNatClampNeg = zo 0
  · obtain ⟨S', ⟨S1, x, w, p1, p2, p3, p4, p5, p6⟩, c2, cg⟩ := cQ (d := 40) (M := 204) hI (wr_307 (xa := zo P1) (xb := zo 0)) (A102 (d := 36) (q := 0) hI.1.1.1 hI.2.2.1 G11 G12 (by omega)) (fun S1 h h8 => B204 (d := 34) (q := 0) h hI.2.2.1 G11 G12 (by omega)) Qm_N (by decide) (by decide)
    have p1 : zr_sem zF 41 307 [za 1 0 0, zi (zo P1), zi (zo 0), za 4 0 0] S = _ := p1
    have p3 : zr_sem zF 41 204 [za 3 0 0, zi (zo P1), zi (zo 0)] S1 = _ := p3
    refine ⟨S', a, k, u, f, s, fl, fb, tn, tx, ep, kk, by omega, ?_, c2, p6, cg⟩
    rw [zMj_1036, zo_add (n : Int) 1, zo_add (n : Int) 2, hl, zin_ok (by omega) (by omega) (by omega), zin_ok (by omega) (by omega) (by omega), if_pos c, E1, zMs_1057 (r := 0) (l6 := 0), p1, zr1, zo_add (n : Int) 1, zo_add (n : Int) 2, p2, hl, zin_ok (by omega) (by omega) (by omega), zin_ok (by omega) (by omega) (by omega), if_pos c, E1]
    refine Eq.trans (zMs_1084 (k := kk + 1) (r := 0)) ?_
    rw [p3, zr1, m145, zr1, p4, if_pos rfl]
    by_cases hx : x = zo 0
    · rw [if_pos hx, if_pos rfl, p5 hx, lgc, if_pos rfl, zM_1117]
    · rw [if_neg hx, zM_1117]
  · obtain ⟨S', ⟨S1, x, w, p1, p2, p3, p4, p5, p6⟩, c2, cg⟩ := cQ (d := 40) (M := 204) hI (wr_307 (xa := zo P1) (xb := zo 1)) (A102 (d := 36) (q := 1) hI.1.1.1 hI.2.2.1 G11 G12 (by omega)) (fun S1 h h8 => B204 (d := 34) (q := 1) h hI.2.2.1 G11 G12 (by omega)) Qm_N (by decide) (by decide)
    have p1 : zr_sem zF 41 307 [za 1 0 0, zi (zo P1), zi (zo 1), za 4 0 0] S = _ := p1
    have p3 : zr_sem zF 41 204 [za 3 0 0, zi (zo P1), zi (zo 1)] S1 = _ := p3
    refine ⟨S', a, k, u, f, s, fl, fb, tn, tx, ep, kk, by omega, ?_, c2, p6, cg⟩
    rw [zMj_1036, zo_add (n : Int) 1, zo_add (n : Int) 2, hl, zin_ok (by omega) (by omega) (by omega), zin_ok (by omega) (by omega) (by omega), if_neg c, E1, zMs_1057 (r := 0) (l6 := 0), p1, zr1, zo_add (n : Int) 1, zo_add (n : Int) 2, p2, hl, zin_ok (by omega) (by omega) (by omega), zin_ok (by omega) (by omega) (by omega), if_neg c, E1]
    refine Eq.trans (zMs_1084 (k := kk + 1) (r := 0)) ?_
    rw [p3, zr1, m145, zr1, p4, if_pos rfl]
    by_cases hx : x = zo 0
    · rw [if_pos hx, if_pos rfl, p5 hx, lgc, if_pos rfl, zM_1117]
    · rw [if_neg hx, zM_1117]
set_option maxRecDepth 100000 in
theorem we_306 {d : Nat} {S : zS} {xa xb xc : Int32} : ∃ H : Nat → zS → Option zO, zr_sem zF (d + 1) 306 [za 1 0 0, zi xa, zi xb, zi xc, za 4 0 1] S = zx_ret3 (zr_sem zF d 101 [za 1 0 0, zi xa, zi xb, zi xc] S) (fun x S1 => if FP.fIsNaN x = true then none else some (.inl (some (zi (zo 0))), zsd S1 (FP.f2d x))) H ∧ (∀ S1, H 1 S1 = some (.inl (some (zi (zo 1))), S1)) := ⟨_, (zr_y (lv := [some (za 1 0 0), some (zi xa), some (zi xb), some (zi xc), some (za 4 0 1), none]) rfl rfl).trans rfl, fun _ => rfl⟩
abbrev fl_ (a : Rw) (x y dir : Int) : UInt32 := Jvm.Pilot.CBathBoatsLaw_law_r3355_45b8df.fl a (a 0 * y + x) dir
theorem zsd1 (S : zS) (x : UInt64) : (zsd S x).1 = S.1 := rfl
theorem st_918 (hI : Iv T S a k u f s fl fb tn tx ep) (hT : T + 400 ≤ 1000000) (hl : S.1 5 0 1 0 = zo (len : Nat)) (hn : n + 6 ≤ len) (hb : len ≤ 3072) : Stz n T S 918 := by
  obtain ⟨P1, E1, G11, G12⟩ := i32 (S.1 5 0 0 (zo ((n : Int) + 1)).toNatClampNeg)
  obtain ⟨P2, E2, G21, G22⟩ := i32 (S.1 5 0 0 (zo ((n : Int) + 2)).toNatClampNeg)
  intro kk hk
  obtain ⟨kk, rfl⟩ : ∃ k', kk = k' + 3 := ⟨kk - 3, by omega⟩
  by_cases c : S.1 5 0 0 (zo ((n : Int) + 3)).toNatClampNeg = zo 0
  · obtain ⟨S1, p1, p2⟩ := A101 (d := 36) (q := 0) hI.1.1.1 hI.2.2.1 G11 G12 G21 G22 (by omega)
    have I1 := Iv_RC hI p2
    have g1 := zg_x (by decide) p1
    obtain ⟨H, w1, w2⟩ := we_306 (d := 40) (S := S) (xa := zo P1) (xb := zo P2) (xc := zo 0)
    have q1 := B203 (d := 35) (S := S1) (q := 0) I1.2.1.1.1 hI.2.2.1 G11 G12 G21 G22 (by omega)
    by_cases v : vC a P1 P2
    · have gd := fl_gd hI.2.2.1 (cel_inN v).1 (cel_inN v).2 (1 - 0)
      have nn := fgd_nan gd
      have hd := dcs nn
      have nn' : ¬ FP.fIsNaN (fl_ a P1 P2 (1 - 0)) = true := by
        show ¬ FP.fIsNaN _ = true
        rw [show FP.fIsNaN (fl_ a P1 P2 (1 - 0)) = false from nn]; decide
      rw [if_pos v] at p1
      rw [p1] at w1
      have w1 : zr_sem zF 41 306 [za 1 0 0, zi (zo P1), zi (zo P2), zi (zo 0), za 4 0 1] S = some (.inl (some (zi (zo 0))), zsd S1 (FP.f2d (fl_ a P1 P2 (1 - 0)))) := w1.trans (if_neg nn')
      have q1 := B203 (d := 35) (S := zsd S1 (FP.f2d (fl_ a P1 P2 (1 - 0)))) (q := 0) I1.2.1.1.1 hI.2.2.1 G11 G12 G21 G22 (by omega)
      rw [if_pos v] at q1
      have I2 : Iv T (zsd S1 (FP.f2d (fl_ a P1 P2 (1 - 0)))) a k u f s fl fb tn tx ep := I1
      have I3 := Iv_RM I2 (RM_mt _ 0)
      refine ⟨_, a, k, u, f, s, fl, fb, tn, tx, ep, kk, by omega, ?_, I3, (RM5 (RM_mt _ 0)).trans (RC5 p2), g1⟩
      rw [zMj_918, zo_add (n : Int) 1, zo_add (n : Int) 2, zo_add (n : Int) 3, hl, zin_ok (by omega) (by omega) (by omega), zin_ok (by omega) (by omega) (by omega), zin_ok (by omega) (by omega) (by omega), if_pos c, E1, E2, zMs_945 (l6 := 0), w1, zr1, zo_add (n : Int) 1, zo_add (n : Int) 2, zo_add (n : Int) 3, zsd1, RC5 p2, hl, zin_ok (by omega) (by omega) (by omega), zin_ok (by omega) (by omega) (by omega), zin_ok (by omega) (by omega) (by omega), if_pos c, E1, E2]
      refine Eq.trans (zMs_979 (k := kk + 1)) ?_
      rw [q1, zr3, m145, zr1, mt_10, if_pos rfl, if_pos rfl, if_pos (by decide), if_neg nn']
      refine Eq.trans (if_pos hd) zM_1033
    · rw [if_neg v] at p1
      rw [p1] at w1
      have w1 := w1.trans (w2 S1)
      rw [if_neg v] at q1
      have I3 := Iv_RM I1 (RM_mt S1 1)
      refine ⟨_, a, k, u, f, s, fl, fb, tn, tx, ep, kk, by omega, ?_, I3, (RM5 (RM_mt S1 1)).trans (RC5 p2), g1⟩
      rw [zMj_918, zo_add (n : Int) 1, zo_add (n : Int) 2, zo_add (n : Int) 3, hl, zin_ok (by omega) (by omega) (by omega), zin_ok (by omega) (by omega) (by omega), zin_ok (by omega) (by omega) (by omega), if_pos c, E1, E2, zMs_945 (l6 := 0), w1, zr1, zo_add (n : Int) 1, zo_add (n : Int) 2, zo_add (n : Int) 3, RC5 p2, hl, zin_ok (by omega) (by omega) (by omega), zin_ok (by omega) (by omega) (by omega), zin_ok (by omega) (by omega) (by omega), if_pos c, E1, E2]
      refine Eq.trans (zMs_979 (k := kk + 1)) ?_
      rw [q1, zr3, m145, zr1, mt_10, if_pos rfl, if_neg (by decide), zM_1033]
  · obtain ⟨S1, p1, p2⟩ := A101 (d := 36) (q := 1) hI.1.1.1 hI.2.2.1 G11 G12 G21 G22 (by omega)
    have I1 := Iv_RC hI p2
    have g1 := zg_x (by decide) p1
    obtain ⟨H, w1, w2⟩ := we_306 (d := 40) (S := S) (xa := zo P1) (xb := zo P2) (xc := zo 1)
    have q1 := B203 (d := 35) (S := S1) (q := 1) I1.2.1.1.1 hI.2.2.1 G11 G12 G21 G22 (by omega)
    by_cases v : vC a P1 P2
    · have gd := fl_gd hI.2.2.1 (cel_inN v).1 (cel_inN v).2 (1 - 1)
      have nn := fgd_nan gd
      have hd := dcs nn
      have nn' : ¬ FP.fIsNaN (fl_ a P1 P2 (1 - 1)) = true := by
        show ¬ FP.fIsNaN _ = true
        rw [show FP.fIsNaN (fl_ a P1 P2 (1 - 1)) = false from nn]; decide
      rw [if_pos v] at p1
      rw [p1] at w1
      have w1 : zr_sem zF 41 306 [za 1 0 0, zi (zo P1), zi (zo P2), zi (zo 1), za 4 0 1] S = some (.inl (some (zi (zo 0))), zsd S1 (FP.f2d (fl_ a P1 P2 (1 - 1)))) := w1.trans (if_neg nn')
      have q1 := B203 (d := 35) (S := zsd S1 (FP.f2d (fl_ a P1 P2 (1 - 1)))) (q := 1) I1.2.1.1.1 hI.2.2.1 G11 G12 G21 G22 (by omega)
      rw [if_pos v] at q1
      have I2 : Iv T (zsd S1 (FP.f2d (fl_ a P1 P2 (1 - 1)))) a k u f s fl fb tn tx ep := I1
      have I3 := Iv_RM I2 (RM_mt _ 0)
      refine ⟨_, a, k, u, f, s, fl, fb, tn, tx, ep, kk, by omega, ?_, I3, (RM5 (RM_mt _ 0)).trans (RC5 p2), g1⟩
      rw [zMj_918, zo_add (n : Int) 1, zo_add (n : Int) 2, zo_add (n : Int) 3, hl, zin_ok (by omega) (by omega) (by omega), zin_ok (by omega) (by omega) (by omega), zin_ok (by omega) (by omega) (by omega), if_neg c, E1, E2, zMs_945 (l6 := 0), w1, zr1, zo_add (n : Int) 1, zo_add (n : Int) 2, zo_add (n : Int) 3, zsd1, RC5 p2, hl, zin_ok (by omega) (by omega) (by omega), zin_ok (by omega) (by omega) (by omega), zin_ok (by omega) (by omega) (by omega), if_neg c, E1, E2]
      refine Eq.trans (zMs_979 (k := kk + 1)) ?_
      rw [q1, zr3, m145, zr1, mt_10, if_pos rfl, if_pos rfl, if_pos (by decide), if_neg nn']
      refine Eq.trans (if_pos hd) zM_1033
    · rw [if_neg v] at p1
      rw [p1] at w1
      have w1 := w1.trans (w2 S1)
      rw [if_neg v] at q1
      have I3 := Iv_RM I1 (RM_mt S1 1)
      refine ⟨_, a, k, u, f, s, fl, fb, tn, tx, ep, kk, by omega, ?_, I3, (RM5 (RM_mt S1 1)).trans (RC5 p2), g1⟩
      rw [zMj_918, zo_add (n : Int) 1, zo_add (n : Int) 2, zo_add (n : Int) 3, hl, zin_ok (by omega) (by omega) (by omega), zin_ok (by omega) (by omega) (by omega), zin_ok (by omega) (by omega) (by omega), if_neg c, E1, E2, zMs_945 (l6 := 0), w1, zr1, zo_add (n : Int) 1, zo_add (n : Int) 2, zo_add (n : Int) 3, RC5 p2, hl, zin_ok (by omega) (by omega) (by omega), zin_ok (by omega) (by omega) (by omega), zin_ok (by omega) (by omega) (by omega), if_neg c, E1, E2]
      refine Eq.trans (zMs_979 (k := kk + 1)) ?_
      rw [q1, zr3, m145, zr1, mt_10, if_pos rfl, if_neg (by decide), zM_1033]
end DX

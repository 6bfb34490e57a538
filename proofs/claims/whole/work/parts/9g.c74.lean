/-! THE PURE SIDE 74: the law's loop: feed, load, query -/
section DZ
variable {S S' : zS} {n len k tn : Nat} {a s : Rw} {T fl ep : Int} {u : Nat → Rw} {f : Bool} {fb tx : Nat → Int} {pc cut W M : Nat} {av : List zV}
/-- feed -/
theorem st_256 (hI : Iv T S a k u f s fl fb tn tx ep) (hT : T + 400 ≤ 1000000) (hl : S.1 5 0 1 0 = zo (len : Nat)) (hn : n + 6 ≤ len) (hb : len ≤ 3072) : Stz n T S 256 := by
  have w := hI.2.2
  obtain ⟨i1, i2, i3, i4, i5, i6, i7, i8, ⟨i9, i10⟩, i11⟩ := hI.1
  obtain ⟨x1, hx1⟩ : ∃ x1, x1 = S.1 5 0 0 (zo ((n : Int) + 1)).toNatClampNeg := ⟨_, rfl⟩
  obtain ⟨x2, hx2⟩ : ∃ x2, x2 = S.1 5 0 0 (zo ((n : Int) + 2)).toNatClampNeg := ⟨_, rfl⟩
  obtain ⟨x3, hx3⟩ : ∃ x3, x3 = S.1 5 0 0 (zo ((n : Int) + 3)).toNatClampNeg := ⟨_, rfl⟩
  obtain ⟨x4, hx4⟩ : ∃ x4, x4 = S.1 5 0 0 (zo ((n : Int) + 4)).toNatClampNeg := ⟨_, rfl⟩
  obtain ⟨x5, hx5⟩ : ∃ x5, x5 = S.1 5 0 0 (zo ((n : Int) + 5)).toNatClampNeg := ⟨_, rfl⟩
  have hA := A89 (d := 38) (xa := x1) (xb := x2) (xc := x3) (xd := x4) (xe := x5) i6 w.2.2.2.2.1 i7
  by_cases c : tn + 20 ≤ 700
  · rw [if_pos c] at hA
    obtain ⟨S1, p1, p2, p3, p4, p5⟩ := hA
    have b0 : ∀ m, S1.1 0 m = S.1 0 m := fun m => by funext o j; exact p5 0 m o j (by omega)
    have hC1 : IC S1 a k u f s fl fb (tn + 20) (fdT tx tn (wds x1 x2 x3 x4 x5)) ep := by
      obtain ⟨y0, ⟨y, y1, y2, y3, y4⟩, y5, y6⟩ := i1
      exact ⟨⟨by rw [b0]; exact y0, ⟨y, y1, by rw [p5 _ _ _ _ (by omega)]; exact y2, by rw [p5 _ _ _ _ (by omega)]; exact y3, fun i hi => by rw [b0]; exact y4 i hi⟩, y5, fun n hn => by rw [b0]; exact y6 n hn⟩, by rw [p5 _ _ _ _ (by omega)]; exact i2, fun z => by rw [b0]; exact i3 z, by rw [p5 _ _ _ _ (by omega)]; exact i4, fun j hj => by rw [p5 _ _ _ _ (by omega)]; exact i5 j hj, p2, p3, by rw [p5 _ _ _ _ (by omega)]; exact i8, ⟨by rw [p5 _ _ _ _ (by omega)]; exact i9, by rw [p5 _ _ _ _ (by omega)]; exact i10⟩, by rw [p5 _ _ _ _ (by omega)]; exact i11⟩
    have hM1 : IM S1 a k u f s fl fb tn tx ep := IM_C hI.2.1 (fun k n o j hk => p5 k n o j (by omega))
    obtain ⟨⟨⟨j1, j1b, j1c⟩, ⟨j1d, j1e, j1f⟩⟩, j2, j3, j4, j5, j6, j7, j8, j9⟩ := hM1
    have hB := B254 (d := 40) (xa := x1) (xb := x2) (xc := x3) (xd := x4) (xe := x5) j7 w.2.2.2.2.1 j8
    rw [if_pos c] at hB
    obtain ⟨S2, q1, q2, q3, q4, q5, q6⟩ := hB
    have hM2 : IM S2 a k u f s fl fb (tn + 20) (fdT tx tn (wds x1 x2 x3 x4 x5)) ep := ⟨⟨⟨by rw [q6 _ _ _ _ (by omega)]; exact j1, j1b, fun j hj => by rw [q6 _ _ _ _ (by omega)]; exact j1c j hj⟩, ⟨by rw [q6 _ _ _ _ (by omega)]; exact j1d, j1e, fun i j hi hj => by rw [q6 _ _ _ _ (by omega)]; exact j1f i j hi hj⟩⟩, by rw [q6 _ _ _ _ (by omega)]; exact j2, by rw [q6 _ _ _ _ (by omega)]; exact j3, fun z j hj => by rw [q6 _ _ _ _ (by omega)]; exact j4 z j hj, by rw [q6 _ _ _ _ (by omega)]; exact j5, fun j hj => by rw [q6 _ _ _ _ (by omega)]; exact j6 j hj, q3, q4, by rw [q6 _ _ _ _ (by omega)]; exact j9⟩
    have h5a : S1.1 5 = S.1 5 := by funext n o j; exact p5 5 n o j (by omega)
    have h5b : S2.1 5 = S.1 5 := Eq.trans (by funext n o j; exact q6 5 n o j (by omega)) h5a
    refine Stz_d (S' := S2) (fun q => ?_) ⟨IC_M hC1 (fun k n o j hk => q6 k n o j (by omega)), hM2, ⟨w.1, w.2.1, w.2.2.1, w.2.2.2.1, by omega, fun i hi => fdT_b w.2.2.2.2.2.1 i (by omega), w.2.2.2.2.2.2⟩⟩ h5b (by have g1 := zg_l (by decide) p1; have g2 := zg_l (by decide) q1; exact Nat.le_trans g2 (Nat.le_trans g1 (Nat.le_succ _)))
    rw [zMj_256, zo_add (n : Int) 1, zo_add (n : Int) 2, zo_add (n : Int) 3, zo_add (n : Int) 4, zo_add (n : Int) 5, hl, zin_ok (by omega) (by omega) (by omega), zin_ok (by omega) (by omega) (by omega), zin_ok (by omega) (by omega) (by omega), zin_ok (by omega) (by omega) (by omega), zin_ok (by omega) (by omega) (by omega), ← hx1, ← hx2, ← hx3, ← hx4, ← hx5, p1, zr1, h5a, hl, zin_ok (by omega) (by omega) (by omega), zin_ok (by omega) (by omega) (by omega), zin_ok (by omega) (by omega) (by omega), zin_ok (by omega) (by omega) (by omega), zin_ok (by omega) (by omega) (by omega), ← hx1, ← hx2, ← hx3, ← hx4, ← hx5, q1, zr1, if_pos rfl]
  · rw [if_neg c] at hA
    obtain ⟨j1, j2, j3, j4, j5, j6, j7, j8, j9⟩ := hI.2.1
    have hB := B254 (d := 40) (xa := x1) (xb := x2) (xc := x3) (xd := x4) (xe := x5) j7 w.2.2.2.2.1 j8
    rw [if_neg c] at hB
    refine Stz_d (S' := mt S 0) (fun q => ?_) (Iv_RM hI (RM_mt S 0)) (RM5 (RM_mt S 0)) (Nat.le_succ _)
    rw [zMj_256, zo_add (n : Int) 1, zo_add (n : Int) 2, zo_add (n : Int) 3, zo_add (n : Int) 4, zo_add (n : Int) 5, hl, zin_ok (by omega) (by omega) (by omega), zin_ok (by omega) (by omega) (by omega), zin_ok (by omega) (by omega) (by omega), zin_ok (by omega) (by omega) (by omega), zin_ok (by omega) (by omega) (by omega), ← hx1, ← hx2, ← hx3, ← hx4, ← hx5, hA, zr1, hl, zin_ok (by omega) (by omega) (by omega), zin_ok (by omega) (by omega) (by omega), zin_ok (by omega) (by omega) (by omega), zin_ok (by omega) (by omega) (by omega), zin_ok (by omega) (by omega) (by omega), ← hx1, ← hx2, ← hx3, ← hx4, ← hx5, hB, zr1, if_pos rfl]
/-- load -/
theorem st_329 (hI : Iv T S a k u f s fl fb tn tx ep) (hT : T + 400 ≤ 1000000) (hl : S.1 5 0 1 0 = zo (len : Nat)) (hn : n + 6 ≤ len) (hb : len ≤ 3072) : Stz n T S 329 := by
  obtain ⟨P1, E1, G11, G12⟩ := i32 (S.1 5 0 0 (zo ((n : Int) + 1)).toNatClampNeg)
  have w := hI.2.2
  have uT := w.1.1.2.2.2.2.2.2.1
  obtain ⟨i1, i2, i3, i4, i5, i6, i7, i8, ⟨i9, i10⟩, i11⟩ := hI.1
  have hA := A90 (d := 30) (T := T) i1 i6 w.2.2.2.2.1 (fun i hi => ⟨i7 i hi, w.2.2.2.2.2.1 i hi⟩) (by omega) G11 G12
  have hW := wr_297 (d := 40) (S := S) (xa := zo P1)
  by_cases c : 0 ≤ P1 ∧ P1 ≤ tn
  · rw [if_pos c] at hA
    obtain ⟨S1, p1, p2, pw, p3, p4, p6, p5⟩ := hA
    have w1 := hW.1 _ S1 p1
    obtain ⟨R, hR⟩ : ∃ R, R = ldP tx P1.toNat := ⟨_, rfl⟩
    rw [← hR] at p1 p2 pw p4 p6 w1
    have b2 : S1.1 0 2 = S.1 0 2 := by funext o j; exact p5 0 2 o j (by omega) (by omega)
    have hC1 : IC S1 (if isO R.1 = true then R.2 else a) (if isO R.1 = true then 0 else k) u (if isO R.1 = true then false else f) s fl fb 0 tx (epA R.1) := by
      refine ⟨p2, ?_, fun z => ?_, by rw [p5 _ _ _ _ (by omega) (by omega)]; exact i4, fun j hj => by rw [p5 _ _ _ _ (by omega) (by omega)]; exact i5 j hj, p3, fun i hi => absurd hi (Nat.not_lt_zero i), p4, ⟨by rw [p5 _ _ _ _ (by omega) (by omega)]; exact i9, by rw [p5 _ _ _ _ (by omega) (by omega)]; exact i10⟩, by rw [p5 _ _ _ _ (by omega) (by omega)]; exact i11⟩
      · rw [p6]
        split
        · rfl
        · exact i2
      · rw [b2]
        split at z
        · cases z
        · exact i3 z
    have hM1 : IM (zsl S1 (zo (ldA R)).toInt64) a k u f s fl fb tn tx ep := IM_C (S' := S1) hI.2.1 (fun k n o j hk => p5 k n o j (by omega) (by omega))
    obtain ⟨j1, j2, j3, j4, j5, j6, j7, j8, j9⟩ := hM1
    have hB := B279 (d := 30) (T := T) (x := P1) j1 w.1 j2 j7 w.2.2.2.2.1 (fun i hi => ⟨j8 i hi, w.2.2.2.2.2.1 i hi⟩) (by omega) G11 G12
    rw [if_pos c, ← hR] at hB
    obtain ⟨S2, q1, q2, q3, q4, q5, q6, q7, q8, q9⟩ := hB
    have hM2 : IM S2 (if isO R.1 = true then R.2 else a) (if isO R.1 = true then 0 else k) u (if isO R.1 = true then false else f) s fl fb 0 tx (epA R.1) := by
      refine ⟨q4, q3, ?_, fun z j hj => ?_, by rw [q9 _ _ _ _ (by omega) (by omega)]; exact j5, fun j hj => by rw [q9 _ _ _ _ (by omega) (by omega)]; exact j6 j hj, q5, fun i hi => absurd hi (Nat.not_lt_zero i), q6⟩
      · rw [q7]
        split
        · rfl
        · exact j3
      · rw [q9 _ _ _ _ (by omega) (by omega)]
        split at z
        · cases z
        · exact j4 z j hj
    have hP : IP T (if isO R.1 = true then R.2 else a) (if isO R.1 = true then 0 else k) u s fl 0 tx := ⟨by split; exact pw (by assumption); exact w.1, w.2.1, w.2.2.1, w.2.2.2.1, by omega, fun i hi => absurd hi (Nat.not_lt_zero i), by have := w.2.2.2.2.2.2; split <;> omega⟩
    have h5a : S1.1 5 = S.1 5 := by funext n o j; exact p5 5 n o j (by omega) (by omega)
    have h5b : S2.1 5 = S.1 5 := Eq.trans (by funext n o j; exact q9 5 n o j (by omega) (by omega)) h5a
    have hC : Cll 41 297 279 [zi (zo P1)] S S2 := ⟨_, zo 0, zo (ldA R), w1, h5a, q1, q2, fun _ => by rw [q8]; rfl, h5b⟩
    exact Stz_i (cut := 382) (fun _ => zM_382) (fun q => zk_329 (k := q) hl hn hb (by rw [E1]; exact hC)) ⟨IC_M hC1 (fun k n o j hk => q9 k n o j (by omega) (by omega)), hM2, hP⟩ h5b (by have g1 := zg_l (by decide) p1; have g2 := zg_l (by decide) q1; exact Nat.le_trans g2 (Nat.le_trans g1 (Nat.le_succ _)))
  · rw [if_neg c] at hA
    have w1 := hW.2 2 1 _ rfl hA
    obtain ⟨j1, j2, j3, j4, j5, j6, j7, j8, j9⟩ := hI.2.1
    have hB := B279 (d := 30) (T := T) (S := zsn S) (x := P1) j1 w.1 j2 j7 w.2.2.2.2.1 (fun i hi => ⟨j8 i hi, w.2.2.2.2.2.1 i hi⟩) (by omega) G11 G12
    rw [if_neg c] at hB
    have hI2 : Iv T (mt (zsn S) 1) a k u f s fl fb tn tx ep := Iv_RM (Iv_zsn hI) (RM_mt (zsn S) 1)
    have h5b : (mt (zsn S) 1).1 5 = S.1 5 := (RM5 (RM_mt (zsn S) 1) : (mt (zsn S) 1).1 5 = (zsn S).1 5)
    have hC : Cll 41 297 279 [zi (zo P1)] S (mt (zsn S) 1) := ⟨_, zo 1, zo 0, w1, rfl, hB, mt_10 _ _, fun z => absurd z (by decide), h5b⟩
    exact Stz_i (cut := 382) (fun _ => zM_382) (fun q => zk_329 (k := q) hl hn hb (by rw [E1]; exact hC)) hI2 h5b (Nat.le_refl _)
/-- query -/
theorem st_2975 (hI : Iv T S a k u f s fl fb tn tx ep) (hT : T + 400 ≤ 1000000) (hl : S.1 5 0 1 0 = zo (len : Nat)) (hn : n + 6 ≤ len) (hb : len ≤ 3072) : Stz n T S 2975 := by
  obtain ⟨P1, E1, G11, G12⟩ := i32 (S.1 5 0 0 (zo ((n : Int) + 1)).toNatClampNeg)
  have w := hI.2.2
  obtain ⟨i1, i2, i3, i4, i5, i6, i7, i8, ⟨i9, i10⟩, i11⟩ := hI.1
  have hA := A92 (d := 17) i1 w.1 i6 w.2.2.2.2.1 (fun i hi => ⟨i7 i hi, w.2.2.2.2.2.1 i hi⟩) G11 G12
  have hW := wr_332 (d := 40) (S := S) (xa := zo P1)
  by_cases c : 0 ≤ P1 ∧ P1 ≤ tn ∧ P1 ≤ 200
  · rw [if_pos c] at hA
    obtain ⟨S1, p1, p2, p3, p4, p5⟩ := hA
    have w1 := hW.1 _ S1 p1
    have b2 : S1.1 0 2 = S.1 0 2 := by funext o j; exact p5 0 2 o j (by omega)
    have hC1 : IC S1 a k u f s fl fb 0 tx (epA (qrE tx P1.toNat a)) := ⟨p2, by rw [p5 _ _ _ _ (by omega)]; exact i2, fun z => by rw [b2]; exact i3 z, by rw [p5 _ _ _ _ (by omega)]; exact i4, fun j hj => by rw [p5 _ _ _ _ (by omega)]; exact i5 j hj, p3, fun i hi => absurd hi (Nat.not_lt_zero i), p4, ⟨by rw [p5 _ _ _ _ (by omega)]; exact i9, by rw [p5 _ _ _ _ (by omega)]; exact i10⟩, by rw [p5 _ _ _ _ (by omega)]; exact i11⟩
    have hM1 : IM (zsl S1 (zo (qrA tx P1.toNat a)).toInt64) a k u f s fl fb tn tx ep := IM_C (S' := S1) hI.2.1 (fun k n o j hk => p5 k n o j (by omega))
    obtain ⟨j1, j2, j3, j4, j5, j6, j7, j8, j9⟩ := hM1
    have hB := B290 (d := 11) (x := P1) j1 w.1 j7 w.2.2.2.2.1 (fun i hi => ⟨j8 i hi, w.2.2.2.2.2.1 i hi⟩) G11 G12
    rw [if_pos c] at hB
    obtain ⟨S2, q1, q2, q3, q4, q5, q6⟩ := hB
    have hF : ∀ k n o j, ¬(k = 3 ∧ n = 0 ∧ ((o = 0 ∧ ((15 ≤ j ∧ j ≤ 23) ∨ j = 27 ∨ j = 10)) ∨ o = 8 ∨ o = 9)) → S2.1 k n o j = S1.1 k n o j := fun k n o j b => (q6.2 k n o j (by omega)).trans (zs_oth (by omega))
    have hM2 : IM S2 a k u f s fl fb 0 tx (epA (qrE tx P1.toNat a)) := ⟨q3, by rw [hF _ _ _ _ (by omega)]; exact j2, by rw [hF _ _ _ _ (by omega)]; exact j3, fun z j hj => by rw [hF _ _ _ _ (by omega)]; exact j4 z j hj, by rw [hF _ _ _ _ (by omega)]; exact j5, fun j hj => by rw [hF _ _ _ _ (by omega)]; exact j6 j hj, q4, fun i hi => absurd hi (Nat.not_lt_zero i), q5⟩
    have h5a : S1.1 5 = S.1 5 := by funext n o j; exact p5 5 n o j (by omega)
    have h5b : S2.1 5 = S.1 5 := Eq.trans (by funext n o j; exact hF 5 n o j (by omega)) h5a
    have hC : Cll 41 332 290 [zi (zo P1)] S S2 := ⟨_, zo 0, zo (qrA tx P1.toNat a), w1, h5a, q1, q2, fun _ => by rw [q6.1]; rfl, h5b⟩
    exact Stz_i (cut := 3028) (fun _ => zM_3028) (fun q => zk_2975 (k := q) hl hn hb (by rw [E1]; exact hC)) ⟨IC_M hC1 (fun k n o j hk => hF k n o j (by omega)), hM2, ⟨w.1, w.2.1, w.2.2.1, w.2.2.2.1, by omega, fun i hi => absurd hi (Nat.not_lt_zero i), w.2.2.2.2.2.2⟩⟩ h5b (by have g1 := zg_l (by decide) p1; have g2 := zg_l (by decide) q1; exact Nat.le_trans g2 (Nat.le_trans g1 (Nat.le_succ _)))
  · rw [if_neg c] at hA
    have w1 := hW.2 2 1 _ rfl hA
    obtain ⟨j1, j2, j3, j4, j5, j6, j7, j8, j9⟩ := hI.2.1
    have hB := B290 (d := 11) (S := zsn S) (x := P1) j1 w.1 j7 w.2.2.2.2.1 (fun i hi => ⟨j8 i hi, w.2.2.2.2.2.1 i hi⟩) G11 G12
    rw [if_neg c] at hB
    have hI2 : Iv T (mt (zsn S) 1) a k u f s fl fb tn tx ep := Iv_RM (Iv_zsn hI) (RM_mt (zsn S) 1)
    have h5b : (mt (zsn S) 1).1 5 = S.1 5 := (RM5 (RM_mt (zsn S) 1) : (mt (zsn S) 1).1 5 = (zsn S).1 5)
    have hC : Cll 41 332 290 [zi (zo P1)] S (mt (zsn S) 1) := ⟨_, zo 1, zo 0, w1, rfl, hB, mt_10 _ _, fun z => absurd z (by decide), h5b⟩
    exact Stz_i (cut := 3028) (fun _ => zM_3028) (fun q => zk_2975 (k := q) hl hn hb (by rw [E1]; exact hC)) hI2 h5b (Nat.le_refl _)
end DZ

/-! THE PURE SIDE 73: the law's loop: what changes the rest -/
section DY
variable {S S' : zS} {n len k tn : Nat} {a s : Rw} {T fl ep : Int} {u : Nat → Rw} {f : Bool} {fb tx : Nat → Int} {pc cut W M : Nat} {av : List zV}
theorem IM_C (h : IM S a k u f s fl fb tn tx ep) (hF : ∀ k n o j, k = 2 ∨ k = 3 → S'.1 k n o j = S.1 k n o j) : IM S' a k u f s fl fb tn tx ep := IM_fr h (fun n j _ => hF 2 n 0 j (by omega)) (fun o j _ => hF 3 0 o j (by omega))
theorem IC_M (h : IC S a k u f s fl fb tn tx ep) (hF : ∀ k n o j, k = 0 ∨ k = 1 → S'.1 k n o j = S.1 k n o j) : IC S' a k u f s fl fb tn tx ep := IC_fr h (fun n _ => by funext o j; exact hF 0 n o j (by omega)) (fun z => by
  have : S'.1 0 1 = S.1 0 1 := by funext o j; exact hF 0 1 o j (by omega)
  rw [this]; exact z) (fun o j _ => hF 1 0 o j (by omega))
theorem IC_mt {t : Int} (h : IC S a k u f s fl fb tn tx ep) : IC (mt S t) a k u f s fl fb tn tx ep := IC_M h (fun k n o j hk => zs_oth (by omega))
theorem IM_mt {t : Int} (h : IM S a k u f s fl fb tn tx ep) : IM (mt S t) a k u f s fl fb tn tx ep := IM_fr h (fun n j _ => zs_oth (by omega)) (fun o j _ => zs_oth (by omega))
/-- the place of the error -/
theorem st_385 (hI : Iv T S a k u f s fl fb tn tx ep) (hT : T + 400 ≤ 1000000) (hl : S.1 5 0 1 0 = zo (len : Nat)) (hn : n + 6 ≤ len) (hb : len ≤ 3072) : Stz n T S 385 := by
  have p1 := A91 (d := 40) hI.1.2.2.2.2.2.2.2.1
  have p2 := B255 (d := 40) hI.2.1.2.2.2.2.2.2.2.2
  exact Stz_d (fun q => by rw [zMj_385, p1, zr1, p2, zr1, if_pos rfl]) (Iv_RM hI (RM_mt S 0)) (RM5 (RM_mt S 0)) (Nat.le_succ _)
/-- formattedByte -/
theorem st_2900 (hI : Iv T S a k u f s fl fb tn tx ep) (hT : T + 400 ≤ 1000000) (hl : S.1 5 0 1 0 = zo (len : Nat)) (hn : n + 6 ≤ len) (hb : len ≤ 3072) : Stz n T S 2900 := by
  obtain ⟨P1, E1, G11, G12⟩ := i32 (S.1 5 0 0 (zo ((n : Int) + 1)).toNatClampNeg)
  have p1 := A111 (d := 39) hI.2.2.2.2.2.1 hI.1.2.2.2.1 hI.1.2.2.2.2.1 G11 G12
  have p2 := B247 (d := 39) hI.2.2.2.2.2.1 hI.2.1.2.2.2.2.1 hI.2.1.2.2.2.2.2.1 G11 G12
  exact Stz_d (fun q => by rw [zMj_2900, zo_add (n : Int) 1, hl, zin_ok (by omega) (by omega) (by omega), E1, p1, zr1, hl, zin_ok (by omega) (by omega) (by omega), E1, p2, zr1, if_pos rfl]) (Iv_RM hI (RM_mt S 0)) (RM5 (RM_mt S 0)) (Nat.le_succ _)
/-- undoCount -/
theorem st_2925 (hI : Iv T S a k u f s fl fb tn tx ep) (hT : T + 400 ≤ 1000000) (hl : S.1 5 0 1 0 = zo (len : Nat)) (hn : n + 6 ≤ len) (hb : len ≤ 3072) : Stz n T S 2925 := by
  have p1 := A134 (d := 40) hI.1.1
  have p2 := B250 (d := 40) hI.2.1.1
  exact Stz_d (fun q => by rw [zMj_2925, p1, zr1, p2, zr1, if_pos rfl]) (Iv_RM hI (RM_mt S 0)) (RM5 (RM_mt S 0)) (Nat.le_succ _)
/-- undo -/
theorem st_2938 (hI : Iv T S a k u f s fl fb tn tx ep) (hT : T + 400 ≤ 1000000) (hl : S.1 5 0 1 0 = zo (len : Nat)) (hn : n + 6 ≤ len) (hb : len ≤ 3072) : Stz n T S 2938 := by
  obtain ⟨S1, p1, p2, p3⟩ := A135 (d := 37) hI.1.1 (hI.2.2.2.1 (k - 1))
  obtain ⟨i1, i2, i3, i4, i5, i6, i7, i8, ⟨i9, i10⟩, i11⟩ := hI.1
  have w := hI.2.2
  have b2 : S1.1 0 2 = S.1 0 2 := by funext o j; exact p3 0 2 o j (by omega) (by omega)
  have hC1 : IC S1 (if k = 0 then a else u (k - 1)) (k - 1) u f s fl fb tn tx ep := ⟨p2, by rw [p3 _ _ _ _ (by omega) (by omega)]; exact i2, fun z => by rw [b2]; exact i3 z, by rw [p3 _ _ _ _ (by omega) (by omega)]; exact i4, fun j hj => by rw [p3 _ _ _ _ (by omega) (by omega)]; exact i5 j hj, by rw [p3 _ _ _ _ (by omega) (by omega)]; exact i6, fun i hi => by rw [p3 _ _ _ _ (by omega) (by omega)]; exact i7 i hi, by rw [p3 _ _ _ _ (by omega) (by omega)]; exact i8, ⟨by rw [p3 _ _ _ _ (by omega) (by omega)]; exact i9, by rw [p3 _ _ _ _ (by omega) (by omega)]; exact i10⟩, by rw [p3 _ _ _ _ (by omega) (by omega)]; exact i11⟩
  have hM1 : IM S1 a k u f s fl fb tn tx ep := IM_C hI.2.1 (fun k n o j hk => p3 k n o j (by omega) (by omega))
  obtain ⟨S2, q1, q2, q3, q4⟩ := B251 (d := 39) hM1.1
  obtain ⟨j1, j2, j3, j4, j5, j6, j7, j8, j9⟩ := hM1
  have hM2 : IM S2 (if k = 0 then a else u (k - 1)) (k - 1) u f s fl fb tn tx ep := ⟨q3, by rw [q4.2 _ _ _ _ (by omega) (by omega)]; exact j2, by rw [q4.2 _ _ _ _ (by omega) (by omega)]; exact j3, fun z j hj => by rw [q4.2 _ _ _ _ (by omega) (by omega)]; exact j4 z j hj, by rw [q4.2 _ _ _ _ (by omega) (by omega)]; exact j5, fun j hj => by rw [q4.2 _ _ _ _ (by omega) (by omega)]; exact j6 j hj, by rw [q4.2 _ _ _ _ (by omega) (by omega)]; exact j7, fun i hi => by rw [q4.2 _ _ _ _ (by omega) (by omega)]; exact j8 i hi, by rw [q4.2 _ _ _ _ (by omega) (by omega)]; exact j9⟩
  have hP : IP T (if k = 0 then a else u (k - 1)) (k - 1) u s fl tn tx := ⟨by split; exact w.1; exact w.2.1 _, w.2.1, w.2.2.1, w.2.2.2.1, w.2.2.2.2.1, w.2.2.2.2.2.1, by have := w.2.2.2.2.2.2; omega⟩
  refine Stz_d (S' := S2) (fun q => ?_) ⟨IC_M hC1 (fun k n o j hk => q4.2 k n o j (by omega) (by omega)), hM2, hP⟩ ?_ (by have g1 := zg_l (by decide) p1; have g2 := zg_l (by decide) q1; exact Nat.le_trans g2 (Nat.le_trans g1 (Nat.le_succ _)))
  · rw [zMj_2938, p1, zr1, q1, zr1, if_pos rfl]
  · funext n o j; rw [q4.2 5 n o j (by omega) (by omega), p3 5 n o j (by omega) (by omega)]
/-- saveSnapshot -/
theorem st_2951 (hI : Iv T S a k u f s fl fb tn tx ep) (hT : T + 400 ≤ 1000000) (hl : S.1 5 0 1 0 = zo (len : Nat)) (hn : n + 6 ≤ len) (hb : len ≤ 3072) : Stz n T S 2951 := by
  obtain ⟨S1, p1, p2, p3, p4, p5⟩ := A136 (d := 38) hI.1.1 hI.2.2.1
  obtain ⟨i1, i2, i3, i4, i5, i6, i7, i8, ⟨i9, i10⟩, i11⟩ := hI.1
  have w := hI.2.2
  have hC1 : IC S1 a k u true a fl fb tn tx ep := ⟨p2, p4, fun _ => p3, by rw [p5 _ _ _ _ (by omega) (by omega)]; exact i4, fun j hj => by rw [p5 _ _ _ _ (by omega) (by omega)]; exact i5 j hj, by rw [p5 _ _ _ _ (by omega) (by omega)]; exact i6, fun i hi => by rw [p5 _ _ _ _ (by omega) (by omega)]; exact i7 i hi, by rw [p5 _ _ _ _ (by omega) (by omega)]; exact i8, ⟨by rw [p5 _ _ _ _ (by omega) (by omega)]; exact i9, by rw [p5 _ _ _ _ (by omega) (by omega)]; exact i10⟩, by rw [p5 _ _ _ _ (by omega) (by omega)]; exact i11⟩
  have hM1 : IM S1 a k u f s fl fb tn tx ep := IM_C hI.2.1 (fun k n o j hk => p5 k n o j (by omega) (by omega))
  obtain ⟨S2, q1, q2, q3, q4, q5, q6, q7⟩ := B252 (d := 39) hM1.1
  obtain ⟨j1, j2, j3, j4, j5, j6, j7, j8, j9⟩ := hM1
  have hM2 : IM S2 a k u true a fl fb tn tx ep := ⟨q3, by rw [q7 _ _ _ _ (by omega) (by omega)]; exact j2, q5, fun _ => q4, by rw [q7 _ _ _ _ (by omega) (by omega)]; exact j5, fun j hj => by rw [q7 _ _ _ _ (by omega) (by omega)]; exact j6 j hj, by rw [q7 _ _ _ _ (by omega) (by omega)]; exact j7, fun i hi => by rw [q7 _ _ _ _ (by omega) (by omega)]; exact j8 i hi, by rw [q7 _ _ _ _ (by omega) (by omega)]; exact j9⟩
  refine Stz_d (S' := S2) (fun q => ?_) ⟨IC_M hC1 (fun k n o j hk => q7 k n o j (by omega) (by omega)), hM2, ⟨w.1, w.2.1, w.1, w.2.2.2⟩⟩ ?_ (by have g1 := zg_l (by decide) p1; have g2 := zg_l (by decide) q1; exact Nat.le_trans g2 (Nat.le_trans g1 (Nat.le_succ _)))
  · rw [zMj_2951, p1, zr0, q1, zr0]
  · funext n o j; rw [q7 5 n o j (by omega) (by omega), p5 5 n o j (by omega) (by omega)]
/-- restoreSnapshot -/
theorem st_2962 (hI : Iv T S a k u f s fl fb tn tx ep) (hT : T + 400 ≤ 1000000) (hl : S.1 5 0 1 0 = zo (len : Nat)) (hn : n + 6 ≤ len) (hb : len ≤ 3072) : Stz n T S 2962 := by
  obtain ⟨S1, p1, p2, p3⟩ := A137 (d := 38) hI.1.1 hI.1.2.1 hI.1.2.2.1 hI.2.2.2.2.1
  obtain ⟨i1, i2, i3, i4, i5, i6, i7, i8, ⟨i9, i10⟩, i11⟩ := hI.1
  have w := hI.2.2
  have b2 : S1.1 0 2 = S.1 0 2 := by funext o j; exact p3 0 2 o j (by omega) (by omega)
  have hC1 : IC S1 (if f = true then s else a) (if f = true then 0 else k) u f s fl fb tn tx ep := ⟨p2, by rw [p3 _ _ _ _ (by omega) (by omega)]; exact i2, fun z => by rw [b2]; exact i3 z, by rw [p3 _ _ _ _ (by omega) (by omega)]; exact i4, fun j hj => by rw [p3 _ _ _ _ (by omega) (by omega)]; exact i5 j hj, by rw [p3 _ _ _ _ (by omega) (by omega)]; exact i6, fun i hi => by rw [p3 _ _ _ _ (by omega) (by omega)]; exact i7 i hi, by rw [p3 _ _ _ _ (by omega) (by omega)]; exact i8, ⟨by rw [p3 _ _ _ _ (by omega) (by omega)]; exact i9, by rw [p3 _ _ _ _ (by omega) (by omega)]; exact i10⟩, by rw [p3 _ _ _ _ (by omega) (by omega)]; exact i11⟩
  have hM1 : IM S1 a k u f s fl fb tn tx ep := IM_C hI.2.1 (fun k n o j hk => p3 k n o j (by omega) (by omega))
  obtain ⟨S2, q1, q2, q3, q4⟩ := B253 (d := 39) hM1.1 hM1.2.2.1 hM1.2.2.2.1
  obtain ⟨j1, j2, j3, j4, j5, j6, j7, j8, j9⟩ := hM1
  have hM2 : IM S2 (if f = true then s else a) (if f = true then 0 else k) u f s fl fb tn tx ep := ⟨q3, by rw [q4.2 _ _ _ _ (by omega) (by omega)]; exact j2, by rw [q4.2 _ _ _ _ (by omega) (by omega)]; exact j3, fun z j hj => by rw [q4.2 _ _ _ _ (by omega) (by omega)]; exact j4 z j hj, by rw [q4.2 _ _ _ _ (by omega) (by omega)]; exact j5, fun j hj => by rw [q4.2 _ _ _ _ (by omega) (by omega)]; exact j6 j hj, by rw [q4.2 _ _ _ _ (by omega) (by omega)]; exact j7, fun i hi => by rw [q4.2 _ _ _ _ (by omega) (by omega)]; exact j8 i hi, by rw [q4.2 _ _ _ _ (by omega) (by omega)]; exact j9⟩
  have hP : IP T (if f = true then s else a) (if f = true then 0 else k) u s fl tn tx := ⟨by split; exact w.2.2.1; exact w.1, w.2.1, w.2.2.1, w.2.2.2.1, w.2.2.2.2.1, w.2.2.2.2.2.1, by have := w.2.2.2.2.2.2; split <;> omega⟩
  refine Stz_d (S' := S2) (fun q => ?_) ⟨IC_M hC1 (fun k n o j hk => q4.2 k n o j (by omega) (by omega)), hM2, hP⟩ ?_ (by have g1 := zg_l (by decide) p1; have g2 := zg_l (by decide) q1; exact Nat.le_trans g2 (Nat.le_trans g1 (Nat.le_succ _)))
  · rw [zMj_2962, p1, zr1, q1, zr1, if_pos rfl]
  · funext n o j; rw [q4.2 5 n o j (by omega) (by omega), p3 5 n o j (by omega) (by omega)]
/-- format -/
theorem st_2844 (hI : Iv T S a k u f s fl fb tn tx ep) (hT : T + 400 ≤ 1000000) (hl : S.1 5 0 1 0 = zo (len : Nat)) (hn : n + 6 ≤ len) (hb : len ≤ 3072) : Stz n T S 2844 := by
  obtain ⟨P1, E1, G11, G12⟩ := i32 (S.1 5 0 0 (zo ((n : Int) + 1)).toNatClampNeg)
  have hA := A110 (d := 35) hI.1.1.1 hI.2.2.1 G11 G12
  have hW := wr_331 (d := 40) (S := S) (xa := zo P1)
  have w := hI.2.2
  have u0 := w.1.1.1
  by_cases c : 0 ≤ P1 ∧ P1 < a 1
  · rw [if_pos c] at hA
    obtain ⟨S1, p1, p2, p3, p5⟩ := hA
    have w1 := hW.1 _ S1 p1
    obtain ⟨i1, i2, i3, i4, i5, i6, i7, i8, ⟨i9, i10⟩, i11⟩ := hI.1
    have b0 : ∀ m, S1.1 0 m = S.1 0 m := fun m => by funext o j; exact p5.2 0 m o j (by omega)
    have hC1 : IC S1 a k u f s (a 0) (fun j => sgn a (a 0 * P1 + j)) tn tx ep := by
      obtain ⟨x1, ⟨y, y1, y2, y3, y4⟩, x3, x4⟩ := i1
      exact ⟨⟨by rw [b0]; exact x1, ⟨y, y1, by rw [p5.2 _ _ _ _ (by omega)]; exact y2, by rw [p5.2 _ _ _ _ (by omega)]; exact y3, fun i hi => by rw [b0]; exact y4 i hi⟩, x3, fun n hn => by rw [b0]; exact x4 n hn⟩, by rw [p5.2 _ _ _ _ (by omega)]; exact i2, fun z => by rw [b0]; exact i3 z, p2, p3, by rw [p5.2 _ _ _ _ (by omega)]; exact i6, fun i hi => by rw [p5.2 _ _ _ _ (by omega)]; exact i7 i hi, by rw [p5.2 _ _ _ _ (by omega)]; exact i8, ⟨by rw [p5.2 _ _ _ _ (by omega)]; exact i9, by rw [p5.2 _ _ _ _ (by omega)]; exact i10⟩, by rw [p5.2 _ _ _ _ (by omega)]; exact i11⟩
    have hM1 : IM (zsl S1 (zo (a 0)).toInt64) a k u f s fl fb tn tx ep := IM_C (S' := S1) hI.2.1 (fun k n o j hk => p5.2 k n o j (by omega))
    have hB := B246 (d := 34) hM1.1.1 w.1 G11 G12
    rw [if_pos c] at hB
    obtain ⟨S2, q1, q2, q3, q4, q5⟩ := hB
    obtain ⟨⟨⟨j1, j1b, j1c⟩, ⟨j1d, j1e, j1f⟩⟩, j2, j3, j4, j5, j6, j7, j8, j9⟩ := hM1
    have hM2 : IM S2 a k u f s (a 0) (fun j => sgn a (a 0 * P1 + j)) tn tx ep := ⟨⟨⟨by rw [q5.2 _ _ _ _ (by omega)]; exact j1, j1b, fun j hj => by rw [q5.2 _ _ _ _ (by omega)]; exact j1c j hj⟩, ⟨by rw [q5.2 _ _ _ _ (by omega)]; exact j1d, j1e, fun i j hi hj => by rw [q5.2 _ _ _ _ (by omega)]; exact j1f i j hi hj⟩⟩, by rw [q5.2 _ _ _ _ (by omega)]; exact j2, by rw [q5.2 _ _ _ _ (by omega)]; exact j3, fun z j hj => by rw [q5.2 _ _ _ _ (by omega)]; exact j4 z j hj, q2, q3, by rw [q5.2 _ _ _ _ (by omega)]; exact j7, fun i hi => by rw [q5.2 _ _ _ _ (by omega)]; exact j8 i hi, by rw [q5.2 _ _ _ _ (by omega)]; exact j9⟩
    have h5a : S1.1 5 = S.1 5 := by funext n o j; exact p5.2 5 n o j (by omega)
    have h5b : S2.1 5 = S.1 5 := Eq.trans (by funext n o j; exact q5.2 5 n o j (by omega)) h5a
    have hC : Cll 41 331 246 [zi (zo P1)] S S2 := ⟨_, zo 0, zo (a 0), w1, h5a, q1, q4, fun _ => by rw [q5.1]; rfl, h5b⟩
    exact Stz_i (cut := 2897) (fun _ => zM_2897) (fun q => zk_2844 (k := q) hl hn hb (by rw [E1]; exact hC)) ⟨IC_M hC1 (fun k n o j hk => q5.2 k n o j (by omega)), hM2, ⟨w.1, w.2.1, w.2.2.1, by omega, w.2.2.2.2⟩⟩ h5b (by have g1 := zg_l (by decide) p1; have g2 := zg_l (by decide) q1; exact Nat.le_trans g2 (Nat.le_trans g1 (Nat.le_succ _)))
  · rw [if_neg c] at hA
    have w1 := hW.2 1 1 _ rfl hA
    have hB := B246 (d := 34) (S := zsn S) hI.2.1.1.1 w.1 G11 G12
    rw [if_neg c] at hB
    have hI2 : Iv T (mt (zsn S) 1) a k u f s fl fb tn tx ep := Iv_RM (Iv_zsn hI) (RM_mt (zsn S) 1)
    have h5b : (mt (zsn S) 1).1 5 = S.1 5 := (RM5 (RM_mt (zsn S) 1) : (mt (zsn S) 1).1 5 = (zsn S).1 5)
    have hC : Cll 41 331 246 [zi (zo P1)] S (mt (zsn S) 1) := ⟨_, zo 1, zo 0, w1, rfl, hB, mt_10 _ _, fun z => absurd z (by decide), h5b⟩
    exact Stz_i (cut := 2897) (fun _ => zM_2897) (fun q => zk_2844 (k := q) hl hn hb (by rw [E1]; exact hC)) hI2 h5b (Nat.le_refl _)
end DY

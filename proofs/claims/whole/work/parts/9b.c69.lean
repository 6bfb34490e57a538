/-! THE PURE SIDE 69: the law's loop: questions (written by tools/gen69.py) -/
/-- a case of the loop goes on, all holding -/
def Stz (n : Nat) (T2 : Int) (S : zS) (pc : Nat) : Prop := ∀ k, 10 ≤ k → ∃ S' a k2 u f s fl fb tn tx ep kk, k ≤ kk + 5 ∧ zMj 41 k pc (zLV (zo (n : Nat))) S = zMn 41 kk 3031 (zLV (zo (n : Nat))) S' ∧ Iv T2 S' a k2 u f s fl fb tn tx ep ∧ S'.1 5 = S.1 5 ∧ S'.2.2.2 ≤ S.2.2.2 + 1
theorem i32 (x : Int32) : ∃ p : Int, x = zo p ∧ -2147483648 ≤ p ∧ p < 2147483648 := ⟨x.toInt, (Int32.ofInt_toInt x).symm, x.le_toInt, x.toInt_lt⟩
section DU
variable {S S' : zS} {n len k tn : Nat} {a s : Rw} {T fl ep : Int} {u : Nat → Rw} {f : Bool} {fb tx : Nat → Int} {pc cut W M : Nat} {av : List zV}
theorem Stz_i {cut : Nat} (hc : ∀ kk, zMn 41 (kk + 1) cut (zLV (zo (n : Nat))) S' = zMn 41 kk 3031 (zLV (zo (n : Nat))) S') (h : ∀ k, zMj 41 k pc (zLV (zo (n : Nat))) S = zMn 41 k cut (zLV (zo (n : Nat))) S') (hI : Iv T S' a k u f s fl fb tn tx ep) (h5 : S'.1 5 = S.1 5) (hg : S'.2.2.2 ≤ S.2.2.2 + 1) : Stz n T S pc := by
  intro q hq
  obtain ⟨q, rfl⟩ : ∃ q', q = q' + 1 := ⟨q - 1, by omega⟩
  exact ⟨S', a, k, u, f, s, fl, fb, tn, tx, ep, q, by omega, (h (q + 1)).trans (hc q), hI, h5, hg⟩
theorem Stz_d (h : ∀ k, zMj 41 k pc (zLV (zo (n : Nat))) S = zMn 41 k 3031 (zLV (zo (n : Nat))) S') (hI : Iv T S' a k u f s fl fb tn tx ep) (h5 : S'.1 5 = S.1 5) (hg : S'.2.2.2 ≤ S.2.2.2 + 1) : Stz n T S pc := by
  intro q hq
  exact ⟨S', a, k, u, f, s, fl, fb, tn, tx, ep, q, by omega, h q, hI, h5, hg⟩

theorem st_398 (hI : Iv T S a k u f s fl fb tn tx ep) (hT : T + 400 ≤ 1000000) (hl : S.1 5 0 1 0 = zo (len : Nat)) (hn : n + 6 ≤ len) (hb : len ≤ 3072) : Stz n T S 398 := by
  obtain ⟨P1, E1, G11, G12⟩ := i32 (S.1 5 0 0 (zo ((n : Int) + 1)).toNatClampNeg)
  obtain ⟨S', c1, c2, cg⟩ := cQ (d := 40) (M := 193) hI (wr_298 (xa := zo P1)) (A93 (d := 36) hI.1.1.1 hI.2.2.1 G11 G12) (fun S1 h h8 => B193 (d := 35) h hI.2.2.1 G11 G12) Qm_N (by decide) (by decide)
  have h5 : S'.1 5 = S.1 5 := by
    obtain ⟨_, _, _, _, _, _, _, _, h⟩ := c1
    exact h
  exact Stz_i (cut := 451) (fun _ => zM_451) (fun q => zk_398 (k := q) hl hn hb (by rw [E1]; exact c1)) c2 h5 cg
theorem st_454 (hI : Iv T S a k u f s fl fb tn tx ep) (hT : T + 400 ≤ 1000000) (hl : S.1 5 0 1 0 = zo (len : Nat)) (hn : n + 6 ≤ len) (hb : len ≤ 3072) : Stz n T S 454 := by
  obtain ⟨P1, E1, G11, G12⟩ := i32 (S.1 5 0 0 (zo ((n : Int) + 1)).toNatClampNeg)
  obtain ⟨P2, E2, G21, G22⟩ := i32 (S.1 5 0 0 (zo ((n : Int) + 2)).toNatClampNeg)
  obtain ⟨S', c1, c2, cg⟩ := cQ (d := 40) (M := 195) hI (wr_299 (xa := zo P1) (xb := zo P2)) (A94 (d := 38) hI.1.1.1 hI.2.2.1 G11 G12 G21 G22) (fun S1 h h8 => B195 (d := 38) h hI.2.2.1 G11 G12 G21 G22) Qm_N (by decide) (by decide)
  have h5 : S'.1 5 = S.1 5 := by
    obtain ⟨_, _, _, _, _, _, _, _, h⟩ := c1
    exact h
  exact Stz_i (cut := 519) (fun _ => zM_519) (fun q => zk_454 (k := q) hl hn hb (by rw [E1, E2]; exact c1)) c2 h5 cg
theorem st_522 (hI : Iv T S a k u f s fl fb tn tx ep) (hT : T + 400 ≤ 1000000) (hl : S.1 5 0 1 0 = zo (len : Nat)) (hn : n + 6 ≤ len) (hb : len ≤ 3072) : Stz n T S 522 := by
  obtain ⟨P1, E1, G11, G12⟩ := i32 (S.1 5 0 0 (zo ((n : Int) + 1)).toNatClampNeg)
  obtain ⟨P2, E2, G21, G22⟩ := i32 (S.1 5 0 0 (zo ((n : Int) + 2)).toNatClampNeg)
  obtain ⟨S', c1, c2, cg⟩ := cQ (d := 40) (M := 196) hI (wr_300 (xa := zo P1) (xb := zo P2)) (A95 (d := 36) hI.1.1.1 hI.2.2.1 G11 G12 G21 G22) (fun S1 h h8 => B196 (d := 36) h hI.2.2.1 G11 G12 G21 G22) Qm_N (by decide) (by decide)
  have h5 : S'.1 5 = S.1 5 := by
    obtain ⟨_, _, _, _, _, _, _, _, h⟩ := c1
    exact h
  exact Stz_i (cut := 587) (fun _ => zM_587) (fun q => zk_522 (k := q) hl hn hb (by rw [E1, E2]; exact c1)) c2 h5 cg
theorem st_590 (hI : Iv T S a k u f s fl fb tn tx ep) (hT : T + 400 ≤ 1000000) (hl : S.1 5 0 1 0 = zo (len : Nat)) (hn : n + 6 ≤ len) (hb : len ≤ 3072) : Stz n T S 590 := by
  obtain ⟨P1, E1, G11, G12⟩ := i32 (S.1 5 0 0 (zo ((n : Int) + 1)).toNatClampNeg)
  obtain ⟨P2, E2, G21, G22⟩ := i32 (S.1 5 0 0 (zo ((n : Int) + 2)).toNatClampNeg)
  obtain ⟨S', c1, c2, cg⟩ := cQ (d := 40) (M := 197) hI (wr_301 (xa := zo P1) (xb := zo P2)) (A96 (d := 36) hI.1.1.1 hI.2.2.1 G11 G12 G21 G22) (fun S1 h h8 => B197 (d := 36) h hI.2.2.1 G11 G12 G21 G22) Qm_N (by decide) (by decide)
  have h5 : S'.1 5 = S.1 5 := by
    obtain ⟨_, _, _, _, _, _, _, _, h⟩ := c1
    exact h
  exact Stz_i (cut := 655) (fun _ => zM_655) (fun q => zk_590 (k := q) hl hn hb (by rw [E1, E2]; exact c1)) c2 h5 cg
theorem st_658 (hI : Iv T S a k u f s fl fb tn tx ep) (hT : T + 400 ≤ 1000000) (hl : S.1 5 0 1 0 = zo (len : Nat)) (hn : n + 6 ≤ len) (hb : len ≤ 3072) : Stz n T S 658 := by
  obtain ⟨P1, E1, G11, G12⟩ := i32 (S.1 5 0 0 (zo ((n : Int) + 1)).toNatClampNeg)
  obtain ⟨P2, E2, G21, G22⟩ := i32 (S.1 5 0 0 (zo ((n : Int) + 2)).toNatClampNeg)
  obtain ⟨S', c1, c2, cg⟩ := cQ (d := 40) (M := 198) hI (wr_302 (xa := zo P1) (xb := zo P2)) (A97 (d := 37) hI.1.1.1 hI.2.2.1 G11 G12 G21 G22) (fun S1 h h8 => B198 (d := 38) h hI.2.2.1 G11 G12 G21 G22) Qm_N (by decide) (by decide)
  have h5 : S'.1 5 = S.1 5 := by
    obtain ⟨_, _, _, _, _, _, _, _, h⟩ := c1
    exact h
  exact Stz_i (cut := 723) (fun _ => zM_723) (fun q => zk_658 (k := q) hl hn hb (by rw [E1, E2]; exact c1)) c2 h5 cg
theorem st_726 (hI : Iv T S a k u f s fl fb tn tx ep) (hT : T + 400 ≤ 1000000) (hl : S.1 5 0 1 0 = zo (len : Nat)) (hn : n + 6 ≤ len) (hb : len ≤ 3072) : Stz n T S 726 := by
  obtain ⟨P1, E1, G11, G12⟩ := i32 (S.1 5 0 0 (zo ((n : Int) + 1)).toNatClampNeg)
  obtain ⟨P2, E2, G21, G22⟩ := i32 (S.1 5 0 0 (zo ((n : Int) + 2)).toNatClampNeg)
  obtain ⟨S', c1, c2, cg⟩ := cQ (d := 40) (M := 199) hI (wr_303 (xa := zo P1) (xb := zo P2)) (A98 (d := 37) hI.1.1.1 hI.2.2.1 G11 G12 G21 G22) (fun S1 h h8 => B199 (d := 37) h hI.2.2.1 G11 G12 G21 G22) Qm_N (by decide) (by decide)
  have h5 : S'.1 5 = S.1 5 := by
    obtain ⟨_, _, _, _, _, _, _, _, h⟩ := c1
    exact h
  exact Stz_i (cut := 791) (fun _ => zM_791) (fun q => zk_726 (k := q) hl hn hb (by rw [E1, E2]; exact c1)) c2 h5 cg
theorem st_794 (hI : Iv T S a k u f s fl fb tn tx ep) (hT : T + 400 ≤ 1000000) (hl : S.1 5 0 1 0 = zo (len : Nat)) (hn : n + 6 ≤ len) (hb : len ≤ 3072) : Stz n T S 794 := by
  obtain ⟨P1, E1, G11, G12⟩ := i32 (S.1 5 0 0 (zo ((n : Int) + 1)).toNatClampNeg)
  obtain ⟨S', c1, c2, cg⟩ := cQ (d := 40) (M := 200) hI (wr_304 (xa := zo P1)) (A99 (d := 37) hI.1.1.1 hI.2.2.1 G11 G12) (fun S1 h h8 => B200 (d := 38) h hI.2.2.1 G11 G12) Qm_N (by decide) (by decide)
  have h5 : S'.1 5 = S.1 5 := by
    obtain ⟨_, _, _, _, _, _, _, _, h⟩ := c1
    exact h
  exact Stz_i (cut := 847) (fun _ => zM_847) (fun q => zk_794 (k := q) hl hn hb (by rw [E1]; exact c1)) c2 h5 cg
theorem st_850 (hI : Iv T S a k u f s fl fb tn tx ep) (hT : T + 400 ≤ 1000000) (hl : S.1 5 0 1 0 = zo (len : Nat)) (hn : n + 6 ≤ len) (hb : len ≤ 3072) : Stz n T S 850 := by
  obtain ⟨P1, E1, G11, G12⟩ := i32 (S.1 5 0 0 (zo ((n : Int) + 1)).toNatClampNeg)
  obtain ⟨P2, E2, G21, G22⟩ := i32 (S.1 5 0 0 (zo ((n : Int) + 2)).toNatClampNeg)
  have hE : ∀ i : Nat, (i : Int) < nen a → ∃ b : Nat, (b : Int) < a 9 ∧ a (40 + 10 * b + 6) ≠ 0 ∧ rnk a b = i := fun i hi => by
    obtain ⟨b, x1, x2, x3, _⟩ := hI.1.1.1.2.2.2.2.2.2.2.2 i hi
    exact ⟨b, x1, x2, x3⟩
  obtain ⟨S', c1, c2, cg⟩ := cQ (d := 40) (M := 202) hI (wr_305 (xa := zo P1) (xb := zo P2)) (A100 (d := 37) hI.1.1.1 hI.2.2.1 G11 G12 G21 G22) (fun S1 h h8 => B202 (d := 36) h hI.2.2.1 hE G11 G12 G21 G22) Qm_N (by decide) (by decide)
  have h5 : S'.1 5 = S.1 5 := by
    obtain ⟨_, _, _, _, _, _, _, _, h⟩ := c1
    exact h
  exact Stz_i (cut := 915) (fun _ => zM_915) (fun q => zk_850 (k := q) hl hn hb (by rw [E1, E2]; exact c1)) c2 h5 cg
theorem st_1133 (hI : Iv T S a k u f s fl fb tn tx ep) (hT : T + 400 ≤ 1000000) (hl : S.1 5 0 1 0 = zo (len : Nat)) (hn : n + 6 ≤ len) (hb : len ≤ 3072) : Stz n T S 1133 := by
  obtain ⟨P1, E1, G11, G12⟩ := i32 (S.1 5 0 0 (zo ((n : Int) + 1)).toNatClampNeg)
  obtain ⟨P2, E2, G21, G22⟩ := i32 (S.1 5 0 0 (zo ((n : Int) + 2)).toNatClampNeg)
  obtain ⟨P3, E3, G31, G32⟩ := i32 (S.1 5 0 0 (zo ((n : Int) + 3)).toNatClampNeg)
  obtain ⟨S', c1, c2, cg⟩ := cQ (d := 40) (M := 206) hI (wr_308 (xa := zo P1) (xb := zo P2) (xc := zo P3)) (A104 (d := 33) hI.1.1.1 hI.2.2.1 hI.1.2.2.2.2.2.2.2.2.2 G11 G12 G21 G22 G31 G32) (fun S1 h h8 => B206 (d := 34) h hI.2.2.1 G11 G12 G21 G22 G31 G32) Qm_B (by decide) (by decide)
  have h5 : S'.1 5 = S.1 5 := by
    obtain ⟨_, _, _, _, _, _, _, _, h⟩ := c1
    exact h
  exact Stz_i (cut := 1210) (fun _ => zM_1210) (fun q => zk_1133 (k := q) hl hn hb (by rw [E1, E2, E3]; exact c1)) c2 h5 cg
theorem st_1213 (hI : Iv T S a k u f s fl fb tn tx ep) (hT : T + 400 ≤ 1000000) (hl : S.1 5 0 1 0 = zo (len : Nat)) (hn : n + 6 ≤ len) (hb : len ≤ 3072) : Stz n T S 1213 := by
  obtain ⟨P1, E1, G11, G12⟩ := i32 (S.1 5 0 0 (zo ((n : Int) + 1)).toNatClampNeg)
  obtain ⟨S', c1, c2, cg⟩ := cQ (d := 40) (M := 208) hI (wr_309 (xa := zo P1)) (A105 (d := 37) hI.1.1.1 hI.2.2.1 G11 G12) (fun S1 h h8 => B208 (d := 38) h hI.2.2.1 G11 G12) Qm_N (by decide) (by decide)
  have h5 : S'.1 5 = S.1 5 := by
    obtain ⟨_, _, _, _, _, _, _, _, h⟩ := c1
    exact h
  exact Stz_i (cut := 1266) (fun _ => zM_1266) (fun q => zk_1213 (k := q) hl hn hb (by rw [E1]; exact c1)) c2 h5 cg
theorem st_1282 (hI : Iv T S a k u f s fl fb tn tx ep) (hT : T + 400 ≤ 1000000) (hl : S.1 5 0 1 0 = zo (len : Nat)) (hn : n + 6 ≤ len) (hb : len ≤ 3072) : Stz n T S 1282 := by
  obtain ⟨P1, E1, G11, G12⟩ := i32 (S.1 5 0 0 (zo ((n : Int) + 1)).toNatClampNeg)
  obtain ⟨S', c1, c2, cg⟩ := cQ (d := 40) (M := 211) hI (wr_310 (xa := zo P1)) (A107 (d := 37) hI.1.1.1 hI.2.2.1 G11 G12) (fun S1 h h8 => B211 (d := 38) h hI.2.2.1 G11 G12) Qm_N (by decide) (by decide)
  have h5 : S'.1 5 = S.1 5 := by
    obtain ⟨_, _, _, _, _, _, _, _, h⟩ := c1
    exact h
  exact Stz_i (cut := 1335) (fun _ => zM_1335) (fun q => zk_1282 (k := q) hl hn hb (by rw [E1]; exact c1)) c2 h5 cg
theorem st_1338 (hI : Iv T S a k u f s fl fb tn tx ep) (hT : T + 400 ≤ 1000000) (hl : S.1 5 0 1 0 = zo (len : Nat)) (hn : n + 6 ≤ len) (hb : len ≤ 3072) : Stz n T S 1338 := by
  obtain ⟨P1, E1, G11, G12⟩ := i32 (S.1 5 0 0 (zo ((n : Int) + 1)).toNatClampNeg)
  obtain ⟨P2, E2, G21, G22⟩ := i32 (S.1 5 0 0 (zo ((n : Int) + 2)).toNatClampNeg)
  obtain ⟨P3, E3, G31, G32⟩ := i32 (S.1 5 0 0 (zo ((n : Int) + 3)).toNatClampNeg)
  obtain ⟨D, hS⟩ : ∃ D, vB a P1 → vC a P2 P3 → Sol a (wgt a P1.toNat) (a 0 * P3 + P2) D := by
    by_cases c : vC a P2 P3
    · obtain ⟨D, hD⟩ := Sol_ex hI.2.2.1 (wgt_ok hI.2.2.1 P1.toNat) (cel_inN c)
      exact ⟨D, fun _ _ => hD⟩
    · exact ⟨fun _ => 0, fun _ y => absurd y c⟩
  obtain ⟨S', c1, c2, cg⟩ := cQ (d := 40) (M := 218) hI (wr_311 (xa := zo P1) (xb := zo P2) (xc := zo P3)) (A112 (d := 33) hI.1.1.1 hI.2.2.1 hI.1.2.2.2.2.2.2.2.2.1 G11 G12 G21 G22 G31 G32 hS) (fun S1 h h8 => B218 (d := 32) h hI.2.2.1 G11 G12 G21 G22 G31 G32 hS) Qm_N (by decide) (by decide)
  have h5 : S'.1 5 = S.1 5 := by
    obtain ⟨_, _, _, _, _, _, _, _, h⟩ := c1
    exact h
  exact Stz_i (cut := 1415) (fun _ => zM_1415) (fun q => zk_1338 (k := q) hl hn hb (by rw [E1, E2, E3]; exact c1)) c2 h5 cg
theorem st_1418 (hI : Iv T S a k u f s fl fb tn tx ep) (hT : T + 400 ≤ 1000000) (hl : S.1 5 0 1 0 = zo (len : Nat)) (hn : n + 6 ≤ len) (hb : len ≤ 3072) : Stz n T S 1418 := by
  obtain ⟨P1, E1, G11, G12⟩ := i32 (S.1 5 0 0 (zo ((n : Int) + 1)).toNatClampNeg)
  obtain ⟨P2, E2, G21, G22⟩ := i32 (S.1 5 0 0 (zo ((n : Int) + 2)).toNatClampNeg)
  obtain ⟨P3, E3, G31, G32⟩ := i32 (S.1 5 0 0 (zo ((n : Int) + 3)).toNatClampNeg)
  obtain ⟨D, hS⟩ : ∃ D, vB a P1 → vC a P2 P3 → Sol a (wgt a P1.toNat) (a 0 * P3 + P2) D := by
    by_cases c : vC a P2 P3
    · obtain ⟨D, hD⟩ := Sol_ex hI.2.2.1 (wgt_ok hI.2.2.1 P1.toNat) (cel_inN c)
      exact ⟨D, fun _ _ => hD⟩
    · exact ⟨fun _ => 0, fun _ y => absurd y c⟩
  obtain ⟨S', c1, c2, cg⟩ := cQ (d := 40) (M := 219) hI (wr_312 (xa := zo P1) (xb := zo P2) (xc := zo P3)) (A113 (d := 33) hI.1.1.1 hI.2.2.1 hI.1.2.2.2.2.2.2.2.2.1 G11 G12 G21 G22 G31 G32 hS) (fun S1 h h8 => B219 (d := 32) h hI.2.2.1 G11 G12 G21 G22 G31 G32 hS) Qm_N (by decide) (by decide)
  have h5 : S'.1 5 = S.1 5 := by
    obtain ⟨_, _, _, _, _, _, _, _, h⟩ := c1
    exact h
  exact Stz_i (cut := 1495) (fun _ => zM_1495) (fun q => zk_1418 (k := q) hl hn hb (by rw [E1, E2, E3]; exact c1)) c2 h5 cg
theorem st_1498 (hI : Iv T S a k u f s fl fb tn tx ep) (hT : T + 400 ≤ 1000000) (hl : S.1 5 0 1 0 = zo (len : Nat)) (hn : n + 6 ≤ len) (hb : len ≤ 3072) : Stz n T S 1498 := by
  obtain ⟨P1, E1, G11, G12⟩ := i32 (S.1 5 0 0 (zo ((n : Int) + 1)).toNatClampNeg)
  obtain ⟨S', c1, c2, cg⟩ := cQ (d := 40) (M := 220) hI (wr_313 (xa := zo P1)) (A115 (d := 33) hI.1.1.1 hI.2.2.1 hT (hI.1.1.2.2.2 1 (by decide)) G11 G12) (fun S1 h h8 => B220 (d := 32) h h8 hI.2.2.1 hT G11 G12) Qm_N (by decide) (by decide)
  have h5 : S'.1 5 = S.1 5 := by
    obtain ⟨_, _, _, _, _, _, _, _, h⟩ := c1
    exact h
  exact Stz_i (cut := 1551) (fun _ => zM_1551) (fun q => zk_1498 (k := q) hl hn hb (by rw [E1]; exact c1)) c2 h5 cg
theorem st_1567 (hI : Iv T S a k u f s fl fb tn tx ep) (hT : T + 400 ≤ 1000000) (hl : S.1 5 0 1 0 = zo (len : Nat)) (hn : n + 6 ≤ len) (hb : len ≤ 3072) : Stz n T S 1567 := by
  obtain ⟨P1, E1, G11, G12⟩ := i32 (S.1 5 0 0 (zo ((n : Int) + 1)).toNatClampNeg)
  obtain ⟨P2, E2, G21, G22⟩ := i32 (S.1 5 0 0 (zo ((n : Int) + 2)).toNatClampNeg)
  obtain ⟨P3, E3, G31, G32⟩ := i32 (S.1 5 0 0 (zo ((n : Int) + 3)).toNatClampNeg)
  obtain ⟨S', c1, c2, cg⟩ := cQ (d := 40) (M := 222) hI (wr_314 (xa := zo P1) (xb := zo P2) (xc := zo P3)) (A117 (d := 32) hI.1.1.1 hI.2.2.1 hT (hI.1.1.2.2.2 1 (by decide)) G11 G12 G21 G22 G31 G32) (fun S1 h h8 => B222 (d := 31) h h8 hI.2.2.1 hT G11 G12 G21 G22 G31 G32) Qm_B (by decide) (by decide)
  have h5 : S'.1 5 = S.1 5 := by
    obtain ⟨_, _, _, _, _, _, _, _, h⟩ := c1
    exact h
  exact Stz_i (cut := 1644) (fun _ => zM_1644) (fun q => zk_1567 (k := q) hl hn hb (by rw [E1, E2, E3]; exact c1)) c2 h5 cg
theorem st_1647 (hI : Iv T S a k u f s fl fb tn tx ep) (hT : T + 400 ≤ 1000000) (hl : S.1 5 0 1 0 = zo (len : Nat)) (hn : n + 6 ≤ len) (hb : len ≤ 3072) : Stz n T S 1647 := by
  obtain ⟨P1, E1, G11, G12⟩ := i32 (S.1 5 0 0 (zo ((n : Int) + 1)).toNatClampNeg)
  obtain ⟨S', c1, c2, cg⟩ := cQ (d := 40) (M := 223) hI (wr_315 (xa := zo P1)) (A118 (d := 32) hI.1.1.1 hI.2.2.1 hT (hI.1.1.2.2.2 1 (by decide)) G11 G12) (fun S1 h h8 => B223 (d := 31) h h8 hI.2.2.1 hT G11 G12) Qm_I (by decide) (by decide)
  have h5 : S'.1 5 = S.1 5 := by
    obtain ⟨_, _, _, _, _, _, _, _, h⟩ := c1
    exact h
  exact Stz_i (cut := 1700) (fun _ => zM_1700) (fun q => zk_1647 (k := q) hl hn hb (by rw [E1]; exact c1)) c2 h5 cg
theorem st_1703 (hI : Iv T S a k u f s fl fb tn tx ep) (hT : T + 400 ≤ 1000000) (hl : S.1 5 0 1 0 = zo (len : Nat)) (hn : n + 6 ≤ len) (hb : len ≤ 3072) : Stz n T S 1703 := by
  obtain ⟨P1, E1, G11, G12⟩ := i32 (S.1 5 0 0 (zo ((n : Int) + 1)).toNatClampNeg)
  obtain ⟨P2, E2, G21, G22⟩ := i32 (S.1 5 0 0 (zo ((n : Int) + 2)).toNatClampNeg)
  obtain ⟨S', c1, c2, cg⟩ := cQ (d := 40) (M := 224) hI (wr_316 (xa := zo P1) (xb := zo P2)) (A119 (d := 32) hI.1.1.1 hI.2.2.1 hT (hI.1.1.2.2.2 1 (by decide)) G11 G12 G21 G22) (fun S1 h h8 => B224 (d := 30) h h8 hI.2.2.1 hT G11 G12 G21 G22) Qm_B (by decide) (by decide)
  have h5 : S'.1 5 = S.1 5 := by
    obtain ⟨_, _, _, _, _, _, _, _, h⟩ := c1
    exact h
  exact Stz_i (cut := 1768) (fun _ => zM_1768) (fun q => zk_1703 (k := q) hl hn hb (by rw [E1, E2]; exact c1)) c2 h5 cg
theorem st_1771 (hI : Iv T S a k u f s fl fb tn tx ep) (hT : T + 400 ≤ 1000000) (hl : S.1 5 0 1 0 = zo (len : Nat)) (hn : n + 6 ≤ len) (hb : len ≤ 3072) : Stz n T S 1771 := by
  obtain ⟨P1, E1, G11, G12⟩ := i32 (S.1 5 0 0 (zo ((n : Int) + 1)).toNatClampNeg)
  obtain ⟨S', c1, c2, cg⟩ := cQ (d := 40) (M := 225) hI (wr_317 (xa := zo P1)) (A120 (d := 32) hI.1.1.1 hI.2.2.1 hT (hI.1.1.2.2.2 1 (by decide)) G11 G12) (fun S1 h h8 => B225 (d := 30) h h8 hI.2.2.1 hT G11 G12) Qm_N (by decide) (by decide)
  have h5 : S'.1 5 = S.1 5 := by
    obtain ⟨_, _, _, _, _, _, _, _, h⟩ := c1
    exact h
  exact Stz_i (cut := 1824) (fun _ => zM_1824) (fun q => zk_1771 (k := q) hl hn hb (by rw [E1]; exact c1)) c2 h5 cg
end DU

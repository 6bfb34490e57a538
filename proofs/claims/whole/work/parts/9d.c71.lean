/-! THE PURE SIDE 71: the law's loop: operations (written by tools/gen71.py) -/
section DW
variable {S S' : zS} {n len k tn : Nat} {a s : Rw} {T fl ep : Int} {u : Nat → Rw} {f : Bool} {fb tx : Nat → Int} {pc cut W M : Nat} {av : List zV}
theorem Iv_mono {T2 : Int} (h : Iv T S a k u f s fl fb tn tx ep) (h1 : T ≤ T2) (h2 : T2 ≤ 1000000) : Iv T2 S a k u f s fl fb tn tx ep := ⟨h.1, h.2.1, ⟨WF_mono h.2.2.1 h1 h2, fun i => WF_mono (h.2.2.2.1 i) h1 h2, WF_mono h.2.2.2.2.1 h1 h2, h.2.2.2.2.2⟩⟩
theorem Stz_mono {T2 : Int} (h : Stz n T S pc) (h1 : T ≤ T2) (h2 : T2 ≤ 1000000) : Stz n T2 S pc := by
  intro k hk
  obtain ⟨S', a, k2, u, f, s, fl, fb, tn, tx, ep, kk, x1, x2, x3, x4, x5⟩ := h k hk
  exact ⟨S', a, k2, u, f, s, fl, fb, tn, tx, ep, kk, x1, x2, Iv_mono x3 h1 h2, x4, x5⟩
theorem st_1924 (hI : Iv T S a k u f s fl fb tn tx ep) (hT : T + 400 ≤ 1000000) (hl : S.1 5 0 1 0 = zo (len : Nat)) (hn : n + 6 ≤ len) (hb : len ≤ 3072) : Stz n T S 1924 := by
  obtain ⟨P1, E1, G11, G12⟩ := i32 (S.1 5 0 0 (zo ((n : Int) + 1)).toNatClampNeg)
  obtain ⟨P2, E2, G21, G22⟩ := i32 (S.1 5 0 0 (zo ((n : Int) + 2)).toNatClampNeg)
  obtain ⟨P3, E3, G31, G32⟩ := i32 (S.1 5 0 0 (zo ((n : Int) + 3)).toNatClampNeg)
  obtain ⟨P4, E4, G41, G42⟩ := i32 (S.1 5 0 0 (zo ((n : Int) + 4)).toNatClampNeg)
  have uT := hI.2.2.1.1.2.2.2.2.2.2.1.2.2
  obtain ⟨S', a2, k2, u2, c1, c2, cg⟩ := cO (d := 40) (M := 231) (T2 := T) hI (wr_318 (xa := zo P1) (xb := zo P2) (xc := zo P3) (xd := zo P4)) (A122 (d := 36) hI.1.1 hI.2.2.1 G11 G12 G21 G22 G31 G32 G41 G42) (fun S1 H1 => B231 (d := 36) H1 hI.2.2.1 G11 G12 G21 G22 G31 G32 G41 G42) rfl Qm_spAdd (WF_spAdd hI.2.2.1) (by omega) (by decide) (by decide)
  have h5 : S'.1 5 = S.1 5 := by
    obtain ⟨_, _, _, _, _, _, _, _, h⟩ := c1
    exact h
  exact Stz_i (cut := 2013) (fun _ => zM_2013) (fun q => zk_1924 (k := q) hl hn hb (by rw [E1, E2, E3, E4]; exact c1)) c2 h5 cg
theorem st_2016 (hI : Iv T S a k u f s fl fb tn tx ep) (hT : T + 400 ≤ 1000000) (hl : S.1 5 0 1 0 = zo (len : Nat)) (hn : n + 6 ≤ len) (hb : len ≤ 3072) : Stz n T S 2016 := by
  obtain ⟨P1, E1, G11, G12⟩ := i32 (S.1 5 0 0 (zo ((n : Int) + 1)).toNatClampNeg)
  obtain ⟨P2, E2, G21, G22⟩ := i32 (S.1 5 0 0 (zo ((n : Int) + 2)).toNatClampNeg)
  obtain ⟨P3, E3, G31, G32⟩ := i32 (S.1 5 0 0 (zo ((n : Int) + 3)).toNatClampNeg)
  have uT := hI.2.2.1.1.2.2.2.2.2.2.1.2.2
  obtain ⟨S', a2, k2, u2, c1, c2, cg⟩ := cO (d := 40) (M := 232) (T2 := T) hI (wr_319 (xa := zo P1) (xb := zo P2) (xc := zo P3)) (A123 (d := 36) hI.1.1 hI.2.2.1 G11 G12 G21 G22 G31 G32) (fun S1 H1 => B232 (d := 36) H1 hI.2.2.1 G11 G12 G21 G22 G31 G32) rfl Qm_spCarry (WF_spCarry hI.2.2.1) (by omega) (by decide) (by decide)
  have h5 : S'.1 5 = S.1 5 := by
    obtain ⟨_, _, _, _, _, _, _, _, h⟩ := c1
    exact h
  exact Stz_i (cut := 2093) (fun _ => zM_2093) (fun q => zk_2016 (k := q) hl hn hb (by rw [E1, E2, E3]; exact c1)) c2 h5 cg
theorem st_2096 (hI : Iv T S a k u f s fl fb tn tx ep) (hT : T + 400 ≤ 1000000) (hl : S.1 5 0 1 0 = zo (len : Nat)) (hn : n + 6 ≤ len) (hb : len ≤ 3072) : Stz n T S 2096 := by
  obtain ⟨P1, E1, G11, G12⟩ := i32 (S.1 5 0 0 (zo ((n : Int) + 1)).toNatClampNeg)
  obtain ⟨P2, E2, G21, G22⟩ := i32 (S.1 5 0 0 (zo ((n : Int) + 2)).toNatClampNeg)
  obtain ⟨P3, E3, G31, G32⟩ := i32 (S.1 5 0 0 (zo ((n : Int) + 3)).toNatClampNeg)
  obtain ⟨P4, E4, G41, G42⟩ := i32 (S.1 5 0 0 (zo ((n : Int) + 4)).toNatClampNeg)
  obtain ⟨D, hS⟩ : ∃ D, vB a P1 → vC a P2 P3 → Sol a (wgt a P1.toNat) (a 0 * P3 + P2) D := by
    by_cases c : vC a P2 P3
    · obtain ⟨D, hD⟩ := Sol_ex hI.2.2.1 (wgt_ok hI.2.2.1 P1.toNat) (cel_inN c)
      exact ⟨D, fun _ _ => hD⟩
    · exact ⟨fun _ => 0, fun _ y => absurd y c⟩
  have uT := hI.2.2.1.1.2.2.2.2.2.2.1.2.2
  obtain ⟨S', a2, k2, u2, c1, c2, cg⟩ := cO (d := 40) (M := 233) (T2 := T) hI (wr_320 (xa := zo P1) (xb := zo P2) (xc := zo P3) (xd := zo P4)) (A114 (d := 33) hI.1.1 hI.2.2.1 hI.1.2.2.2.2.2.2.2.2.1 G11 G12 G21 G22 G31 G32 G41 G42 hS) (fun S1 H1 => B233 (d := 32) H1 hI.2.2.1 G11 G12 G21 G22 G31 G32 G41 G42 hS) rfl Qm_spPull (WF_pull hI.2.2.1 hS) (by omega) (by decide) (by decide)
  have h5 : S'.1 5 = S.1 5 := by
    obtain ⟨_, _, _, _, _, _, _, _, h⟩ := c1
    exact h
  exact Stz_i (cut := 2185) (fun _ => zM_2185) (fun q => zk_2096 (k := q) hl hn hb (by rw [E1, E2, E3, E4]; exact c1)) c2 h5 cg
theorem st_2188 (hI : Iv T S a k u f s fl fb tn tx ep) (hT : T + 400 ≤ 1000000) (hl : S.1 5 0 1 0 = zo (len : Nat)) (hn : n + 6 ≤ len) (hb : len ≤ 3072) : Stz n T S 2188 := by
  obtain ⟨P1, E1, G11, G12⟩ := i32 (S.1 5 0 0 (zo ((n : Int) + 1)).toNatClampNeg)
  obtain ⟨P2, E2, G21, G22⟩ := i32 (S.1 5 0 0 (zo ((n : Int) + 2)).toNatClampNeg)
  obtain ⟨P3, E3, G31, G32⟩ := i32 (S.1 5 0 0 (zo ((n : Int) + 3)).toNatClampNeg)
  have uT := hI.2.2.1.1.2.2.2.2.2.2.1.2.2
  obtain ⟨S', a2, k2, u2, c1, c2, cg⟩ := cO (d := 40) (M := 234) (T2 := T) hI (wr_321 (xa := zo P1) (xb := zo P2) (xc := zo P3)) (A124 (d := 36) hI.1.1 hI.2.2.1 G11 G12 G21 G22 G31 G32) (fun S1 H1 => B234 (d := 37) H1 hI.2.2.1 G11 G12 G21 G22 G31 G32) rfl Qm_spBlow (WF_spBlow hI.2.2.1) (by omega) (by decide) (by decide)
  have h5 : S'.1 5 = S.1 5 := by
    obtain ⟨_, _, _, _, _, _, _, _, h⟩ := c1
    exact h
  exact Stz_i (cut := 2265) (fun _ => zM_2265) (fun q => zk_2188 (k := q) hl hn hb (by rw [E1, E2, E3]; exact c1)) c2 h5 cg
theorem st_2268 (hI : Iv T S a k u f s fl fb tn tx ep) (hT : T + 400 ≤ 1000000) (hl : S.1 5 0 1 0 = zo (len : Nat)) (hn : n + 6 ≤ len) (hb : len ≤ 3072) : Stz n T S 2268 := by
  obtain ⟨P1, E1, G11, G12⟩ := i32 (S.1 5 0 0 (zo ((n : Int) + 1)).toNatClampNeg)
  have uT := hI.2.2.1.1.2.2.2.2.2.2.1.2.2
  obtain ⟨S', a2, k2, u2, c1, c2, cg⟩ := cO (d := 40) (M := 235) (T2 := T) hI (wr_322 (xa := zo P1)) (A125 (d := 36) hI.1.1 hI.2.2.1 G11 G12) (fun S1 H1 => B235 (d := 37) H1 hI.2.2.1 G11 G12) rfl Qm_spDry (WF_spDry hI.2.2.1) (by omega) (by decide) (by decide)
  have h5 : S'.1 5 = S.1 5 := by
    obtain ⟨_, _, _, _, _, _, _, _, h⟩ := c1
    exact h
  exact Stz_i (cut := 2321) (fun _ => zM_2321) (fun q => zk_2268 (k := q) hl hn hb (by rw [E1]; exact c1)) c2 h5 cg
theorem st_2324 (hI : Iv T S a k u f s fl fb tn tx ep) (hT : T + 400 ≤ 1000000) (hl : S.1 5 0 1 0 = zo (len : Nat)) (hn : n + 6 ≤ len) (hb : len ≤ 3072) : Stz n T S 2324 := by
  obtain ⟨P1, E1, G11, G12⟩ := i32 (S.1 5 0 0 (zo ((n : Int) + 1)).toNatClampNeg)
  obtain ⟨P2, E2, G21, G22⟩ := i32 (S.1 5 0 0 (zo ((n : Int) + 2)).toNatClampNeg)
  have uT := hI.2.2.1.1.2.2.2.2.2.2.1.2.2
  obtain ⟨S', a2, k2, u2, c1, c2, cg⟩ := cO (d := 40) (M := 237) (T2 := T) hI (wr_323 (xa := zo P1) (xb := zo P2)) (A126 (d := 36) hI.1.1 hI.2.2.1 G11 G12 G21 G22) (fun S1 H1 => B237 (d := 37) H1 hI.2.2.1 G11 G12 G21 G22) rfl Qm_spSetD (WF_spSetD hI.2.2.1) (by omega) (by decide) (by decide)
  have h5 : S'.1 5 = S.1 5 := by
    obtain ⟨_, _, _, _, _, _, _, _, h⟩ := c1
    exact h
  exact Stz_i (cut := 2389) (fun _ => zM_2389) (fun q => zk_2324 (k := q) hl hn hb (by rw [E1, E2]; exact c1)) c2 h5 cg
theorem st_2392 (hI : Iv T S a k u f s fl fb tn tx ep) (hT : T + 400 ≤ 1000000) (hl : S.1 5 0 1 0 = zo (len : Nat)) (hn : n + 6 ≤ len) (hb : len ≤ 3072) : Stz n T S 2392 := by
  obtain ⟨P1, E1, G11, G12⟩ := i32 (S.1 5 0 0 (zo ((n : Int) + 1)).toNatClampNeg)
  obtain ⟨P2, E2, G21, G22⟩ := i32 (S.1 5 0 0 (zo ((n : Int) + 2)).toNatClampNeg)
  have uT := hI.2.2.1.1.2.2.2.2.2.2.1.2.2
  obtain ⟨S', a2, k2, u2, c1, c2, cg⟩ := cO (d := 40) (M := 238) (T2 := T) hI (wr_324 (xa := zo P1) (xb := zo P2)) (A127 (d := 36) hI.1.1 hI.2.2.1 G11 G12 G21 G22) (fun S1 H1 => B238 (d := 37) H1 hI.2.2.1 G11 G12 G21 G22) rfl Qm_spSetT (WF_spSetT hI.2.2.1) (by omega) (by decide) (by decide)
  have h5 : S'.1 5 = S.1 5 := by
    obtain ⟨_, _, _, _, _, _, _, _, h⟩ := c1
    exact h
  exact Stz_i (cut := 2457) (fun _ => zM_2457) (fun q => zk_2392 (k := q) hl hn hb (by rw [E1, E2]; exact c1)) c2 h5 cg
theorem st_2460 (hI : Iv T S a k u f s fl fb tn tx ep) (hT : T + 400 ≤ 1000000) (hl : S.1 5 0 1 0 = zo (len : Nat)) (hn : n + 6 ≤ len) (hb : len ≤ 3072) : Stz n T S 2460 := by
  obtain ⟨P1, E1, G11, G12⟩ := i32 (S.1 5 0 0 (zo ((n : Int) + 1)).toNatClampNeg)
  obtain ⟨P2, E2, G21, G22⟩ := i32 (S.1 5 0 0 (zo ((n : Int) + 2)).toNatClampNeg)
  obtain ⟨P3, E3, G31, G32⟩ := i32 (S.1 5 0 0 (zo ((n : Int) + 3)).toNatClampNeg)
  have uT := hI.2.2.1.1.2.2.2.2.2.2.1.2.2
  obtain ⟨S', a2, k2, u2, c1, c2, cg⟩ := cO (d := 40) (M := 239) (T2 := T) hI (wr_325 (xa := zo P1) (xb := zo P2) (xc := zo P3)) (A128 (d := 36) hI.1.1 hI.2.2.1 G11 G12 G21 G22 G31 G32) (fun S1 H1 => B239 (d := 37) H1 hI.2.2.1 G11 G12 G21 G22 G31 G32) rfl Qm_spDrop (WF_spDrop hI.2.2.1) (by omega) (by decide) (by decide)
  have h5 : S'.1 5 = S.1 5 := by
    obtain ⟨_, _, _, _, _, _, _, _, h⟩ := c1
    exact h
  exact Stz_i (cut := 2537) (fun _ => zM_2537) (fun q => zk_2460 (k := q) hl hn hb (by rw [E1, E2, E3]; exact c1)) c2 h5 cg
theorem st_2540 (hI : Iv T S a k u f s fl fb tn tx ep) (hT : T + 400 ≤ 1000000) (hl : S.1 5 0 1 0 = zo (len : Nat)) (hn : n + 6 ≤ len) (hb : len ≤ 3072) : Stz n T S 2540 := by
  obtain ⟨P1, E1, G11, G12⟩ := i32 (S.1 5 0 0 (zo ((n : Int) + 1)).toNatClampNeg)
  obtain ⟨P2, E2, G21, G22⟩ := i32 (S.1 5 0 0 (zo ((n : Int) + 2)).toNatClampNeg)
  have uT := hI.2.2.1.1.2.2.2.2.2.2.1.2.2
  obtain ⟨S', a2, k2, u2, c1, c2, cg⟩ := cO (d := 40) (M := 240) (T2 := T) hI (wr_326 (xa := zo P1) (xb := zo P2)) (A129 (d := 36) hI.1.1 hI.2.2.1 G11 G12 G21 G22) (fun S1 H1 => B240 (d := 37) H1 hI.2.2.1 G11 G12 G21 G22) rfl Qm_spWipe (WF_spWipe hI.2.2.1) (by omega) (by decide) (by decide)
  have h5 : S'.1 5 = S.1 5 := by
    obtain ⟨_, _, _, _, _, _, _, _, h⟩ := c1
    exact h
  exact Stz_i (cut := 2605) (fun _ => zM_2605) (fun q => zk_2540 (k := q) hl hn hb (by rw [E1, E2]; exact c1)) c2 h5 cg
theorem st_2608 (hI : Iv T S a k u f s fl fb tn tx ep) (hT : T + 400 ≤ 1000000) (hl : S.1 5 0 1 0 = zo (len : Nat)) (hn : n + 6 ≤ len) (hb : len ≤ 3072) : Stz n T S 2608 := by
  obtain ⟨P1, E1, G11, G12⟩ := i32 (S.1 5 0 0 (zo ((n : Int) + 1)).toNatClampNeg)
  have uT := hI.2.2.1.1.2.2.2.2.2.2.1.2.2
  obtain ⟨S', a2, k2, u2, c1, c2, cg⟩ := cO (d := 40) (M := 241) (T2 := T) hI (wr_327 (xa := zo P1)) (A130 (d := 36) hI.1.1 hI.2.2.1 G11 G12) (fun S1 H1 => B241 (d := 37) H1 hI.2.2.1 G11 G12) sp2_Push Qm_spPush (WF_spPush hI.2.2.1) (by omega) (by decide) (by decide)
  have h5 : S'.1 5 = S.1 5 := by
    obtain ⟨_, _, _, _, _, _, _, _, h⟩ := c1
    exact h
  exact Stz_i (cut := 2661) (fun _ => zM_2661) (fun q => zk_2608 (k := q) hl hn hb (by rw [E1]; exact c1)) c2 h5 cg
theorem st_2664 (hI : Iv T S a k u f s fl fb tn tx ep) (hT : T + 400 ≤ 1000000) (hl : S.1 5 0 1 0 = zo (len : Nat)) (hn : n + 6 ≤ len) (hb : len ≤ 3072) : Stz n T S 2664 := by
  obtain ⟨P1, E1, G11, G12⟩ := i32 (S.1 5 0 0 (zo ((n : Int) + 1)).toNatClampNeg)
  obtain ⟨P2, E2, G21, G22⟩ := i32 (S.1 5 0 0 (zo ((n : Int) + 2)).toNatClampNeg)
  have uT := hI.2.2.1.1.2.2.2.2.2.2.1.2.2
  obtain ⟨S', a2, k2, u2, c1, c2, cg⟩ := cO (d := 40) (M := 242) (T2 := T) hI (wr_328 (xa := zo P1) (xb := zo P2)) (A131 (d := 36) hI.1.1 hI.2.2.1 G11 G12 G21 G22) (fun S1 H1 => B242 (d := 37) H1 hI.2.2.1 G11 G12 G21 G22) sp2_Wind Qm_spWind (WF_spWind hI.2.2.1) (by omega) (by decide) (by decide)
  have h5 : S'.1 5 = S.1 5 := by
    obtain ⟨_, _, _, _, _, _, _, _, h⟩ := c1
    exact h
  exact Stz_i (cut := 2729) (fun _ => zM_2729) (fun q => zk_2664 (k := q) hl hn hb (by rw [E1, E2]; exact c1)) c2 h5 cg
theorem st_2732 (hI : Iv T S a k u f s fl fb tn tx ep) (hT : T + 400 ≤ 1000000) (hl : S.1 5 0 1 0 = zo (len : Nat)) (hn : n + 6 ≤ len) (hb : len ≤ 3072) : Stz n T S 2732 := by
  obtain ⟨P1, E1, G11, G12⟩ := i32 (S.1 5 0 0 (zo ((n : Int) + 1)).toNatClampNeg)
  have uT := hI.2.2.1.1.2.2.2.2.2.2.1.2.2
  obtain ⟨S', a2, k2, u2, c1, c2, cg⟩ := cO (d := 40) (M := 243) (T2 := T) hI (wr_329 (xa := zo P1)) (A132 (d := 36) hI.1.1 hI.2.2.1 G11 G12) (fun S1 H1 => B243 (d := 37) H1 hI.2.2.1 G11 G12) sp2_Lev Qm_spLev (WF_spLev hI.2.2.1) (by omega) (by decide) (by decide)
  have h5 : S'.1 5 = S.1 5 := by
    obtain ⟨_, _, _, _, _, _, _, _, h⟩ := c1
    exact h
  exact Stz_i (cut := 2785) (fun _ => zM_2785) (fun q => zk_2732 (k := q) hl hn hb (by rw [E1]; exact c1)) c2 h5 cg
theorem st_2788 (hI : Iv T S a k u f s fl fb tn tx ep) (hT : T + 400 ≤ 1000000) (hl : S.1 5 0 1 0 = zo (len : Nat)) (hn : n + 6 ≤ len) (hb : len ≤ 3072) : Stz n (T + 200) S 2788 := by
  obtain ⟨P1, E1, G11, G12⟩ := i32 (S.1 5 0 0 (zo ((n : Int) + 1)).toNatClampNeg)
  have uT := hI.2.2.1.1.2.2.2.2.2.2.1.2.2
  obtain ⟨S', a2, k2, u2, c1, c2, cg⟩ := cO (d := 40) (M := 244) (T2 := T + 200) hI (wr_330 (xa := zo P1)) (A133 (d := 32) hI.1.1 hI.2.2.1 hT G11 G12) (fun S1 H1 => B244 (d := 31) H1 hI.2.2.1 hT G11 G12) sp2_Turn Qm_spTurn (WF_spTurn hI.2.2.1 hT) (by omega) (by decide) (by decide)
  have h5 : S'.1 5 = S.1 5 := by
    obtain ⟨_, _, _, _, _, _, _, _, h⟩ := c1
    exact h
  exact Stz_i (cut := 2841) (fun _ => zM_2841) (fun q => zk_2788 (k := q) hl hn hb (by rw [E1]; exact c1)) c2 h5 cg
end DW

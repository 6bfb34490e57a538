/-! THE PURE SIDE 48: load, model -/
section DL
variable {S : zS} {d n p t l s k tn : Nat} {a b : Rw} {T : Int} {tx : Nat → Int} {x y z lo hi c v : Int} {st : Et} {u : Nat → Rw}
theorem adv_sgE (h : adv n p st) : adv n p (sgE tx n st) := by
  unfold sgE miE
  split
  · exact adv_nmE (adv_nxt h)
  · exact adv_nmE h
theorem adv_hdD (h : adv n p st) : adv n p (hdD tx n st a).1 := by
  unfold hdD
  split
  · exact adv_ceE (adv_sgE (adv_sgE (adv_nxt h)))
  · exact adv_ceE h
theorem adv_hdC (h : adv n p st) : adv n p (hdC tx n st a).1 := by
  unfold hdC
  split
  · exact adv_hdD (adv_nmE (adv_nxt h))
  · exact adv_hdD h
theorem adv_hdB (h : adv n p st) : adv n p (hdB tx n st a).1 := by
  unfold hdB
  split
  · exact adv_hdC (adv_nmE (adv_nxt h))
  · exact adv_hdC h
theorem adv_hdA (h : adv n p st) : adv n p (hdA tx n st).1 := adv_hdB (adv_nmE (adv_nmE h))
theorem adv_ke0 : adv n 0 (keE tx n 1 (.ok 0)) := by
  show adv n 0 (if _ then _ else _)
  by_cases c : kwB tx n 1 0 = true
  · rw [if_pos c]
    have ht : tkT tx n 0 = 1 := by
      unfold kwB at c
      by_cases z : tkT tx n 0 = 1
      · exact z
      · rw [decide_eq_false z] at c; exact (Bool.false_ne_true c).elim
    exact adv_st (tx := tx) (Nat.zero_le n) (by omega)
  · rw [if_neg c]; exact adv_e
theorem n278 (h : RkM S tx n (.ok 0)) (h8 : (S.1 3 0 0 8).toNatClampNeg = 1) (hT : 0 ≤ T ∧ T ≤ 1000000) (hn : n ≤ 700) : ∃ S', zr_sem zF (d + 10) 278 [za 3 0 0] S = some (.inl none, S') ∧ Pm S S' T tx n (ldP tx n) := by
  have hb := zF1_big
  obtain ⟨S1, p1, p2, p3, p4, p5⟩ := n272 (d := d + 1) h h8 hT
  have ad := adv_hdA (tx := tx) (adv_ke0 (tx := tx) (n := n))
  obtain ⟨S2, q1, q2, q3, q4, q5⟩ := n278_4 (d := d) (T := T) 700 zF1 S1 _ _ (fun p e => by have := ad p e; omega) (by omega) p2 p3 p4
  refine ⟨S2, ?_, q2, q3, q4, Fy_trans p5 q5⟩
  rw [ze_278, p1, zr0]; exact q1
theorem n260 (hx : ∀ i, i < n → S.1 3 0 6 i = zo (tx i) ∧ 0 ≤ tx i ∧ tx i ≤ 255) (hn : n ≤ 700) : ∃ S', zr_sem zF (d + 4) 260 [za 3 0 0, zi (zo n)] S = some (.inl none, S') ∧ RkM S' tx n (.ok 0) ∧ S'.1 3 0 0 23 = zo 0 ∧ S'.2 = S.2 ∧ (∀ k m o j, ¬(k = 3 ∧ m = 0 ∧ o = 0 ∧ (16 ≤ j ∧ j ≤ 20 ∨ j = 23)) → S'.1 k m o j = S.1 k m o j) := by
  have hT : TxM (zs_set (zs_set (zs_set (zs_set S 3 0 0 16 (zo n)) 3 0 0 17 (zo 0)) 3 0 0 20 (zo 0)) 3 0 0 23 (zo 0)) tx n := ⟨⟨by rw [zs_oth (by omega), zs_oth (by omega), zs_oth (by omega), zs_self], hn⟩, fun i hi => by rw [zs_oth (by omega), zs_oth (by omega), zs_oth (by omega), zs_oth (by omega)]; exact hx i hi⟩
  obtain ⟨S2, q1, q2, q3, q4⟩ := m259 (d := d) (p := 0) hT (Nat.zero_le n) (by rw [zs_oth (by omega), zs_oth (by omega), zs_self]; rfl)
  refine ⟨S2, by rw [ze_260, q1, zr0], ⟨TxM_k hT ⟨q3, fun k m o j b => q4 k m o j (by omega)⟩, 0, q2, rfl, by rw [q4 _ _ _ _ (by omega), zs_oth (by omega), zs_self]⟩, by rw [q4 _ _ _ _ (by omega), zs_self], q3, fun k m o j b => ?_⟩
  rw [q4 k m o j (by omega), zs_oth (by omega), zs_oth (by omega), zs_oth (by omega), zs_oth (by omega)]
/-- the error's code -/
def ecA (st : Et) : Int := match st with
  | .ok _ => 0
  | .error e => e.1
theorem n261 (h : RkM S tx n st) : zr_sem zF (d + 1) 261 [za 3 0 0] S = some (.inl (some (zi (zo (ecA st)))), zs_set (zs_set S 3 0 0 15 (zo 0)) 3 0 0 22 (zo (epA st))) := by
  obtain ⟨_, p, _, hE⟩ := h
  rw [ze_261]
  cases st with
  | ok q =>
    have e2 := hE.2
    rw [zs_oth (by omega), e2, if_pos rfl, zs_oth (by omega), zs_oth (by omega), e2]
    rfl
  | error e =>
    obtain ⟨e1, e2, e3⟩ := hE
    rw [zs_oth (by omega), e1, if_neg (show ¬ zo e.1 = zo 0 by rw [zo_eq (by omega) (by omega) (by omega) (by omega)]; omega), zs_oth (by omega), zs_oth (by omega), zs_oth (by omega), e3, e1]
    rfl
theorem ec_0 (h : RkM S tx n st) : (isO st = true → ecA st = 0) ∧ (isO st = false → 1 ≤ ecA st ∧ ecA st ≤ 9) := by
  obtain ⟨_, p, _, hE⟩ := h
  cases st with
  | ok q => exact ⟨fun _ => rfl, fun z => (Bool.false_ne_true z.symm).elim⟩
  | error e => exact ⟨fun z => (Bool.false_ne_true z).elim, fun _ => hE.2.1⟩
theorem B279 (H : HM S k u a) (hw : WF T a) (h8 : S.1 3 0 0 8 = zo 0) (h15 : S.1 3 0 0 15 = zo tn) (htn : tn ≤ 700) (hx : ∀ i, i < tn → S.1 3 0 6 i = zo (tx i) ∧ 0 ≤ tx i ∧ tx i ≤ 255) (hT : 0 ≤ T ∧ T ≤ 1000000) (g1 : -2147483648 ≤ x) (g2 : x < 2147483648) : if 0 ≤ x ∧ x ≤ tn then ∃ S', zr_sem zF (d + 11) 279 [za 3 0 0, zi (zo x)] S = some (.inl (some (zi (zo (ldA (ldP tx x.toNat))))), S') ∧ S'.1 3 0 0 10 = zo 0 ∧ S'.1 3 0 0 8 = zo 0 ∧ HM S' (if isO (ldP tx x.toNat).1 = true then 0 else k) u (if isO (ldP tx x.toNat).1 = true then (ldP tx x.toNat).2 else a) ∧ S'.1 3 0 0 15 = zo 0 ∧ S'.1 3 0 0 22 = zo (epA (ldP tx x.toNat).1) ∧ S'.1 3 0 0 11 = (if isO (ldP tx x.toNat).1 = true then zo 0 else S.1 3 0 0 11) ∧ S'.2 = S.2 ∧ (∀ k m o j, ¬(k = 2 ∧ (m = 0 ∨ m = 1)) → ¬(k = 3 ∧ m = 0 ∧ ((o = 0 ∧ (8 ≤ j ∧ j ≤ 11 ∨ 15 ≤ j ∧ j ≤ 23)) ∨ o = 2 ∨ o = 3 ∨ o = 4)) → S'.1 k m o j = S.1 k m o j) else zr_sem zF (d + 11) 279 [za 3 0 0, zi (zo x)] S = some (.inl (some (zi (zo 0))), mt S 1) := by
  have e15 : (mt S 0).1 3 0 0 15 = zo tn := by unfold mt; rw [zs_oth (by omega)]; exact h15
  have h0 := Md_mt H.1 0
  have hu := UdM_mt 0 H.2
  rw [ze_279, mt_def, e15, m147 g1 g2 (by omega) (by omega) (by omega) (by omega), zr1]
  by_cases c : 0 ≤ x ∧ x ≤ tn
  · rw [if_pos c, decide_eq_true c, if_neg (by decide)]
    obtain ⟨q, rfl⟩ : ∃ q : Nat, x = q := ⟨x.toNat, by omega⟩
    rw [Int.toNat_natCast]
    obtain ⟨S1, p1, p2, p3, p4, p5⟩ := n260 (S := mt S 0) (d := d + 6) (n := q) (tx := tx) (fun i hi => by
      unfold mt; rw [zs_oth (by omega)]; exact hx i (by omega)) (by omega)
    have r81 : ((zs_set S1 3 0 0 8 (Int32.ofNat 1)).1 3 0 0 8).toNatClampNeg = 1 := by rw [zs_self]; rfl
    obtain ⟨S2, q1, q2, q3⟩ := m151 (S := zs_set S1 3 0 0 8 (Int32.ofNat 1)) (d := d + 9) (w := 3) (s := 3) (q := 1) (by omega) r81
    have k1 : RkM (zs_set S1 3 0 0 8 (Int32.ofNat 1)) tx q (.ok 0) := RkM_z p2 (fun j hj => zs_oth (by omega)) (fun j => zs_oth (by omega))
    obtain ⟨S3, r1, r2, r3, r4, r5⟩ := n278 (d := d) (T := T) (RkM_m k1 q3) q2.1 hT (by omega)
    have k3 : RkM (zs_set S3 3 0 0 8 (Int32.ofNat 0)) tx q (ldP tx q).1 := RkM_z r2 (fun j hj => zs_oth (by omega)) (fun j => zs_oth (by omega))
    have ec := ec_0 r2
    have F3 : ∀ k m o j, ¬(k = 2 ∧ m = 1) → ¬(k = 3 ∧ m = 0 ∧ ((o = 0 ∧ (j = 8 ∨ j = 10 ∨ 16 ≤ j ∧ j ≤ 23)) ∨ o = 2 ∨ o = 3 ∨ o = 4)) → S3.1 k m o j = S.1 k m o j := fun k m o j b1 b2 => by
      rw [r5.2 k m o j b1 (by omega), q3.2 k m o j (by omega) (by omega), zs_oth (by omega), p5 k m o j (by omega)]
      unfold mt; exact zs_oth (by omega)
    have s2 : S3.2 = S.2 := by rw [r5.1, q3.1]; exact p4
    rw [show zr_sem zF (d + 10) 260 [za 3 0 0, zi (zo (q : Int))] (mt S 0) = _ from p1, zr0, q1, zr0, r1, zr0, n261 k3, zr1]
    have e10 : S3.1 3 0 0 10 = zo 0 := by
      rw [r5.2 _ _ _ _ (by omega) (by omega), q3.2 _ _ _ _ (by omega) (by omega), zs_oth (by omega), p5 _ _ _ _ (by omega)]
      exact mt_10 S 0
    have z8 : ∀ v w : Int32, (zs_set (zs_set (zs_set S3 3 0 0 8 (Int32.ofNat 0)) 3 0 0 15 v) 3 0 0 22 w).1 3 0 0 8 = zo 0 := fun v w => by rw [zs_oth (by omega), zs_oth (by omega), zs_self]; rfl
    have mdO : ∀ v w : Int32, Md (zs_set (zs_set (zs_set S3 3 0 0 8 (Int32.ofNat 0)) 3 0 0 15 v) 3 0 0 22 w) 0 a := fun v w => by
      refine Md_of0 (z8 v w) (fun j hj => ?_)
      rw [zs_oth (by omega), zs_oth (by omega), zs_oth (by omega), F3 _ _ _ _ (by omega) (by omega)]
      exact H.1.2.2 j hj
    by_cases o : isO (ldP tx q).1 = true
    · rw [if_pos o, if_pos o, if_pos o, ec.1 o, if_pos rfl]
      have ea : ldA (ldP tx q) = (ldP tx q).2 9 := by
        unfold ldA
        revert o
        cases (ldP tx q).1 with
        | ok r => intro _; rfl
        | error e => intro z; exact (Bool.false_ne_true z).elim
      obtain ⟨S4, t1, t2, t3, t4⟩ := m248dn (S := zs_set (zs_set (zs_set S3 3 0 0 8 (Int32.ofNat 0)) 3 0 0 15 (zo 0)) 3 0 0 22 (zo (epA (ldP tx q).1))) (d := d + 9) (r1 := 0) (r2 := 0) rfl rfl
      have t1' : zr_sem zF (d + 10) 248 [za 2 1 0, zi (zo 0), za 2 0 0, zi (zo 0)] (zs_set (zs_set (zs_set S3 3 0 0 8 (Int32.ofNat 0)) 3 0 0 15 (zo 0)) 3 0 0 22 (zo (epA (ldP tx q).1))) = some (.inl none, S4) := t1
      have row : ∀ j, j < 260 → S4.1 2 0 0 j = zo ((ldP tx q).2 j) := fun j hj => by
        have := t2 j hj
        rw [Nat.mul_zero, Nat.zero_add] at this
        rw [this, zs_oth (by omega), zs_oth (by omega), zs_oth (by omega)]
        exact r3.2.2 j hj
      have f8 : S4.1 3 0 0 8 = zo 0 := by rw [t3 _ _ _ _ (by omega)]; exact z8 _ _
      rw [t1', zr0, zin_ok (by omega) (by omega) (by omega), show (zo 9).toNatClampNeg = 9 from rfl, zs_oth (by omega), zs_oth (by omega), row 9 (by omega), ea]
      refine ⟨_, rfl, ?_, ?_, ⟨Md_of0 ?_ (fun j hj => ?_), ⟨?_, by omega, fun i j hi hj => by omega⟩⟩, ?_, ?_, zs_self, ?_, fun k m o j b1 b2 => ?_⟩
      · rw [zs_oth (by omega), zs_oth (by omega), t3 _ _ _ _ (by omega), zs_oth (by omega), zs_oth (by omega), zs_oth (by omega)]; exact e10
      · rw [zs_oth (by omega), zs_oth (by omega)]; exact f8
      · rw [zs_oth (by omega), zs_oth (by omega)]; exact f8
      · rw [zs_oth (by omega), zs_oth (by omega)]; exact row j hj
      · rw [zs_oth (by omega), zs_self]; rfl
      · rw [zs_oth (by omega), zs_oth (by omega), t3 _ _ _ _ (by omega), zs_oth (by omega), zs_self]
      · rw [zs_oth (by omega), zs_oth (by omega), t3 _ _ _ _ (by omega), zs_self]
      · show S4.2 = S.2
        rw [t4]; exact s2
      · rw [zs_oth (by omega), zs_oth (by omega), t3 _ _ _ _ (by omega), zs_oth (by omega), zs_oth (by omega), zs_oth (by omega), F3 _ _ _ _ (by omega) (by omega)]
    · have eo := ec.2 (Bool.eq_false_iff.2 o)
      rw [if_neg o, if_neg o, if_neg o, if_neg (show ¬ zo (ecA (ldP tx q).1) = zo 0 by rw [zo_eq (by omega) (by omega) (by omega) (by omega)]; omega)]
      have e20 : (zs_set (zs_set (zs_set S3 3 0 0 8 (Int32.ofNat 0)) 3 0 0 15 (zo 0)) 3 0 0 22 (zo (epA (ldP tx q).1))).1 3 0 0 20 = zo (ecA (ldP tx q).1) := by
        rw [zs_oth (by omega), zs_oth (by omega), zs_oth (by omega)]
        obtain ⟨_, p, _, hE⟩ := r2
        revert hE o
        cases (ldP tx q).1 with
        | ok r => intro z; exact absurd rfl z
        | error e => intro _ hE; exact hE.1
      have ea : ldA (ldP tx q) = -10 - ecA (ldP tx q).1 := by
        unfold ldA ecA
        revert o
        cases (ldP tx q).1 with
        | ok r => intro z; exact absurd rfl z
        | error e => intro _; rfl
      rw [e20, zo_sub, ea]
      refine ⟨_, rfl, ?_, z8 _ _, ⟨mdO _ _, ⟨?_, hu.2.1, fun i j hi hj => ?_⟩⟩, ?_, zs_self, ?_, s2, fun k m o j b1 b2 => ?_⟩
      · rw [zs_oth (by omega), zs_oth (by omega), zs_oth (by omega)]; exact e10
      · rw [zs_oth (by omega), zs_oth (by omega), zs_oth (by omega), F3 _ _ _ _ (by omega) (by omega)]; exact H.2.1
      · rw [zs_oth (by omega), zs_oth (by omega), zs_oth (by omega), F3 _ _ _ _ (by omega) (by omega)]; exact H.2.2.2 i j hi hj
      · rw [zs_oth (by omega), zs_self]
      · rw [zs_oth (by omega), zs_oth (by omega), zs_oth (by omega), F3 _ _ _ _ (by omega) (by omega)]
      · rw [zs_oth (by omega), zs_oth (by omega), zs_oth (by omega), F3 _ _ _ _ (by omega) (by omega)]
  · rw [if_neg c, decide_eq_false c, if_pos (show zo (bI false) = zo 0 from rfl), m146, mt_mt, zr1]
end DL

/-! THE LAW'S PURE SIDE 14: all numbers in one row -/
def AF (T T' : qS) (j : Nat) : Prop := T'.2.length = T.2.length ∧ q_sl T'.2 = q_sl T.2 ∧ (∀ i, i ≠ j → zx_nth T'.2 i = zx_nth T.2 i) ∧ RC T.1 T'.1
theorem AF.rf (T : qS) (j : Nat) : AF T T j := ⟨rfl, rfl, fun _ _ => rfl, RC_refl _⟩
theorem AF.tr {T T1 T2 : qS} {j : Nat} (h1 : AF T T1 j) (h2 : AF T1 T2 j) : AF T T2 j := ⟨h2.1.trans h1.1, h2.2.1.trans h1.2.1, fun i hi => (h2.2.2.1 i hi).trans (h1.2.2.1 i hi), h1.2.2.2.tr h2.2.2.2⟩
theorem AF.set {T : qS} {S' : zS} {j : Nat} {xs ys : List Int32} (h : zx_nth T.2 j = some (.inr (.inl (0, xs)))) (r : RC T.1 S') (hl : ys.length = xs.length) : AF T (S', T.2.set j (.inr (.inl (0, ys)))) j := ⟨List.length_set, q_sl_set T.2 j (.inr (.inl (0, ys))) (.inr (.inl (0, xs))) (by rw [← zx_nth_get]; exact h) hl, fun i hi => qn_ne (fun e => hi e.symm), r⟩
theorem row_len (w : List Int32) (x : Int32) (m : Nat) : ((w ++ [x]) ++ List.replicate m 0).length = (w ++ List.replicate (m + 1) 0).length := by
  rw [List.length_append, List.length_append, List.length_append, List.length_replicate, List.length_replicate]
  show w.length + 1 + m = _
  omega
/-- the row at j holds w so far; r more places -/
def RW (T : qS) (j : Nat) (w : List Int32) (r : Nat) : Prop := zx_nth T.2 j = some (.inr (.inl (0, w ++ List.replicate r 0)))
section AL
variable {d k j f : Nat} {u : Nat → Rw} {a : Rw} {Tm : Int} {l1 l2 l3 l4 l5 : Int32}
theorem a62 (hw : WF Tm a) : ∀ (m q : Nat) (T : qS) (v : List Int32) (r : Nat), q + m = 15 → HC T.1 k u a → RW T j (v ++ lmp (fun i => zo (sizV a (i : Int))) q) (m + r) → v.length + 15 + r ≤ 100000 → ∃ T', qy (d + 4) 40 (f + m + 1) 62 [some (za 1 0 0), some (zi l1), some (zi l2), some (zi l3), some (zi l4), some (zi l5), some (za 8 j 0), some (zi (zo (((v ++ lmp (fun i => zo (sizV a (i : Int))) q).length : Nat) : Int))), some (zi (zo ((q : Nat) : Int))), none] [] T = qy (d + 4) 40 f 92 [some (za 1 0 0), some (zi l1), some (zi l2), some (zi l3), some (zi l4), some (zi l5), some (za 8 j 0), some (zi (zo (((v ++ lmp (fun i => zo (sizV a (i : Int))) 15).length : Nat) : Int))), some (zi (zo (0))), none] [] T' ∧ AF T T' j ∧ HC T'.1 k u a ∧ RW T' j (v ++ lmp (fun i => zo (sizV a (i : Int))) (15)) r := by
  intro m
  induction m with
  | zero =>
    intro q T v r hq H hr hl
    rw [Nat.add_zero] at hq
    subst hq
    rw [Nat.zero_add] at hr
    refine ⟨T, ?_, AF.rf T j, H, hr⟩
    rw [qy_z (M := (qm_40, 5, 10, 134)) rfl, qe_40_62_1iiiii8iio__134, if_pos (by show zo 15 ≤ zo ((15 : Nat) : Int); decide)]
  | succ m ih =>
    intro q T v r hq H hr hl
    have e0 : (v ++ lmp (fun i => zo (sizV a (i : Int))) q).length = v.length + q := by rw [List.length_append, lmp_len]
    have e1 : m + 1 + r = (m + r) + 1 := by omega
    rw [e1] at hr
    obtain ⟨S', s1, s2, s3⟩ := qq_s (d := d) H hw (p := (q : Int)) (by omega) (by omega)
    have hr' : RW (S', T.2) j (v ++ lmp (fun i => zo (sizV a (i : Int))) q) ((m + r) + 1) := hr
    have e2 : (v ++ lmp (fun i => zo (sizV a (i : Int))) q) ++ [(fun i => zo (sizV a (i : Int))) q] = v ++ lmp (fun i => zo (sizV a (i : Int))) (q + 1) := by rw [List.append_assoc]; rfl
    obtain ⟨T', g1, g2, g3, g4⟩ := ih (q + 1) (S', T.2.set j (.inr (.inl (0, (v ++ lmp (fun i => zo (sizV a (i : Int))) (q + 1)) ++ List.replicate (m + r) 0)))) v r (by omega) s2 (qn_eq hr) hl
    refine ⟨T', ?_, (AF.set hr s1 (by rw [← e2]; exact row_len _ _ _)).tr g2, g3, g4⟩
    rw [show f + (m + 1) + 1 = (f + m + 1) + 1 by omega, qy_z (M := (qm_40, 5, 10, 134)) rfl, qe_40_62_1iiiii8iio__134, if_neg (by rw [zo_le (by omega) (by omega) (by omega) (by omega)]; omega), s3, qe_40_82_1iiiii8iio_ii8_125]
    refine (qp_nxt (T := (S', T.2)) hr' (by rw [e0]; omega)).trans ?_
    rw [e2, zo_add, zo_add]
    rw [show (((v ++ lmp (fun i => zo (sizV a (i : Int))) q).length : Nat) : Int) + 1 = (((v ++ lmp (fun i => zo (sizV a (i : Int))) (q + 1)).length : Nat) : Int) by rw [e0, List.length_append, lmp_len]; omega]
    exact g1
theorem a101 {b : Nat} (hb : (b : Int) < a 9) (hw : WF Tm a) : ∀ (m q : Nat) (T : qS) (v : List Int32) (r : Nat), q + m = 11 → HC T.1 k u a → RW T j (v ++ lmp (fun i => zo (bnum a b i)) q) (m + r) → v.length + 11 + r ≤ 100000 → ∃ T', qy (d + 4) 40 (f + m + 1) 101 [some (za 1 0 0), some (zi l1), some (zi l2), some (zi l3), some (zi l4), some (zi l5), some (za 8 j 0), some (zi (zo (((v ++ lmp (fun i => zo (bnum a b i)) q).length : Nat) : Int))), some (zi (zo ((b : Nat) : Int))), some (zi (zo ((q : Nat) : Int)))] [] T = qy (d + 4) 40 f 92 [some (za 1 0 0), some (zi l1), some (zi l2), some (zi l3), some (zi l4), some (zi l5), some (za 8 j 0), some (zi (zo (((v ++ lmp (fun i => zo (bnum a b i)) 11).length : Nat) : Int))), some (zi (zo (((b + 1 : Nat) : Int)))), none] [] T' ∧ AF T T' j ∧ HC T'.1 k u a ∧ RW T' j (v ++ lmp (fun i => zo (bnum a b i)) (11)) r := by
  intro m
  induction m with
  | zero =>
    intro q T v r hq H hr hl
    rw [Nat.add_zero] at hq
    subst hq
    rw [Nat.zero_add] at hr
    refine ⟨T, ?_, AF.rf T j, H, hr⟩
    rw [qy_z (M := (qm_40, 5, 10, 134)) rfl, qe_40_101_1iiiii8iii__134, if_pos (by show zo 11 ≤ zo ((11 : Nat) : Int); decide), zo_add]
    rfl
  | succ m ih =>
    intro q T v r hq H hr hl
    have e0 : (v ++ lmp (fun i => zo (bnum a b i)) q).length = v.length + q := by rw [List.length_append, lmp_len]
    have e1 : m + 1 + r = (m + r) + 1 := by omega
    rw [e1] at hr
    obtain ⟨S', s1, s2, s3⟩ := qq_b (d := d + 2) H hw (b := b) (w := q) hb (by omega)
    have hr' : RW (S', T.2) j (v ++ lmp (fun i => zo (bnum a b i)) q) ((m + r) + 1) := hr
    have e2 : (v ++ lmp (fun i => zo (bnum a b i)) q) ++ [(fun i => zo (bnum a b i)) q] = v ++ lmp (fun i => zo (bnum a b i)) (q + 1) := by rw [List.append_assoc]; rfl
    obtain ⟨T', g1, g2, g3, g4⟩ := ih (q + 1) (S', T.2.set j (.inr (.inl (0, (v ++ lmp (fun i => zo (bnum a b i)) (q + 1)) ++ List.replicate (m + r) 0)))) v r (by omega) s2 (qn_eq hr) hl
    refine ⟨T', ?_, (AF.set hr s1 (by rw [← e2]; exact row_len _ _ _)).tr g2, g3, g4⟩
    rw [show f + (m + 1) + 1 = (f + m + 1) + 1 by omega, qy_z (M := (qm_40, 5, 10, 134)) rfl, qe_40_101_1iiiii8iii__134, if_neg (by rw [zo_le (by omega) (by omega) (by omega) (by omega)]; omega), s3, qe_40_123_1iiiii8iii_ii8_124]
    refine (qp_nxt (T := (S', T.2)) hr' (by rw [e0]; omega)).trans ?_
    rw [e2, zo_add, zo_add]
    rw [show (((v ++ lmp (fun i => zo (bnum a b i)) q).length : Nat) : Int) + 1 = (((v ++ lmp (fun i => zo (bnum a b i)) (q + 1)).length : Nat) : Int) by rw [e0, List.length_append, lmp_len]; omega]
    exact g1
theorem a149 {b : Nat} (hb : (b : Int) < a 7) (hw : WF Tm a) : ∀ (m q : Nat) (T : qS) (v : List Int32) (r : Nat), q + m = 6 → HC T.1 k u a → RW T j (v ++ lmp (fun i => zo (dnum a b i)) q) (m + r) → v.length + 6 + r ≤ 100000 → ∃ T', qy (d + 4) 40 (f + m + 1) 149 [some (za 1 0 0), some (zi l1), some (zi l2), none, some (zi l4), some (zi l5), some (za 8 j 0), some (zi (zo (((v ++ lmp (fun i => zo (dnum a b i)) q).length : Nat) : Int))), some (zi (zo ((b : Nat) : Int))), some (zi (zo ((q : Nat) : Int)))] [] T = qy (d + 4) 40 f 139 [some (za 1 0 0), some (zi l1), some (zi l2), none, some (zi l4), some (zi l5), some (za 8 j 0), some (zi (zo (((v ++ lmp (fun i => zo (dnum a b i)) 6).length : Nat) : Int))), some (zi (zo (((b + 1 : Nat) : Int)))), none] [] T' ∧ AF T T' j ∧ HC T'.1 k u a ∧ RW T' j (v ++ lmp (fun i => zo (dnum a b i)) (6)) r := by
  intro m
  induction m with
  | zero =>
    intro q T v r hq H hr hl
    rw [Nat.add_zero] at hq
    subst hq
    rw [Nat.zero_add] at hr
    refine ⟨T, ?_, AF.rf T j, H, hr⟩
    rw [qy_z (M := (qm_40, 5, 10, 134)) rfl, qe_40_149_1iioii8iii__134, if_pos (by show zo 6 ≤ zo ((6 : Nat) : Int); decide), zo_add]
    rfl
  | succ m ih =>
    intro q T v r hq H hr hl
    have e0 : (v ++ lmp (fun i => zo (dnum a b i)) q).length = v.length + q := by rw [List.length_append, lmp_len]
    have e1 : m + 1 + r = (m + r) + 1 := by omega
    rw [e1] at hr
    obtain ⟨S', s1, s2, s3⟩ := qq_d (d := d) H hw (b := b) (w := q) hb (by omega)
    have hr' : RW (S', T.2) j (v ++ lmp (fun i => zo (dnum a b i)) q) ((m + r) + 1) := hr
    have e2 : (v ++ lmp (fun i => zo (dnum a b i)) q) ++ [(fun i => zo (dnum a b i)) q] = v ++ lmp (fun i => zo (dnum a b i)) (q + 1) := by rw [List.append_assoc]; rfl
    obtain ⟨T', g1, g2, g3, g4⟩ := ih (q + 1) (S', T.2.set j (.inr (.inl (0, (v ++ lmp (fun i => zo (dnum a b i)) (q + 1)) ++ List.replicate (m + r) 0)))) v r (by omega) s2 (qn_eq hr) hl
    refine ⟨T', ?_, (AF.set hr s1 (by rw [← e2]; exact row_len _ _ _)).tr g2, g3, g4⟩
    rw [show f + (m + 1) + 1 = (f + m + 1) + 1 by omega, qy_z (M := (qm_40, 5, 10, 134)) rfl, qe_40_149_1iioii8iii__134, if_neg (by rw [zo_le (by omega) (by omega) (by omega) (by omega)]; omega), s3, qe_40_171_1iioii8iii_ii8_124]
    refine (qp_nxt (T := (S', T.2)) hr' (by rw [e0]; omega)).trans ?_
    rw [e2, zo_add, zo_add]
    rw [show (((v ++ lmp (fun i => zo (dnum a b i)) q).length : Nat) : Int) + 1 = (((v ++ lmp (fun i => zo (dnum a b i)) (q + 1)).length : Nat) : Int) by rw [e0, List.length_append, lmp_len]; omega]
    exact g1
theorem a187 (hw : WF Tm a) : ∀ (m q : Nat) (T : qS) (v : List Int32) (r : Nat), q + m = (a 8).toNat → HC T.1 k u a → RW T j (v ++ lmp (fun i => zo (tnum a i 2)) q) (m + r) → v.length + (a 8).toNat + r ≤ 100000 → ∃ T', qy (d + 4) 40 (f + m + 1) 187 [some (za 1 0 0), some (zi l1), some (zi l2), none, none, some (zi (zo (a 8))), some (za 8 j 0), some (zi (zo (((v ++ lmp (fun i => zo (tnum a i 2)) q).length : Nat) : Int))), some (zi (zo ((q : Nat) : Int))), none] [] T = qy (d + 4) 40 f 218 [some (za 1 0 0), some (zi l1), some (zi l2), none, none, none, some (za 8 j 0), some (zi (zo (((v ++ lmp (fun i => zo (tnum a i 2)) (a 8).toNat).length : Nat) : Int))), some (zi (zo (0))), none] [] T' ∧ AF T T' j ∧ HC T'.1 k u a ∧ RW T' j (v ++ lmp (fun i => zo (tnum a i 2)) ((a 8).toNat)) r := by
  intro m
  induction m with
  | zero =>
    intro q T v r hq H hr hl
    rw [Nat.add_zero] at hq
    subst hq
    rw [Nat.zero_add] at hr
    refine ⟨T, ?_, AF.rf T j, H, hr⟩
    rw [qy_z (M := (qm_40, 5, 10, 134)) rfl, qe_40_187_1iiooi8iio__134, if_pos (by
      have w8 := hw.1.2.2.2.2.2.2.2.2.1
      rw [zo_le (by omega) (by omega) (by omega) (by omega)]; omega)]
  | succ m ih =>
    intro q T v r hq H hr hl
    have e0 : (v ++ lmp (fun i => zo (tnum a i 2)) q).length = v.length + q := by rw [List.length_append, lmp_len]
    have e1 : m + 1 + r = (m + r) + 1 := by omega
    rw [e1] at hr
    have w8 := hw.1.2.2.2.2.2.2.2.2.1
    obtain ⟨S', s1, s2, s3⟩ := qq_t (d := d) H hw (b := q) (w := 2) (by omega) (by omega)
    have hr' : RW (S', T.2) j (v ++ lmp (fun i => zo (tnum a i 2)) q) ((m + r) + 1) := hr
    have e2 : (v ++ lmp (fun i => zo (tnum a i 2)) q) ++ [(fun i => zo (tnum a i 2)) q] = v ++ lmp (fun i => zo (tnum a i 2)) (q + 1) := by rw [List.append_assoc]; rfl
    obtain ⟨T', g1, g2, g3, g4⟩ := ih (q + 1) (S', T.2.set j (.inr (.inl (0, (v ++ lmp (fun i => zo (tnum a i 2)) (q + 1)) ++ List.replicate (m + r) 0)))) v r (by omega) s2 (qn_eq hr) hl
    refine ⟨T', ?_, (AF.set hr s1 (by rw [← e2]; exact row_len _ _ _)).tr g2, g3, g4⟩
    rw [show f + (m + 1) + 1 = (f + m + 1) + 1 by omega, qy_z (M := (qm_40, 5, 10, 134)) rfl, qe_40_187_1iiooi8iio__134, if_neg (by rw [zo_le (by omega) (by omega) (by omega) (by omega)]; omega), show zo 2 = zo ((2 : Nat) : Int) from rfl, s3, qe_40_208_1iiooi8iio_ii8_124]
    refine (qp_nxt (T := (S', T.2)) hr' (by rw [e0]; omega)).trans ?_
    rw [e2, zo_add, zo_add]
    rw [show (((v ++ lmp (fun i => zo (tnum a i 2)) q).length : Nat) : Int) + 1 = (((v ++ lmp (fun i => zo (tnum a i 2)) (q + 1)).length : Nat) : Int) by rw [e0, List.length_append, lmp_len]; omega]
    exact g1
theorem a218 (hw : WF Tm a) : ∀ (m q : Nat) (T : qS) (v : List Int32) (r : Nat), q + m = (a 0 * a 1).toNat → HC T.1 k u a → RW T j (v ++ lmp (fun i => zo (a (160 + i))) q) (m + r) → v.length + (a 0 * a 1).toNat + r ≤ 100000 → ∃ T', qy (d + 4) 40 (f + m + 1) 218 [some (za 1 0 0), some (zi (zo (a 0))), some (zi (zo (a 0 * a 1))), none, none, none, some (za 8 j 0), some (zi (zo (((v ++ lmp (fun i => zo (a (160 + i))) q).length : Nat) : Int))), some (zi (zo ((q : Nat) : Int))), none] [] T = some (some (za 8 j 0), T') ∧ AF T T' j ∧ HC T'.1 k u a ∧ RW T' j (v ++ lmp (fun i => zo (a (160 + i))) ((a 0 * a 1).toNat)) r := by
  intro m
  induction m with
  | zero =>
    intro q T v r hq H hr hl
    rw [Nat.add_zero] at hq
    subst hq
    rw [Nat.zero_add] at hr
    refine ⟨T, ?_, AF.rf T j, H, hr⟩
    rw [qy_z (M := (qm_40, 5, 10, 134)) rfl, qe_40_218_1iiooo8iio__134, if_pos (by
      have wn := WF_nc hw
      rw [zo_le (by omega) (by omega) (by omega) (by omega)]; omega)]
  | succ m ih =>
    intro q T v r hq H hr hl
    have e0 : (v ++ lmp (fun i => zo (a (160 + i))) q).length = v.length + q := by rw [List.length_append, lmp_len]
    have e1 : m + 1 + r = (m + r) + 1 := by omega
    rw [e1] at hr
    have w0 := hw.1.1
    have w1 := hw.1.2.1
    have wn := WF_nc hw
    obtain ⟨S', s1, s2, s3⟩ := qq_c (d := d + 1) H hw (c := (q : Int)) (by omega) (by omega)
    rw [Int.toNat_natCast] at s3
    have hr' : RW (S', T.2) j (v ++ lmp (fun i => zo (a (160 + i))) q) ((m + r) + 1) := hr
    have e2 : (v ++ lmp (fun i => zo (a (160 + i))) q) ++ [(fun i => zo (a (160 + i))) q] = v ++ lmp (fun i => zo (a (160 + i))) (q + 1) := by rw [List.append_assoc]; rfl
    obtain ⟨T', g1, g2, g3, g4⟩ := ih (q + 1) (S', T.2.set j (.inr (.inl (0, (v ++ lmp (fun i => zo (a (160 + i))) (q + 1)) ++ List.replicate (m + r) 0)))) v r (by omega) s2 (qn_eq hr) hl
    refine ⟨T', ?_, (AF.set hr s1 (by rw [← e2]; exact row_len _ _ _)).tr g2, g3, g4⟩
    rw [show f + (m + 1) + 1 = (f + m + 1) + 1 by omega, qy_z (M := (qm_40, 5, 10, 134)) rfl, qe_40_218_1iiooo8iio__134, if_neg (by rw [zo_le (by omega) (by omega) (by omega) (by omega)]; omega), if_neg (by rw [zo_eq (by omega) (by omega) (by omega) (by omega)]; omega), if_neg (by rw [zo_eq (by omega) (by omega) (by omega) (by omega)]; omega), zo_mod (by omega) (by omega) (by omega) (by omega), zo_div (by omega) (by omega) (by omega) (by omega), s3, qe_40_243_1iiooo8iio_ii8_120]
    refine (qp_nxt (T := (S', T.2)) hr' (by rw [e0]; omega)).trans ?_
    rw [e2, zo_add, zo_add]
    rw [show (((v ++ lmp (fun i => zo (a (160 + i))) q).length : Nat) : Int) + 1 = (((v ++ lmp (fun i => zo (a (160 + i))) (q + 1)).length : Nat) : Int) by rw [e0, List.length_append, lmp_len]; omega]
    exact g1
theorem a92 (hw : WF Tm a) : ∀ (m q : Nat) (T : qS) (v : List Int32) (r : Nat), q + m = (a 9).toNat → HC T.1 k u a → RW T j (v ++ lct (fun b => lmp (fun i => zo (bnum a b i)) 11) q) (11 * m + r) → v.length + 200 + r ≤ 90000 → ∃ T', qy (d + 4) 40 (f + 13 * m + 1) 92 [some (za 1 0 0), some (zi l1), some (zi l2), some (zi (zo (a 9))), some (zi l4), some (zi l5), some (za 8 j 0), some (zi (zo (((v ++ lct (fun b => lmp (fun i => zo (bnum a b i)) 11) q).length : Nat) : Int))), some (zi (zo ((q : Nat) : Int))), none] [] T = qy (d + 4) 40 f 139 [some (za 1 0 0), some (zi l1), some (zi l2), none, some (zi l4), some (zi l5), some (za 8 j 0), some (zi (zo (((v ++ lct (fun b => lmp (fun i => zo (bnum a b i)) 11) ((a 9).toNat)).length : Nat) : Int))), some (zi (zo (0))), none] [] T' ∧ AF T T' j ∧ HC T'.1 k u a ∧ RW T' j (v ++ lct (fun b => lmp (fun i => zo (bnum a b i)) 11) ((a 9).toNat)) r := by
  have w9 := hw.1.2.2.2.2.2.2.2
  intro m
  induction m with
  | zero =>
    intro q T v r hq H hr hl
    rw [Nat.add_zero] at hq
    subst hq
    rw [Nat.mul_zero, Nat.zero_add] at hr
    refine ⟨T, ?_, AF.rf T j, H, hr⟩
    rw [Nat.mul_zero, Nat.add_zero, qy_z (M := (qm_40, 5, 10, 134)) rfl, qe_40_92_1iiiii8iio__134, if_pos (by rw [zo_le (by omega) (by omega) (by omega) (by omega)]; omega)]
  | succ m ih =>
    intro q T v r hq H hr hl
    have e0 : (v ++ lct (fun b => lmp (fun i => zo (bnum a b i)) 11) q).length = v.length + 11 * q := by rw [List.length_append, lct_len (fun b => lmp (fun i => zo (bnum a b i)) 11) (m := 11) (fun i => lmp_len _ _)]
    have e1 : 11 * (m + 1) + r = 11 + (11 * m + r) := by omega
    rw [e1] at hr
    have hr0 : RW T j ((v ++ lct (fun b => lmp (fun i => zo (bnum a b i)) 11) q) ++ lmp ((fun b => (fun i => zo (bnum a b i))) q) 0) (11 + (11 * m + r)) := by
      show RW T j ((v ++ lct (fun b => lmp (fun i => zo (bnum a b i)) 11) q) ++ []) _
      rw [List.append_nil]
      exact hr
    obtain ⟨T1, g1, g2, g3, g4⟩ := a101 (d := d) (k := k) (j := j) (f := f + 13 * m + 1) (u := u) (l1 := l1) (l2 := l2) (l3 := zo (a 9)) (l4 := l4) (l5 := l5) (b := q) (by omega) hw 11 0 T (v ++ lct (fun b => lmp (fun i => zo (bnum a b i)) 11) q) (11 * m + r) (by omega) H hr0 (by rw [e0]; omega)
    have e2 : (v ++ lct (fun b => lmp (fun i => zo (bnum a b i)) 11) q) ++ lmp ((fun b => (fun i => zo (bnum a b i))) q) 11 = v ++ lct (fun b => lmp (fun i => zo (bnum a b i)) 11) (q + 1) := by rw [List.append_assoc]; rfl
    rw [show (v ++ lct (fun b => lmp (fun i => zo (bnum a b i)) 11) q) ++ lmp (fun i => zo (bnum a q i)) 11 = v ++ lct (fun b => lmp (fun i => zo (bnum a b i)) 11) (q + 1) from e2] at g1 g4
    obtain ⟨T', h1, h2, h3, h4⟩ := ih (q + 1) T1 v r (by omega) g3 g4 hl
    refine ⟨T', ?_, g2.tr h2, h3, h4⟩
    rw [show f + 13 * (m + 1) + 1 = (f + 13 * m + 1 + 11 + 1) + 1 by omega, qy_z (M := (qm_40, 5, 10, 134)) rfl, qe_40_92_1iiiii8iio__134, if_neg (by rw [zo_le (by omega) (by omega) (by omega) (by omega)]; omega)]
    refine Eq.trans ?_ (g1.trans h1)
    rw [show (v ++ lct (fun b => lmp (fun i => zo (bnum a b i)) 11) q) ++ lmp (fun i => zo (bnum a q i)) 0 = v ++ lct (fun b => lmp (fun i => zo (bnum a b i)) 11) q from List.append_nil _]
    rfl
theorem a139 (hw : WF Tm a) : ∀ (m q : Nat) (T : qS) (v : List Int32) (r : Nat), q + m = (a 7).toNat → HC T.1 k u a → RW T j (v ++ lct (fun b => lmp (fun i => zo (dnum a b i)) 6) q) (6 * m + r) → v.length + 200 + r ≤ 90000 → ∃ T', qy (d + 4) 40 (f + 8 * m + 1) 139 [some (za 1 0 0), some (zi l1), some (zi l2), none, some (zi (zo (a 7))), some (zi l5), some (za 8 j 0), some (zi (zo (((v ++ lct (fun b => lmp (fun i => zo (dnum a b i)) 6) q).length : Nat) : Int))), some (zi (zo ((q : Nat) : Int))), none] [] T = qy (d + 4) 40 f 187 [some (za 1 0 0), some (zi l1), some (zi l2), none, none, some (zi l5), some (za 8 j 0), some (zi (zo (((v ++ lct (fun b => lmp (fun i => zo (dnum a b i)) 6) ((a 7).toNat)).length : Nat) : Int))), some (zi (zo (0))), none] [] T' ∧ AF T T' j ∧ HC T'.1 k u a ∧ RW T' j (v ++ lct (fun b => lmp (fun i => zo (dnum a b i)) 6) ((a 7).toNat)) r := by
  have w9 := hw.1.2.2.2.2.2.2.2
  intro m
  induction m with
  | zero =>
    intro q T v r hq H hr hl
    rw [Nat.add_zero] at hq
    subst hq
    rw [Nat.mul_zero, Nat.zero_add] at hr
    refine ⟨T, ?_, AF.rf T j, H, hr⟩
    rw [Nat.mul_zero, Nat.add_zero, qy_z (M := (qm_40, 5, 10, 134)) rfl, qe_40_139_1iioii8iio__134, if_pos (by rw [zo_le (by omega) (by omega) (by omega) (by omega)]; omega)]
  | succ m ih =>
    intro q T v r hq H hr hl
    have e0 : (v ++ lct (fun b => lmp (fun i => zo (dnum a b i)) 6) q).length = v.length + 6 * q := by rw [List.length_append, lct_len (fun b => lmp (fun i => zo (dnum a b i)) 6) (m := 6) (fun i => lmp_len _ _)]
    have e1 : 6 * (m + 1) + r = 6 + (6 * m + r) := by omega
    rw [e1] at hr
    have hr0 : RW T j ((v ++ lct (fun b => lmp (fun i => zo (dnum a b i)) 6) q) ++ lmp ((fun b => (fun i => zo (dnum a b i))) q) 0) (6 + (6 * m + r)) := by
      show RW T j ((v ++ lct (fun b => lmp (fun i => zo (dnum a b i)) 6) q) ++ []) _
      rw [List.append_nil]
      exact hr
    obtain ⟨T1, g1, g2, g3, g4⟩ := a149 (d := d) (k := k) (j := j) (f := f + 8 * m + 1) (u := u) (l1 := l1) (l2 := l2) (l4 := zo (a 7)) (l5 := l5) (b := q) (by omega) hw 6 0 T (v ++ lct (fun b => lmp (fun i => zo (dnum a b i)) 6) q) (6 * m + r) (by omega) H hr0 (by rw [e0]; omega)
    have e2 : (v ++ lct (fun b => lmp (fun i => zo (dnum a b i)) 6) q) ++ lmp ((fun b => (fun i => zo (dnum a b i))) q) 6 = v ++ lct (fun b => lmp (fun i => zo (dnum a b i)) 6) (q + 1) := by rw [List.append_assoc]; rfl
    rw [show (v ++ lct (fun b => lmp (fun i => zo (dnum a b i)) 6) q) ++ lmp (fun i => zo (dnum a q i)) 6 = v ++ lct (fun b => lmp (fun i => zo (dnum a b i)) 6) (q + 1) from e2] at g1 g4
    obtain ⟨T', h1, h2, h3, h4⟩ := ih (q + 1) T1 v r (by omega) g3 g4 hl
    refine ⟨T', ?_, g2.tr h2, h3, h4⟩
    rw [show f + 8 * (m + 1) + 1 = (f + 8 * m + 1 + 6 + 1) + 1 by omega, qy_z (M := (qm_40, 5, 10, 134)) rfl, qe_40_139_1iioii8iio__134, if_neg (by rw [zo_le (by omega) (by omega) (by omega) (by omega)]; omega)]
    refine Eq.trans ?_ (g1.trans h1)
    rw [show (v ++ lct (fun b => lmp (fun i => zo (dnum a b i)) 6) q) ++ lmp (fun i => zo (dnum a q i)) 0 = v ++ lct (fun b => lmp (fun i => zo (dnum a b i)) 6) q from List.append_nil _]
    rfl
end AL

/-! THE LAW'S PURE SIDE 41: a round of the law -/
section MC2
variable {S : zS} {w : qW} {d n k L q : Nat} {a : Rw} {u : Nat → Rw} {Tm : Int}
/-- a round, to where the operation is done and asked for -/
theorem R59a (h : IV Tm L S k u a) (hT : Tm + 400 ≤ 1000000) (hL : L ≤ 10000) (hq : q < 40) : ∃ (v : Int32) (S3 : zS) (W2 W3 : qW), (∀ S9, KF S3 S9 → scl S9 L (4 + q) = v) ∧ IV (Tm + 200) L S3 (if (actS a v).2.2.1 = true then recK k else k) (if (actS a v).2.2.1 = true then recU k u a else u) (actS a v).2.2.2 ∧ KF S S3 ∧ KW w W3 15 744 ∧ zx_nth W3 w.length = some (.inr (.inl (0, allR a))) ∧ zx_nth W3 W2.length = some (.inr (.inl (0, allR (actS a v).2.2.2))) ∧ ∃ l7 : Int32, qy (d + 12) 47 (n + 1) 59 [some (za 5 0 0), some (za 1 0 0), none, none, some (zi (zo (q : Int))), none, none, none, none] [] (S, w) = qz (d + 12) 47 n 999999999999958 145 [some (za 5 0 0), some (za 1 0 0), none, none, some (zi (zo (q : Int))), some (za 8 w.length 0), some (zi (zo (k : Int))), some (zi l7), some (za 8 W2.length 0)] [zi (zo (((if (actS a v).2.2.1 = true then recK k else k) : Nat) : Int))] (S3, W3) := by
  obtain ⟨S1, W1, i1, f1, b1, kw1, e1⟩ := px_40 (d := d) (w := w) h
  have s35 : ∀ (st : List zV) (nx : List zV → qS → Option qO), qx_ret 1 (q_sem zF (d + 12) 35 [za 5 0 0, zi (zo (4 + (q : Int)))] (S1, W1)) st nx = nx (zi (scl S1 L (4 + q)) :: st) (S1, W1) := fun st nx => px_35 (q := 4 + q) i1 hL (by omega)
  obtain ⟨S2, W2, i2, f2, kw2, e2⟩ := px_46 (d := d) (v := scl S1 L (4 + q)) (w := W1) i1 hT
  obtain ⟨S3, W3, i3, f3, b3, kw3, e3⟩ := px_40 (d := d) (w := W2) i2
  have ge := act_GE (v := scl S1 L (4 + q)) i1.2.1.1 i1.2.1.2.1 hT i1.2.1.2.2
  have c0 := end_cnt i1.2.1.1
  have c2 := end_cnt ge.1
  have c01 := cnt_r i1.2.1.1 1
  have c02 := cnt_r i1.2.1.1 2
  have c21 := cnt_r ge.1 1
  have c22 := cnt_r ge.1 2
  have hge := ge.2.2.2
  have f9 := f2.tr f3
  refine ⟨scl S1 L (4 + q), S3, W2, W3, fun S9 f => (f9.tr f).scl L (4 + q), i3, f1.tr f9, (kw1.tr (kw2.tr kw3)).up (by omega) (by omega), kw3.2.2 _ _ (kw2.2.2 _ _ b1), b3, zo (cnt a 1 + cnt a 2), ?_⟩
  have h1 := i1.1.1
  have hw1 := i1.2.1.1
  have h2 := i2.1.1
  have hw2 := ge.1
  have z1 := fun (st : List zV) (nx : List zV → qS → Option qO) => pz_134 (d := d) (w := W1) (st := st) (nx := nx) i1
  have z3 := fun (st : List zV) (nx : List zV → qS → Option qO) => pz_134 (d := d) (w := W3) (st := st) (nx := nx) i3
  have x2 := fun (st : List zV) (nx : List zV → qS → Option qO) => px_43 (d := d) (w := W2) (st := st) (nx := nx) i2
  generalize scl S1 L (4 + q) = v at *
  generalize (if (actS a v).2.2.1 = true then recK k else k) = k1 at *
  generalize (actS a v).2.2.2 = a1 at *
  rw [qy47]
  simp (disch := omega) only [qf_47_59_51ooioooo__166, qf_47_70_51ooioooo_8_161, qf_47_76_51ooi8ooo_i_158, qf_47_84_51ooi8ioo_i_154, qf_47_90_51ooi8ioo_ii_151, qf_47_102_51ooi8iio_i1_143, qf_47_105_51ooi8iio_i_142, qf_47_112_51ooi8iio_i_139, qf_47_121_51ooi8iio_i_135, qf_47_127_51ooi8iio_ii_132, qf_47_139_51ooi8iio_8_127, e1, z1, ps_6 h1 hw1, ps_7 h1 hw1, s35, e2, x2, ps_6 h2 hw2, ps_7 h2 hw2, e3, z3, zo_add, ↓ie_p, ↓ie_n, ↓iq_n]
/-- a round -/
theorem R59 (h : IV Tm L S k u a) (hT : Tm + 800 ≤ 1000000) (hL : L ≤ 10000) (hq : q < 40) : ∃ S' W k' u' a', IV (Tm + 400) L S' k' u' a' ∧ KF S S' ∧ KW w W 40 2000 ∧ qy (d + 12) 47 (n + 1) 59 [some (za 5 0 0), some (za 1 0 0), none, none, some (zi (zo (q : Int))), none, none, none, none] [] (S, w) = qy (d + 12) 47 n 59 [some (za 5 0 0), some (za 1 0 0), none, none, some (zi (zo ((q : Int) + 1))), none, none, none, none] [] (S', W) := by
  have hk := h.1.2.2.1
  obtain ⟨v, S3, W2, W3, hv, i3, f3, kw3, b0, b3, l7, e⟩ := R59a (d := d) (n := n) (w := w) h (by omega) hL hq
  rw [e]
  have al := allR_le h.2.1.1
  cases hr : (actS a v).2.2.1 with
  | false =>
    have sm := SM_act (a := a) (v := v) hr
    rw [hr, if_neg (by decide), if_neg (by decide), sm] at i3
    rw [sm] at b3
    rw [if_neg (by decide)]
    have z3 := fun (st : List zV) (nx : List zV → qS → Option qO) => pz_134 (d := d) (w := W3) (st := st) (nx := nx) i3
    refine ⟨S3, W3, k, u, a, i3.up (by omega) (by omega), f3, kw3.up (by omega) (by omega), ?_⟩
    simp (disch := omega) only [qf_47_145_51ooi8ii8_i_124, z3, qf_47_213_51ooi8ii8_i_120, ↓ie_p, ↓iq_p]
    by_cases c : 10 ≤ k
    · rw [ie_p (by omega) (by omega) (by omega), zo_add]
    · have x41 := fun (st : List zV) (nx : List zV → qS → Option qO) => px_41 (d := d) (T := (S3, W3)) (st := st) (nx := nx) b0 b3 (by omega)
      rw [ie_n (by omega) (by omega) (by omega), x41, qf_47_232_51ooi8ii8_i_112, iq_n (by omega) (by omega) (by omega) (by omega) (by omega), zo_add]
  | true =>
    rw [hr, if_pos rfl, if_pos rfl] at i3
    rw [if_pos rfl]
    by_cases k10 : k = 10
    · have rk : recK k = 10 := if_pos k10
      have z3 := fun (st : List zV) (nx : List zV → qS → Option qO) => pz_134 (d := d) (w := W3) (st := st) (nx := nx) i3
      refine ⟨S3, W3, recK k, recU k u a, (actS a v).2.2.2, i3.up (by omega) (by omega), f3, kw3.up (by omega) (by omega), ?_⟩
      simp (disch := omega) only [qf_47_145_51ooi8ii8_i_124, z3, qf_47_213_51ooi8ii8_i_120, zo_add, ↓ie_p, ↓iq_p]
    · have rk : recK k = k + 1 := if_neg k10
      have ruk : recU k u a k = a := by
        unfold recU
        rw [if_neg k10, if_pos rfl]
      by_cases q3 : (q : Int) % 3 = 0
      · rw [rk] at i3 ⊢
        obtain ⟨S4, i4, f4, e4⟩ := pz_135 (d := d) (w := W3) i3
        rw [ruk] at i4
        obtain ⟨S5, W5, i5, f5, b5, kw5, e5⟩ := px_40 (d := d) (w := W3) i4
        have x5 := fun (st : List zV) (nx : List zV → qS → Option qO) => px_41 (d := d) (T := (S5, W5)) (st := st) (nx := nx) b5 (kw5.2.2 _ _ b0) (by omega)
        have s35 : ∀ (st : List zV) (nx : List zV → qS → Option qO), qx_ret 1 (q_sem zF (d + 12) 35 [za 5 0 0, zi (zo (4 + (q : Int)))] (S5, W5)) st nx = nx (zi v :: st) (S5, W5) := fun st nx => by
          have := px_35 (d := d) (w := W5) (st := st) (nx := nx) (q := 4 + q) i5 hL (by omega)
          rw [hv S5 (f4.tr f5)] at this
          exact this
        obtain ⟨S6, W6, i6, f6, kw6, e6⟩ := px_46 (d := d) (v := v) (w := W5) i5 (by omega)
        rw [hr, if_pos rfl, if_pos rfl, rk] at i6
        obtain ⟨S7, W7, i7, f7, b7, kw7, e7⟩ := px_40 (d := d) (w := W6) i6
        have al1 := allR_le i6.2.1.1
        have x7 := fun (st : List zV) (nx : List zV → qS → Option qO) => px_41 (d := d) (T := (S7, W7)) (st := st) (nx := nx) b7 (kw7.2.2 _ _ (kw6.2.2 _ _ (kw5.2.2 _ _ b3))) (by omega)
        have z7 := fun (st : List zV) (nx : List zV → qS → Option qO) => pz_134 (d := d) (w := W7) (st := st) (nx := nx) i7
        refine ⟨S7, W7, k + 1, _, _, i7.up (by omega) (by omega), f3.tr (f4.tr (f5.tr (f6.tr f7))), (kw3.tr (kw5.tr (kw6.tr kw7))).up (by omega) (by omega), ?_⟩
        rw [qf_47_145_51ooi8ii8_i_124, ie_n (by omega) (by omega) (by omega), iq_n (by omega) (by omega) (by omega) (by omega) (by omega), zo_mod (by omega) (by omega) (by omega) (by omega), iq_p q3]
        simp (disch := omega) only [e4, qf_47_161_51ooi8ii8_i_116, e5, qf_47_170_51ooi8ii8_8_112, x5, qf_47_175_51ooi8ii8_i_110, s35, qf_47_189_51ooi8ii8_i1_103, e6, qf_47_192_51ooi8ii8_i_102, e7, qf_47_199_51ooi8ii8_8_99, x7, qf_47_204_51ooi8ii8_i_97, z7, qf_47_213_51ooi8ii8_i_94, zo_add, ↓iq_p, ↓iq_n]
      · rw [rk] at i3 ⊢
        have z3 := fun (st : List zV) (nx : List zV → qS → Option qO) => pz_134 (d := d) (w := W3) (st := st) (nx := nx) i3
        refine ⟨S3, W3, k + 1, _, _, i3.up (by omega) (by omega), f3, kw3.up (by omega) (by omega), ?_⟩
        rw [qf_47_145_51ooi8ii8_i_124, ie_n (by omega) (by omega) (by omega), iq_n (by omega) (by omega) (by omega) (by omega) (by omega), zo_mod (by omega) (by omega) (by omega) (by omega), iq_n (by omega) (by omega) (by omega) (by omega) (by omega)]
        simp (disch := omega) only [z3, qf_47_213_51ooi8ii8_i_116, zo_add, ↓iq_p, ↓iq_n]
theorem R59s (hL : L ≤ 10000) : ∀ (m q : Nat) (S : zS) (w : qW) (k : Nat) (u : Nat → Rw) (a : Rw) (Tm : Int), q + m = 40 → IV Tm L S k u a → Tm + 400 * m + 400 ≤ 1000000 → ∃ S' W k' u' a', IV (Tm + 400 * m) L S' k' u' a' ∧ KF S S' ∧ KW w W (40 * m) (2000 * m) ∧ qy (d + 12) 47 (n + m) 59 [some (za 5 0 0), some (za 1 0 0), none, none, some (zi (zo (q : Int))), none, none, none, none] [] (S, w) = qy (d + 12) 47 n 59 [some (za 5 0 0), some (za 1 0 0), none, none, some (zi (zo 40)), none, none, none, none] [] (S', W) := by
  intro m
  induction m with
  | zero =>
    intro q S w k u a Tm hq h hT
    refine ⟨S, w, k, u, a, h.up (by omega) (by omega), KF.rf S, KW.rf w, ?_⟩
    rw [show (q : Int) = 40 by omega]
    rfl
  | succ m ih =>
    intro q S w k u a Tm hq h hT
    obtain ⟨S1, W1, k1, u1, a1, i1, f1, kw1, e1⟩ := R59 (d := d) (n := n + m) (w := w) h (by omega) hL (q := q) (by omega)
    obtain ⟨S2, W2, k2, u2, a2, i2, f2, kw2, e2⟩ := ih (q + 1) S1 W1 k1 u1 a1 (Tm + 400) (by omega) i1 (by omega)
    refine ⟨S2, W2, k2, u2, a2, i2.up (by omega) (by omega), f1.tr f2, (kw1.tr kw2).up (by omega) (by omega), ?_⟩
    rw [show n + (m + 1) = (n + m) + 1 by omega]
    exact e1.trans e2
end MC2

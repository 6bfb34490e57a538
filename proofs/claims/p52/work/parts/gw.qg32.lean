/-! THE LAW'S PURE SIDE 42: the law's end: the snapshot -/
section MD2
variable {S : zS} {w : qW} {d n k L q : Nat} {a : Rw} {u : Nat → Rw} {Tm : Int}
theorem R256 (hL : L ≤ 10000) {j : Nat} : ∀ (m q : Nat) (S : zS) (w : qW) (k : Nat) (u : Nat → Rw) (a : Rw) (Tm : Int), q + m = 5 → IV Tm L S k u a → Tm + 200 * m + 400 ≤ 1000000 → ∃ S' W k' u' a', IV (Tm + 200 * m) L S' k' u' a' ∧ KF S S' ∧ KW w W (13 * m) (144 * m) ∧ qy (d + 12) 47 (n + m) 256 [some (za 5 0 0), some (za 1 0 0), none, none, some (za 8 j 0), some (zi (zo (q : Int))), none, none, none] [] (S, w) = qy (d + 12) 47 n 256 [some (za 5 0 0), some (za 1 0 0), none, none, some (za 8 j 0), some (zi (zo 5)), none, none, none] [] (S', W) := by
  intro m
  induction m with
  | zero =>
    intro q S w k u a Tm hq h hT
    refine ⟨S, w, k, u, a, h.up (by omega) (by omega), KF.rf S, KW.rf w, ?_⟩
    rw [show (q : Int) = 5 by omega]
    rfl
  | succ m ih =>
    intro q S w k u a Tm hq h hT
    have s35 : ∀ (st : List zV) (nx : List zV → qS → Option qO), qx_ret 1 (q_sem zF (d + 12) 35 [za 5 0 0, zi (zo (44 + (q : Int)))] (S, w)) st nx = nx (zi (scl S L (44 + q)) :: st) (S, w) := fun st nx => px_35 (q := 44 + q) h hL (by omega)
    obtain ⟨S2, W2, i2, f2, kw2, e2⟩ := px_46 (d := d) (v := scl S L (44 + q)) (w := w) h (by omega)
    have x2 := fun (st : List zV) (nx : List zV → qS → Option qO) => px_43 (d := d) (w := W2) (st := st) (nx := nx) i2
    obtain ⟨S3, W3, k3, u3, a3, i3, f3, kw3, e3⟩ := ih (q + 1) S2 W2 _ _ _ (Tm + 200) (by omega) i2 (by omega)
    refine ⟨S3, W3, k3, u3, a3, i3.up (by omega) (by omega), f2.tr f3, (kw2.tr kw3).up (by omega) (by omega), ?_⟩
    rw [show n + (m + 1) = (n + m) + 1 by omega, qy47]
    simp (disch := omega) only [qf_47_256_51oo8iooo__166, qf_47_272_51oo8iooo_i1_157, qf_47_275_51oo8iooo_i_156, qf_47_282_51oo8iooo_i_153, s35, e2, x2, zo_add, ↓ie_n, ↓iq_n]
    exact e3
theorem Rend (h : IV Tm L S k u a) (hT : Tm + 2000 ≤ 1000000) (hL : L ≤ 10000) : ∃ S' W, KW w W 100 3000 ∧ qy (d + 12) 47 (n + 7) 59 [some (za 5 0 0), some (za 1 0 0), none, none, some (zi (zo 40)), none, none, none, none] [] (S, w) = some (some (zi (zo 1)), (S', W)) := by
  obtain ⟨S1, g1, g2, g3, g4, g5⟩ := A136 (d := d + 9) h.1 h.2.1.1
  have i1 : IV Tm L S1 k u a := ⟨g2, h.2.1, h.2.2.1, ⟨(g5 1 0 10 1 (by omega) (by omega)).trans h.2.2.2.1.1, (g5 1 0 12 1 (by omega) (by omega)).trans h.2.2.2.1.2⟩, (g5 5 0 1 0 (by omega) (by omega)).trans h.2.2.2.2⟩
  have z1 := fun (st : List zV) (nx : List zV → qS → Option qO) => qz_0 (w := w) (st := st) (nx := nx) g1
  obtain ⟨S2, W2, i2, f2, b2, kw2, e2⟩ := px_40 (d := d) (w := w) i1
  obtain ⟨S3, W3, k3, u3, a3, i3, f3, kw3, e3⟩ := R256 (d := d) (n := n + 1) (j := w.length) hL 5 0 S2 W2 k u a Tm rfl i2 (by omega)
  have f23 := f2.tr f3
  obtain ⟨S4, q1, q2, q3⟩ := A137 (d := d + 9) (f := true) (s := a) (T := Tm) i3.1 (by rw [f23.2.2.2, g4]; rfl) (fun _ => by rw [f23.2.2.1]; exact g3) h.2.1.1
  rw [if_pos rfl, if_pos rfl] at q2
  have q2 : HC S4 0 (fun _ => a) a := by
    obtain ⟨c1, ⟨x, x1, x2, x3, x4⟩, c3, c4⟩ := q2
    exact ⟨c1, ⟨x, x1, x2, x3, fun i hi => absurd hi (Nat.not_lt_zero _)⟩, c3, c4⟩
  have f4 := q3.kf
  have i4 : IV Tm L S4 0 (fun _ => a) a := ⟨q2, h.2.1, fun i hi => absurd hi (Nat.not_lt_zero _), ⟨f4.2.1.1.trans i3.2.2.2.1.1, f4.2.1.2.trans i3.2.2.2.1.2⟩, (f4.1 1 0).trans i3.2.2.2.2⟩
  have z4 : ∀ (st : List zV) (nx : List zV → qS → Option qO), qz_ret 1 (zr_sem zF (d + 12) 137 [za 1 0 0] S3) W3 st nx = nx (zi (zo 1) :: st) (S4, W3) := fun st nx => qz_1 (w := W3) (st := st) (nx := nx) q1
  obtain ⟨S5, W5, i5, f5, b5, kw5, e5⟩ := px_40 (d := d) (w := W3) i4
  have al := allR_le h.2.1.1
  have x5 := fun (st : List zV) (nx : List zV → qS → Option qO) => px_41 (d := d) (T := (S5, W5)) (st := st) (nx := nx) b5 (kw5.2.2 _ _ (kw3.2.2 _ _ b2)) (by omega)
  have z5 := fun (st : List zV) (nx : List zV → qS → Option qO) => pz_134 (d := d) (w := W5) (st := st) (nx := nx) i5
  obtain ⟨S6, y1, y2, y3⟩ := A135 (d := d + 8) (T := Tm) i5.1 h.2.1.1
  rw [if_pos rfl] at y1
  have z6 := fun (st : List zV) (nx : List zV → qS → Option qO) => qz_1 (w := W5) (st := st) (nx := nx) y1
  refine ⟨S6, W5, (kw2.tr (kw3.tr kw5)).up (by omega) (by omega), ?_⟩
  rw [show n + 7 = (n + 1 + 5) + 1 by omega, qy47]
  have e3 : qy (d + 12) 47 (n + 1 + 5) 256 [some (za 5 0 0), some (za 1 0 0), none, none, some (za 8 w.length 0), some (zi (zo 0)), none, none, none] [] (S2, W2) = _ := e3
  simp (disch := omega) only [qf_47_59_51ooioooo__166, z1, qf_47_247_51ooioooo__161, e2, qf_47_251_51ooioooo_8_159, ↓ie_p]
  rw [e3, qy47]
  have z5 : ∀ (st : List zV) (nx : List zV → qS → Option qO), qz_ret 1 (zr_sem zF (d + 12) 134 [za 1 0 0] S5) W5 st nx = nx (zi (zo 0) :: st) (S5, W5) := z5
  simp (disch := omega) only [qf_47_256_51oo8iooo__166, z4, qf_47_297_51oo8iooo_i_161, e5, qf_47_304_51oo8iooo_8_158, x5, qf_47_309_51oo8iooo_i_156, z5, qf_47_316_51oo8iooo_i_153, z6, qf_47_323_51oo8iooo_i_150, ↓ie_p, ↓iq_p, ↓iq_n]
end MD2

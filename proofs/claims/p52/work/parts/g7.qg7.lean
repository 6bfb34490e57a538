/-! THE LAW'S PURE SIDE 17: the cell with most soap -/
def mxS (a : Rw) : Nat → Int
  | 0 => 0
  | n + 1 => if mxS a n < a (160 + n) then a (160 + n) else mxS a n
theorem mxS_r {a : Rw} {Tm : Int} (hw : WF Tm a) : ∀ n : Nat, (n : Int) ≤ a 0 * a 1 → 0 ≤ mxS a n ∧ mxS a n ≤ 99
  | 0, _ => by show (0 : Int) ≤ 0 ∧ (0 : Int) ≤ 99; omega
  | n + 1, h => by
    have i := mxS_r hw n (by omega)
    have s := hw.2.2.2.2.1 n (by omega)
    show 0 ≤ (if mxS a n < a (160 + n) then a (160 + n) else mxS a n) ∧ (if mxS a n < a (160 + n) then a (160 + n) else mxS a n) ≤ 99
    split <;> omega
theorem mxS_le {a : Rw} : ∀ (n i : Nat), i < n → a (160 + i) ≤ mxS a n
  | 0, _, h => absurd h (Nat.not_lt_zero _)
  | n + 1, i, h => by
    show _ ≤ (if mxS a n < a (160 + n) then a (160 + n) else mxS a n)
    by_cases c : i = n
    · subst c
      split <;> omega
    · have := mxS_le (a := a) n i (by omega)
      split <;> omega
theorem Q44_l {d k f : Nat} {u : Nat → Rw} {a : Rw} {Tm : Int} {w : qW} (hw : WF Tm a) : ∀ (m q : Nat) (S : zS), q + m = (a 0 * a 1).toNat → HC S k u a → ∃ S', qy (d + 4) 44 (f + m + 1) 4 [some (za 1 0 0), some (zi (zo (mxS a q))), some (zi (zo (q : Int)))] [] (S, w) = some (some (zi (zo (mxS a (a 0 * a 1).toNat))), (S', w)) ∧ RC S S' ∧ HC S' k u a := by
  have wn := WF_nc hw
  have w0 := hw.1.1
  have w1 := hw.1.2.1
  intro m
  induction m with
  | zero =>
    intro q S hq H
    obtain ⟨S0, r0, H0, e0⟩ := qq_s (d := d) H hw (p := 0) (by omega) (by omega)
    obtain ⟨S1, r1, H1, e1⟩ := qq_s (d := d) H0 hw (p := 1) (by omega) (by omega)
    rw [show sizV a 0 = a 0 from rfl] at e0
    rw [show sizV a 1 = a 1 from rfl] at e1
    refine ⟨S1, ?_, r0.tr r1, H1⟩
    rw [qy_z (M := (qm_44, 1, 3, 33)) rfl, qe_44_4_1ii__33, e0, qe_44_10_1ii_ii_29]
    refine (e1 _ _ _).trans ?_
    rw [qe_44_15_1ii_iii_26, zo_mul, if_pos (by rw [zo_le (by omega) (by omega) (by omega) (by omega)]; omega), show q = (a 0 * a 1).toNat by omega]
  | succ m ih =>
    intro q S hq H
    have mr := mxS_r hw q (by omega)
    have sr := hw.2.2.2.2.1 q (by omega)
    obtain ⟨S0, r0, H0, e0⟩ := qq_s (d := d) H hw (p := 0) (by omega) (by omega)
    obtain ⟨S1, r1, H1, e1⟩ := qq_s (d := d) H0 hw (p := 1) (by omega) (by omega)
    obtain ⟨S2, r2, H2, e2⟩ := qq_s (d := d) H1 hw (p := 0) (by omega) (by omega)
    obtain ⟨S3, r3, H3, e3⟩ := qq_s (d := d) H2 hw (p := 0) (by omega) (by omega)
    obtain ⟨S4, r4, H4, e4⟩ := qq_c (d := d + 1) H3 hw (c := (q : Int)) (by omega) (by omega)
    rw [show sizV a 0 = a 0 from rfl] at e0 e2 e3
    rw [show sizV a 1 = a 1 from rfl] at e1
    rw [Int.toNat_natCast] at e4
    obtain ⟨S', g1, g2, g3⟩ := ih (q + 1) S4 (by omega) H4
    refine ⟨S', ?_, (r0.tr (r1.tr (r2.tr (r3.tr r4)))).tr g2, g3⟩
    rw [show f + (m + 1) + 1 = (f + m + 1) + 1 by omega, qy_z (M := (qm_44, 1, 3, 33)) rfl, qe_44_4_1ii__33, e0, qe_44_10_1ii_ii_29]
    refine (e1 _ _ _).trans ?_
    rw [qe_44_15_1ii_iii_26, zo_mul, if_neg (by rw [zo_le (by omega) (by omega) (by omega) (by omega)]; omega)]
    refine (e2 _ _ _).trans ?_
    rw [qe_44_27_1ii_ii1i_18, if_neg (by rw [zo_eq (by omega) (by omega) (by omega) (by omega)]; omega), zo_mod (by omega) (by omega) (by omega) (by omega)]
    refine (e3 _ _ _).trans ?_
    rw [qe_44_34_1ii_iii1i_13, if_neg (by rw [zo_eq (by omega) (by omega) (by omega) (by omega)]; omega), zo_div (by omega) (by omega) (by omega) (by omega)]
    refine (e4 _ _ _).trans ?_
    rw [qe_44_38_1ii_ii_11, zmax_o (by omega) (by omega) (by omega) (by omega), zo_add]
    exact g1
theorem Q44 {T : qS} {d k : Nat} {u : Nat → Rw} {a : Rw} {Tm : Int} (hw : WF Tm a) (H : HC T.1 k u a) : ∃ S', q_sem zF (d + 5) 44 [za 1 0 0] T = some (some (zi (zo (mxS a (a 0 * a 1).toNat))), (S', T.2)) ∧ RC T.1 S' ∧ HC S' k u a := by
  have wn := WF_nc hw
  obtain ⟨f, hf⟩ : ∃ f, zF1 = f + (a 0 * a 1).toNat + 1 := ⟨zF1 - (a 0 * a 1).toNat - 1, by have := zF1_big; omega⟩
  obtain ⟨S', g1, g2, g3⟩ := Q44_l (d := d) (f := f) (w := T.2) hw (a 0 * a 1).toNat 0 T.1 (by omega) H
  refine ⟨S', ?_, g2, g3⟩
  rw [qn_44_1oo, qe_44_0_1oo__33, hf]
  exact g1

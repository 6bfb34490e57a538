/-! THE LAW'S PURE SIDE 31: what holds at all times: the boats -/
theorem iab_300 {v : Int} (h : -300 ≤ v ∧ v ≤ 300) : 0 ≤ iab v ∧ iab v ≤ 300 := by unfold iab; split <;> omega
theorem qy43 {d n pc : Nat} {lv : zL} {st : List zV} {T : qS} : qy d 43 (n + 1) pc lv st T = qz d 43 n 424 pc lv st T := qy_z (M := (qm_43, 2, 14, 424)) rfl
section LT
variable {S : zS} {w : qW} {d : Nat} {a : Rw} {Tm : Int}
theorem h79s (h : Cb (S.1 0 0) a) (hw : WF Tm a) (hl : LI a) {b f : Nat} (hb : (b : Int) < a 9) : qy (d + 4) 43 (f + 4) 79 [some (za 1 0 0), some (zi (zo (a 0))), some (zi (zo (a 1))), some (zi (zo (a 9))), some (zi (zo ((b : Int) - afc a b))), some (zi (zo (afc a b))), some (zi (zo 0)), some (zi (zo 0)), some (zi (zo (b : Int))), none, none, none, none, none] [] (S, w) = if a (40 + 10 * b + 6) = 0 then qy (d + 4) 43 f 79 [some (za 1 0 0), some (zi (zo (a 0))), some (zi (zo (a 1))), some (zi (zo (a 9))), some (zi (zo ((b : Int) - afc a b))), some (zi (zo (afc a b + 1))), some (zi (zo 0)), some (zi (zo 0)), some (zi (zo ((b : Int) + 1))), none, none, none, none, none] [] (S, w) else qy (d + 4) 43 f 301 [some (za 1 0 0), some (zi (zo (a 0))), some (zi (zo (a 1))), some (zi (zo (a 9))), some (zi (zo ((b : Int) - afc a b + 1))), some (zi (zo (afc a b))), some (zi (zo 0)), some (zi (zo 0)), some (zi (zo (b : Int))), some (zi (zo (a (40 + 10 * b) % a 0))), some (zi (zo (a (40 + 10 * b) / a 0))), some (zi (zo (a (40 + 10 * b + 6)))), some (zi (zo 0)), some (zi (zo 0))] [] (S, w) := by
  have w0 := hw.1.1
  have w1 := hw.1.2.1
  have w6 := hw.1.2.2.2.2.2.2.1
  have w7 := hw.1.2.2.2.2.2.2.2
  have gb := hw.2.2.2.1 b hb
  obtain ⟨cb1, cb2⟩ := cellr hw gb.1
  obtain ⟨l1, l2, l3⟩ := hl.1 b hb
  have c1 := afc_ge a b
  have c2 := afc_le a b
  have i5 := iab_300 (v := a (40 + 10 * b + 4)) (by omega)
  have i6 := iab_300 (v := a (40 + 10 * b + 5)) (by omega)
  have gb6 : a (40 + 10 * b + 6) = 0 ∨ a (40 + 10 * b + 6) = 1 ∨ a (40 + 10 * b + 6) = 2 := by omega
  rcases gb6 with s | s | s
  · have e7 := l2.mp s
    have o := occ_here hw hb s
    have o2 := afS_b hb s
    have o3 := afc_lt hb s
    rw [if_pos s]
    rw [qy43]
    simp (disch := omega) only [qe_43_79_1iiiiiiiiooooo__424, qe_43_92_1iiiiiiiiooooo_i_417, qe_43_101_1iiiiiiiiioooo_i_412, qe_43_111_1iiiiiiiiiiooo_i_407, qe_43_142_1iiiiiiiiiiioo_i_392, qe_43_145_1iiiiiiiiiiioo_i_391, qe_43_159_1iiiiiiiiiiioo_i_385, qe_43_162_1iiiiiiiiiiioo_i_384, pb_0 h hw hb, pb_1 h hw hb, pb_5 h hw hb, pb_6 h hw hb, pb_7 h hw hb, px_42, s, zo_add, ↓ie_p, ↓ie_n, ↓il_p, ↓il_n, ↓iq_p, ↓iq_n]
    rw [qy43]
    simp (disch := omega) only [qe_43_181_1iiiiiiiiiiioo_i_424, qe_43_188_1iiiiiiiiiiioo_ii_420, qe_43_195_1iiiiiiiiiiioo_iii_416, pb_3 h hw hb, pb_4 h hw hb, ↓ie_p, ↓ie_n, ↓il_p, ↓il_n, ↓iq_p, ↓iq_n]
    rw [qy43]
    simp (disch := omega) only [qe_43_203_1iiiiiiiiiiioo_ii_424, ↓ie_p, ↓ie_n, ↓il_p, ↓il_n, ↓iq_p, ↓iq_n]
    rw [qy43]
    simp (disch := omega) only [qe_43_216_1iiiiiiiiiiioo_i_424, qe_43_224_1iiiiiiiiiiioo_ii_420, qe_43_244_1iiiiiiiiiiioo_i_412, qe_43_244_1iiiiiiiiiiioo_i_411, qe_43_250_1iiiiiiiiiiioo_ii_409, qe_43_250_1iiiiiiiiiiioo_ii_408, qe_43_268_1iiiiiiiiiiioo_i_402, qe_43_268_1iiiiiiiiiiioo_i_401, qe_43_279_1iiiiiiiiiiioo_i_397, qe_43_279_1iiiiiiiiiiioo_i_396, pb_8 h hw hb, ps_8 h hw, po_0 h hw cb1, pa_0 h hw, cb2, o, o2, e7, zo_add, ↓ie_p, ↓ie_n, ↓il_p, ↓il_n, ↓iq_p, ↓iq_n]
  all_goals
    rw [if_neg (by omega)]
    rw [qy43]
    simp (disch := omega) only [qe_43_79_1iiiiiiiiooooo__424, qe_43_92_1iiiiiiiiooooo_i_417, qe_43_101_1iiiiiiiiioooo_i_412, qe_43_111_1iiiiiiiiiiooo_i_407, qe_43_142_1iiiiiiiiiiioo_i_392, qe_43_145_1iiiiiiiiiiioo_i_391, qe_43_159_1iiiiiiiiiiioo_i_385, qe_43_162_1iiiiiiiiiiioo_i_384, pb_0 h hw hb, pb_1 h hw hb, pb_5 h hw hb, pb_6 h hw hb, pb_7 h hw hb, px_42, s, zo_add, ↓ie_p, ↓ie_n, ↓il_p, ↓il_n, ↓iq_p, ↓iq_n]
    rw [qy43]
    simp (disch := omega) only [qe_43_181_1iiiiiiiiiiioo_i_424, qe_43_188_1iiiiiiiiiiioo_ii_420, qe_43_195_1iiiiiiiiiiioo_iii_416, pb_3 h hw hb, pb_4 h hw hb, ↓ie_p, ↓ie_n, ↓il_p, ↓il_n, ↓iq_p, ↓iq_n]
    rw [qy43]
    simp (disch := omega) only [qe_43_203_1iiiiiiiiiiioo_ii_424, ↓ie_p, ↓ie_n, ↓il_p, ↓il_n, ↓iq_p, ↓iq_n]
    rw [qy43]
    simp (disch := omega) only [qe_43_216_1iiiiiiiiiiioo_i_424, qe_43_224_1iiiiiiiiiiioo_ii_420, qe_43_244_1iiiiiiiiiiioo_i_412, qe_43_244_1iiiiiiiiiiioo_i_411, qe_43_250_1iiiiiiiiiiioo_ii_409, qe_43_250_1iiiiiiiiiiioo_ii_408, pb_8 h hw hb, ps_8 h hw, zo_add, ↓ie_p, ↓ie_n, ↓il_p, ↓il_n, ↓iq_p, ↓iq_n]
theorem h79 (h : Cb (S.1 0 0) a) (hw : WF Tm a) (hl : LI a) : ∀ (m b f : Nat), b + m = (a 9).toNat → 20 * m + 250 ≤ f → ∃ f', 240 ≤ f' ∧ qy (d + 4) 43 f 79 [some (za 1 0 0), some (zi (zo (a 0))), some (zi (zo (a 1))), some (zi (zo (a 9))), some (zi (zo ((b : Int) - afc a b))), some (zi (zo (afc a b))), some (zi (zo 0)), some (zi (zo 0)), some (zi (zo (b : Int))), none, none, none, none, none] [] (S, w) = qy (d + 4) 43 f' 392 [some (za 1 0 0), some (zi (zo (a 0))), some (zi (zo (a 1))), none, some (zi (zo (nen a))), some (zi (zo (cnt a 0))), some (zi (zo 0)), some (zi (zo 0)), some (zi (zo 0)), none, none, none, none, none] [] (S, w) := by
  have w7 := hw.1.2.2.2.2.2.2.2
  intro m
  induction m with
  | zero =>
    intro b f hb hf
    obtain ⟨f, rfl⟩ : ∃ f', f = f' + 1 := ⟨f - 1, by omega⟩
    have nc := nen_cnt (a := a) (by omega)
    have e1 : afc a b = cnt a 0 := by rw [show b = (a 9).toNat by omega]; rfl
    refine ⟨f, by omega, ?_⟩
    rw [qy43, qe_43_79_1iiiiiiiiooooo__424, ie_p (by omega) (by omega) (by omega), e1, show (b : Int) - cnt a 0 = nen a by omega]
  | succ m ih =>
    intro b f hb hf
    obtain ⟨f, rfl⟩ : ∃ f', f = f' + 4 := ⟨f - 4, by omega⟩
    have hb9 : (b : Int) < a 9 := by omega
    rw [h79s h hw hl hb9]
    have ec := afc_s a b
    by_cases s : a (40 + 10 * b + 6) = 0
    · rw [if_pos s] at ec ⊢
      have i := ih (b + 1) f (by omega) (by omega)
      rw [ec, show ((b + 1 : Nat) : Int) - (afc a b + 1) = (b : Int) - afc a b by omega, show ((b + 1 : Nat) : Int) = (b : Int) + 1 from rfl] at i
      exact i
    · rw [if_neg s] at ec ⊢
      obtain ⟨f, rfl⟩ : ∃ f', f = f' + (a 7).toNat + 1 := ⟨f - (a 7).toNat - 1, by omega⟩
      have hd := h301 (d := d) (f := f) (w := w) (l2 := zo (a 1)) (l3 := zo (a 9)) (l4 := zo ((b : Int) - afc a b + 1)) (l5 := zo (afc a b)) (l6 := zo 0) (l7 := zo 0) h hw hb9 (a 7).toNat 0 0 (by omega) (Or.inl rfl) (fun h2 => by
        obtain ⟨k, k1, k2, k3⟩ := (hl.1 b hb9).2.2 h2
        exact Or.inr ⟨k, by omega, k1, k2, k3⟩)
      have i := ih (b + 1) f (by omega) (by omega)
      rw [ec, Int.add_zero, show ((b + 1 : Nat) : Int) - afc a b = (b : Int) - afc a b + 1 by omega, show ((b + 1 : Nat) : Int) = (b : Int) + 1 from rfl] at i
      obtain ⟨f', i1, i2⟩ := i
      exact ⟨f', i1, hd.trans i2⟩
end LT

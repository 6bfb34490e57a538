/-! THE LAW'S PURE SIDE 30: what holds at all times: the drains of one boat -/
section LS
variable {S : zS} {w : qW} {d f : Nat} {a : Rw} {Tm : Int} {l2 l3 l4 l5 l6 l7 : Int32}
theorem cellr (hw : WF Tm a) {c : Int} (h : 0 ≤ c ∧ c < a 0 * a 1) : vC a (c % a 0) (c / a 0) ∧ a 0 * (c / a 0) + c % a 0 = c := by
  have w0 := hw.1.1
  have w1 := hw.1.2.1
  have m0 := Int.emod_nonneg c (show a 0 ≠ 0 by omega)
  have m1 := Int.emod_lt_of_pos c (show 0 < a 0 by omega)
  have d0 := Int.ediv_nonneg h.1 (show 0 ≤ a 0 by omega)
  have d1 : c / a 0 < a 1 := Int.ediv_lt_of_lt_mul (by omega) (by rw [Int.mul_comm]; exact h.2)
  exact ⟨⟨⟨m0, m1⟩, d0, d1⟩, Int.mul_ediv_add_emod c (a 0)⟩
theorem h301 (h : Cb (S.1 0 0) a) (hw : WF Tm a) {b : Nat} (hb : (b : Int) < a 9) : ∀ (m q : Nat) (g : Int), q + m = (a 7).toNat → (g = 0 ∨ g = 1) → (a (40 + 10 * b + 6) = 2 → g = 1 ∨ ∃ k : Nat, q ≤ k ∧ (k : Int) < a 7 ∧ a (10 + 4 * k) = a (40 + 10 * b) ∧ a (40 + 10 * b + 1) ≤ a (10 + 4 * k + 1)) → qy (d + 4) 43 (f + m + 1) 301 [some (za 1 0 0), some (zi (zo (a 0))), some (zi l2), some (zi l3), some (zi l4), some (zi l5), some (zi l6), some (zi l7), some (zi (zo (b : Int))), some (zi (zo (a (40 + 10 * b) % a 0))), some (zi (zo (a (40 + 10 * b) / a 0))), some (zi (zo (a (40 + 10 * b + 6)))), some (zi (zo g)), some (zi (zo (q : Int)))] [] (S, w) = qy (d + 4) 43 f 79 [some (za 1 0 0), some (zi (zo (a 0))), some (zi l2), some (zi l3), some (zi l4), some (zi l5), some (zi l6), some (zi l7), some (zi (zo ((b : Int) + 1))), none, none, none, none, none] [] (S, w) := by
  have w0 := hw.1.1
  have w1 := hw.1.2.1
  have w7 := hw.1.2.2.2.2.2.2.2
  have gb := hw.2.2.2.1 b hb
  obtain ⟨cb1, cb2⟩ := cellr hw gb.1
  intro m
  induction m with
  | zero =>
    intro q g hq hg hh
    rw [qy_z (M := (qm_43, 2, 14, 424)) rfl]
    simp (disch := omega) only [qe_43_301_1iiiiiiiiiiiii__424, qe_43_308_1iiiiiiiiiiiii_ii_420, ps_2 h hw, zo_add, ↓ie_p, ↓ie_n]
    by_cases c : a (40 + 10 * b + 6) = 2
    · have hg1 : g = 1 := by
        rcases hh c with e | ⟨k, k1, k2, -⟩
        · exact e
        · exact False.elim (by clear hh; omega)
      subst hg1
      rw [iq_p c, iq_n (by omega) (by omega) (by omega) (by omega) (by omega)]
    · rw [iq_n (by omega) (by omega) (by omega) (by omega) (by omega)]
  | succ m ih =>
    intro q g hq hg hh
    have hq7 : (q : Int) < a 7 := by omega
    have gd := hw.2.1 q hq7
    obtain ⟨cd1, cd2⟩ := cellr hw gd.1
    rw [show f + (m + 1) + 1 = (f + m + 1) + 1 by omega, qy_z (M := (qm_43, 2, 14, 424)) rfl]
    simp (disch := omega) only [qe_43_301_1iiiiiiiiiiiii__424, qe_43_308_1iiiiiiiiiiiii_ii_420, ps_2 h hw, zo_add, ↓ie_p, ↓ie_n]
    have nx : ∀ g : Int, (g = 0 ∨ g = 1) → (a (40 + 10 * b + 6) = 2 → g = 1 ∨ ∃ k : Nat, q + 1 ≤ k ∧ (k : Int) < a 7 ∧ a (10 + 4 * k) = a (40 + 10 * b) ∧ a (40 + 10 * b + 1) ≤ a (10 + 4 * k + 1)) → _ := fun g h1 h2 => ih (q + 1) g (by omega) h1 h2
    rcases hg with rfl | rfl
    · have hn : ¬ (a (10 + 4 * q) = a (40 + 10 * b) ∧ a (40 + 10 * b + 1) ≤ a (10 + 4 * q + 1)) → a (40 + 10 * b + 6) = 2 → (0 : Int) = 1 ∨ ∃ k : Nat, q + 1 ≤ k ∧ (k : Int) < a 7 ∧ a (10 + 4 * k) = a (40 + 10 * b) ∧ a (40 + 10 * b + 1) ≤ a (10 + 4 * k + 1) := by
        intro hne h2
        rcases hh h2 with e | ⟨k, k1, k2, k3, k4⟩
        · exact absurd e (by decide)
        · refine Or.inr ⟨k, ?_, k2, k3, k4⟩
          by_cases e : k = q
          · subst e; exact absurd ⟨k3, k4⟩ hne
          · omega
      rw [iq_p rfl, pd_0 h hw hq7, qe_43_323_1iiiiiiiiiiiii_i_413]
      by_cases c1 : a (10 + 4 * q) % a 0 = a (40 + 10 * b) % a 0
      · rw [iq_p c1, pd_1 h hw hq7, qe_43_335_1iiiiiiiiiiiii_i_407]
        by_cases c2 : a (10 + 4 * q) / a 0 = a (40 + 10 * b) / a 0
        · have ec : a (10 + 4 * q) = a (40 + 10 * b) := by rw [← cd2, ← cb2, c1, c2]
          rw [iq_p c2, pd_2 h hw hq7, qe_43_347_1iiiiiiiiiiiii_i_401, pb_2 h hw hb, qe_43_354_1iiiiiiiiiiiii_ii_397, zo_add]
          by_cases c3 : a (40 + 10 * b + 1) ≤ a (10 + 4 * q + 1)
          · rw [il_n c3 (by omega) (by omega)]
            exact nx 1 (Or.inr rfl) (fun _ => Or.inl rfl)
          · rw [il_p (by omega) (by omega) (by omega)]
            exact nx 0 (Or.inl rfl) (hn (fun e => c3 e.2))
        · rw [iq_n (by omega) (by omega) (by omega) (by omega) (by omega), zo_add]
          exact nx 0 (Or.inl rfl) (hn (fun e => c2 (by rw [e.1])))
      · rw [iq_n (by omega) (by omega) (by omega) (by omega) (by omega), zo_add]
        exact nx 0 (Or.inl rfl) (hn (fun e => c1 (by rw [e.1])))
    · rw [iq_n (by omega) (by omega) (by omega) (by omega) (by omega)]
      exact nx 1 (Or.inr rfl) (fun _ => Or.inl rfl)
end LS

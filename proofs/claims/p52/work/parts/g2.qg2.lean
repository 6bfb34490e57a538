/-! THE LAW'S PURE SIDE 12: a text is said, and closed -/
theorem FF.st {T T' : qS} {j k jt : Nat} {w : List Int32} (h : FF T T' j) (hs : ST T k jt w) (hk : k ≠ j) (hj : jt ≠ j) : ST T' k jt w := by
  obtain ⟨⟨a, b, g1⟩, g2, g3⟩ := hs
  exact ⟨⟨a, b, by rw [h.2.2.1 k hk]; exact g1⟩, by rw [h.2.2.1 jt hj]; exact g2, g3⟩
theorem Q37_l {d j k jt f : Nat} {w ws : List Int32} (hk : k ≠ j) (hj : jt ≠ j) (hb : ∀ i, i < w.length → ∃ c : Int, 0 ≤ c ∧ c < 128 ∧ w.getD i 0 = zo c) (hn : ws.length + w.length ≤ 700) : ∀ (m i : Nat) (T : qS), i + m = w.length → ST T k jt w → FD T j (ws ++ w.take i) → ∃ T', qy (d + 4) 37 (f + m + 1) 2 [some (za 1 0 0), some (za 8 j 0), some (za 8 k 0), some (zi (zo (i : Int)))] [] T = some (none, T') ∧ FD T' j (ws ++ w) ∧ FF T T' j := by
  intro m
  induction m with
  | zero =>
    intro i T hi hs hf
    refine ⟨T, ?_, ?_, FF.rf T j⟩
    · obtain ⟨⟨a, b, g1⟩, g2, g3⟩ := hs
      rw [qy_z (M := (qm_37, 0, 4, 16)) rfl, qe_37_2_188i__16, qp_rc g1, qr_1 (Q14s (d := d + 2) ⟨⟨a, b, g1⟩, g2, g3⟩), qe_37_7_188i_ii_13, if_pos (by rw [zo_le (by omega) (by omega) (by omega) (by omega)]; omega)]
    · rw [List.take_of_length_le (by omega)] at hf
      exact hf
  | succ m ih =>
    intro i T hi hs hf
    obtain ⟨c, c0, c1, hc⟩ := hb i (by omega)
    have hw := hs.2.2
    have hl : (ws ++ w.take i).length = ws.length + i := by rw [List.length_append, List.length_take, Nat.min_eq_left (by omega)]
    obtain ⟨T1, e1, e2, e3⟩ := Q36 (d := d) hf c0 c1 (by rw [hl]; omega)
    have hs1 := e3.st hs hk hj
    have ht : ws ++ w.take i ++ [zo c] = ws ++ w.take (i + 1) := by
      rw [List.append_assoc, ← hc]
      congr 1
      rw [List.getD_eq_getElem?_getD, List.getElem?_eq_getElem (by omega)]
      exact List.take_append_getElem (by omega)
    rw [ht] at e2
    obtain ⟨T2, r1, r2, r3⟩ := ih (i + 1) T1 (by omega) hs1 e2
    refine ⟨T2, ?_, r2, e3.tr r3⟩
    obtain ⟨⟨a, b, g1⟩, g2, g3⟩ := hs
    rw [show f + (m + 1) + 1 = (f + m + 1) + 1 by omega, qy_z (M := (qm_37, 0, 4, 16)) rfl, qe_37_2_188i__16, qp_rc g1, qr_1 (Q14s (d := d + 2) ⟨⟨a, b, g1⟩, g2, g3⟩), qe_37_7_188i_ii_13, if_neg (by rw [zo_le (by omega) (by omega) (by omega) (by omega)]; omega), qp_rc g1, qr_1 (Q15 (d := d + 2) ⟨⟨a, b, g1⟩, g2, g3⟩ (by omega) (by omega) (by rw [Int.toNat_natCast]; exact hc) c0 c1), qe_37_17_188i_i81_7, qr_0 e1, qe_37_20_188i__6, zo_add, show (i : Int) + 1 = ((i + 1 : Nat) : Int) by omega]
    exact r1
/-- a text is said -/
theorem Q37 {T : qS} {d j k jt : Nat} {w ws : List Int32} (hk : k ≠ j) (hj : jt ≠ j) (hs : ST T k jt w) (hb : ∀ i, i < w.length → ∃ c : Int, 0 ≤ c ∧ c < 128 ∧ w.getD i 0 = zo c) (hf : FD T j ws) (hn : ws.length + w.length ≤ 700) : ∃ T', q_sem zF (d + 5) 37 [za 1 0 0, za 8 j 0, za 8 k 0] T = some (none, T') ∧ FD T' j (ws ++ w) ∧ FF T T' j := by
  have hw := hs.2.2
  obtain ⟨f, hg⟩ : ∃ f, zF1 = f + w.length + 1 := ⟨zF1 - w.length - 1, by have := zF1_big; omega⟩
  obtain ⟨T', e1, e2, e3⟩ := Q37_l (d := d) (f := f) hk hj hb hn w.length 0 T (by omega) hs (by rw [List.take_zero, List.append_nil]; exact hf)
  refine ⟨T', ?_, e2, e3⟩
  rw [qn_37_188o, qe_37_0_188o__16, hg]
  exact e1
theorem Q38_l {d j f : Nat} {n : Int32} : ∀ (m : Nat) (T : qS) (ws : List Int32), (ws.length + m) % 20 = 0 → m < 20 → ws.length + m ≤ 700 → FD T j ws → ∃ T', qy (d + 4) 38 (f + m + 1) 4 [some (za 1 0 0), some (za 8 j 0), some (zi n)] [] T = some (some (zi n), T') ∧ T'.1.1 1 0 14 1 = zo ((ws.length + m : Nat) : Int) ∧ (∀ i, i < ws.length + m → T'.1.1 1 0 16 i = (ws ++ List.replicate m (zo 32)).getD i 0) ∧ FF T T' j := by
  intro m
  induction m with
  | zero =>
    intro T ws h0 _ h7 hf
    obtain ⟨P, h1, h2, h3, h4⟩ := hf
    have h5 : 20 * (ws.length / 20) = ws.length := by omega
    refine ⟨(T.1, T.2.set j (.inr (.inl (0, [P 0, P 1, P 2, P 3, P 4, zo 0])))), ?_, ?_, fun i hi => ?_, FF.set h1 rfl⟩
    · rw [qy_z (M := (qm_38, 1, 3, 22)) rfl, qe_38_4_18i__22, qp_ld h1 (by omega) (by show (5 : Int) < 6; omega) (by show 6 ≤ 1000000; decide)]
      show (if zo 20 = zo 0 then none else if zo (ws.length : Int) - zo (ws.length : Int) / zo 20 * zo 20 = zo 0 then _ else _) = _
      rw [if_neg (by decide), zo_mod (by omega) (by omega) (by omega) (by omega), if_pos (by rw [zo_eq (by omega) (by omega) (by omega) (by omega)]; omega), qp_st h1 (by omega) (by show (5 : Int) < 6; omega) (by show 6 ≤ 1000000; decide)]
      rfl
    · rw [← h5]; exact h3
    · show T.1.1 1 0 16 i = _
      rw [h4 i (by omega), List.replicate_zero, List.append_nil]
  | succ m ih =>
    intro T ws h0 hm h7 hf
    obtain ⟨T1, e1, e2, e3⟩ := Q36 (d := d) (c := 32) hf (by decide) (by decide) (by omega)
    have hl : (ws ++ [zo 32]).length = ws.length + 1 := by rw [List.length_append]; rfl
    obtain ⟨T2, r1, r2, r3, r4⟩ := ih T1 (ws ++ [zo 32]) (by rw [hl]; omega) (by omega) (by rw [hl]; omega) e2
    rw [hl] at r2 r3
    refine ⟨T2, ?_, ?_, fun i hi => ?_, e3.tr r4⟩
    · obtain ⟨P, h1, h2, h3, h4⟩ := hf
      rw [show f + (m + 1) + 1 = (f + m + 1) + 1 by omega, qy_z (M := (qm_38, 1, 3, 22)) rfl, qe_38_4_18i__22, qp_ld h1 (by omega) (by show (5 : Int) < 6; omega) (by show 6 ≤ 1000000; decide)]
      show (if zo 20 = zo 0 then none else if zo (ws.length : Int) - zo (ws.length : Int) / zo 20 * zo 20 = zo 0 then _ else _) = _
      rw [if_neg (by decide), zo_mod (by omega) (by omega) (by omega) (by omega), if_neg (by rw [zo_eq (by omega) (by omega) (by omega) (by omega)]; omega), qr_0 e1, qe_38_20_18i__12]
      exact r1
    · rw [r2]; congr 1; omega
    · rw [r3 i (by omega), List.append_assoc, List.replicate_succ]
      rfl
/-- what was said is whole -/
theorem Q38 {T : qS} {d j : Nat} {ws : List Int32} (hf : FD T j ws) (hn : ws.length ≤ 680) : ∃ T' tn, q_sem zF (d + 5) 38 [za 1 0 0, za 8 j 0] T = some (some (zi (zo (ws.length : Int))), T') ∧ ws.length ≤ tn ∧ tn ≤ 700 ∧ T'.1.1 1 0 14 1 = zo ((tn : Nat) : Int) ∧ (∀ i, i < tn → T'.1.1 1 0 16 i = if i < ws.length then ws.getD i 0 else zo 32) ∧ FF T T' j := by
  obtain ⟨m, hm1, hm2⟩ : ∃ m, (ws.length + m) % 20 = 0 ∧ m < 20 := ⟨(20 - ws.length % 20) % 20, by omega, by omega⟩
  obtain ⟨f, hg⟩ : ∃ f, zF1 = f + m + 1 := ⟨zF1 - m - 1, by have := zF1_big; omega⟩
  obtain ⟨T', e1, e2, e3, e4⟩ := Q38_l (d := d) (f := f) (n := zo (ws.length : Int)) m T ws hm1 hm2 (by omega) hf
  refine ⟨T', ws.length + m, ?_, by omega, by omega, e2, fun i hi => ?_, e4⟩
  · obtain ⟨P, h1, h2, h3, h4⟩ := hf
    rw [qn_38_18o, qe_38_0_18o__22, qp_ld h1 (by omega) (by show (5 : Int) < 6; omega) (by show 6 ≤ 1000000; decide), hg]
    exact e1
  · rw [e3 i hi, List.getD_eq_getElem?_getD, List.getD_eq_getElem?_getD]
    by_cases c : i < ws.length
    · rw [if_pos c, List.getElem?_append_left c]
    · rw [if_neg c, List.getElem?_append_right (by omega), List.getElem?_replicate, if_pos (by omega)]
      rfl

/-! THE LAW'S PURE SIDE 48: a bath is drawn: one clause more (tools/gendr.py) -/
theorem qy39 {d n pc : Nat} {lv : zL} {st : List zV} {T : qS} : qy d 39 (n + 1) pc lv st T = qz d 39 n 370 pc lv st T := qy_z (M := (qm_39, 5, 15, 370)) rfl
theorem iq_p' {α : Type} {x : Int32} {y z : α} (h : x = zo 0) {i : Decidable (x = zo 0)} : @ite α (x = zo 0) i y z = y := if_pos h
theorem plain_w {l : List Int} (h : l.all (fun c => decide (0 ≤ c ∧ c < 128)) = true) : plain l := fun c hc => of_decide_eq_true (List.all_eq_true.mp h c hc)
section DB2
variable {T0 T : qS} {kb A q d f c k : Nat} {W : List Int} {xs : List Int32} {wd hg dr tp bo x : Int} {v u : Int32}
/-- on to a free cell -/
theorem p238 (b : BB T0 T kb W A (some (q, .inr (.inl (6, xs))))) (hw : 3 ≤ wd ∧ wd ≤ 6) (hh : 3 ≤ hg ∧ hg ≤ 6) (hN : 0 < wd * hg ∧ wd * hg ≤ 36) {N t0 : Nat} (hNx : (N : Int) = wd * hg) (hx : xs.length = N) (ht : t0 < N) (ht0 : xs.getD t0 0 = zo 0) : ∀ (m s f : Nat), s < N → (if s ≤ t0 then t0 - s else t0 + N - s) = m → ∃ c, c < N ∧ xs.getD c 0 = zo 0 ∧ ∃ f', f ≤ f' ∧ qy (d + 11) 39 (f + m + 1) 238 [some (za 5 0 0), some (zi (zo 0)), some (zi v), some (zi (zo wd)), some (zi (zo hg)), some (za 8 kb 0), some (za 8 q 0), some (zi (zo dr)), some (zi (zo tp)), some (zi (zo (k : Int))), some (zi u), some (zi (zo (s : Int))), none, none, none] [] T = qy (d + 11) 39 (f' + 1) 238 [some (za 5 0 0), some (zi (zo 0)), some (zi v), some (zi (zo wd)), some (zi (zo hg)), some (za 8 kb 0), some (za 8 q 0), some (zi (zo dr)), some (zi (zo tp)), some (zi (zo (k : Int))), some (zi u), some (zi (zo (c : Int))), none, none, none] [] T := by
  intro m
  induction m with
  | zero =>
    intro s f hs hm
    have e : s = t0 := by
      by_cases c1 : s ≤ t0
      · rw [if_pos c1] at hm; omega
      · rw [if_neg c1] at hm; omega
    subst e
    exact ⟨s, hs, ht0, f, Nat.le_refl _, rfl⟩
  | succ m ih =>
    intro s f hs hm
    by_cases c0 : xs.getD s 0 = zo 0
    · exact ⟨s, hs, c0, f + (m + 1), Nat.le_add_right _ _, rfl⟩
    · have hne : s ≠ t0 := fun e => c0 (by rw [e]; exact ht0)
      have hl := b.ld (i := s) (by omega) (by omega)
      obtain ⟨s2, e2, hs2, hm2⟩ : ∃ s2 : Nat, ((s : Int) + 1) % (wd * hg) = (s2 : Int) ∧ s2 < N ∧ (if s2 ≤ t0 then t0 - s2 else t0 + N - s2) = m := by
        by_cases c1 : s + 1 = N
        · refine ⟨0, ?_, by omega, ?_⟩
          · rw [← hNx, show (s : Int) + 1 = (N : Int) by omega, Int.emod_self]; rfl
          · rw [if_neg (by omega)] at hm
            rw [if_pos (by omega)]
            omega
        · refine ⟨s + 1, ?_, by omega, ?_⟩
          · rw [← hNx]; exact Int.emod_eq_of_lt (by omega) (by omega)
          · by_cases c2 : s ≤ t0
            · rw [if_pos c2] at hm
              rw [if_pos (by omega)]
              omega
            · rw [if_neg c2] at hm
              rw [if_neg (by omega)]
              omega
      obtain ⟨c, g1, g2, f', g3, g4⟩ := ih s2 f hs2 hm2
      refine ⟨c, g1, g2, f', g3, ?_⟩
      rw [show f + (m + 1) + 1 = (f + m + 1) + 1 by omega, qy39, qe_39_238_5iiii88iiiiiooo__370, hl, if_neg c0, zo_mul, iq_n (by omega) (by omega) (by omega) (by omega) (by omega), zo_add, zo_mod (by omega) (by omega) (by omega) (by omega), e2]
      exact g4
/-- on to a free cell -/
theorem p420 (b : BB T0 T kb W A (some (q, .inr (.inl (6, xs))))) (hw : 3 ≤ wd ∧ wd ≤ 6) (hh : 3 ≤ hg ∧ hg ≤ 6) (hN : 0 < wd * hg ∧ wd * hg ≤ 36) {N t0 : Nat} (hNx : (N : Int) = wd * hg) (hx : xs.length = N) (ht : t0 < N) (ht0 : xs.getD t0 0 = zo 0) : ∀ (m s f : Nat), s < N → (if s ≤ t0 then t0 - s else t0 + N - s) = m → ∃ c, c < N ∧ xs.getD c 0 = zo 0 ∧ ∃ f', f ≤ f' ∧ qy (d + 11) 39 (f + m + 1) 420 [some (za 5 0 0), some (zi (zo 0)), some (zi v), some (zi (zo wd)), some (zi (zo hg)), some (za 8 kb 0), none, none, none, some (za 8 q 0), some (zi (zo bo)), some (zi (zo (k : Int))), some (zi u), some (zi (zo (s : Int))), none] [] T = qy (d + 11) 39 (f' + 1) 420 [some (za 5 0 0), some (zi (zo 0)), some (zi v), some (zi (zo wd)), some (zi (zo hg)), some (za 8 kb 0), none, none, none, some (za 8 q 0), some (zi (zo bo)), some (zi (zo (k : Int))), some (zi u), some (zi (zo (c : Int))), none] [] T := by
  intro m
  induction m with
  | zero =>
    intro s f hs hm
    have e : s = t0 := by
      by_cases c1 : s ≤ t0
      · rw [if_pos c1] at hm; omega
      · rw [if_neg c1] at hm; omega
    subst e
    exact ⟨s, hs, ht0, f, Nat.le_refl _, rfl⟩
  | succ m ih =>
    intro s f hs hm
    by_cases c0 : xs.getD s 0 = zo 0
    · exact ⟨s, hs, c0, f + (m + 1), Nat.le_add_right _ _, rfl⟩
    · have hne : s ≠ t0 := fun e => c0 (by rw [e]; exact ht0)
      have hl := b.ld (i := s) (by omega) (by omega)
      obtain ⟨s2, e2, hs2, hm2⟩ : ∃ s2 : Nat, ((s : Int) + 1) % (wd * hg) = (s2 : Int) ∧ s2 < N ∧ (if s2 ≤ t0 then t0 - s2 else t0 + N - s2) = m := by
        by_cases c1 : s + 1 = N
        · refine ⟨0, ?_, by omega, ?_⟩
          · rw [← hNx, show (s : Int) + 1 = (N : Int) by omega, Int.emod_self]; rfl
          · rw [if_neg (by omega)] at hm
            rw [if_pos (by omega)]
            omega
        · refine ⟨s + 1, ?_, by omega, ?_⟩
          · rw [← hNx]; exact Int.emod_eq_of_lt (by omega) (by omega)
          · by_cases c2 : s ≤ t0
            · rw [if_pos c2] at hm
              rw [if_pos (by omega)]
              omega
            · rw [if_neg c2] at hm
              rw [if_neg (by omega)]
              omega
      obtain ⟨c, g1, g2, f', g3, g4⟩ := ih s2 f hs2 hm2
      refine ⟨c, g1, g2, f', g3, ?_⟩
      rw [show f + (m + 1) + 1 = (f + m + 1) + 1 by omega, qy39, qe_39_420_5iiii8ooo8iiiio__370, hl, if_neg c0, zo_mul, iq_n (by omega) (by omega) (by omega) (by omega) (by omega), zo_add, zo_mod (by omega) (by omega) (by omega) (by omega), e2]
      exact g4
theorem dr_D (b : BB T0 T kb W A (some (q, .inr (.inl (6, xs))))) (hw : 3 ≤ wd ∧ wd ≤ 6) (hh : 3 ≤ hg ∧ hg ≤ 6) (hN : 0 < wd * hg ∧ wd * hg ≤ 36) (hx : xs.getD c 0 = zo 0) (hc : c < xs.length) (hl : xs.length ≤ 100) (hcN : (c : Int) < wd * hg) (hW : W.length ≤ 900) (hk : (k : Int) < dr) (hd : dr ≤ 3) : ∃ T', BB T0 T' kb (W ++ clD ((c : Int) % wd) ((c : Int) / wd) (1 + mst (u >>> (zo 2 &&& 31)) 60) (mst (u >>> (zo 1 &&& 31)) 100)) (A + 9) (some (q, .inr (.inl (6, xs.set c 1)))) ∧ qy (d + 11) 39 (f + 1) 238 [some (za 5 0 0), some (zi (zo 0)), some (zi v), some (zi (zo wd)), some (zi (zo hg)), some (za 8 kb 0), some (za 8 q 0), some (zi (zo dr)), some (zi (zo tp)), some (zi (zo (k : Int))), some (zi u), some (zi (zo (c : Int))), none, none, none] [] T = qy (d + 11) 39 f 203 [some (za 5 0 0), some (zi (zo 0)), some (zi v), some (zi (zo wd)), some (zi (zo hg)), some (za 8 kb 0), some (za 8 q 0), some (zi (zo dr)), some (zi (zo tp)), some (zi (zo ((k : Int) + 1))), none, none, none, none, none] [] T' := by
  have r1 := mst_r (v := u >>> (zo 2 &&& 31)) (m := 60) (by omega)
  have r2 := mst_r (v := u >>> (zo 1 &&& 31)) (m := 100) (by omega)
  have m0 := Int.emod_nonneg (c : Int) (show wd ≠ 0 by omega)
  have m1 := Int.emod_lt_of_pos (c : Int) (show 0 < wd by omega)
  have d0 := Int.ediv_nonneg (show 0 ≤ (c : Int) by omega) (show 0 ≤ wd by omega)
  have d1 : (c : Int) / wd ≤ (c : Int) := Int.ediv_le_self _ (by omega)
  have l0 : (txw 3).length = 5 := rfl
  have z1 := decI_len ((c : Int) % wd)
  have z2 := decI_len ((c : Int) / wd)
  have z3 := decI_len (1 + mst (u >>> (zo 2 &&& 31)) 60)
  have z4 := decI_len (mst (u >>> (zo 1 &&& 31)) 100)
  have hld := b.ld (i := c) hc (by omega)
  obtain ⟨T0', b0, e0⟩ := b.wr (i := c) hc (by omega)
  obtain ⟨T1, b1, e1⟩ := b0.tt (d := d) tx_33 (by exact plain_w (by decide)) (by simp only [List.length_append, List.length_cons, List.length_nil]; omega)
  obtain ⟨T2, b2, e2⟩ := b1.nn (d := d) (x := (c : Int) % wd) (by omega) (by omega) (by simp only [List.length_append, List.length_cons, List.length_nil]; omega)
  obtain ⟨T3, b3, e3⟩ := b2.cc (d := d) (c := 32) (by decide) (by decide) (by simp only [List.length_append, List.length_cons, List.length_nil]; omega)
  obtain ⟨T4, b4, e4⟩ := b3.nn (d := d) (x := (c : Int) / wd) (by omega) (by omega) (by simp only [List.length_append, List.length_cons, List.length_nil]; omega)
  obtain ⟨T5, b5, e5⟩ := b4.cc (d := d) (c := 32) (by decide) (by decide) (by simp only [List.length_append, List.length_cons, List.length_nil]; omega)
  obtain ⟨T6, b6, e6⟩ := b5.nn (d := d) (x := 1 + mst (u >>> (zo 2 &&& 31)) 60) (by omega) (by omega) (by simp only [List.length_append, List.length_cons, List.length_nil]; omega)
  obtain ⟨T7, b7, e7⟩ := b6.cc (d := d) (c := 32) (by decide) (by decide) (by simp only [List.length_append, List.length_cons, List.length_nil]; omega)
  obtain ⟨T8, b8, e8⟩ := b7.nn (d := d) (x := mst (u >>> (zo 1 &&& 31)) 100) (by omega) (by omega) (by simp only [List.length_append, List.length_cons, List.length_nil]; omega)
  obtain ⟨T9, b9, e9⟩ := b8.cc (d := d) (c := 59) (by decide) (by decide) (by simp only [List.length_append, List.length_cons, List.length_nil]; omega)
  refine ⟨T9, ?_, ?_⟩
  · rw [decI_nn (by omega), decI_nn (by omega), decI_nn (by omega), decI_nn (by omega)] at b9
    unfold clD
    simp only [List.append_assoc, List.cons_append, List.nil_append] at b9 ⊢
    exact b9
  · rw [qy39, qe_39_238_5iiii88iiiiiooo__370, hld, iq_p' hx, e0, ie_n (by omega) (by omega) (by omega), e1, qe_39_285_5iiii88iiiiiooo_8_355, iq_n (by omega) (by omega) (by omega) (by omega) (by omega), zo_mod (by omega) (by omega) (by omega) (by omega), e2, qe_39_292_5iiii88iiiiiooo_8_351, e3, qe_39_297_5iiii88iiiiiooo_8_349, iq_n (by omega) (by omega) (by omega) (by omega) (by omega), zo_div (by omega) (by omega) (by omega) (by omega), e4, qe_39_304_5iiii88iiiiiooo_8_345, e5, qe_39_309_5iiii88iiiiiooo_8_343, ie_n (by omega) (by omega) (by omega), px_34 (by omega) (by omega), qe_39_329_5iiii88iiiiiooo_ii8_332, zo_add, e6, qe_39_333_5iiii88iiiiiooo_8_330, e7, qe_39_338_5iiii88iiiiiooo_8_328, px_34 (by omega) (by omega), qe_39_350_5iiii88iiiiiooo_i8_321, e8, qe_39_353_5iiii88iiiiiooo_8_320, e9, qe_39_358_5iiii88iiiiiooo_8_318, zo_add]
theorem dr_T (b : BB T0 T kb W A (some (q, .inr (.inl (6, xs))))) (hw : 3 ≤ wd ∧ wd ≤ 6) (hh : 3 ≤ hg ∧ hg ≤ 6) (hN : 0 < wd * hg ∧ wd * hg ≤ 36) (hx : xs.getD c 0 = zo 0) (hc : c < xs.length) (hl : xs.length ≤ 100) (hcN : (c : Int) < wd * hg) (hW : W.length ≤ 900) (hk : dr ≤ (k : Int)) (hd : 0 ≤ dr) (hk2 : k ≤ 10) : ∃ T', BB T0 T' kb (W ++ clT ((c : Int) % wd) ((c : Int) / wd) (mst (u >>> (zo 1 &&& 31)) 100)) (A + 9) (some (q, .inr (.inl (6, xs.set c 1)))) ∧ qy (d + 11) 39 (f + 1) 238 [some (za 5 0 0), some (zi (zo 0)), some (zi v), some (zi (zo wd)), some (zi (zo hg)), some (za 8 kb 0), some (za 8 q 0), some (zi (zo dr)), some (zi (zo tp)), some (zi (zo (k : Int))), some (zi u), some (zi (zo (c : Int))), none, none, none] [] T = qy (d + 11) 39 f 203 [some (za 5 0 0), some (zi (zo 0)), some (zi v), some (zi (zo wd)), some (zi (zo hg)), some (za 8 kb 0), some (za 8 q 0), some (zi (zo dr)), some (zi (zo tp)), some (zi (zo ((k : Int) + 1))), none, none, none, none, none] [] T' := by
  have r2 := mst_r (v := u >>> (zo 1 &&& 31)) (m := 100) (by omega)
  have m0 := Int.emod_nonneg (c : Int) (show wd ≠ 0 by omega)
  have m1 := Int.emod_lt_of_pos (c : Int) (show 0 < wd by omega)
  have d0 := Int.ediv_nonneg (show 0 ≤ (c : Int) by omega) (show 0 ≤ wd by omega)
  have d1 : (c : Int) / wd ≤ (c : Int) := Int.ediv_le_self _ (by omega)
  have l0 : (txw 20).length = 3 := rfl
  have z1 := decI_len ((c : Int) % wd)
  have z2 := decI_len ((c : Int) / wd)
  have z4 := decI_len (mst (u >>> (zo 1 &&& 31)) 100)
  have hld := b.ld (i := c) hc (by omega)
  obtain ⟨T0', b0, e0⟩ := b.wr (i := c) hc (by omega)
  obtain ⟨T1, b1, e1⟩ := b0.tt (d := d) tx_35 (by exact plain_w (by decide)) (by simp only [List.length_append, List.length_cons, List.length_nil]; omega)
  obtain ⟨T2, b2, e2⟩ := b1.nn (d := d) (x := (c : Int) % wd) (by omega) (by omega) (by simp only [List.length_append, List.length_cons, List.length_nil]; omega)
  obtain ⟨T3, b3, e3⟩ := b2.cc (d := d) (c := 32) (by decide) (by decide) (by simp only [List.length_append, List.length_cons, List.length_nil]; omega)
  obtain ⟨T4, b4, e4⟩ := b3.nn (d := d) (x := (c : Int) / wd) (by omega) (by omega) (by simp only [List.length_append, List.length_cons, List.length_nil]; omega)
  obtain ⟨T5, b5, e5⟩ := b4.cc (d := d) (c := 32) (by decide) (by decide) (by simp only [List.length_append, List.length_cons, List.length_nil]; omega)
  obtain ⟨T6, b6, e6⟩ := b5.nn (d := d) (x := mst (u >>> (zo 1 &&& 31)) 100) (by omega) (by omega) (by simp only [List.length_append, List.length_cons, List.length_nil]; omega)
  obtain ⟨T7, b7, e7⟩ := b6.cc (d := d) (c := 59) (by decide) (by decide) (by simp only [List.length_append, List.length_cons, List.length_nil]; omega)
  refine ⟨T7, ?_, ?_⟩
  · rw [decI_nn (by omega), decI_nn (by omega), decI_nn (by omega)] at b7
    unfold clT
    simp only [List.append_assoc, List.cons_append, List.nil_append] at b7 ⊢
    exact b7.up (by omega)
  · rw [qy39, qe_39_238_5iiii88iiiiiooo__370, hld, iq_p' hx, e0, ie_p (by omega) (by omega) (by omega), e1, qe_39_285_5iiii88iiiiiooo_8_356, iq_n (by omega) (by omega) (by omega) (by omega) (by omega), zo_mod (by omega) (by omega) (by omega) (by omega), e2, qe_39_292_5iiii88iiiiiooo_8_352, e3, qe_39_297_5iiii88iiiiiooo_8_350, iq_n (by omega) (by omega) (by omega) (by omega) (by omega), zo_div (by omega) (by omega) (by omega) (by omega), e4, qe_39_304_5iiii88iiiiiooo_8_346, e5, qe_39_309_5iiii88iiiiiooo_8_344, ie_p (by omega) (by omega) (by omega), px_34 (by omega) (by omega), qe_39_350_5iiii88iiiiiooo_i8_334, e6, qe_39_353_5iiii88iiiiiooo_8_333, e7, qe_39_358_5iiii88iiiiiooo_8_331, zo_add]
theorem dr_B00 (b : BB T0 T kb W A (some (q, .inr (.inl (6, xs))))) (hw : 3 ≤ wd ∧ wd ≤ 6) (hh : 3 ≤ hg ∧ hg ≤ 6) (hN : 0 < wd * hg ∧ wd * hg ≤ 36) (hx : xs.getD c 0 = zo 0) (hc : c < xs.length) (hl : xs.length ≤ 100) (hcN : (c : Int) < wd * hg) (hW : W.length ≤ 900) (hway : mst (u >>> (zo 2 &&& 31)) 2 = 0) (h3 : ¬ mst (u >>> (zo 5 &&& 31)) 3 = 0) : ∃ T', BB T0 T' kb (W ++ clB ((c : Int) % wd) ((c : Int) / wd) (1 + mst (u >>> (zo 1 &&& 31)) 80) (1 + mst (u >>> (zo 3 &&& 31)) 20) none) (A + 11) (some (q, .inr (.inl (6, xs.set c 1)))) ∧ qy (d + 11) 39 (f + 1) 420 [some (za 5 0 0), some (zi (zo 0)), some (zi v), some (zi (zo wd)), some (zi (zo hg)), some (za 8 kb 0), none, none, none, some (za 8 q 0), some (zi (zo bo)), some (zi (zo (k : Int))), some (zi u), some (zi (zo (c : Int))), none] [] T = qy (d + 11) 39 f 388 [some (za 5 0 0), some (zi (zo 0)), some (zi v), some (zi (zo wd)), some (zi (zo hg)), some (za 8 kb 0), none, none, none, some (za 8 q 0), some (zi (zo bo)), some (zi (zo ((k : Int) + 1))), none, none, none] [] T' := by
  have r1 := mst_r (v := u >>> (zo 1 &&& 31)) (m := 80) (by omega)
  have r2 := mst_r (v := u >>> (zo 3 &&& 31)) (m := 20) (by omega)
  have r3 := mst_r (v := u >>> (zo 4 &&& 31)) (m := 1 + mst (u >>> (zo 3 &&& 31)) 20 + 1) (by omega)
  have r4 := mst_r (v := u >>> (zo 2 &&& 31)) (m := 2) (by omega)
  have r5 := mst_r (v := u >>> (zo 5 &&& 31)) (m := 3) (by omega)
  have m0 := Int.emod_nonneg (c : Int) (show wd ≠ 0 by omega)
  have m1 := Int.emod_lt_of_pos (c : Int) (show 0 < wd by omega)
  have d0 := Int.ediv_nonneg (show 0 ≤ (c : Int) by omega) (show 0 ≤ wd by omega)
  have d1 : (c : Int) / wd ≤ (c : Int) := Int.ediv_le_self _ (by omega)
  have l0 : (txw 2).length = 4 ∧ (txw 23).length = 3 := ⟨rfl, rfl⟩
  have z1 := decI_len ((c : Int) % wd)
  have z2 := decI_len ((c : Int) / wd)
  have z3 := decI_len (1 + mst (u >>> (zo 1 &&& 31)) 80)
  have z4 := decI_len (1 + mst (u >>> (zo 3 &&& 31)) 20)
  have z5 := decI_len (mst (u >>> (zo 4 &&& 31)) (1 + mst (u >>> (zo 3 &&& 31)) 20 + 1))
  have hld := b.ld (i := c) hc (by omega)
  obtain ⟨T0', b0, e0⟩ := b.wr (i := c) hc (by omega)
  obtain ⟨T1, b1, e1⟩ := b0.tt (d := d) tx_32 (by exact plain_w (by decide)) (by simp only [List.length_append, List.length_cons, List.length_nil]; omega)
  obtain ⟨T2, b2, e2⟩ := b1.nn (d := d) (x := (c : Int) % wd) (by omega) (by omega) (by simp only [List.length_append, List.length_cons, List.length_nil]; omega)
  obtain ⟨T3, b3, e3⟩ := b2.cc (d := d) (c := 32) (by decide) (by decide) (by simp only [List.length_append, List.length_cons, List.length_nil]; omega)
  obtain ⟨T4, b4, e4⟩ := b3.nn (d := d) (x := (c : Int) / wd) (by omega) (by omega) (by simp only [List.length_append, List.length_cons, List.length_nil]; omega)
  obtain ⟨T5, b5, e5⟩ := b4.cc (d := d) (c := 32) (by decide) (by decide) (by simp only [List.length_append, List.length_cons, List.length_nil]; omega)
  obtain ⟨T6, b6, e6⟩ := b5.nn (d := d) (x := 1 + mst (u >>> (zo 1 &&& 31)) 80) (by omega) (by omega) (by simp only [List.length_append, List.length_cons, List.length_nil]; omega)
  obtain ⟨T7, b7, e7⟩ := b6.cc (d := d) (c := 32) (by decide) (by decide) (by simp only [List.length_append, List.length_cons, List.length_nil]; omega)
  obtain ⟨T8, b8, e8⟩ := b7.nn (d := d) (x := 1 + mst (u >>> (zo 3 &&& 31)) 20) (by omega) (by omega) (by simp only [List.length_append, List.length_cons, List.length_nil]; omega)
  obtain ⟨T9, b9, e9⟩ := b8.cc (d := d) (c := 59) (by decide) (by decide) (by simp only [List.length_append, List.length_cons, List.length_nil]; omega)
  refine ⟨T9, ?_, ?_⟩
  · rw [decI_nn (by omega), decI_nn (by omega), decI_nn (by omega), decI_nn (by omega)] at b9
    unfold clB wtL
    simp only [List.append_assoc, List.cons_append, List.nil_append] at b9 ⊢
    exact b9.up (by omega)
  · rw [qy39, qe_39_420_5iiii8ooo8iiiio__370, hld, iq_p' hx, e0, px_34 (by omega) (by omega), qe_39_461_5iiii8ooo8iiiio_iii_353, iq_p hway, px_34 (by omega) (by omega), qe_39_475_5iiii8ooo8iiiio_ii_349, zo_add, e1, qe_39_485_5iiii8ooo8iiiii_8_344, iq_n (by omega) (by omega) (by omega) (by omega) (by omega), zo_mod (by omega) (by omega) (by omega) (by omega), e2, qe_39_492_5iiii8ooo8iiiii_8_340, e3, qe_39_497_5iiii8ooo8iiiii_8_338, iq_n (by omega) (by omega) (by omega) (by omega) (by omega), zo_div (by omega) (by omega) (by omega) (by omega), e4, qe_39_504_5iiii8ooo8iiiii_8_334, e5, qe_39_509_5iiii8ooo8iiiii_8_332, px_34 (by omega) (by omega), qe_39_519_5iiii8ooo8iiiii_ii8_326, zo_add, e6, qe_39_523_5iiii8ooo8iiiii_8_324, e7, qe_39_528_5iiii8ooo8iiiii_8_322, e8, qe_39_533_5iiii8ooo8iiiii_8_320, px_34 (by omega) (by omega), qe_39_542_5iiii8ooo8iiiii_i_314, iq_n (by omega) (by omega) (by omega) (by omega) (by omega), e9, qe_39_574_5iiii8ooo8iiiii_8_310, zo_add]
theorem dr_B01 (b : BB T0 T kb W A (some (q, .inr (.inl (6, xs))))) (hw : 3 ≤ wd ∧ wd ≤ 6) (hh : 3 ≤ hg ∧ hg ≤ 6) (hN : 0 < wd * hg ∧ wd * hg ≤ 36) (hx : xs.getD c 0 = zo 0) (hc : c < xs.length) (hl : xs.length ≤ 100) (hcN : (c : Int) < wd * hg) (hW : W.length ≤ 900) (hway : mst (u >>> (zo 2 &&& 31)) 2 = 0) (h3 : mst (u >>> (zo 5 &&& 31)) 3 = 0) : ∃ T', BB T0 T' kb (W ++ clB ((c : Int) % wd) ((c : Int) / wd) (1 + mst (u >>> (zo 1 &&& 31)) 80) (1 + mst (u >>> (zo 3 &&& 31)) 20) (some (mst (u >>> (zo 4 &&& 31)) (1 + mst (u >>> (zo 3 &&& 31)) 20 + 1)))) (A + 11) (some (q, .inr (.inl (6, xs.set c 1)))) ∧ qy (d + 11) 39 (f + 1) 420 [some (za 5 0 0), some (zi (zo 0)), some (zi v), some (zi (zo wd)), some (zi (zo hg)), some (za 8 kb 0), none, none, none, some (za 8 q 0), some (zi (zo bo)), some (zi (zo (k : Int))), some (zi u), some (zi (zo (c : Int))), none] [] T = qy (d + 11) 39 f 388 [some (za 5 0 0), some (zi (zo 0)), some (zi v), some (zi (zo wd)), some (zi (zo hg)), some (za 8 kb 0), none, none, none, some (za 8 q 0), some (zi (zo bo)), some (zi (zo ((k : Int) + 1))), none, none, none] [] T' := by
  have r1 := mst_r (v := u >>> (zo 1 &&& 31)) (m := 80) (by omega)
  have r2 := mst_r (v := u >>> (zo 3 &&& 31)) (m := 20) (by omega)
  have r3 := mst_r (v := u >>> (zo 4 &&& 31)) (m := 1 + mst (u >>> (zo 3 &&& 31)) 20 + 1) (by omega)
  have r4 := mst_r (v := u >>> (zo 2 &&& 31)) (m := 2) (by omega)
  have r5 := mst_r (v := u >>> (zo 5 &&& 31)) (m := 3) (by omega)
  have m0 := Int.emod_nonneg (c : Int) (show wd ≠ 0 by omega)
  have m1 := Int.emod_lt_of_pos (c : Int) (show 0 < wd by omega)
  have d0 := Int.ediv_nonneg (show 0 ≤ (c : Int) by omega) (show 0 ≤ wd by omega)
  have d1 : (c : Int) / wd ≤ (c : Int) := Int.ediv_le_self _ (by omega)
  have l0 : (txw 2).length = 4 ∧ (txw 23).length = 3 := ⟨rfl, rfl⟩
  have z1 := decI_len ((c : Int) % wd)
  have z2 := decI_len ((c : Int) / wd)
  have z3 := decI_len (1 + mst (u >>> (zo 1 &&& 31)) 80)
  have z4 := decI_len (1 + mst (u >>> (zo 3 &&& 31)) 20)
  have z5 := decI_len (mst (u >>> (zo 4 &&& 31)) (1 + mst (u >>> (zo 3 &&& 31)) 20 + 1))
  have hld := b.ld (i := c) hc (by omega)
  obtain ⟨T0', b0, e0⟩ := b.wr (i := c) hc (by omega)
  obtain ⟨T1, b1, e1⟩ := b0.tt (d := d) tx_32 (by exact plain_w (by decide)) (by simp only [List.length_append, List.length_cons, List.length_nil]; omega)
  obtain ⟨T2, b2, e2⟩ := b1.nn (d := d) (x := (c : Int) % wd) (by omega) (by omega) (by simp only [List.length_append, List.length_cons, List.length_nil]; omega)
  obtain ⟨T3, b3, e3⟩ := b2.cc (d := d) (c := 32) (by decide) (by decide) (by simp only [List.length_append, List.length_cons, List.length_nil]; omega)
  obtain ⟨T4, b4, e4⟩ := b3.nn (d := d) (x := (c : Int) / wd) (by omega) (by omega) (by simp only [List.length_append, List.length_cons, List.length_nil]; omega)
  obtain ⟨T5, b5, e5⟩ := b4.cc (d := d) (c := 32) (by decide) (by decide) (by simp only [List.length_append, List.length_cons, List.length_nil]; omega)
  obtain ⟨T6, b6, e6⟩ := b5.nn (d := d) (x := 1 + mst (u >>> (zo 1 &&& 31)) 80) (by omega) (by omega) (by simp only [List.length_append, List.length_cons, List.length_nil]; omega)
  obtain ⟨T7, b7, e7⟩ := b6.cc (d := d) (c := 32) (by decide) (by decide) (by simp only [List.length_append, List.length_cons, List.length_nil]; omega)
  obtain ⟨T8, b8, e8⟩ := b7.nn (d := d) (x := 1 + mst (u >>> (zo 3 &&& 31)) 20) (by omega) (by omega) (by simp only [List.length_append, List.length_cons, List.length_nil]; omega)
  obtain ⟨T9, b9, e9⟩ := b8.tt (d := d) tx_29 (by exact plain_w (by decide)) (by simp only [List.length_append, List.length_cons, List.length_nil]; omega)
  obtain ⟨T10, b10, e10⟩ := b9.nn (d := d) (x := mst (u >>> (zo 4 &&& 31)) (1 + mst (u >>> (zo 3 &&& 31)) 20 + 1)) (by omega) (by omega) (by simp only [List.length_append, List.length_cons, List.length_nil]; omega)
  obtain ⟨T11, b11, e11⟩ := b10.cc (d := d) (c := 59) (by decide) (by decide) (by simp only [List.length_append, List.length_cons, List.length_nil]; omega)
  refine ⟨T11, ?_, ?_⟩
  · rw [decI_nn (by omega), decI_nn (by omega), decI_nn (by omega), decI_nn (by omega), decI_nn (by omega)] at b11
    unfold clB wtL
    simp only [List.append_assoc, List.cons_append, List.nil_append] at b11 ⊢
    exact b11.up (by omega)
  · rw [qy39, qe_39_420_5iiii8ooo8iiiio__370, hld, iq_p' hx, e0, px_34 (by omega) (by omega), qe_39_461_5iiii8ooo8iiiio_iii_353, iq_p hway, px_34 (by omega) (by omega), qe_39_475_5iiii8ooo8iiiio_ii_349, zo_add, e1, qe_39_485_5iiii8ooo8iiiii_8_344, iq_n (by omega) (by omega) (by omega) (by omega) (by omega), zo_mod (by omega) (by omega) (by omega) (by omega), e2, qe_39_492_5iiii8ooo8iiiii_8_340, e3, qe_39_497_5iiii8ooo8iiiii_8_338, iq_n (by omega) (by omega) (by omega) (by omega) (by omega), zo_div (by omega) (by omega) (by omega) (by omega), e4, qe_39_504_5iiii8ooo8iiiii_8_334, e5, qe_39_509_5iiii8ooo8iiiii_8_332, px_34 (by omega) (by omega), qe_39_519_5iiii8ooo8iiiii_ii8_326, zo_add, e6, qe_39_523_5iiii8ooo8iiiii_8_324, e7, qe_39_528_5iiii8ooo8iiiii_8_322, e8, qe_39_533_5iiii8ooo8iiiii_8_320, px_34 (by omega) (by omega), qe_39_542_5iiii8ooo8iiiii_i_314, iq_p h3, e9, qe_39_552_5iiii8ooo8iiiii_8_310, zo_add, px_34 (by omega) (by omega), qe_39_563_5iiii8ooo8iiiii_i8_303, e10, qe_39_566_5iiii8ooo8iiiii_8_302, e11, qe_39_574_5iiii8ooo8iiiii_8_298, zo_add]
theorem dr_B10 (b : BB T0 T kb W A (some (q, .inr (.inl (6, xs))))) (hw : 3 ≤ wd ∧ wd ≤ 6) (hh : 3 ≤ hg ∧ hg ≤ 6) (hN : 0 < wd * hg ∧ wd * hg ≤ 36) (hx : xs.getD c 0 = zo 0) (hc : c < xs.length) (hl : xs.length ≤ 100) (hcN : (c : Int) < wd * hg) (hW : W.length ≤ 900) (hway : ¬ mst (u >>> (zo 2 &&& 31)) 2 = 0) (h3 : ¬ mst (u >>> (zo 5 &&& 31)) 3 = 0) : ∃ T', BB T0 T' kb (W ++ clB ((c : Int) % wd) ((c : Int) / wd) (1 + mst (u >>> (zo 1 &&& 31)) 80) (1 + mst (u >>> (zo 3 &&& 31)) 300) none) (A + 11) (some (q, .inr (.inl (6, xs.set c 1)))) ∧ qy (d + 11) 39 (f + 1) 420 [some (za 5 0 0), some (zi (zo 0)), some (zi v), some (zi (zo wd)), some (zi (zo hg)), some (za 8 kb 0), none, none, none, some (za 8 q 0), some (zi (zo bo)), some (zi (zo (k : Int))), some (zi u), some (zi (zo (c : Int))), none] [] T = qy (d + 11) 39 f 388 [some (za 5 0 0), some (zi (zo 0)), some (zi v), some (zi (zo wd)), some (zi (zo hg)), some (za 8 kb 0), none, none, none, some (za 8 q 0), some (zi (zo bo)), some (zi (zo ((k : Int) + 1))), none, none, none] [] T' := by
  have r1 := mst_r (v := u >>> (zo 1 &&& 31)) (m := 80) (by omega)
  have r2 := mst_r (v := u >>> (zo 3 &&& 31)) (m := 300) (by omega)
  have r3 := mst_r (v := u >>> (zo 4 &&& 31)) (m := 1 + mst (u >>> (zo 3 &&& 31)) 300 + 1) (by omega)
  have r4 := mst_r (v := u >>> (zo 2 &&& 31)) (m := 2) (by omega)
  have r5 := mst_r (v := u >>> (zo 5 &&& 31)) (m := 3) (by omega)
  have m0 := Int.emod_nonneg (c : Int) (show wd ≠ 0 by omega)
  have m1 := Int.emod_lt_of_pos (c : Int) (show 0 < wd by omega)
  have d0 := Int.ediv_nonneg (show 0 ≤ (c : Int) by omega) (show 0 ≤ wd by omega)
  have d1 : (c : Int) / wd ≤ (c : Int) := Int.ediv_le_self _ (by omega)
  have l0 : (txw 2).length = 4 ∧ (txw 23).length = 3 := ⟨rfl, rfl⟩
  have z1 := decI_len ((c : Int) % wd)
  have z2 := decI_len ((c : Int) / wd)
  have z3 := decI_len (1 + mst (u >>> (zo 1 &&& 31)) 80)
  have z4 := decI_len (1 + mst (u >>> (zo 3 &&& 31)) 300)
  have z5 := decI_len (mst (u >>> (zo 4 &&& 31)) (1 + mst (u >>> (zo 3 &&& 31)) 300 + 1))
  have hld := b.ld (i := c) hc (by omega)
  obtain ⟨T0', b0, e0⟩ := b.wr (i := c) hc (by omega)
  obtain ⟨T1, b1, e1⟩ := b0.tt (d := d) tx_32 (by exact plain_w (by decide)) (by simp only [List.length_append, List.length_cons, List.length_nil]; omega)
  obtain ⟨T2, b2, e2⟩ := b1.nn (d := d) (x := (c : Int) % wd) (by omega) (by omega) (by simp only [List.length_append, List.length_cons, List.length_nil]; omega)
  obtain ⟨T3, b3, e3⟩ := b2.cc (d := d) (c := 32) (by decide) (by decide) (by simp only [List.length_append, List.length_cons, List.length_nil]; omega)
  obtain ⟨T4, b4, e4⟩ := b3.nn (d := d) (x := (c : Int) / wd) (by omega) (by omega) (by simp only [List.length_append, List.length_cons, List.length_nil]; omega)
  obtain ⟨T5, b5, e5⟩ := b4.cc (d := d) (c := 32) (by decide) (by decide) (by simp only [List.length_append, List.length_cons, List.length_nil]; omega)
  obtain ⟨T6, b6, e6⟩ := b5.nn (d := d) (x := 1 + mst (u >>> (zo 1 &&& 31)) 80) (by omega) (by omega) (by simp only [List.length_append, List.length_cons, List.length_nil]; omega)
  obtain ⟨T7, b7, e7⟩ := b6.cc (d := d) (c := 32) (by decide) (by decide) (by simp only [List.length_append, List.length_cons, List.length_nil]; omega)
  obtain ⟨T8, b8, e8⟩ := b7.nn (d := d) (x := 1 + mst (u >>> (zo 3 &&& 31)) 300) (by omega) (by omega) (by simp only [List.length_append, List.length_cons, List.length_nil]; omega)
  obtain ⟨T9, b9, e9⟩ := b8.cc (d := d) (c := 59) (by decide) (by decide) (by simp only [List.length_append, List.length_cons, List.length_nil]; omega)
  refine ⟨T9, ?_, ?_⟩
  · rw [decI_nn (by omega), decI_nn (by omega), decI_nn (by omega), decI_nn (by omega)] at b9
    unfold clB wtL
    simp only [List.append_assoc, List.cons_append, List.nil_append] at b9 ⊢
    exact b9.up (by omega)
  · rw [qy39, qe_39_420_5iiii8ooo8iiiio__370, hld, iq_p' hx, e0, px_34 (by omega) (by omega), qe_39_461_5iiii8ooo8iiiio_iii_353, iq_n (by omega) (by omega) (by omega) (by omega) (by omega), px_34 (by omega) (by omega), qe_39_475_5iiii8ooo8iiiio_ii_350, zo_add, e1, qe_39_485_5iiii8ooo8iiiii_8_345, iq_n (by omega) (by omega) (by omega) (by omega) (by omega), zo_mod (by omega) (by omega) (by omega) (by omega), e2, qe_39_492_5iiii8ooo8iiiii_8_341, e3, qe_39_497_5iiii8ooo8iiiii_8_339, iq_n (by omega) (by omega) (by omega) (by omega) (by omega), zo_div (by omega) (by omega) (by omega) (by omega), e4, qe_39_504_5iiii8ooo8iiiii_8_335, e5, qe_39_509_5iiii8ooo8iiiii_8_333, px_34 (by omega) (by omega), qe_39_519_5iiii8ooo8iiiii_ii8_327, zo_add, e6, qe_39_523_5iiii8ooo8iiiii_8_325, e7, qe_39_528_5iiii8ooo8iiiii_8_323, e8, qe_39_533_5iiii8ooo8iiiii_8_321, px_34 (by omega) (by omega), qe_39_542_5iiii8ooo8iiiii_i_315, iq_n (by omega) (by omega) (by omega) (by omega) (by omega), e9, qe_39_574_5iiii8ooo8iiiii_8_311, zo_add]
theorem dr_B11 (b : BB T0 T kb W A (some (q, .inr (.inl (6, xs))))) (hw : 3 ≤ wd ∧ wd ≤ 6) (hh : 3 ≤ hg ∧ hg ≤ 6) (hN : 0 < wd * hg ∧ wd * hg ≤ 36) (hx : xs.getD c 0 = zo 0) (hc : c < xs.length) (hl : xs.length ≤ 100) (hcN : (c : Int) < wd * hg) (hW : W.length ≤ 900) (hway : ¬ mst (u >>> (zo 2 &&& 31)) 2 = 0) (h3 : mst (u >>> (zo 5 &&& 31)) 3 = 0) : ∃ T', BB T0 T' kb (W ++ clB ((c : Int) % wd) ((c : Int) / wd) (1 + mst (u >>> (zo 1 &&& 31)) 80) (1 + mst (u >>> (zo 3 &&& 31)) 300) (some (mst (u >>> (zo 4 &&& 31)) (1 + mst (u >>> (zo 3 &&& 31)) 300 + 1)))) (A + 11) (some (q, .inr (.inl (6, xs.set c 1)))) ∧ qy (d + 11) 39 (f + 1) 420 [some (za 5 0 0), some (zi (zo 0)), some (zi v), some (zi (zo wd)), some (zi (zo hg)), some (za 8 kb 0), none, none, none, some (za 8 q 0), some (zi (zo bo)), some (zi (zo (k : Int))), some (zi u), some (zi (zo (c : Int))), none] [] T = qy (d + 11) 39 f 388 [some (za 5 0 0), some (zi (zo 0)), some (zi v), some (zi (zo wd)), some (zi (zo hg)), some (za 8 kb 0), none, none, none, some (za 8 q 0), some (zi (zo bo)), some (zi (zo ((k : Int) + 1))), none, none, none] [] T' := by
  have r1 := mst_r (v := u >>> (zo 1 &&& 31)) (m := 80) (by omega)
  have r2 := mst_r (v := u >>> (zo 3 &&& 31)) (m := 300) (by omega)
  have r3 := mst_r (v := u >>> (zo 4 &&& 31)) (m := 1 + mst (u >>> (zo 3 &&& 31)) 300 + 1) (by omega)
  have r4 := mst_r (v := u >>> (zo 2 &&& 31)) (m := 2) (by omega)
  have r5 := mst_r (v := u >>> (zo 5 &&& 31)) (m := 3) (by omega)
  have m0 := Int.emod_nonneg (c : Int) (show wd ≠ 0 by omega)
  have m1 := Int.emod_lt_of_pos (c : Int) (show 0 < wd by omega)
  have d0 := Int.ediv_nonneg (show 0 ≤ (c : Int) by omega) (show 0 ≤ wd by omega)
  have d1 : (c : Int) / wd ≤ (c : Int) := Int.ediv_le_self _ (by omega)
  have l0 : (txw 2).length = 4 ∧ (txw 23).length = 3 := ⟨rfl, rfl⟩
  have z1 := decI_len ((c : Int) % wd)
  have z2 := decI_len ((c : Int) / wd)
  have z3 := decI_len (1 + mst (u >>> (zo 1 &&& 31)) 80)
  have z4 := decI_len (1 + mst (u >>> (zo 3 &&& 31)) 300)
  have z5 := decI_len (mst (u >>> (zo 4 &&& 31)) (1 + mst (u >>> (zo 3 &&& 31)) 300 + 1))
  have hld := b.ld (i := c) hc (by omega)
  obtain ⟨T0', b0, e0⟩ := b.wr (i := c) hc (by omega)
  obtain ⟨T1, b1, e1⟩ := b0.tt (d := d) tx_32 (by exact plain_w (by decide)) (by simp only [List.length_append, List.length_cons, List.length_nil]; omega)
  obtain ⟨T2, b2, e2⟩ := b1.nn (d := d) (x := (c : Int) % wd) (by omega) (by omega) (by simp only [List.length_append, List.length_cons, List.length_nil]; omega)
  obtain ⟨T3, b3, e3⟩ := b2.cc (d := d) (c := 32) (by decide) (by decide) (by simp only [List.length_append, List.length_cons, List.length_nil]; omega)
  obtain ⟨T4, b4, e4⟩ := b3.nn (d := d) (x := (c : Int) / wd) (by omega) (by omega) (by simp only [List.length_append, List.length_cons, List.length_nil]; omega)
  obtain ⟨T5, b5, e5⟩ := b4.cc (d := d) (c := 32) (by decide) (by decide) (by simp only [List.length_append, List.length_cons, List.length_nil]; omega)
  obtain ⟨T6, b6, e6⟩ := b5.nn (d := d) (x := 1 + mst (u >>> (zo 1 &&& 31)) 80) (by omega) (by omega) (by simp only [List.length_append, List.length_cons, List.length_nil]; omega)
  obtain ⟨T7, b7, e7⟩ := b6.cc (d := d) (c := 32) (by decide) (by decide) (by simp only [List.length_append, List.length_cons, List.length_nil]; omega)
  obtain ⟨T8, b8, e8⟩ := b7.nn (d := d) (x := 1 + mst (u >>> (zo 3 &&& 31)) 300) (by omega) (by omega) (by simp only [List.length_append, List.length_cons, List.length_nil]; omega)
  obtain ⟨T9, b9, e9⟩ := b8.tt (d := d) tx_29 (by exact plain_w (by decide)) (by simp only [List.length_append, List.length_cons, List.length_nil]; omega)
  obtain ⟨T10, b10, e10⟩ := b9.nn (d := d) (x := mst (u >>> (zo 4 &&& 31)) (1 + mst (u >>> (zo 3 &&& 31)) 300 + 1)) (by omega) (by omega) (by simp only [List.length_append, List.length_cons, List.length_nil]; omega)
  obtain ⟨T11, b11, e11⟩ := b10.cc (d := d) (c := 59) (by decide) (by decide) (by simp only [List.length_append, List.length_cons, List.length_nil]; omega)
  refine ⟨T11, ?_, ?_⟩
  · rw [decI_nn (by omega), decI_nn (by omega), decI_nn (by omega), decI_nn (by omega), decI_nn (by omega)] at b11
    unfold clB wtL
    simp only [List.append_assoc, List.cons_append, List.nil_append] at b11 ⊢
    exact b11.up (by omega)
  · rw [qy39, qe_39_420_5iiii8ooo8iiiio__370, hld, iq_p' hx, e0, px_34 (by omega) (by omega), qe_39_461_5iiii8ooo8iiiio_iii_353, iq_n (by omega) (by omega) (by omega) (by omega) (by omega), px_34 (by omega) (by omega), qe_39_475_5iiii8ooo8iiiio_ii_350, zo_add, e1, qe_39_485_5iiii8ooo8iiiii_8_345, iq_n (by omega) (by omega) (by omega) (by omega) (by omega), zo_mod (by omega) (by omega) (by omega) (by omega), e2, qe_39_492_5iiii8ooo8iiiii_8_341, e3, qe_39_497_5iiii8ooo8iiiii_8_339, iq_n (by omega) (by omega) (by omega) (by omega) (by omega), zo_div (by omega) (by omega) (by omega) (by omega), e4, qe_39_504_5iiii8ooo8iiiii_8_335, e5, qe_39_509_5iiii8ooo8iiiii_8_333, px_34 (by omega) (by omega), qe_39_519_5iiii8ooo8iiiii_ii8_327, zo_add, e6, qe_39_523_5iiii8ooo8iiiii_8_325, e7, qe_39_528_5iiii8ooo8iiiii_8_323, e8, qe_39_533_5iiii8ooo8iiiii_8_321, px_34 (by omega) (by omega), qe_39_542_5iiii8ooo8iiiii_i_315, iq_p h3, e9, qe_39_552_5iiii8ooo8iiiii_8_311, zo_add, px_34 (by omega) (by omega), qe_39_563_5iiii8ooo8iiiii_i8_304, e10, qe_39_566_5iiii8ooo8iiiii_8_303, e11, qe_39_574_5iiii8ooo8iiiii_8_299, zo_add]
end DB2

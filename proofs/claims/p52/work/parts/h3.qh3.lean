/-! THE LAW'S PURE SIDE 49: a bath is drawn: the head; a clause of soap (tools/gendh.py) -/
def pL (lv : Option Int) : List Int := match lv with
  | none => []
  | some v => 32 :: (txw 6 ++ 32 :: numI v)
def pP (pu : Option Int) : List Int := match pu with
  | none => []
  | some v => 32 :: (txw 16 ++ 32 :: numI v)
theorem hLa_p (w h : Int) (lv pu : Option Int) (wi : Option (Int × Int)) : hLa w h lv pu wi = (txw 1 ++ 32 :: (numI w ++ 32 :: numI h)) ++ pL lv ++ pP pu ++ hLd wi := by
  cases lv with
  | none =>
    cases pu with
    | none =>
      unfold hLa pL pP
      simp only [List.append_assoc, List.cons_append, List.nil_append, List.append_nil]
      rfl
    | some v =>
      unfold hLa pL pP
      simp only [List.append_assoc, List.cons_append, List.nil_append, List.append_nil]
      rfl
  | some z =>
    cases pu with
    | none =>
      unfold hLa hLb pL pP
      simp only [List.append_assoc, List.cons_append, List.nil_append, List.append_nil]
      rfl
    | some v =>
      unfold hLa hLb pL pP
      simp only [List.append_assoc, List.cons_append, List.nil_append, List.append_nil]
      rfl
section DH2
variable {T0 T : qS} {kb A q d n f c k L : Nat} {W : List Int} {xs : List Int32} {wd hg dr tp bo x : Int} {v u : Int32}
theorem hd57 (b : BB T0 T kb W A none) (hW : W.length ≤ 100) : ∃ (lv : Option Int) (T' : qS), BB T0 T' kb (W ++ pL lv) (A + 2) none ∧ (pL lv).length ≤ 12 ∧ (∀ z, lv = some z → 0 ≤ z ∧ z ≤ 1000) ∧ (qz (d + 11) 39 n 336 57 [some (za 5 0 0), some (zi (zo 0)), some (zi v), some (zi (zo wd)), some (zi (zo hg)), some (za 8 kb 0), none, none, none, none, none, none, none, none, none] [zi (zo (mst (v >>> (zo 5 &&& 31)) 2))] T = qz (d + 11) 39 n 330 88 [some (za 5 0 0), some (zi (zo 0)), some (zi v), some (zi (zo wd)), some (zi (zo hg)), some (za 8 kb 0), none, none, none, none, none, none, none, none, none] [zi (zo (mst (v >>> (zo 4 &&& 31)) 2))] T' ∨ qz (d + 11) 39 n 336 57 [some (za 5 0 0), some (zi (zo 0)), some (zi v), some (zi (zo wd)), some (zi (zo hg)), some (za 8 kb 0), none, none, none, none, none, none, none, none, none] [zi (zo (mst (v >>> (zo 5 &&& 31)) 2))] T = qz (d + 11) 39 n 320 88 [some (za 5 0 0), some (zi (zo 0)), some (zi v), some (zi (zo wd)), some (zi (zo hg)), some (za 8 kb 0), none, none, none, none, none, none, none, none, none] [zi (zo (mst (v >>> (zo 4 &&& 31)) 2))] T') := by
  have r0 := mst_r (v := v >>> (zo 5 &&& 31)) (m := 2) (by omega)
  have r1 := mst_r (v := v >>> (zo 6 &&& 31)) (m := 1001) (by omega)
  have l0 : (txw 6).length = 5 := rfl
  by_cases h : mst (v >>> (zo 5 &&& 31)) 2 = 0
  · have z1 := numI_len (mst (v >>> (zo 6 &&& 31)) 1001)
    obtain ⟨T1, b1, e1⟩ := b.tt (d := d) tx_27 (by exact plain_w (by decide)) (by simp only [List.length_append, List.length_cons, List.length_nil]; omega)
    obtain ⟨T2, b2, e2⟩ := b1.nn (d := d) (x := mst (v >>> (zo 6 &&& 31)) 1001) (by omega) (by omega) (by simp only [List.length_append, List.length_cons, List.length_nil]; omega)
    rw [decI_nn (by omega)] at b2
    refine ⟨some (mst (v >>> (zo 6 &&& 31)) 1001), T2, ?_, ?_, fun z e => ?_, Or.inr ?_⟩
    · unfold pL
      simp only [List.append_assoc, List.cons_append, List.nil_append] at b2 ⊢
      exact b2
    · unfold pL
      simp only [List.length_append, List.length_cons, List.length_nil]
      omega
    · have := Option.some.inj e
      omega
    · rw [qe_39_57_5iiii8ooooooooo_i_336, iq_p h, e1, qe_39_67_5iiii8ooooooooo_8_332, px_34 (by omega) (by omega), qe_39_77_5iiii8ooooooooo_i8_327, e2, qe_39_80_5iiii8ooooooooo_8_326, px_34 (by omega) (by omega)]
  · refine ⟨none, T, ?_, by show 0 ≤ 12; omega, (fun z e => nomatch e), Or.inl ?_⟩
    · unfold pL
      rw [List.append_nil]
      exact b.up (by omega)
    · rw [qe_39_57_5iiii8ooooooooo_i_336, iq_n (by omega) (by omega) (by omega) (by omega) (by omega), px_34 (by omega) (by omega)]
theorem hd88_330 (b : BB T0 T kb W A none) (hW : W.length ≤ 120) : ∃ (pu : Option Int) (T' : qS), BB T0 T' kb (W ++ pP pu) (A + 2) none ∧ (pP pu).length ≤ 12 ∧ (∀ z, pu = some z → 0 ≤ z ∧ z ≤ 9) ∧ (qz (d + 11) 39 n 330 88 [some (za 5 0 0), some (zi (zo 0)), some (zi v), some (zi (zo wd)), some (zi (zo hg)), some (za 8 kb 0), none, none, none, none, none, none, none, none, none] [zi (zo (mst (v >>> (zo 4 &&& 31)) 2))] T = qz (d + 11) 39 n 324 118 [some (za 5 0 0), some (zi (zo 0)), some (zi v), some (zi (zo wd)), some (zi (zo hg)), some (za 8 kb 0), none, none, none, none, none, none, none, none, none] [zi (zo (mst (v >>> (zo 2 &&& 31)) 3))] T' ∨ qz (d + 11) 39 n 330 88 [some (za 5 0 0), some (zi (zo 0)), some (zi v), some (zi (zo wd)), some (zi (zo hg)), some (za 8 kb 0), none, none, none, none, none, none, none, none, none] [zi (zo (mst (v >>> (zo 4 &&& 31)) 2))] T = qz (d + 11) 39 n 314 118 [some (za 5 0 0), some (zi (zo 0)), some (zi v), some (zi (zo wd)), some (zi (zo hg)), some (za 8 kb 0), none, none, none, none, none, none, none, none, none] [zi (zo (mst (v >>> (zo 2 &&& 31)) 3))] T') := by
  have r0 := mst_r (v := v >>> (zo 4 &&& 31)) (m := 2) (by omega)
  have r1 := mst_r (v := v >>> (zo 7 &&& 31)) (m := 10) (by omega)
  have l0 : (txw 16).length = 4 := rfl
  by_cases h : mst (v >>> (zo 4 &&& 31)) 2 = 0
  · have z1 := numI_len (mst (v >>> (zo 7 &&& 31)) 10)
    obtain ⟨T1, b1, e1⟩ := b.tt (d := d) tx_28 (by exact plain_w (by decide)) (by simp only [List.length_append, List.length_cons, List.length_nil]; omega)
    obtain ⟨T2, b2, e2⟩ := b1.nn (d := d) (x := mst (v >>> (zo 7 &&& 31)) 10) (by omega) (by omega) (by simp only [List.length_append, List.length_cons, List.length_nil]; omega)
    rw [decI_nn (by omega)] at b2
    refine ⟨some (mst (v >>> (zo 7 &&& 31)) 10), T2, ?_, ?_, fun z e => ?_, Or.inr ?_⟩
    · unfold pP
      simp only [List.append_assoc, List.cons_append, List.nil_append] at b2 ⊢
      exact b2
    · unfold pP
      simp only [List.length_append, List.length_cons, List.length_nil]
      omega
    · have := Option.some.inj e
      omega
    · rw [qe_39_88_5iiii8ooooooooo_i_330, iq_p h, e1, qe_39_98_5iiii8ooooooooo_8_326, px_34 (by omega) (by omega), qe_39_107_5iiii8ooooooooo_i8_321, e2, qe_39_110_5iiii8ooooooooo_8_320, px_34 (by omega) (by omega)]
  · refine ⟨none, T, ?_, by show 0 ≤ 12; omega, (fun z e => nomatch e), Or.inl ?_⟩
    · unfold pP
      rw [List.append_nil]
      exact b.up (by omega)
    · rw [qe_39_88_5iiii8ooooooooo_i_330, iq_n (by omega) (by omega) (by omega) (by omega) (by omega), px_34 (by omega) (by omega)]
theorem hd88_320 (b : BB T0 T kb W A none) (hW : W.length ≤ 120) : ∃ (pu : Option Int) (T' : qS), BB T0 T' kb (W ++ pP pu) (A + 2) none ∧ (pP pu).length ≤ 12 ∧ (∀ z, pu = some z → 0 ≤ z ∧ z ≤ 9) ∧ (qz (d + 11) 39 n 320 88 [some (za 5 0 0), some (zi (zo 0)), some (zi v), some (zi (zo wd)), some (zi (zo hg)), some (za 8 kb 0), none, none, none, none, none, none, none, none, none] [zi (zo (mst (v >>> (zo 4 &&& 31)) 2))] T = qz (d + 11) 39 n 314 118 [some (za 5 0 0), some (zi (zo 0)), some (zi v), some (zi (zo wd)), some (zi (zo hg)), some (za 8 kb 0), none, none, none, none, none, none, none, none, none] [zi (zo (mst (v >>> (zo 2 &&& 31)) 3))] T' ∨ qz (d + 11) 39 n 320 88 [some (za 5 0 0), some (zi (zo 0)), some (zi v), some (zi (zo wd)), some (zi (zo hg)), some (za 8 kb 0), none, none, none, none, none, none, none, none, none] [zi (zo (mst (v >>> (zo 4 &&& 31)) 2))] T = qz (d + 11) 39 n 304 118 [some (za 5 0 0), some (zi (zo 0)), some (zi v), some (zi (zo wd)), some (zi (zo hg)), some (za 8 kb 0), none, none, none, none, none, none, none, none, none] [zi (zo (mst (v >>> (zo 2 &&& 31)) 3))] T') := by
  have r0 := mst_r (v := v >>> (zo 4 &&& 31)) (m := 2) (by omega)
  have r1 := mst_r (v := v >>> (zo 7 &&& 31)) (m := 10) (by omega)
  have l0 : (txw 16).length = 4 := rfl
  by_cases h : mst (v >>> (zo 4 &&& 31)) 2 = 0
  · have z1 := numI_len (mst (v >>> (zo 7 &&& 31)) 10)
    obtain ⟨T1, b1, e1⟩ := b.tt (d := d) tx_28 (by exact plain_w (by decide)) (by simp only [List.length_append, List.length_cons, List.length_nil]; omega)
    obtain ⟨T2, b2, e2⟩ := b1.nn (d := d) (x := mst (v >>> (zo 7 &&& 31)) 10) (by omega) (by omega) (by simp only [List.length_append, List.length_cons, List.length_nil]; omega)
    rw [decI_nn (by omega)] at b2
    refine ⟨some (mst (v >>> (zo 7 &&& 31)) 10), T2, ?_, ?_, fun z e => ?_, Or.inr ?_⟩
    · unfold pP
      simp only [List.append_assoc, List.cons_append, List.nil_append] at b2 ⊢
      exact b2
    · unfold pP
      simp only [List.length_append, List.length_cons, List.length_nil]
      omega
    · have := Option.some.inj e
      omega
    · rw [qe_39_88_5iiii8ooooooooo_i_320, iq_p h, e1, qe_39_98_5iiii8ooooooooo_8_316, px_34 (by omega) (by omega), qe_39_107_5iiii8ooooooooo_i8_311, e2, qe_39_110_5iiii8ooooooooo_8_310, px_34 (by omega) (by omega)]
  · refine ⟨none, T, ?_, by show 0 ≤ 12; omega, (fun z e => nomatch e), Or.inl ?_⟩
    · unfold pP
      rw [List.append_nil]
      exact b.up (by omega)
    · rw [qe_39_88_5iiii8ooooooooo_i_320, iq_n (by omega) (by omega) (by omega) (by omega) (by omega), px_34 (by omega) (by omega)]
theorem hd118_324 (b : BB T0 T kb W A none) (hW : W.length ≤ 140) (hN : 0 < wd * hg ∧ wd * hg ≤ 36) : ∃ (wi : Option (Int × Int)) (q : Nat) (T' : qS), BB T0 T' kb (W ++ hLd wi) (A + 6) (some (q, .inr (.inl (6, List.replicate (wd * hg).toNat 0)))) ∧ (hLd wi).length ≤ 20 ∧ (∀ z, wi = some z → (-99 ≤ z.1 ∧ z.1 ≤ 99) ∧ (-99 ≤ z.2 ∧ z.2 ≤ 99)) ∧ qz (d + 11) 39 n 324 118 [some (za 5 0 0), some (zi (zo 0)), some (zi v), some (zi (zo wd)), some (zi (zo hg)), some (za 8 kb 0), none, none, none, none, none, none, none, none, none] [zi (zo (mst (v >>> (zo 2 &&& 31)) 3))] T = qy (d + 11) 39 n 203 [some (za 5 0 0), some (zi (zo 0)), some (zi v), some (zi (zo wd)), some (zi (zo hg)), some (za 8 kb 0), some (za 8 q 0), some (zi (zo (mst (v >>> (zo 10 &&& 31)) 4))), some (zi (zo (mst (v >>> (zo 12 &&& 31)) 3))), some (zi (zo 0)), none, none, none, none, none] [] T' := by
  have r0 := mst_r (v := v >>> (zo 2 &&& 31)) (m := 3) (by omega)
  have r1 := mst_r (v := v >>> (zo 8 &&& 31)) (m := 61) (by omega)
  have r2 := mst_r (v := v >>> (zo 9 &&& 31)) (m := 61) (by omega)
  have l0 : (txw 24).length = 4 := rfl
  have z1 := decI_len (mst (v >>> (zo 8 &&& 31)) 61 - 30)
  have z2 := decI_len (mst (v >>> (zo 9 &&& 31)) 61 - 30)
  by_cases h : mst (v >>> (zo 2 &&& 31)) 3 = 0
  · obtain ⟨T1, b1, e1⟩ := b.tt (d := d) tx_30 (by exact plain_w (by decide)) (by simp only [List.length_append, List.length_cons, List.length_nil]; omega)
    obtain ⟨T2, b2, e2⟩ := b1.nn (d := d) (x := mst (v >>> (zo 8 &&& 31)) 61 - 30) (by omega) (by omega) (by simp only [List.length_append, List.length_cons, List.length_nil]; omega)
    obtain ⟨T3, b3, e3⟩ := b2.cc (d := d) (c := 32) (by decide) (by decide) (by simp only [List.length_append, List.length_cons, List.length_nil]; omega)
    obtain ⟨T4, b4, e4⟩ := b3.nn (d := d) (x := mst (v >>> (zo 9 &&& 31)) 61 - 30) (by omega) (by omega) (by simp only [List.length_append, List.length_cons, List.length_nil]; omega)
    obtain ⟨T5, b5, e5⟩ := b4.cc (d := d) (c := 59) (by decide) (by decide) (by simp only [List.length_append, List.length_cons, List.length_nil]; omega)
    obtain ⟨q, T9, b9, e9⟩ := b5.new (n := wd * hg) (by omega) (by omega)
    refine ⟨some (mst (v >>> (zo 8 &&& 31)) 61 - 30, mst (v >>> (zo 9 &&& 31)) 61 - 30), q, T9, ?_, ?_, fun z e => ?_, ?_⟩
    · unfold hLd
      simp only [List.append_assoc, List.cons_append, List.nil_append] at b9 ⊢
      exact b9
    · unfold hLd
      simp only [List.length_append, List.length_cons, List.length_nil]
      omega
    · have := Option.some.inj e
      subst this
      show (-99 ≤ mst (v >>> (zo 8 &&& 31)) 61 - 30 ∧ mst (v >>> (zo 8 &&& 31)) 61 - 30 ≤ 99) ∧ (-99 ≤ mst (v >>> (zo 9 &&& 31)) 61 - 30 ∧ mst (v >>> (zo 9 &&& 31)) 61 - 30 ≤ 99)
      omega
    · rw [qe_39_118_5iiii8ooooooooo_i_324, iq_p h, e1, qe_39_128_5iiii8ooooooooo_8_320, px_34 (by omega) (by omega), qe_39_137_5iiii8ooooooooo_i8_315, zo_sub, e2, qe_39_143_5iiii8ooooooooo_8_312, e3, qe_39_148_5iiii8ooooooooo_8_310, px_34 (by omega) (by omega), qe_39_157_5iiii8ooooooooo_i8_305, zo_sub, e4, qe_39_163_5iiii8ooooooooo_8_302, e5, qe_39_171_5iiii8ooooooooo_8_298, zo_mul, e9, qe_39_178_5iiii8ooooooooo_8_293, px_34 (by omega) (by omega), qe_39_188_5iiii88oooooooo_i_287, px_34 (by omega) (by omega), qe_39_198_5iiii88iooooooo_i_281]
  · obtain ⟨T1, b1, e1⟩ := b.cc (d := d) (c := 59) (by decide) (by decide) (by omega)
    obtain ⟨q, T9, b9, e9⟩ := b1.new (n := wd * hg) (by omega) (by omega)
    refine ⟨none, q, T9, b9.up (by omega), by show 1 ≤ 20; omega, (fun z e => nomatch e), ?_⟩
    rw [qe_39_118_5iiii8ooooooooo_i_324, iq_n (by omega) (by omega) (by omega) (by omega) (by omega), e1, qe_39_171_5iiii8ooooooooo_8_320, zo_mul, e9, qe_39_178_5iiii8ooooooooo_8_315, px_34 (by omega) (by omega), qe_39_188_5iiii88oooooooo_i_309, px_34 (by omega) (by omega), qe_39_198_5iiii88iooooooo_i_303]
theorem hd118_314 (b : BB T0 T kb W A none) (hW : W.length ≤ 140) (hN : 0 < wd * hg ∧ wd * hg ≤ 36) : ∃ (wi : Option (Int × Int)) (q : Nat) (T' : qS), BB T0 T' kb (W ++ hLd wi) (A + 6) (some (q, .inr (.inl (6, List.replicate (wd * hg).toNat 0)))) ∧ (hLd wi).length ≤ 20 ∧ (∀ z, wi = some z → (-99 ≤ z.1 ∧ z.1 ≤ 99) ∧ (-99 ≤ z.2 ∧ z.2 ≤ 99)) ∧ qz (d + 11) 39 n 314 118 [some (za 5 0 0), some (zi (zo 0)), some (zi v), some (zi (zo wd)), some (zi (zo hg)), some (za 8 kb 0), none, none, none, none, none, none, none, none, none] [zi (zo (mst (v >>> (zo 2 &&& 31)) 3))] T = qy (d + 11) 39 n 203 [some (za 5 0 0), some (zi (zo 0)), some (zi v), some (zi (zo wd)), some (zi (zo hg)), some (za 8 kb 0), some (za 8 q 0), some (zi (zo (mst (v >>> (zo 10 &&& 31)) 4))), some (zi (zo (mst (v >>> (zo 12 &&& 31)) 3))), some (zi (zo 0)), none, none, none, none, none] [] T' := by
  have r0 := mst_r (v := v >>> (zo 2 &&& 31)) (m := 3) (by omega)
  have r1 := mst_r (v := v >>> (zo 8 &&& 31)) (m := 61) (by omega)
  have r2 := mst_r (v := v >>> (zo 9 &&& 31)) (m := 61) (by omega)
  have l0 : (txw 24).length = 4 := rfl
  have z1 := decI_len (mst (v >>> (zo 8 &&& 31)) 61 - 30)
  have z2 := decI_len (mst (v >>> (zo 9 &&& 31)) 61 - 30)
  by_cases h : mst (v >>> (zo 2 &&& 31)) 3 = 0
  · obtain ⟨T1, b1, e1⟩ := b.tt (d := d) tx_30 (by exact plain_w (by decide)) (by simp only [List.length_append, List.length_cons, List.length_nil]; omega)
    obtain ⟨T2, b2, e2⟩ := b1.nn (d := d) (x := mst (v >>> (zo 8 &&& 31)) 61 - 30) (by omega) (by omega) (by simp only [List.length_append, List.length_cons, List.length_nil]; omega)
    obtain ⟨T3, b3, e3⟩ := b2.cc (d := d) (c := 32) (by decide) (by decide) (by simp only [List.length_append, List.length_cons, List.length_nil]; omega)
    obtain ⟨T4, b4, e4⟩ := b3.nn (d := d) (x := mst (v >>> (zo 9 &&& 31)) 61 - 30) (by omega) (by omega) (by simp only [List.length_append, List.length_cons, List.length_nil]; omega)
    obtain ⟨T5, b5, e5⟩ := b4.cc (d := d) (c := 59) (by decide) (by decide) (by simp only [List.length_append, List.length_cons, List.length_nil]; omega)
    obtain ⟨q, T9, b9, e9⟩ := b5.new (n := wd * hg) (by omega) (by omega)
    refine ⟨some (mst (v >>> (zo 8 &&& 31)) 61 - 30, mst (v >>> (zo 9 &&& 31)) 61 - 30), q, T9, ?_, ?_, fun z e => ?_, ?_⟩
    · unfold hLd
      simp only [List.append_assoc, List.cons_append, List.nil_append] at b9 ⊢
      exact b9
    · unfold hLd
      simp only [List.length_append, List.length_cons, List.length_nil]
      omega
    · have := Option.some.inj e
      subst this
      show (-99 ≤ mst (v >>> (zo 8 &&& 31)) 61 - 30 ∧ mst (v >>> (zo 8 &&& 31)) 61 - 30 ≤ 99) ∧ (-99 ≤ mst (v >>> (zo 9 &&& 31)) 61 - 30 ∧ mst (v >>> (zo 9 &&& 31)) 61 - 30 ≤ 99)
      omega
    · rw [qe_39_118_5iiii8ooooooooo_i_314, iq_p h, e1, qe_39_128_5iiii8ooooooooo_8_310, px_34 (by omega) (by omega), qe_39_137_5iiii8ooooooooo_i8_305, zo_sub, e2, qe_39_143_5iiii8ooooooooo_8_302, e3, qe_39_148_5iiii8ooooooooo_8_300, px_34 (by omega) (by omega), qe_39_157_5iiii8ooooooooo_i8_295, zo_sub, e4, qe_39_163_5iiii8ooooooooo_8_292, e5, qe_39_171_5iiii8ooooooooo_8_288, zo_mul, e9, qe_39_178_5iiii8ooooooooo_8_283, px_34 (by omega) (by omega), qe_39_188_5iiii88oooooooo_i_277, px_34 (by omega) (by omega), qe_39_198_5iiii88iooooooo_i_271]
  · obtain ⟨T1, b1, e1⟩ := b.cc (d := d) (c := 59) (by decide) (by decide) (by omega)
    obtain ⟨q, T9, b9, e9⟩ := b1.new (n := wd * hg) (by omega) (by omega)
    refine ⟨none, q, T9, b9.up (by omega), by show 1 ≤ 20; omega, (fun z e => nomatch e), ?_⟩
    rw [qe_39_118_5iiii8ooooooooo_i_314, iq_n (by omega) (by omega) (by omega) (by omega) (by omega), e1, qe_39_171_5iiii8ooooooooo_8_310, zo_mul, e9, qe_39_178_5iiii8ooooooooo_8_305, px_34 (by omega) (by omega), qe_39_188_5iiii88oooooooo_i_299, px_34 (by omega) (by omega), qe_39_198_5iiii88iooooooo_i_293]
theorem hd118_304 (b : BB T0 T kb W A none) (hW : W.length ≤ 140) (hN : 0 < wd * hg ∧ wd * hg ≤ 36) : ∃ (wi : Option (Int × Int)) (q : Nat) (T' : qS), BB T0 T' kb (W ++ hLd wi) (A + 6) (some (q, .inr (.inl (6, List.replicate (wd * hg).toNat 0)))) ∧ (hLd wi).length ≤ 20 ∧ (∀ z, wi = some z → (-99 ≤ z.1 ∧ z.1 ≤ 99) ∧ (-99 ≤ z.2 ∧ z.2 ≤ 99)) ∧ qz (d + 11) 39 n 304 118 [some (za 5 0 0), some (zi (zo 0)), some (zi v), some (zi (zo wd)), some (zi (zo hg)), some (za 8 kb 0), none, none, none, none, none, none, none, none, none] [zi (zo (mst (v >>> (zo 2 &&& 31)) 3))] T = qy (d + 11) 39 n 203 [some (za 5 0 0), some (zi (zo 0)), some (zi v), some (zi (zo wd)), some (zi (zo hg)), some (za 8 kb 0), some (za 8 q 0), some (zi (zo (mst (v >>> (zo 10 &&& 31)) 4))), some (zi (zo (mst (v >>> (zo 12 &&& 31)) 3))), some (zi (zo 0)), none, none, none, none, none] [] T' := by
  have r0 := mst_r (v := v >>> (zo 2 &&& 31)) (m := 3) (by omega)
  have r1 := mst_r (v := v >>> (zo 8 &&& 31)) (m := 61) (by omega)
  have r2 := mst_r (v := v >>> (zo 9 &&& 31)) (m := 61) (by omega)
  have l0 : (txw 24).length = 4 := rfl
  have z1 := decI_len (mst (v >>> (zo 8 &&& 31)) 61 - 30)
  have z2 := decI_len (mst (v >>> (zo 9 &&& 31)) 61 - 30)
  by_cases h : mst (v >>> (zo 2 &&& 31)) 3 = 0
  · obtain ⟨T1, b1, e1⟩ := b.tt (d := d) tx_30 (by exact plain_w (by decide)) (by simp only [List.length_append, List.length_cons, List.length_nil]; omega)
    obtain ⟨T2, b2, e2⟩ := b1.nn (d := d) (x := mst (v >>> (zo 8 &&& 31)) 61 - 30) (by omega) (by omega) (by simp only [List.length_append, List.length_cons, List.length_nil]; omega)
    obtain ⟨T3, b3, e3⟩ := b2.cc (d := d) (c := 32) (by decide) (by decide) (by simp only [List.length_append, List.length_cons, List.length_nil]; omega)
    obtain ⟨T4, b4, e4⟩ := b3.nn (d := d) (x := mst (v >>> (zo 9 &&& 31)) 61 - 30) (by omega) (by omega) (by simp only [List.length_append, List.length_cons, List.length_nil]; omega)
    obtain ⟨T5, b5, e5⟩ := b4.cc (d := d) (c := 59) (by decide) (by decide) (by simp only [List.length_append, List.length_cons, List.length_nil]; omega)
    obtain ⟨q, T9, b9, e9⟩ := b5.new (n := wd * hg) (by omega) (by omega)
    refine ⟨some (mst (v >>> (zo 8 &&& 31)) 61 - 30, mst (v >>> (zo 9 &&& 31)) 61 - 30), q, T9, ?_, ?_, fun z e => ?_, ?_⟩
    · unfold hLd
      simp only [List.append_assoc, List.cons_append, List.nil_append] at b9 ⊢
      exact b9
    · unfold hLd
      simp only [List.length_append, List.length_cons, List.length_nil]
      omega
    · have := Option.some.inj e
      subst this
      show (-99 ≤ mst (v >>> (zo 8 &&& 31)) 61 - 30 ∧ mst (v >>> (zo 8 &&& 31)) 61 - 30 ≤ 99) ∧ (-99 ≤ mst (v >>> (zo 9 &&& 31)) 61 - 30 ∧ mst (v >>> (zo 9 &&& 31)) 61 - 30 ≤ 99)
      omega
    · rw [qe_39_118_5iiii8ooooooooo_i_304, iq_p h, e1, qe_39_128_5iiii8ooooooooo_8_300, px_34 (by omega) (by omega), qe_39_137_5iiii8ooooooooo_i8_295, zo_sub, e2, qe_39_143_5iiii8ooooooooo_8_292, e3, qe_39_148_5iiii8ooooooooo_8_290, px_34 (by omega) (by omega), qe_39_157_5iiii8ooooooooo_i8_285, zo_sub, e4, qe_39_163_5iiii8ooooooooo_8_282, e5, qe_39_171_5iiii8ooooooooo_8_278, zo_mul, e9, qe_39_178_5iiii8ooooooooo_8_273, px_34 (by omega) (by omega), qe_39_188_5iiii88oooooooo_i_267, px_34 (by omega) (by omega), qe_39_198_5iiii88iooooooo_i_261]
  · obtain ⟨T1, b1, e1⟩ := b.cc (d := d) (c := 59) (by decide) (by decide) (by omega)
    obtain ⟨q, T9, b9, e9⟩ := b1.new (n := wd * hg) (by omega) (by omega)
    refine ⟨none, q, T9, b9.up (by omega), by show 1 ≤ 20; omega, (fun z e => nomatch e), ?_⟩
    rw [qe_39_118_5iiii8ooooooooo_i_304, iq_n (by omega) (by omega) (by omega) (by omega) (by omega), e1, qe_39_171_5iiii8ooooooooo_8_300, zo_mul, e9, qe_39_178_5iiii8ooooooooo_8_295, px_34 (by omega) (by omega), qe_39_188_5iiii88oooooooo_i_289, px_34 (by omega) (by omega), qe_39_198_5iiii88iooooooo_i_283]
theorem dr_S (b : BB T0 T kb W A none) (hL : T0.1.1 5 0 1 0 = zo (L : Int)) (hL2 : L ≤ 10000) (hw : 3 ≤ wd ∧ wd ≤ 6) (hh : 3 ≤ hg ∧ hg ≤ 6) (hW : W.length ≤ 900) (hk : (k : Int) < mst (v >>> (zo 16 &&& 31)) 4) : ∃ T', BB T0 T' kb (W ++ clS (mst (scl T0.1 L 3 >>> (zo (4 * (k : Int)) &&& 31)) wd) (mst ((scl T0.1 L 3 >>> (zo (4 * (k : Int)) &&& 31)) >>> (zo 2 &&& 31)) hg) (1 + mst ((scl T0.1 L 3 >>> (zo (4 * (k : Int)) &&& 31)) >>> (zo 1 &&& 31)) 99)) (A + 7) none ∧ qy (d + 11) 39 (f + 1) 584 [some (za 5 0 0), some (zi (zo 0)), some (zi v), some (zi (zo wd)), some (zi (zo hg)), some (za 8 kb 0), none, none, none, none, none, some (zi (zo (k : Int))), none, none, none] [] T = qy (d + 11) 39 f 584 [some (za 5 0 0), some (zi (zo 0)), some (zi v), some (zi (zo wd)), some (zi (zo hg)), some (za 8 kb 0), none, none, none, none, none, some (zi (zo ((k : Int) + 1))), none, none, none] [] T' := by
  have r0 := mst_r (v := v >>> (zo 16 &&& 31)) (m := 4) (by omega)
  have s3 := b.s (d := d) hL hL2 (q := 3) (by omega)
  generalize hu : (scl T0.1 L 3 >>> (zo (4 * (k : Int)) &&& 31)) = u
  have r1 := mst_r (v := u) (m := wd) (by omega)
  have r2 := mst_r (v := u >>> (zo 2 &&& 31)) (m := hg) (by omega)
  have r3 := mst_r (v := u >>> (zo 1 &&& 31)) (m := 99) (by omega)
  have l0 : (txw 17).length = 4 := rfl
  have z1 := decI_len (mst u wd)
  have z2 := decI_len (mst (u >>> (zo 2 &&& 31)) hg)
  have z3 := decI_len (1 + mst (u >>> (zo 1 &&& 31)) 99)
  obtain ⟨T1, b1, e1⟩ := b.tt (d := d) tx_34 (by exact plain_w (by decide)) (by simp only [List.length_append, List.length_cons, List.length_nil]; omega)
  obtain ⟨T2, b2, e2⟩ := b1.nn (d := d) (x := mst u wd) (by omega) (by omega) (by simp only [List.length_append, List.length_cons, List.length_nil]; omega)
  obtain ⟨T3, b3, e3⟩ := b2.cc (d := d) (c := 32) (by decide) (by decide) (by simp only [List.length_append, List.length_cons, List.length_nil]; omega)
  obtain ⟨T4, b4, e4⟩ := b3.nn (d := d) (x := mst (u >>> (zo 2 &&& 31)) hg) (by omega) (by omega) (by simp only [List.length_append, List.length_cons, List.length_nil]; omega)
  obtain ⟨T5, b5, e5⟩ := b4.cc (d := d) (c := 32) (by decide) (by decide) (by simp only [List.length_append, List.length_cons, List.length_nil]; omega)
  obtain ⟨T6, b6, e6⟩ := b5.nn (d := d) (x := 1 + mst (u >>> (zo 1 &&& 31)) 99) (by omega) (by omega) (by simp only [List.length_append, List.length_cons, List.length_nil]; omega)
  obtain ⟨T7, b7, e7⟩ := b6.cc (d := d) (c := 59) (by decide) (by decide) (by simp only [List.length_append, List.length_cons, List.length_nil]; omega)
  refine ⟨T7, ?_, ?_⟩
  · rw [decI_nn (by omega), decI_nn (by omega), decI_nn (by omega)] at b7
    unfold clS
    simp only [List.append_assoc, List.cons_append, List.nil_append] at b7 ⊢
    exact b7
  · rw [qy39, qe_39_584_5iiii8oooooiooo__370, px_34 (by omega) (by omega), qe_39_594_5iiii8oooooiooo_ii_364, ie_n (by omega) (by omega) (by omega), show zo 0 + zo 3 = zo ((3 : Nat) : Int) by decide, s3, qe_39_604_5iiii8oooooiooo_i_358, zo_mul, hu, e1, qe_39_618_5iiii8oooooiioo_8_350, px_34 (by omega) (by omega), qe_39_624_5iiii8oooooiioo_i8_347, e2, qe_39_627_5iiii8oooooiioo_8_346, e3, qe_39_632_5iiii8oooooiioo_8_344, px_34 (by omega) (by omega), qe_39_641_5iiii8oooooiioo_i8_339, e4, qe_39_644_5iiii8oooooiioo_8_338, e5, qe_39_649_5iiii8oooooiioo_8_336, px_34 (by omega) (by omega), qe_39_659_5iiii8oooooiioo_ii8_330, zo_add, e6, qe_39_663_5iiii8oooooiioo_8_328, e7, qe_39_668_5iiii8oooooiioo_8_326, zo_add]
end DH2

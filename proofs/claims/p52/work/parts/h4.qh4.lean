/-! THE LAW'S PURE SIDE 50: a bath is drawn: the loops -/
section DL
variable {T0 : qS} {kb q d L N : Nat} {wd hg dr tp bo : Int} {v : Int32}
theorem zsum_k (c : Int) : ∀ n : Nat, zsum (fun _ => c) n = c * n
  | 0 => (Int.mul_zero c).symm
  | n + 1 => by
    have := zsum_k c n
    show zsum (fun _ => c) n + c = _
    rw [this, show ((n + 1 : Nat) : Int) = (n : Int) + 1 from rfl, Int.mul_add, Int.mul_one]
theorem clD_len (x y h r : Int) : (clD x y h r).length ≤ 30 := by
  have l0 : (txw 3).length = 5 := rfl
  have z1 := numI_len x
  have z2 := numI_len y
  have z3 := numI_len h
  have z4 := numI_len r
  unfold clD
  simp only [List.length_append, List.length_cons, List.length_nil]
  omega
theorem clT_len (x y r : Int) : (clT x y r).length ≤ 30 := by
  have l0 : (txw 20).length = 3 := rfl
  have z1 := numI_len x
  have z2 := numI_len y
  have z4 := numI_len r
  unfold clT
  simp only [List.length_append, List.length_cons, List.length_nil]
  omega
theorem clB_len (x y g s : Int) (w : Option Int) : (clB x y g s w).length ≤ 40 := by
  have l0 : (txw 2).length = 4 := rfl
  have l1 : (txw 23).length = 3 := rfl
  have z1 := numI_len x
  have z2 := numI_len y
  have z3 := numI_len g
  have z4 := numI_len s
  cases w with
  | none =>
    unfold clB wtL
    simp only [List.length_append, List.length_cons, List.length_nil]
    omega
  | some z =>
    have z5 := numI_len z
    unfold clB wtL
    simp only [List.length_append, List.length_cons, List.length_nil]
    omega
theorem clS_len (x y r : Int) : (clS x y r).length ≤ 30 := by
  have l0 : (txw 17).length = 4 := rfl
  have z1 := numI_len x
  have z2 := numI_len y
  have z4 := numI_len r
  unfold clS
  simp only [List.length_append, List.length_cons, List.length_nil]
  omega
/-- the drains and the taps -/
theorem lp203 (hL : T0.1.1 5 0 1 0 = zo (L : Int)) (hL2 : L ≤ 10000) (hw : 3 ≤ wd ∧ wd ≤ 6) (hh : 3 ≤ hg ∧ hg ≤ 6) (hN : 9 ≤ wd * hg ∧ wd * hg ≤ 36) (hNx : (N : Int) = wd * hg) (hd : 0 ≤ dr ∧ dr ≤ 3) (ht : 0 ≤ tp ∧ tp ≤ 2) : ∀ (m k : Nat) (T : qS) (W : List Int) (a : Rw) (xs : List Int32) (A f : Nat), ((k + m : Nat) : Int) = dr + tp → 50 * m + 500 ≤ f → BB T0 T kb W A (some (q, .inr (.inl (6, xs)))) → DW wd hg W a k → TK a xs N → a 9 = 0 → (∀ i : Nat, i < (a 7).toNat → a (10 + 4 * i + 3) = 0) → a 7 = (if (k : Int) ≤ dr then (k : Int) else dr) → a 8 = (if (k : Int) ≤ dr then 0 else (k : Int) - dr) → W.length ≤ 60 + 30 * k → ∃ (W' : List Int) (a' : Rw) (T' : qS) (j f' : Nat), BB T0 T' kb W' (A + 9 * m) none ∧ DW wd hg W' a' j ∧ j ≤ 5 ∧ a' 9 = 0 ∧ (∀ i : Nat, i < (a' 7).toNat → a' (10 + 4 * i + 3) = 0) ∧ W'.length ≤ 210 ∧ 499 ≤ f' ∧ qy (d + 11) 39 f 203 [some (za 5 0 0), some (zi (zo 0)), some (zi v), some (zi (zo wd)), some (zi (zo hg)), some (za 8 kb 0), some (za 8 q 0), some (zi (zo dr)), some (zi (zo tp)), some (zi (zo (k : Int))), none, none, none, none, none] [] T = qz (d + 11) 39 f' 370 203 [some (za 5 0 0), some (zi (zo 0)), some (zi v), some (zi (zo wd)), some (zi (zo hg)), some (za 8 kb 0), some (za 8 q 0), some (zi (zo dr)), some (zi (zo tp)), some (zi (zo (dr + tp))), none, none, none, none, none] [] T' := by
  intro m
  induction m with
  | zero =>
    intro k T W a xs A f hk hf b D K h9 hz h7 h8 hW
    obtain ⟨f, rfl⟩ : ∃ f', f = f' + 1 := ⟨f - 1, by omega⟩
    refine ⟨W, a, T, k, f, b.no, D, by omega, h9, hz, by omega, by omega, ?_⟩
    rw [qy39, show (k : Int) = dr + tp by omega]
  | succ m ih =>
    intro k T W a xs A f hk hf b D K h9 hz h7 h8 hW
    obtain ⟨f, rfl⟩ : ∃ f', f = f' + 1 := ⟨f - 1, by omega⟩
    have s1 := b.s (d := d) hL hL2 (q := 1) (by omega)
    have hkb : (k : Int) ≤ dr ∨ dr < (k : Int) := by omega
    have h7b : 0 ≤ a 7 ∧ a 7 ≤ dr ∧ 0 ≤ a 8 ∧ a 8 ≤ 2 ∧ a 7 + a 8 = k := by
      rcases hkb with c | c
      · rw [if_pos c] at h7 h8; omega
      · rw [if_neg (by omega)] at h7 h8; omega
    generalize hu : scl T0.1 L 1 >>> (zo (3 * (k : Int)) &&& 31) = u
    have r := mst_r (v := u) (m := wd * hg) (by omega)
    obtain ⟨s, es⟩ : ∃ s : Nat, mst u (wd * hg) = (s : Int) := ⟨(mst u (wd * hg)).toNat, by omega⟩
    have run1 : qy (d + 11) 39 (f + 1) 203 [some (za 5 0 0), some (zi (zo 0)), some (zi v), some (zi (zo wd)), some (zi (zo hg)), some (za 8 kb 0), some (za 8 q 0), some (zi (zo dr)), some (zi (zo tp)), some (zi (zo (k : Int))), none, none, none, none, none] [] T = qy (d + 11) 39 f 238 [some (za 5 0 0), some (zi (zo 0)), some (zi v), some (zi (zo wd)), some (zi (zo hg)), some (za 8 kb 0), some (za 8 q 0), some (zi (zo dr)), some (zi (zo tp)), some (zi (zo (k : Int))), some (zi u), some (zi (zo (s : Int))), none, none, none] [] T := by
      rw [qy39, qe_39_203_5iiii88iiiooooo__370, zo_add, ie_n (by omega) (by omega) (by omega), show zo 0 + zo 1 = zo ((1 : Nat) : Int) by decide, s1, qe_39_220_5iiii88iiiooooo_i_360, zo_mul, zo_mul, hu, px_34 (by omega) (by omega), qe_39_236_5iiii88iiiioooo_i_350, es]
    obtain ⟨t0, t1, t2⟩ := TK_free K (by omega) (by omega) (by omega)
    have hs : s < N := by omega
    obtain ⟨mm, emm⟩ : ∃ mm, (if s ≤ t0 then t0 - s else t0 + N - s) = mm := ⟨_, rfl⟩
    have hmm : mm ≤ 40 := by
      rw [← emm]
      split <;> omega
    obtain ⟨f2, ef⟩ : ∃ f2, f = f2 + mm + 1 := ⟨f - mm - 1, by omega⟩
    obtain ⟨c, c1, c2, f3, c3, c4⟩ := p238 (d := d) (v := v) (u := u) (k := k) (dr := dr) (tp := tp) b hw hh (by omega) hNx K.1 t1 t2 mm s f2 hs emm
    have hxl := K.1
    by_cases ck : (k : Int) < dr
    · obtain ⟨T', b', e'⟩ := dr_D (d := d) (f := f3) (v := v) (u := u) (k := k) (dr := dr) (tp := tp) b hw hh (by omega) c2 (by omega) (by omega) (by omega) (by omega) ck hd.2
      have rr1 := mst_r (v := u >>> (zo 2 &&& 31)) (m := 60) (by omega)
      have rr2 := mst_r (v := u >>> (zo 1 &&& 31)) (m := 100) (by omega)
      have cl := clD_len ((c : Int) % wd) ((c : Int) / wd) (1 + mst (u >>> (zo 2 &&& 31)) 60) (mst (u >>> (zo 1 &&& 31)) 100)
      have D' := DW_D (h := 1 + mst (u >>> (zo 2 &&& 31)) 60) (r := mst (u >>> (zo 1 &&& 31)) 100) D (by omega) (c := c) (by omega) (by omega) ((K.2 c c1).mp c2) (by omega) (by omega)
      have K' := TK_set K c1 (a2 := ndR a c (1 + mst (u >>> (zo 2 &&& 31)) 60) (mst (u >>> (zo 1 &&& 31)) 100)) (fun x => frB_nd (by omega) (by omega))
      rw [if_pos (by omega)] at h7 h8
      obtain ⟨W', a', T'', j, f', g1, g2, g3, g4, g5, g6, g7, g8⟩ := ih (k + 1) T' _ _ _ (A + 9) f3 (by omega) (by omega) b' D' K' (by rw [ndR_o (by omega) (by omega)]; exact h9) (fun i hi => by
        rw [ndR_7] at hi
        by_cases e : i = (a 7).toNat
        · rw [e]; exact (ndR_c (by omega)).2
        · rw [ndR_o (by omega) (by omega)]; exact hz i (by omega)) (by rw [ndR_7, if_pos (by omega)]; omega) (by rw [ndR_o (by omega) (by omega), if_pos (by omega)]; exact h8) (by rw [List.length_append]; omega)
      refine ⟨W', a', T'', j, f', g1.up (by omega), g2, g3, g4, g5, g6, g7, ?_⟩
      rw [run1, ef, c4, e']
      exact g8
    · obtain ⟨T', b', e'⟩ := dr_T (d := d) (f := f3) (v := v) (u := u) (k := k) (dr := dr) (tp := tp) b hw hh (by omega) c2 (by omega) (by omega) (by omega) (by omega) (by omega) hd.1 (by omega)
      have rr2 := mst_r (v := u >>> (zo 1 &&& 31)) (m := 100) (by omega)
      have cl := clT_len ((c : Int) % wd) ((c : Int) / wd) (mst (u >>> (zo 1 &&& 31)) 100)
      have D' := DW_T (r := mst (u >>> (zo 1 &&& 31)) 100) D (by omega) (c := c) (by omega) (by omega) ((K.2 c c1).mp c2) (by omega)
      have K' := TK_set K c1 (a2 := ntR a c (mst (u >>> (zo 1 &&& 31)) 100)) (fun x => frB_nt (by omega) (by omega))
      have h78 : a 7 = dr ∧ a 8 = (k : Int) - dr := by
        by_cases c5 : (k : Int) ≤ dr
        · rw [if_pos c5] at h7 h8; omega
        · rw [if_neg c5] at h7 h8; omega
      obtain ⟨W', a', T'', j, f', g1, g2, g3, g4, g5, g6, g7, g8⟩ := ih (k + 1) T' _ _ _ (A + 9) f3 (by omega) (by omega) b' D' K' (by rw [ntR_o (by omega) (by omega)]; exact h9) (fun i hi => by
        rw [ntR_o (by omega) (by omega)] at hi
        rw [ntR_o (by omega) (by omega)]
        exact hz i hi) (by rw [ntR_o (by omega) (by omega), if_neg (by omega)]; exact h78.1) (by rw [ntR_8, if_neg (by omega)]; omega) (by rw [List.length_append]; omega)
      refine ⟨W', a', T'', j, f', g1.up (by omega), g2, g3, g4, g5, g6, g7, ?_⟩
      rw [run1, ef, c4, e']
      exact g8
/-- the boats -/
theorem lp388 (hL : T0.1.1 5 0 1 0 = zo (L : Int)) (hL2 : L ≤ 10000) (hw : 3 ≤ wd ∧ wd ≤ 6) (hh : 3 ≤ hg ∧ hg ≤ 6) (hN : 9 ≤ wd * hg ∧ wd * hg ≤ 36) (hNx : (N : Int) = wd * hg) (hbo : 1 ≤ bo ∧ bo ≤ 5) : ∀ (m k : Nat) (T : qS) (W : List Int) (a : Rw) (xs : List Int32) (A j f : Nat), ((k + m : Nat) : Int) = bo → 50 * m + 100 ≤ f → BB T0 T kb W A (some (q, .inr (.inl (6, xs)))) → DW wd hg W a j → j ≤ 5 + k → LI a → xs.length = N → (∀ c : Nat, c < N → (xs.getD c 0 = zo 0 ↔ occ a (c : Int) (-1) = -1)) → a 9 = (k : Int) → W.length ≤ 210 + 40 * k → ∃ (W' : List Int) (a' : Rw) (T' : qS) (j' f' : Nat), BB T0 T' kb W' (A + 11 * m) none ∧ DW wd hg W' a' j' ∧ j' ≤ 10 ∧ LI a' ∧ a' 9 = bo ∧ W'.length ≤ 410 ∧ 90 ≤ f' ∧ qy (d + 11) 39 f 388 [some (za 5 0 0), some (zi (zo 0)), some (zi v), some (zi (zo wd)), some (zi (zo hg)), some (za 8 kb 0), none, none, none, some (za 8 q 0), some (zi (zo bo)), some (zi (zo (k : Int))), none, none, none] [] T = qy (d + 11) 39 f' 584 [some (za 5 0 0), some (zi (zo 0)), some (zi v), some (zi (zo wd)), some (zi (zo hg)), some (za 8 kb 0), none, none, none, none, none, some (zi (zo 0)), none, none, none] [] T' := by
  intro m
  induction m with
  | zero =>
    intro k T W a xs A j f hk hf b D hj hli hxl K h9 hW
    obtain ⟨f, rfl⟩ : ∃ f', f = f' + 1 := ⟨f - 1, by omega⟩
    refine ⟨W, a, T, j, f, b.no, D, by omega, hli, by omega, by omega, by omega, ?_⟩
    rw [qy39, qe_39_388_5iiii8ooo8iiooo__370, ie_p (by omega) (by omega) (by omega)]
  | succ m ih =>
    intro k T W a xs A j f hk hf b D hj hli hxl K h9 hW
    obtain ⟨f, rfl⟩ : ∃ f', f = f' + 1 := ⟨f - 1, by omega⟩
    have s1 := b.s (d := d) hL hL2 (q := 2) (by omega)
    generalize hu : scl T0.1 L 2 >>> (zo (3 * (k : Int)) &&& 31) = u
    have r := mst_r (v := u) (m := wd * hg) (by omega)
    obtain ⟨s, es⟩ : ∃ s : Nat, mst u (wd * hg) = (s : Int) := ⟨(mst u (wd * hg)).toNat, by omega⟩
    have run1 : qy (d + 11) 39 (f + 1) 388 [some (za 5 0 0), some (zi (zo 0)), some (zi v), some (zi (zo wd)), some (zi (zo hg)), some (za 8 kb 0), none, none, none, some (za 8 q 0), some (zi (zo bo)), some (zi (zo (k : Int))), none, none, none] [] T = qy (d + 11) 39 f 420 [some (za 5 0 0), some (zi (zo 0)), some (zi v), some (zi (zo wd)), some (zi (zo hg)), some (za 8 kb 0), none, none, none, some (za 8 q 0), some (zi (zo bo)), some (zi (zo (k : Int))), some (zi u), some (zi (zo (s : Int))), none] [] T := by
      rw [qy39, qe_39_388_5iiii8ooo8iiooo__370, ie_n (by omega) (by omega) (by omega), show zo 0 + zo 2 = zo ((2 : Nat) : Int) by decide, s1, qe_39_402_5iiii8ooo8iiooo_i_362, zo_mul, zo_mul, hu, px_34 (by omega) (by omega), qe_39_418_5iiii8ooo8iiioo_i_352, es]
    have DO := D
    obtain ⟨-, D1, D2, D3⟩ := DO
    obtain ⟨t0, t1, t2⟩ : ∃ t0, t0 < N ∧ xs.getD t0 0 = zo 0 := by
      by_cases e : ∃ t0, t0 < N ∧ xs.getD t0 0 = zo 0
      · exact e
      · have i1 := isb_cnt D1
        rw [D2, D3, show (wd * hg).toNat = N by omega, zsum_congr (g := fun _ => 1) N (fun i hi => ?_), zsum_k] at i1
        · have c1 := cnt_all D1
          have c2 := cnt_r D1 1
          have c3 := cnt_r D1 2
          exact absurd i1 (by omega)
        · unfold isb
          have o1 := occ_ge a (i : Int) (-1)
          have o2 : ¬ occ a (i : Int) (-1) = -1 := fun z => e ⟨i, hi, (K i hi).mpr z⟩
          rw [if_neg (by omega)]
    have hs : s < N := by omega
    obtain ⟨mm, emm⟩ : ∃ mm, (if s ≤ t0 then t0 - s else t0 + N - s) = mm := ⟨_, rfl⟩
    have hmm : mm ≤ 40 := by
      rw [← emm]
      split <;> omega
    obtain ⟨f2, ef⟩ : ∃ f2, f = f2 + mm + 1 := ⟨f - mm - 1, by omega⟩
    obtain ⟨c, c1, c2, f3, c3, c4⟩ := p420 (d := d) (v := v) (u := u) (k := k) (bo := bo) b hw hh (by omega) hNx hxl t1 t2 mm s f2 hs emm
    have hf := (K c c1).mp c2
    -- what the body does
    have body : ∃ (T' : qS) (st : Int) (wt : Option Int), (1 ≤ st ∧ st ≤ 300) ∧ (0 ≤ wtV wt ∧ wtV wt ≤ st) ∧ BB T0 T' kb (W ++ clB ((c : Int) % wd) ((c : Int) / wd) (1 + mst (u >>> (zo 1 &&& 31)) 80) st wt) (A + 11) (some (q, .inr (.inl (6, xs.set c 1)))) ∧ qy (d + 11) 39 (f3 + 1) 420 [some (za 5 0 0), some (zi (zo 0)), some (zi v), some (zi (zo wd)), some (zi (zo hg)), some (za 8 kb 0), none, none, none, some (za 8 q 0), some (zi (zo bo)), some (zi (zo (k : Int))), some (zi u), some (zi (zo (c : Int))), none] [] T = qy (d + 11) 39 f3 388 [some (za 5 0 0), some (zi (zo 0)), some (zi v), some (zi (zo wd)), some (zi (zo hg)), some (za 8 kb 0), none, none, none, some (za 8 q 0), some (zi (zo bo)), some (zi (zo ((k : Int) + 1))), none, none, none] [] T' := by
      have r20 := mst_r (v := u >>> (zo 3 &&& 31)) (m := 20) (by omega)
      have r300 := mst_r (v := u >>> (zo 3 &&& 31)) (m := 300) (by omega)
      have rv1 := mst_r (v := u >>> (zo 4 &&& 31)) (m := 1 + mst (u >>> (zo 3 &&& 31)) 20 + 1) (by omega)
      have rv2 := mst_r (v := u >>> (zo 4 &&& 31)) (m := 1 + mst (u >>> (zo 3 &&& 31)) 300 + 1) (by omega)
      by_cases w1 : mst (u >>> (zo 2 &&& 31)) 2 = 0
      · by_cases w3 : mst (u >>> (zo 5 &&& 31)) 3 = 0
        · obtain ⟨T', b', e'⟩ := dr_B01 (d := d) (f := f3) (v := v) (u := u) (k := k) (bo := bo) b hw hh (by omega) c2 (by omega) (by omega) (by omega) (by omega) w1 w3
          exact ⟨T', 1 + mst (u >>> (zo 3 &&& 31)) 20, some (mst (u >>> (zo 4 &&& 31)) (1 + mst (u >>> (zo 3 &&& 31)) 20 + 1)), by omega, ⟨rv1.1, by show mst _ _ ≤ _; omega⟩, b', e'⟩
        · obtain ⟨T', b', e'⟩ := dr_B00 (d := d) (f := f3) (v := v) (u := u) (k := k) (bo := bo) b hw hh (by omega) c2 (by omega) (by omega) (by omega) (by omega) w1 w3
          exact ⟨T', 1 + mst (u >>> (zo 3 &&& 31)) 20, none, by omega, ⟨Int.le_refl 0, by show (0 : Int) ≤ _; omega⟩, b', e'⟩
      · by_cases w3 : mst (u >>> (zo 5 &&& 31)) 3 = 0
        · obtain ⟨T', b', e'⟩ := dr_B11 (d := d) (f := f3) (v := v) (u := u) (k := k) (bo := bo) b hw hh (by omega) c2 (by omega) (by omega) (by omega) (by omega) w1 w3
          exact ⟨T', 1 + mst (u >>> (zo 3 &&& 31)) 300, some (mst (u >>> (zo 4 &&& 31)) (1 + mst (u >>> (zo 3 &&& 31)) 300 + 1)), by omega, ⟨rv2.1, by show mst _ _ ≤ _; omega⟩, b', e'⟩
        · obtain ⟨T', b', e'⟩ := dr_B10 (d := d) (f := f3) (v := v) (u := u) (k := k) (bo := bo) b hw hh (by omega) c2 (by omega) (by omega) (by omega) (by omega) w1 w3
          exact ⟨T', 1 + mst (u >>> (zo 3 &&& 31)) 300, none, by omega, ⟨Int.le_refl 0, by show (0 : Int) ≤ _; omega⟩, b', e'⟩
    obtain ⟨T', st, wt, y1, y2, b', e'⟩ := body
    have rg := mst_r (v := u >>> (zo 1 &&& 31)) (m := 80) (by omega)
    have cl := clB_len ((c : Int) % wd) ((c : Int) / wd) (1 + mst (u >>> (zo 1 &&& 31)) 80) st wt
    have D' := DW_B (w := 1 + mst (u >>> (zo 1 &&& 31)) 80) (s := st) (wt := wt) D (by omega) (c := c) (by omega) (by omega) hf (by omega) (by omega) y2
    have li' := LI_nb (c := (c : Int)) (w := 1 + mst (u >>> (zo 1 &&& 31)) 80) (s := st) (wt := wtV wt) hli D1 y2.2
    obtain ⟨W', a', T'', j', f', g1, g2, g3, g4, g5, g6, g7, g8⟩ := ih (k + 1) T' _ _ _ (A + 11) (j + 1) f3 (by omega) (by omega) b' D' (by omega) li' (by rw [List.length_set]; exact hxl) (fun x hx => by
      rw [setD (by omega), occ_nb1 D1 hf]
      by_cases e : x = c
      · rw [if_pos e, if_pos (by omega)]
        constructor
        · intro z; exact absurd z (by decide)
        · intro z; omega
      · rw [if_neg e, if_neg (by omega)]
        exact K x hx) (by rw [nbR_9]; omega) (by rw [List.length_append]; omega)
    refine ⟨W', a', T'', j', f', g1.up (by omega), g2, g3, g4, g5, g6, g7, ?_⟩
    rw [run1, ef, c4, e']
    exact g8
/-- the soap -/
theorem lp584 (hL : T0.1.1 5 0 1 0 = zo (L : Int)) (hL2 : L ≤ 10000) (hw : 3 ≤ wd ∧ wd ≤ 6) (hh : 3 ≤ hg ∧ hg ≤ 6) {so : Int} (hso : mst (v >>> (zo 16 &&& 31)) 4 = so) : ∀ (m k : Nat) (T : qS) (W : List Int) (a : Rw) (A j f : Nat), ((k + m : Nat) : Int) = so → m + 10 ≤ f → BB T0 T kb W A none → DW wd hg W a j → j ≤ 10 + k → LI a → 1 ≤ a 9 → W.length ≤ 410 + 30 * k → ∃ (W' : List Int) (a' : Rw) (T' : qS) (j' f' : Nat), BB T0 T' kb W' (A + 7 * m) none ∧ DW wd hg W' a' j' ∧ LI a' ∧ 1 ≤ a' 9 ∧ W'.length ≤ 500 ∧ 10 ≤ f' ∧ qy (d + 11) 39 f 584 [some (za 5 0 0), some (zi (zo 0)), some (zi v), some (zi (zo wd)), some (zi (zo hg)), some (za 8 kb 0), none, none, none, none, none, some (zi (zo (k : Int))), none, none, none] [] T = qy (d + 11) 39 f' 584 [some (za 5 0 0), some (zi (zo 0)), some (zi v), some (zi (zo wd)), some (zi (zo hg)), some (za 8 kb 0), none, none, none, none, none, some (zi (zo so)), none, none, none] [] T' := by
  have r0 := mst_r (v := v >>> (zo 16 &&& 31)) (m := 4) (by omega)
  intro m
  induction m with
  | zero =>
    intro k T W a A j f hk hf b D hj hli h9 hW
    refine ⟨W, a, T, j, f, b, D, hli, h9, by omega, by omega, ?_⟩
    rw [show (k : Int) = so by omega]
  | succ m ih =>
    intro k T W a A j f hk hf b D hj hli h9 hW
    obtain ⟨f, rfl⟩ : ∃ f', f = f' + 1 := ⟨f - 1, by omega⟩
    obtain ⟨T', b', e'⟩ := dr_S (d := d) (f := f) (v := v) (k := k) b hL hL2 hw hh (by omega) (by omega)
    have r1 := mst_r (v := scl T0.1 L 3 >>> (zo (4 * (k : Int)) &&& 31)) (m := wd) (by omega)
    have r2 := mst_r (v := (scl T0.1 L 3 >>> (zo (4 * (k : Int)) &&& 31)) >>> (zo 2 &&& 31)) (m := hg) (by omega)
    have r3 := mst_r (v := (scl T0.1 L 3 >>> (zo (4 * (k : Int)) &&& 31)) >>> (zo 1 &&& 31)) (m := 99) (by omega)
    have D' := DW_S D (by omega) r1 r2 (v := 1 + mst ((scl T0.1 L 3 >>> (zo (4 * (k : Int)) &&& 31)) >>> (zo 1 &&& 31)) 99) (by omega)
    have cl := clS_len (mst (scl T0.1 L 3 >>> (zo (4 * (k : Int)) &&& 31)) wd) (mst ((scl T0.1 L 3 >>> (zo (4 * (k : Int)) &&& 31)) >>> (zo 2 &&& 31)) hg) (1 + mst ((scl T0.1 L 3 >>> (zo (4 * (k : Int)) &&& 31)) >>> (zo 1 &&& 31)) 99)
    obtain ⟨W', a', T'', j', f', g1, g2, g3, g4, g5, g6, g7⟩ := ih (k + 1) T' _ _ (A + 7) (j + 1) f (by omega) (by omega) b' D' (by omega) (LI_up hli D.2.1 (by omega) (by omega) (Or.inr (Or.inr (Or.inr (by omega))))) (by rw [up_ne _ _ (by omega)]; exact h9) (by rw [List.length_append]; omega)
    refine ⟨W', a', T'', j', f', g1.up (by omega), g2, g3, g4, g5, g6, ?_⟩
    rw [e']
    exact g7
end DL

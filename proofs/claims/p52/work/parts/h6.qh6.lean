/-! THE LAW'S PURE SIDE 52: the first world; the law -/
def kS1 (k n o j : Nat) : Int32 := match kW[kp (k, n, o)]? with
  | some c => kn_num c j
  | none => 0
theorem kS_lt (S0 : zS) {k : Nat} (h : k < 5) (n o j : Nat) : (kS S0).1 k n o j = kS1 k n o j := if_pos h
theorem kI_0 : (kS1 0 0 0 6 = zo 5 ∧ kS1 0 0 0 7 = zo 5 ∧ kS1 0 0 0 8 = zo 500 ∧ kS1 0 0 0 9 = zo 1 ∧ kS1 0 0 0 10 = zo 0 ∧ kS1 0 0 0 11 = zo 0 ∧ kS1 0 0 0 12 = zo 0 ∧ kS1 0 0 0 13 = zo 0 ∧ kS1 0 0 0 14 = zo 0 ∧ kS1 0 0 0 15 = zo 0 ∧ kS1 0 0 0 16 = zo 0) ∧ (∀ c, c < 25 → kS1 0 0 8 c = zo 0 ∧ kS1 0 0 10 c = zo (-1)) := by decide +kernel
theorem kI_1 : ∀ n, n < 14 → kS1 0 n 1 1 = zo 11 ∧ kS1 0 n 3 1 = zo 6 ∧ kS1 0 n 5 1 = zo 3 ∧ kS1 0 n 7 1 = zo 0 ∧ kS1 0 n 9 1 = zo (-1) ∧ kS1 0 n 11 1 = zo (-1) := by decide +kernel
theorem kI_2 : kS1 1 0 1 1 = zo 0 ∧ kS1 1 0 1 2 = zo 0 ∧ kS1 1 0 14 1 = zo 0 ∧ kS1 1 0 10 1 = zo 1000000 ∧ kS1 1 0 12 1 = zo 1000000 := by decide +kernel
theorem kS_HC (S0 : zS) : HC (kS S0) 0 (fun _ => begR 5 5) (begR 5 5) ∧ (kS S0).1 1 0 14 1 = zo 0 ∧ ((kS S0).1 1 0 10 1 = zo 1000000 ∧ (kS S0).1 1 0 12 1 = zo 1000000) := by
  have e : ∀ i, 4 ≤ i → begR 5 5 i = 0 := by intro i hi; unfold begR; rw [if_neg (by omega), if_neg (by omega), if_neg (by omega), if_neg (by omega)]
  have v0 : ∀ n o j, (kS S0).1 0 n o j = kS1 0 n o j := kS_lt S0 (by decide)
  have v1 : ∀ n o j, (kS S0).1 1 n o j = kS1 1 n o j := kS_lt S0 (by decide)
  obtain ⟨⟨a1, a2, a3, a4, a5, a6, a7, a8, a9, a10, a11⟩, a12⟩ := kI_0
  obtain ⟨b1, b2, b5, b7, b8⟩ := kI_2
  have hF : ∀ n, n < 14 → CbF ((kS S0).1 0 n) := fun n hn => by
    have h := kI_1 n hn
    exact ⟨(v0 _ _ _).trans h.1, (v0 _ _ _).trans h.2.1, (v0 _ _ _).trans h.2.2.1, (v0 _ _ _).trans h.2.2.2.1, (v0 _ _ _).trans h.2.2.2.2.1, (v0 _ _ _).trans h.2.2.2.2.2⟩
  refine ⟨⟨⟨hF 0 (by decide), ?_, fun k hk => ?_, fun k hk => ?_, fun k hk => ?_, fun c hc => ?_, fun c hc => ?_, ?_, fun i hi => ?_⟩, ⟨0, by decide, (v1 _ _ _).trans b1, (v1 _ _ _).trans b2, fun i hi => absurd hi (Nat.not_lt_zero i)⟩, by decide, hF⟩, (v1 _ _ _).trans b5, (v1 _ _ _).trans b7, (v1 _ _ _).trans b8⟩
  · exact ⟨(v0 _ _ _).trans a1, (v0 _ _ _).trans a2, (v0 _ _ _).trans a3, (v0 _ _ _).trans a4, (v0 _ _ _).trans a5, (v0 _ _ _).trans a6, (v0 _ _ _).trans a7, (v0 _ _ _).trans a8, (v0 _ _ _).trans a9, (v0 _ _ _).trans a10⟩
  · rw [e 7 (by omega)] at hk; omega
  · rw [e 8 (by omega)] at hk; omega
  · rw [e 9 (by omega)] at hk; omega
  · have hc : (c : Int) < 5 * 5 := hc
    rw [e _ (by omega)]
    exact (v0 _ _ _).trans (a12 c (by omega)).1
  · have hc : (c : Int) < 5 * 5 := hc
    exact (v0 _ _ _).trans (a12 c (by omega)).2
  · exact (v0 _ _ _).trans a11
  · have : nen (begR 5 5) = 0 := rfl
    omega
/-- what saying leaves -/
theorem FF.hc {T T' : qS} {j k : Nat} {u : Nat → Rw} {a : Rw} (h : FF T T' j) (H : HC T.1 k u a) : HC T'.1 k u a := by
  obtain ⟨h1, ⟨x, x1, x2, x3, x4⟩, h3, h4⟩ := H
  have r : ∀ n, T'.1.1 0 n = T.1.1 0 n := fun n => by funext o j; exact h.2.2.2.2 0 n o j (by omega)
  refine ⟨by rw [r]; exact h1, ⟨x, x1, ?_, ?_, fun i hi => ?_⟩, h3, fun n hn => ?_⟩
  · rw [h.2.2.2.2 1 0 1 1 (by omega)]; exact x2
  · rw [h.2.2.2.2 1 0 1 2 (by omega)]; exact x3
  · rw [r]; exact x4 i hi
  · rw [r]; exact h4 n hn
theorem map_getD (W : List Int) {i : Nat} (hi : i < W.length) : (W.map zo).getD i 0 = zo (W.getD i 0) := by
  rw [List.getD_eq_getElem?_getD, List.getD_eq_getElem?_getD, List.getElem?_map, List.getElem?_eq_getElem hi]
  rfl
theorem plain_at {W : List Int} (h : plain W) {i : Nat} (hi : i < W.length) : 0 ≤ W.getD i 0 ∧ W.getD i 0 < 128 := by
  rw [List.getD_eq_getElem?_getD, List.getElem?_eq_getElem hi]
  exact h _ (List.getElem_mem hi)
/-- the law's start: a bath is drawn, said and read -/
theorem law_start {d n L : Nat} (S0 : zS) (H : HC S0 0 (fun _ => begR 5 5) (begR 5 5)) (h14 : S0.1 1 0 14 1 = zo 0) (hK : S0.1 1 0 10 1 = zo 1000000 ∧ S0.1 1 0 12 1 = zo 1000000) (h5 : S0.1 5 0 1 0 = zo (L : Int)) (hL : L ≤ 10000) : ∃ (S' : zS) (w : qW) (u : Nat → Rw) (a : Rw), IV 0 L S' 0 u a ∧ w.length ≤ 301 ∧ q_sl w ≤ 900006 ∧ qy (d + 12) 47 (n + 1) 8 qLV [] (S0, []) = qy (d + 12) 47 n 59 [some (za 5 0 0), some (za 1 0 0), none, none, some (zi (zo 0)), none, none, none, none] [] (S', w) := by
  have z0 : zx_nth ([.inr (.inl (0, [0, 0, 0, 0, 0, zo 0]))] : qW) 0 = some (.inr (.inl (0, [0, 0, 0, 0, 0, zo 0]))) := rfl
  obtain ⟨⟨S2, w2⟩, k', j', W, a, j, e39, t2, n2, lk, lj, pl, wl, pr, wf, li, a9⟩ := Q39 (d := d) (T := (S0, [.inr (.inl (0, [0, 0, 0, 0, 0, zo 0]))])) h5 hL
  have lk : 1 ≤ k' := lk
  have lj : 1 ≤ j' := lj
  have es2 : S2 = S0 := n2.1
  subst es2
  have n2l : w2.length ≤ 1 + 300 := n2.2.2.1
  have n2s : q_sl w2 ≤ 6 + 3000 * 300 := n2.2.2.2.1
  have zw : zx_nth w2 0 = some (.inr (.inl (0, [0, 0, 0, 0, 0, zo 0]))) := n2.2.2.2.2 0 _ z0
  have fd0 : FD (S2, w2) 0 [] := by
    refine ⟨fun _ => 0, zw, fun i hi => ?_, h14, fun i hi => absurd hi (Nat.not_lt_zero i)⟩
    show zo (fdB 0 (i % 4)) = 0
    rcases (show i % 4 = 0 ∨ i % 4 = 1 ∨ i % 4 = 2 ∨ i % 4 = 3 by omega) with e | e | e | e <;> rw [e] <;> decide
  obtain ⟨⟨S3, w3⟩, e37, fd3, ff3⟩ := Q37 (d := d + 7) (T := (S2, w2)) (j := 0) (ws := []) (by omega) (by omega) t2 (fun i hi => by
    rw [List.length_map] at hi
    have := plain_at pl hi
    exact ⟨W.getD i 0, this.1, this.2, map_getD W hi⟩) fd0 (by rw [List.length_map]; show 0 + W.length ≤ 700; omega)
  rw [List.nil_append] at fd3
  obtain ⟨⟨S4, w4⟩, tn, e38, tn1, tn2, tn3, tn4, ff4⟩ := Q38 (d := d + 7) (T := (S3, w3)) fd3 (by rw [List.length_map]; omega)
  rw [List.length_map] at e38 tn1 tn4
  have ff := ff3.tr ff4
  have H4 : HC S4 0 (fun _ => begR 5 5) (begR 5 5) := ff.hc H
  have hx : ∀ i, i < tn → S4.1 1 0 16 i = zo (if i < W.length then W.getD i 0 else 32) ∧ 0 ≤ (if i < W.length then W.getD i 0 else 32) ∧ (if i < W.length then W.getD i 0 else 32) ≤ 255 := fun i hi => by
    have t := tn4 i hi
    by_cases c : i < W.length
    · rw [if_pos c] at t ⊢
      have p := plain_at pl c
      exact ⟨t.trans (map_getD W c), by omega⟩
    · rw [if_neg c] at t ⊢
      exact ⟨t, by omega⟩
  have A := A90 (d := d + 2) (T := 0) (tx := fun i => if i < W.length then W.getD i 0 else 32) (x := (W.length : Int)) H4 tn3 tn2 hx (by omega) (by omega) (by omega)
  rw [if_pos (by omega), Int.toNat_natCast] at A
  have hld := pr.fin (tx := fun i => if i < W.length then W.getD i 0 else 32) ⟨by omega, fun i hi => by
    show (if 0 + i < W.length then W.getD (0 + i) 0 else 32) = _
    rw [Nat.zero_add, if_pos hi]⟩
  rw [hld] at A
  obtain ⟨S5, g1, g2, g3, g4, g5, g6, g7⟩ := A
  have g1 : zr_sem zF (d + 12) 90 [za 1 0 0, zi (zo (W.length : Int))] S4 = some (.inl (some (zi (zo (a 9)))), S5) := g1
  have g2 : HC S5 0 (fun _ => begR 5 5) a := g2
  have fk : ∀ o i, S4.1 5 0 o i = S2.1 5 0 o i := fun o i => ff.2.2.2.2 5 0 o i (by omega)
  have iv : IV 0 L S5 0 (fun _ => begR 5 5) a := ⟨g2, ⟨wf, li, a9⟩, fun i hi => absurd hi (Nat.not_lt_zero i), ⟨(g7 1 0 10 1 (by omega) (by omega)).trans ((ff.2.2.2.2 1 0 10 1 (by omega)).trans hK.1), (g7 1 0 12 1 (by omega) (by omega)).trans ((ff.2.2.2.2 1 0 12 1 (by omega)).trans hK.2)⟩, (g7 5 0 1 0 (by omega) (by omega)).trans ((fk 1 0).trans h5)⟩
  have w49 := wf.1.2.2.2.2.2.2.2.2.2
  have ff1 : w4.length = w2.length := ff.1
  have ff2 : q_sl w4 = q_sl w2 := ff.2.1
  refine ⟨S5, w4, _, a, iv, by omega, by omega, ?_⟩
  have x37 : ∀ (st : List zV) (nx : List zV → qS → Option qO), qx_ret 0 (q_sem zF (d + 12) 37 [za 1 0 0, za 8 0 0, za 8 k' 0] (S2, w2)) st nx = nx st (S3, w3) := fun st nx => qr_0 e37
  have x38 : ∀ (st : List zV) (nx : List zV → qS → Option qO), qx_ret 1 (q_sem zF (d + 12) 38 [za 1 0 0, za 8 0 0] (S3, w3)) st nx = nx (zi (zo (W.length : Int)) :: st) (S4, w4) := fun st nx => qr_1 e38
  have x39 : ∀ (st : List zV) (nx : List zV → qS → Option qO), qx_ret 5 (q_sem zF (d + 12) 39 [za 5 0 0, zi (zo 0)] (S2, [.inr (.inl (0, [0, 0, 0, 0, 0, zo 0]))])) st nx = nx (za 8 k' 0 :: st) (S2, w2) := fun st nx => qr_r e39
  have x90 := fun (st : List zV) (nx : List zV → qS → Option qO) => qz_1 (w := w4) (st := st) (nx := nx) g1
  have x43 := fun (st : List zV) (nx : List zV → qS → Option qO) => px_43 (d := d) (w := w4) (st := st) (nx := nx) iv
  rw [qy47]
  refine (qf_47_8_51ooooooo__166 (m := 999999999999998)).trans ?_
  refine (qp_new (T := (S2, [])) (n := 6) (by omega) (by omega)).trans ?_
  show qz (d + 12) 47 n 999999999999998 12 [some (za 5 0 0), some (za 1 0 0), none, none, none, none, none, none, none] [za 8 0 0] (S2, [.inr (.inl (0, [0, 0, 0, 0, 0, zo 0]))]) = _
  simp (disch := omega) only [qf_47_12_51ooooooo_8_164, x39, qf_47_20_518oooooo_881_158, x37, qf_47_23_518oooooo__157, x38, qf_47_29_518oooooo_i1_153, x90, qf_47_32_518oooooo_i_152, ps_4 g2.1 wf, qf_47_43_518iooooo_i_145, x43, qf_47_51_518iooooo_i_141, ↓il_n, ↓iq_p, ↓iq_n]
theorem law_ok {L : Nat} (hL : L ≤ 260) (xs : Nat → Int32) : ∃ (N : Nat) (T' : qS), qy 12 47 N 8 qLV [] (kS (qS0 L xs), []) = some (some (zi 1), T') ∧ T'.2.length ≤ 599000 ∧ q_sl T'.2 ≤ 7290000 := by
  obtain ⟨H, h14, hK⟩ := kS_HC (qS0 L xs)
  have h5 : (kS (qS0 L xs)).1 5 0 1 0 = zo (L : Int) := rfl
  obtain ⟨S1, w1, u1, a1, i1, l1, s1, e1⟩ := law_start (d := 0) (n := 7 + 40) (kS (qS0 L xs)) H h14 hK h5 (by omega)
  obtain ⟨S2, w2, k2, u2, a2, i2, f2, kw2, e2⟩ := R59s (d := 0) (n := 7) (show L ≤ 10000 by omega) 40 0 S1 w1 0 u1 a1 0 rfl i1 (by omega)
  obtain ⟨S3, w3, kw3, e3⟩ := Rend (d := 0) (n := 0) (w := w2) i2 (by omega) (show L ≤ 10000 by omega)
  have q1 := kw2.1
  have q2 := kw2.2.1
  have q3 := kw3.1
  have q4 := kw3.2.1
  refine ⟨7 + 40 + 1, (S3, w3), e1.trans (e2.trans e3), ?_, ?_⟩
  · show w3.length ≤ 599000
    omega
  · show q_sl w3 ≤ 7290000
    omega

/-! THE PURE SIDE 55: queries: factors, tests; model -/
section DP
variable {S : zS} {d n p k m : Nat} {tx : Nat → Int} {a : Rw} {st : Et} {T : Int} {f : Et → Rq} {L : List Int} {c o : Int}
theorem Cd_x {S' : zS} (h : Cd S L) (h7 : S'.1 3 0 0 27 = S.1 3 0 0 27) (h8 : ∀ j, S'.1 3 0 8 j = S.1 3 0 8 j) : Cd S' L := ⟨by rw [h7]; exact h.1, h.2.1, fun i hi => by rw [h8]; exact h.2.2 i hi⟩
theorem n284_t (hn : n ≤ 200) (h : RkM S tx n st) (g : Bool) (hg : g = (chO tx n 60 st || (chO tx n 61 st || chO tx n 62 st))) (hL : isO st = true → Cd S L) (hp : ∀ p, st = .ok p → L.length ≤ p) : ∃ S', (zx_ret0 (zr_sem zF (d + 7) 262 [za 3 0 0, zi (zo (bI g)), zi (zo 1)] S) (fun S63 => (zx_ret0 (zr_sem zF (d + 7) 263 [za 3 0 0] S63) (fun S65 => (zx_ret0 (zr_sem zF (d + 7) 283 [za 3 0 0] S65) (fun S67 => (zx_ret0 (zr_sem zF (d + 7) 281 [za 3 0 0, zi (zo c)] S67) (fun S69 => some (.inl none, S69)) zxx)) zxx)) zxx)) zxx) = some (.inl none, S') ∧ RkM S' tx n (valE tx n (sgX tx n st)) ∧ (isO (valE tx n (sgX tx n st)) = true → Cd S' (L ++ [valC tx n (sgX tx n st)] ++ [c])) ∧ S'.1 3 0 0 23 = S.1 3 0 0 23 ∧ Fx S S' := by
  obtain ⟨S1, p1, p2, p3⟩ := n262g (d := d + 6) (c := 1) h g (by omega)
  obtain ⟨S2, q1, q2, q3⟩ := n263 (d := d + 3) p2
  have eX : nxt tx n (ctE tx n g 1 st) = sgX tx n st := by rw [hg]; rfl
  rw [eX] at q2
  have hL2 : isO (sgX tx n st) = true → Cd S2 L := fun z => Cd_l (Cd_l (hL (isO_sgX z)) p3) q3
  have hp2 : ∀ q, sgX tx n st = .ok q → L.length + 1 ≤ q := by
    intro q hq
    cases st with
    | error e => rw [sgX_e] at hq; cases hq
    | ok p =>
      have := sgX_b (RkM_okn h p rfl) hq
      have := hp p rfl
      omega
  obtain ⟨S3, r1, r2, r3, r4, r5⟩ := n283 (d := d) hn q2 hL2 (fun q hq => by have := hp2 q hq; omega)
  obtain ⟨S4, s1, s2, s3, s4, s5⟩ := n281 (d := d + 6) (c := c) (L := L ++ [valC tx n (sgX tx n st)]) r2 (fun z => by
    refine ⟨r3 z, ?_⟩
    rw [List.length_append, List.length_singleton]
    cases e : sgX tx n st with
    | error x => rw [e, valE_e] at z; exact (Bool.false_ne_true z).elim
    | ok q =>
      have h1 := hp2 q e
      have h2 := RkM_okn q2 q e
      cases e2 : valE tx n (.ok q) with
      | error x => rw [e, e2] at z; exact (Bool.false_ne_true z).elim
      | ok q' => have := valE_b h2 e2; omega)
  refine ⟨S4, by rw [p1, zr0, q1, zr0, r1, zr0, s1, zr0], s2, s3, ?_, Fx_trans (Fl_Fx p3) (Fx_trans (Fl_Fx q3) (Fx_trans r5 s5))⟩
  rw [s4, r4, q3.2 _ _ _ _ (by omega), p3.2 _ _ _ _ (by omega)]
theorem n284 (hn : n ≤ 200) (h : RkM S tx n st) (hL : isO st = true → Cd S L) (hp : ∀ p, st = .ok p → L.length ≤ p) : ∃ S', zr_sem zF (d + 8) 284 [za 3 0 0] S = some (.inl none, S') ∧ RkM S' tx n (cmq tx n a st).1 ∧ (isO (cmq tx n a st).1 = true → Cd S' (L ++ (cmq tx n a st).2.1)) ∧ S'.1 3 0 0 23 = S.1 3 0 0 23 ∧ Fx S S' := by
  obtain ⟨S1, p1, p2, p3, p4, p5⟩ := n283 (d := d) hn h hL hp
  have hp1 : ∀ q, valE tx n st = .ok q → (L ++ [valC tx n st]).length ≤ q := by
    intro q hq
    rw [List.length_append, List.length_singleton]
    cases st with
    | error e => rw [valE_e] at hq; cases hq
    | ok p =>
      have := valE_b (RkM_okn h p rfl) hq
      have := hp p rfl
      omega
  have fin : ∀ (c : Int) (g : Bool), c = opC (sgC tx n (valE tx n st)) → g = (chO tx n 60 (valE tx n st) || (chO tx n 61 (valE tx n st) || chO tx n 62 (valE tx n st))) → ∃ S', (zx_ret0 (zr_sem zF (d + 7) 262 [za 3 0 0, zi (zo (bI g)), zi (zo 1)] S1) (fun S63 => (zx_ret0 (zr_sem zF (d + 7) 263 [za 3 0 0] S63) (fun S65 => (zx_ret0 (zr_sem zF (d + 7) 283 [za 3 0 0] S65) (fun S67 => (zx_ret0 (zr_sem zF (d + 7) 281 [za 3 0 0, zi (zo c)] S67) (fun S69 => some (.inl none, S69)) zxx)) zxx)) zxx)) zxx) = some (.inl none, S') ∧ RkM S' tx n (cmq tx n a st).1 ∧ (isO (cmq tx n a st).1 = true → Cd S' (L ++ (cmq tx n a st).2.1)) ∧ S'.1 3 0 0 23 = S.1 3 0 0 23 ∧ Fx S S' := by
    intro c g hc hg
    obtain ⟨S2, q1, q2, q3, q4, q5⟩ := n284_t (d := d) (c := c) hn p2 g hg p3 hp1
    refine ⟨S2, q1, q2, fun z => ?_, by rw [q4, p4], Fx_trans p5 q5⟩
    have := q3 z
    rw [List.append_assoc, List.append_assoc, hc] at this
    exact this
  rw [ze_284, p1, zr0, n264 (d := d + 6) p2 (by omega), zr1]
  cases g0 : chO tx n 60 (valE tx n st) with
  | true =>
    rw [if_neg (by decide)]
    exact fin (-20) true (by unfold sgC; rw [if_pos g0]; rfl) (by rw [g0]; rfl)
  | false =>
    rw [if_pos (show zo (bI false) = zo 0 from rfl), n264 (d := d + 6) p2 (by omega), zr1]
    cases g1 : chO tx n 61 (valE tx n st) with
    | true =>
      rw [if_neg (by decide)]
      exact fin (-21) true (by unfold sgC; rw [if_neg (by rw [g0]; decide), if_pos g1]; rfl) (by rw [g0, g1]; rfl)
    | false =>
      rw [if_pos (show zo (bI false) = zo 0 from rfl), n264 (d := d + 6) p2 (by omega), zr1]
      have eo : (-22 : Int) = opC (sgC tx n (valE tx n st)) := by unfold sgC; rw [if_neg (by rw [g0]; decide), if_neg (by rw [g1]; decide)]; rfl
      cases g2 : chO tx n 62 (valE tx n st) with
      | true =>
        rw [if_neg (by decide)]
        exact fin (-22) true eo (by rw [g0, g1, g2]; rfl)
      | false =>
        rw [if_pos (show zo (bI false) = zo 0 from rfl)]
        exact fin (-22) false eo (by rw [g0, g1, g2]; rfl)
theorem n282 (h : RkM S tx n st) (ho : 0 ≤ o ∧ o ≤ 6) (h23 : S.1 3 0 0 23 = zo o) : ∃ S', zr_sem zF (d + 5) 282 [za 3 0 0] S = some (.inl none, S') ∧ RkM S' tx n (nxt tx n (ctE tx n (decide (o < 6)) 3 st)) ∧ (∀ L, Cd S L → Cd S' L) ∧ S'.1 3 0 0 23 = zo (o + 1) ∧ Fx S S' := by
  have main : ∀ g : Bool, g = decide (o < 6) → ∃ S', (zx_ret0 (zr_sem zF (d + 4) 262 [za 3 0 0, zi (zo (bI g)), zi (zo 3)] S) (fun S5 => (zx_ret0 (zr_sem zF (d + 4) 263 [za 3 0 0] (zs_set S5 3 0 0 23 ((S5.1 3 0 0 23) + (zo 1)))) (fun S7 => some (.inl none, S7)) zxx)) zxx) = some (.inl none, S') ∧ RkM S' tx n (nxt tx n (ctE tx n (decide (o < 6)) 3 st)) ∧ (∀ L, Cd S L → Cd S' L) ∧ S'.1 3 0 0 23 = zo (o + 1) ∧ Fx S S' := by
    intro g hg
    obtain ⟨S1, p1, p2, p3⟩ := n262g (d := d + 3) (c := 3) h g (by omega)
    rw [hg] at p2
    have p2' : RkM (zs_set S1 3 0 0 23 ((S1.1 3 0 0 23) + (zo 1))) tx n (ctE tx n (decide (o < 6)) 3 st) := RkM_y p2 (fun j hj => zs_oth (by omega)) (fun j => zs_oth (by omega))
    obtain ⟨S2, q1, q2, q3⟩ := n263 (d := d) p2'
    refine ⟨S2, by rw [p1, zr0, q1, zr0], q2, fun L hC => Cd_x hC ?_ (fun j => ?_), ?_, q3.1.trans p3.1, fun k m o j b => ?_⟩
    · rw [q3.2 _ _ _ _ (by omega), zs_oth (by omega), p3.2 _ _ _ _ (by omega)]
    · rw [q3.2 _ _ _ _ (by omega), zs_oth (by omega), p3.2 _ _ _ _ (by omega)]
    · rw [q3.2 _ _ _ _ (by omega), zs_self, p3.2 _ _ _ _ (by omega), h23, zo_add]
    · rw [q3.2 _ _ _ _ (by omega), zs_oth (by omega), p3.2 _ _ _ _ (by omega)]
  rw [ze_282, h23]
  by_cases c : o < 6
  · rw [if_neg (by rw [zo_le (by omega) (by omega) (by omega) (by omega)]; omega)]
    exact main true (decide_eq_true c).symm
  · rw [if_pos (by rw [zo_le (by omega) (by omega) (by omega) (by omega)]; omega)]
    exact main false (decide_eq_false c).symm
theorem n286_l (hf : FM tx n 285 (d + 9) o f) (hA : Af n f) (hn : n ≤ 200) : ∀ (m fu : Nat) (S : zS) (r : Rq) (L : List Int), rem n r.1 ≤ m → m < fu → RkM S tx n r.1 → S.1 3 0 0 23 = zo o → (isO r.1 = true → Cd S (L ++ r.2.1)) → (∀ p, r.1 = .ok p → L.length + r.2.1.length ≤ p) → ∃ S', zy zF (d + 9) 286 fu 4 [some (za 3 0 0)] S = some (.inl none, S') ∧ RkM S' tx n (cjL tx n f m r).1 ∧ (isO (cjL tx n f m r).1 = true → Cd S' (L ++ (cjL tx n f m r).2.1)) ∧ S'.1 3 0 0 23 = zo o ∧ Fx S S' := by
  intro m
  induction m with
  | zero =>
    intro fu S r L hr hfu h h23 hL hp
    obtain ⟨fu, rfl⟩ : ∃ f', fu = f' + 1 := ⟨fu - 1, by omega⟩
    obtain ⟨S1, p1, p2, p3, p4⟩ := n266 (d := d + 2) (t := 0) h (show 0 < txl 0 by decide)
    have k0 := rem_0 (tx := tx) (t := 0) (RkM_okn h) (by omega)
    rw [k0] at p1 p2
    rw [ze_286_4, p1, zr1, if_pos (show zo (bI false) = zo 0 from rfl)]
    rw [if_neg (by decide)] at p2
    exact ⟨S1, rfl, p2, fun z => Cd_l (hL z) p3, by rw [p3.2 _ _ _ _ (by omega)]; exact h23, Fl_Fx p3⟩
  | succ m ih =>
    intro fu S r L hr hfu h h23 hL hp
    obtain ⟨fu, rfl⟩ : ∃ f', fu = f' + 1 := ⟨fu - 1, by omega⟩
    obtain ⟨S1, p1, p2, p3, p4⟩ := n266 (d := d + 2) (t := 0) h (show 0 < txl 0 by decide)
    rw [ze_286_4, p1, zr1]
    cases g : kwO tx n 0 r.1 with
    | false =>
      rw [g, if_neg (by decide)] at p2
      rw [if_pos (show zo (bI false) = zo 0 from rfl)]
      have e : cjL tx n f (m + 1) r = r := by
        show (if kwO tx n 0 r.1 = true then _ else _) = _
        rw [g, if_neg (by decide)]
      rw [e]
      exact ⟨S1, rfl, p2, fun z => Cd_l (hL z) p3, by rw [p3.2 _ _ _ _ (by omega)]; exact h23, Fl_Fx p3⟩
    | true =>
      rw [g, if_pos rfl] at p2
      rw [if_neg (by decide)]
      have rf := rem_f hA (RkM_okn h) g
      have o1 : isO r.1 = true := by
        obtain ⟨p, e, _⟩ := kwO_ok g
        rw [e]; rfl
      have hp1 : ∀ q, nxt tx n r.1 = .ok q → L.length + r.2.1.length + 1 ≤ q := by
        intro q hq
        obtain ⟨p, e, _⟩ := kwO_ok g
        have b := nx_b (tx := tx) (RkM_okn h p e)
        rw [e] at g hq
        have := b.2.2 (by have := kwO_t g; omega)
        have := hp p e
        have e2 : tkE tx n p = q := by injection hq
        omega
      obtain ⟨S2, q1, q2, q3, q4, q5⟩ := hf S1 (nxt tx n r.1) (L ++ r.2.1) p2 (by rw [p3.2 _ _ _ _ (by omega)]; exact h23) (fun _ => Cd_l (hL o1) p3) (fun q hq => by
        rw [List.length_append]
        have := hp1 q hq
        omega)
      have hlen : ∀ q, (f (nxt tx n r.1)).1 = .ok q → L.length + r.2.1.length + (f (nxt tx n r.1)).2.1.length + 1 ≤ q ∧ q ≤ n := by
        intro q hq
        cases e1 : nxt tx n r.1 with
        | error x => rw [e1, hA.1 x] at hq; cases hq
        | ok q1 =>
          rw [e1] at hq
          have h1 := hp1 q1 e1
          have h2 := hA.2 q1 q (RkM_okn p2 q1 e1) hq
          omega
      obtain ⟨S3, r1, r2, r3, r4, r5⟩ := n281 (d := d + 8) (c := (-24)) (L := L ++ r.2.1 ++ (f (nxt tx n r.1)).2.1) q2 (fun z => by
        refine ⟨q3 z, ?_⟩
        rw [List.length_append, List.length_append]
        cases e2 : (f (nxt tx n r.1)).1 with
        | error x => rw [e2] at z; exact (Bool.false_ne_true z).elim
        | ok q2 => have := hlen q2 e2; omega)
      rw [q1, zr0, r1, zr0]
      obtain ⟨R, hR⟩ : ∃ R : Rq, R = ((f (nxt tx n r.1)).1, r.2.1 ++ (f (nxt tx n r.1)).2.1 ++ [(-24)], fun b => r.2.2 b && (f (nxt tx n r.1)).2.2 b) := ⟨_, rfl⟩
      have e : cjL tx n f (m + 1) r = cjL tx n f m R := by
        show (if kwO tx n 0 r.1 = true then _ else _) = _
        rw [if_pos g, hR]
      have e1 : R.1 = (f (nxt tx n r.1)).1 := by rw [hR]
      have e2 : R.2.1 = r.2.1 ++ (f (nxt tx n r.1)).2.1 ++ [(-24)] := by rw [hR]
      rw [e]
      obtain ⟨S4, s1, s2, s3, s4, s5⟩ := ih fu S3 R L (by rw [e1]; omega) (by omega) (by rw [e1]; exact r2) (by rw [r4, q4]) (fun z => by
        rw [e1] at z
        have := r3 z
        rw [e2, ← List.append_assoc, ← List.append_assoc]
        exact this) (fun q hq => by
        rw [e1] at hq
        have := hlen q hq
        rw [e2, List.length_append, List.length_append, List.length_singleton]
        omega)
      exact ⟨S4, s1, s2, s3, s4, Fx_trans (Fl_Fx p3) (Fx_trans q5 (Fx_trans r5 s5))⟩
theorem n286 (hf : FM tx n 285 (d + 9) o f) (hA : Af n f) (hn : n ≤ 200) : FM tx n 286 ((d + 9) + 1) o (cnj tx n f) := by
  intro S st L h h23 hL hp
  have hb := zF1_big
  obtain ⟨S1, p1, p2, p3, p4, p5⟩ := hf S st L h h23 hL hp
  have hA2 : Af n f := hA
  obtain ⟨S2, q1, q2, q3, q4, q5⟩ := n286_l hf hA2 hn 200 zF1 S1 (f st) L (by
    cases e : (f st).1 with
    | ok p => have : n - p ≤ 200 := by omega
              exact this
    | error e => exact Nat.zero_le _) (by omega) p2 p4 p3 (fun q hq => by
    cases st with
    | error x => rw [hA2.1 x] at hq; cases hq
    | ok p =>
      have := hA2.2 p q (RkM_okn h p rfl) hq
      have := hp p rfl
      omega)
  exact ⟨S2, by rw [ze_286, p1, zr0]; exact q1, q2, q3, q4, Fx_trans p5 q5⟩
theorem n287_l (hf : FM tx n 286 (d + 9) o (cnj tx n f)) (hA : Af n (cnj tx n f)) (hn : n ≤ 200) : ∀ (m fu : Nat) (S : zS) (r : Rq) (L : List Int), rem n r.1 ≤ m → m < fu → RkM S tx n r.1 → S.1 3 0 0 23 = zo o → (isO r.1 = true → Cd S (L ++ r.2.1)) → (∀ p, r.1 = .ok p → L.length + r.2.1.length ≤ p) → ∃ S', zy zF (d + 9) 287 fu 4 [some (za 3 0 0)] S = some (.inl none, S') ∧ RkM S' tx n (tsL tx n f m r).1 ∧ (isO (tsL tx n f m r).1 = true → Cd S' (L ++ (tsL tx n f m r).2.1)) ∧ S'.1 3 0 0 23 = zo o ∧ Fx S S' := by
  intro m
  induction m with
  | zero =>
    intro fu S r L hr hfu h h23 hL hp
    obtain ⟨fu, rfl⟩ : ∃ f', fu = f' + 1 := ⟨fu - 1, by omega⟩
    obtain ⟨S1, p1, p2, p3, p4⟩ := n266 (d := d + 2) (t := 14) h (show 0 < txl 14 by decide)
    have k0 := rem_0 (tx := tx) (t := 14) (RkM_okn h) (by omega)
    rw [k0] at p1 p2
    rw [ze_287_4, p1, zr1, if_pos (show zo (bI false) = zo 0 from rfl)]
    rw [if_neg (by decide)] at p2
    exact ⟨S1, rfl, p2, fun z => Cd_l (hL z) p3, by rw [p3.2 _ _ _ _ (by omega)]; exact h23, Fl_Fx p3⟩
  | succ m ih =>
    intro fu S r L hr hfu h h23 hL hp
    obtain ⟨fu, rfl⟩ : ∃ f', fu = f' + 1 := ⟨fu - 1, by omega⟩
    obtain ⟨S1, p1, p2, p3, p4⟩ := n266 (d := d + 2) (t := 14) h (show 0 < txl 14 by decide)
    rw [ze_287_4, p1, zr1]
    cases g : kwO tx n 14 r.1 with
    | false =>
      rw [g, if_neg (by decide)] at p2
      rw [if_pos (show zo (bI false) = zo 0 from rfl)]
      have e : tsL tx n f (m + 1) r = r := by
        show (if kwO tx n 14 r.1 = true then _ else _) = _
        rw [g, if_neg (by decide)]
      rw [e]
      exact ⟨S1, rfl, p2, fun z => Cd_l (hL z) p3, by rw [p3.2 _ _ _ _ (by omega)]; exact h23, Fl_Fx p3⟩
    | true =>
      rw [g, if_pos rfl] at p2
      rw [if_neg (by decide)]
      have rf := rem_f hA (RkM_okn h) g
      have o1 : isO r.1 = true := by
        obtain ⟨p, e, _⟩ := kwO_ok g
        rw [e]; rfl
      have hp1 : ∀ q, nxt tx n r.1 = .ok q → L.length + r.2.1.length + 1 ≤ q := by
        intro q hq
        obtain ⟨p, e, _⟩ := kwO_ok g
        have b := nx_b (tx := tx) (RkM_okn h p e)
        rw [e] at g hq
        have := b.2.2 (by have := kwO_t g; omega)
        have := hp p e
        have e2 : tkE tx n p = q := by injection hq
        omega
      obtain ⟨S2, q1, q2, q3, q4, q5⟩ := hf S1 (nxt tx n r.1) (L ++ r.2.1) p2 (by rw [p3.2 _ _ _ _ (by omega)]; exact h23) (fun _ => Cd_l (hL o1) p3) (fun q hq => by
        rw [List.length_append]
        have := hp1 q hq
        omega)
      have hlen : ∀ q, ((cnj tx n f) (nxt tx n r.1)).1 = .ok q → L.length + r.2.1.length + ((cnj tx n f) (nxt tx n r.1)).2.1.length + 1 ≤ q ∧ q ≤ n := by
        intro q hq
        cases e1 : nxt tx n r.1 with
        | error x => rw [e1, hA.1 x] at hq; cases hq
        | ok q1 =>
          rw [e1] at hq
          have h1 := hp1 q1 e1
          have h2 := hA.2 q1 q (RkM_okn p2 q1 e1) hq
          omega
      obtain ⟨S3, r1, r2, r3, r4, r5⟩ := n281 (d := d + 8) (c := (-25)) (L := L ++ r.2.1 ++ ((cnj tx n f) (nxt tx n r.1)).2.1) q2 (fun z => by
        refine ⟨q3 z, ?_⟩
        rw [List.length_append, List.length_append]
        cases e2 : ((cnj tx n f) (nxt tx n r.1)).1 with
        | error x => rw [e2] at z; exact (Bool.false_ne_true z).elim
        | ok q2 => have := hlen q2 e2; omega)
      rw [q1, zr0, r1, zr0]
      obtain ⟨R, hR⟩ : ∃ R : Rq, R = (((cnj tx n f) (nxt tx n r.1)).1, r.2.1 ++ ((cnj tx n f) (nxt tx n r.1)).2.1 ++ [(-25)], fun b => r.2.2 b || ((cnj tx n f) (nxt tx n r.1)).2.2 b) := ⟨_, rfl⟩
      have e : tsL tx n f (m + 1) r = tsL tx n f m R := by
        show (if kwO tx n 14 r.1 = true then _ else _) = _
        rw [if_pos g, hR]
      have e1 : R.1 = ((cnj tx n f) (nxt tx n r.1)).1 := by rw [hR]
      have e2 : R.2.1 = r.2.1 ++ ((cnj tx n f) (nxt tx n r.1)).2.1 ++ [(-25)] := by rw [hR]
      rw [e]
      obtain ⟨S4, s1, s2, s3, s4, s5⟩ := ih fu S3 R L (by rw [e1]; omega) (by omega) (by rw [e1]; exact r2) (by rw [r4, q4]) (fun z => by
        rw [e1] at z
        have := r3 z
        rw [e2, ← List.append_assoc, ← List.append_assoc]
        exact this) (fun q hq => by
        rw [e1] at hq
        have := hlen q hq
        rw [e2, List.length_append, List.length_append, List.length_singleton]
        omega)
      exact ⟨S4, s1, s2, s3, s4, Fx_trans (Fl_Fx p3) (Fx_trans q5 (Fx_trans r5 s5))⟩
theorem n287 (hf : FM tx n 286 (d + 9) o (cnj tx n f)) (hA : Af n f) (hn : n ≤ 200) : FM tx n 287 ((d + 9) + 1) o (tst tx n f) := by
  intro S st L h h23 hL hp
  have hb := zF1_big
  obtain ⟨S1, p1, p2, p3, p4, p5⟩ := hf S st L h h23 hL hp
  have hA2 : Af n (cnj tx n f) := cnj_A hA
  obtain ⟨S2, q1, q2, q3, q4, q5⟩ := n287_l hf hA2 hn 200 zF1 S1 ((cnj tx n f) st) L (by
    cases e : ((cnj tx n f) st).1 with
    | ok p => have : n - p ≤ 200 := by omega
              exact this
    | error e => exact Nat.zero_le _) (by omega) p2 p4 p3 (fun q hq => by
    cases st with
    | error x => rw [hA2.1 x] at hq; cases hq
    | ok p =>
      have := hA2.2 p q (RkM_okn h p rfl) hq
      have := hp p rfl
      omega)
  exact ⟨S2, by rw [ze_287, p1, zr0]; exact q1, q2, q3, q4, Fx_trans p5 q5⟩
def tkO (tx : Nat → Int) (n : Nat) (st : Et) : Prop := ∀ p, st = .ok p → tkT tx n p ≠ 0
/-- the nested count falls -/
theorem n285_d (h : RkM S tx n st) (hL : isO st = true → Cd S L) (h23 : S.1 3 0 0 23 = zo (o + 1)) : RkM (zs_set S 3 0 0 23 ((S.1 3 0 0 23) - (zo 1))) tx n st ∧ (isO st = true → Cd (zs_set S 3 0 0 23 ((S.1 3 0 0 23) - (zo 1))) L) ∧ (zs_set S 3 0 0 23 ((S.1 3 0 0 23) - (zo 1))).1 3 0 0 23 = zo o ∧ Fx S (zs_set S 3 0 0 23 ((S.1 3 0 0 23) - (zo 1))) := by
  refine ⟨RkM_y h (fun j hj => zs_oth (by omega)) (fun j => zs_oth (by omega)), fun z => Cd_x (hL z) (zs_oth (by omega)) (fun j => zs_oth (by omega)), ?_, rfl, fun k m o j b => zs_oth (by omega)⟩
  rw [zs_self, h23, zo_sub]
  congr 1
  omega
theorem n285 (hn : n ≤ 200) : ∀ (k e : Nat) (o : Int), o + k = 6 → 0 ≤ o → FM tx n 285 (e + 3 * k + 9) o (fac tx n a k) := by
  intro k
  induction k with
  | zero =>
    intro e o ho h0 S st L h h23 hL hp
    have : o = 6 := by omega
    subst this
    show ∃ S', zr_sem zF (e + 8 + 1) 285 [za 3 0 0] S = _ ∧ _
    rw [ze_285, n265 (d := e + 2) h (show 0 < txl 13 by decide), zr1]
    obtain ⟨S1, p1, p2, p3, p4, p5⟩ := n282 (d := e + 3) h (by omega) h23
    have p2 : RkM S1 tx n (nxt tx n (ert tx n 3 st)) := p2
    have e20 := RkM_20 p2
    rw [isO_nxt, isO_ert, if_neg (by decide)] at e20
    have bad : isO st = true → RkM S1 tx n (ert tx n 3 st) := by
      intro z
      cases st with
      | ok p => exact p2
      | error e => exact (Bool.false_ne_true z).elim
    cases g : kwO tx n 13 st with
    | true =>
      have o1 : isO st = true := by
        obtain ⟨p, rfl, _⟩ := kwO_ok g
        rfl
      rw [if_neg (by decide), p1, zr0, if_neg e20]
      obtain ⟨S2, q1, q2, q3, q4, q5⟩ := n281 (d := e + 7) (c := -23) (L := []) (bad o1) (fun z => by rw [isO_ert] at z; exact (Bool.false_ne_true z).elim)
      rw [q1, zr0]
      obtain ⟨r1, r2, r3, r4⟩ := n285_d (L := []) (o := 6) q2 (fun z => by rw [isO_ert] at z; exact (Bool.false_ne_true z).elim) (by rw [q4, p4])
      have ef : fac tx n a 0 st = (ert tx n 3 st, [], fun _ => false) := by unfold fac; rw [if_pos g]
      rw [ef]
      exact ⟨_, rfl, r1, fun z => by rw [isO_ert] at z; exact (Bool.false_ne_true z).elim, r3, Fx_trans p5 (Fx_trans q5 r4)⟩
    | false =>
      rw [if_pos (show zo (bI false) = zo 0 from rfl), n264 (d := e + 7) h (by omega), zr1]
      cases g2 : chO tx n 40 st with
      | true =>
        have o1 : isO st = true := by
          cases st with
          | ok p => rfl
          | error x => cases g2
        rw [if_neg (by decide), p1, zr0, if_neg e20]
        obtain ⟨S2, q1, q2, q3⟩ := n267 (d := e + 3) (c := 41) (bad o1) (by omega)
        rw [q1, zr0]
        have q2 : RkM S2 tx n (ert tx n 3 st) := by
          cases st with
          | ok p => exact q2
          | error x => cases o1
        obtain ⟨r1, r2, r3, r4⟩ := n285_d (L := []) (o := 6) q2 (fun z => by rw [isO_ert] at z; exact (Bool.false_ne_true z).elim) (by rw [q3.2 _ _ _ _ (by omega), p4])
        have ef : fac tx n a 0 st = (ert tx n 3 st, [], fun _ => false) := by unfold fac; rw [g, if_neg (by decide), if_pos g2]
        rw [ef]
        exact ⟨_, rfl, r1, fun z => by rw [isO_ert] at z; exact (Bool.false_ne_true z).elim, r3, Fx_trans p5 (Fx_trans (Fl_Fx q3) r4)⟩
      | false =>
        rw [if_pos (show zo (bI false) = zo 0 from rfl)]
        obtain ⟨S2, q1, q2, q3, q4, q5⟩ := n284 (d := e) (a := a) hn h hL hp
        have ef : fac tx n a 0 st = cmq tx n a st := by unfold fac; rw [g, if_neg (by decide), g2, if_neg (by decide)]
        rw [q1, zr0, ef]
        exact ⟨S2, rfl, q2, q3, by rw [q4]; exact h23, q5⟩
  | succ k ih =>
    intro e o ho h0 S st L h h23 hL hp
    show ∃ S', zr_sem zF (e + 3 * k + 11 + 1) 285 [za 3 0 0] S = _ ∧ _
    rw [ze_285, n265 (d := e + 3 * k + 5) h (show 0 < txl 13 by decide), zr1]
    obtain ⟨S1, p1, p2, p3, p4, p5⟩ := n282 (d := e + 3 * k + 6) h (by omega) h23
    rw [show ctE tx n (decide (o < 6)) 3 st = st by rw [decide_eq_true (by omega)]; rfl] at p2
    have e20 := RkM_20 p2
    rw [isO_nxt] at e20
    have hp1 : isO st = true → tkO tx n st → ∀ q, nxt tx n st = .ok q → L.length + 1 ≤ q := by
      intro o1 ht q hq
      cases st with
      | error x => exact (Bool.false_ne_true o1).elim
      | ok p =>
        have b := nx_b (tx := tx) (RkM_okn h p rfl)
        have := b.2.2 (ht p rfl)
        have := hp p rfl
        have e2 : tkE tx n p = q := by injection hq
        omega
    cases g : kwO tx n 13 st with
    | true =>
      have o1 : isO st = true := by
        obtain ⟨p, rfl, _⟩ := kwO_ok g
        rfl
      have ht : tkO tx n st := fun p hp => by rw [hp] at g; have := kwO_t g; omega
      rw [o1, if_pos rfl] at e20
      rw [if_neg (by decide), p1, zr0, if_pos e20]
      have hF := ih (e + 2) (o + 1) (by omega) (by omega)
      rw [show e + 2 + 3 * k + 9 = e + 3 * k + 11 by omega] at hF
      have hp1' := hp1 o1 ht
      obtain ⟨S2, q1, q2, q3, q4, q5⟩ := hF S1 (nxt tx n st) L p2 p4 (fun _ => p3 L (hL o1)) (fun q hq => by have := hp1' q hq; omega)
      obtain ⟨S3, r1, r2, r3, r4, r5⟩ := n281 (d := e + 3 * k + 10) (c := -23) (L := L ++ (fac tx n a k (nxt tx n st)).2.1) q2 (fun z => by
        refine ⟨q3 z, ?_⟩
        rw [List.length_append]
        cases e1 : nxt tx n st with
        | error x => rw [e1, (fac_A k).1 x] at z; exact (Bool.false_ne_true z).elim
        | ok q =>
          cases e2 : (fac tx n a k (.ok q)).1 with
          | error x => rw [e1, e2] at z; exact (Bool.false_ne_true z).elim
          | ok q2 =>
            have h1 := hp1' q e1
            have h2 := (fac_A k).2 q q2 (RkM_okn p2 q e1) e2
            omega)
      rw [q1, zr0, r1, zr0]
      obtain ⟨s1, s2, s3, s4⟩ := n285_d (o := o) r2 r3 (by rw [r4, q4])
      have ef : fac tx n a (k + 1) st = ((fac tx n a k (nxt tx n st)).1, (fac tx n a k (nxt tx n st)).2.1 ++ [-23], fun b => !(fac tx n a k (nxt tx n st)).2.2 b) := by
        show (if kwO tx n 13 st = true then _ else _) = _
        rw [if_pos g]
      rw [ef]
      refine ⟨_, rfl, s1, fun z => ?_, s3, Fx_trans p5 (Fx_trans q5 (Fx_trans r5 s4))⟩
      have := s2 z
      rw [List.append_assoc] at this
      exact this
    | false =>
      rw [if_pos (show zo (bI false) = zo 0 from rfl), n264 (d := e + 3 * k + 10) h (by omega), zr1]
      cases g2 : chO tx n 40 st with
      | true =>
        have o1 : isO st = true := by
          cases st with
          | ok p => rfl
          | error x => cases g2
        have ht : tkO tx n st := fun p hp => by rw [hp] at g2; have := chO_t g2; omega
        rw [o1, if_pos rfl] at e20
        rw [if_neg (by decide), p1, zr0, if_pos e20]
        have hp1' := hp1 o1 ht
        have hF := ih e (o + 1) (by omega) (by omega)
        have hG := n287 (d := e + 3 * k + 1) (n286 (d := e + 3 * k) hF (fac_A k) hn) (fac_A k) hn
        obtain ⟨S2, q1, q2, q3, q4, q5⟩ := hG S1 (nxt tx n st) L p2 p4 (fun _ => p3 L (hL o1)) (fun q hq => by have := hp1' q hq; omega)
        obtain ⟨S3, r1, r2, r3⟩ := n267 (d := e + 3 * k + 6) (c := 41) q2 (by omega)
        rw [q1, zr0, r1, zr0]
        obtain ⟨s1, s2, s3, s4⟩ := n285_d (o := o) (L := L ++ (tst tx n (fac tx n a k) (nxt tx n st)).2.1) r2 (fun z => Cd_l (q3 (isO_ceE z)) r3) (by rw [r3.2 _ _ _ _ (by omega), q4])
        have ef : fac tx n a (k + 1) st = (ceE tx n 41 (tst tx n (fac tx n a k) (nxt tx n st)).1, (tst tx n (fac tx n a k) (nxt tx n st)).2) := by
          show (if kwO tx n 13 st = true then _ else if chO tx n 40 st = true then _ else _) = _
          rw [g, if_neg (by decide), if_pos g2]
        rw [ef]
        exact ⟨_, rfl, s1, s2, s3, Fx_trans p5 (Fx_trans q5 (Fx_trans (Fl_Fx r3) s4))⟩
      | false =>
        rw [if_pos (show zo (bI false) = zo 0 from rfl)]
        obtain ⟨S2, q1, q2, q3, q4, q5⟩ := n284 (d := e + 3 * k + 3) (a := a) hn h hL hp
        have ef : fac tx n a (k + 1) st = cmq tx n a st := by
          show (if kwO tx n 13 st = true then _ else if chO tx n 40 st = true then _ else _) = _
          rw [g, if_neg (by decide), g2, if_neg (by decide)]
        rw [q1, zr0, ef]
        exact ⟨S2, rfl, q2, q3, by rw [q4]; exact h23, q5⟩
end DP

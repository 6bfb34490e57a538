/-! THE PURE SIDE 52: queries: factors, tests; class -/
def FS (tx : Nat → Int) (n : Nat) (a : Rw) (d : Nat) (o : Int) (f : Et → Rq) : Prop := ∀ S st, RkC S tx n st → Cb (S.1 0 0) a → ∃ v S', zr_sem zF d 58 [za 1 0 18, zi (zo o)] S = some (.inl (some (zi v)), S') ∧ RkC S' tx n (f st).1 ∧ (isO (f st).1 = true → MkB v (f st).2.2 (a 9).toNat) ∧ Fk S S'
section DM
variable {S : zS} {d n p k m : Nat} {tx : Nat → Int} {a : Rw} {st : Et} {T : Int} {P Q : Nat → Bool} {v w : Int32} {f : Et → Rq}
theorem isO_valE (h : isO (valE tx n st) = true) : isO st = true := by
  cases st with
  | ok p => rfl
  | error e => rw [valE_e] at h; cases h
theorem isO_sgX (h : isO (sgX tx n st) = true) : isO st = true := by
  cases st with
  | ok p => rfl
  | error e => rw [sgX_e] at h; cases h
theorem RkC_okn (h : RkC S tx n st) : okn n st := by
  intro q hq
  subst hq
  obtain ⟨hT, p, hP, hE⟩ := h
  have e := hE.1
  rw [e]; exact hP.1
theorem kwO_g (h : goO tx n st = false) (t : Nat) : kwO tx n t st = false := by
  cases st with
  | error e => rfl
  | ok p =>
    rw [Bool.eq_false_iff]
    intro c
    have := kwO_t c
    have h : decide (tkT tx n p ≠ 0) = false := h
    rw [decide_eq_false_iff_not] at h
    exact h (by omega)
theorem k57_l {o : Int} (hf : FS tx n a (d + 7) o f) (hA : Af n f) (hn : n ≤ 200) : ∀ (m k fu : Nat) (S : zS) (st : Et) (A B : Nat → Bool) (vA vB : Int32), k + m = 200 → m < fu → RkC S tx n st → Cb (S.1 0 0) a → (∀ p, st = .ok p → k ≤ p) → (isO st = true → MkB vA A (a 9).toNat ∧ MkB vB B (a 9).toNat) → ∃ v S', zy zF (d + 7) 57 fu 11 [some (za 1 0 18), some (zi (zo o)), some (zi vA), some (zi vB), some (zi (zo k))] S = some (.inl (some (zi v)), S') ∧ RkC S' tx n (flL tx n f m st A B).1 ∧ (isO (flL tx n f m st A B).1 = true → MkB v (flL tx n f m st A B).2 (a 9).toNat) ∧ Fk S S' := by
  intro m
  induction m with
  | zero =>
    intro k fu S st A B vA vB hk hfu h hC hp hM
    obtain ⟨fu, rfl⟩ : ∃ f', fu = f' + 1 := ⟨fu - 1, by omega⟩
    refine ⟨vA ||| vB, S, ?_, h, fun z => MkB_or (hM z).1 (hM z).2, Fk_refl S⟩
    rw [ze_57_11, if_pos (by rw [zo_le (by omega) (by omega) (by omega) (by omega)]; omega)]
  | succ m ih =>
    intro k fu S st A B vA vB hk hfu h hC hp hM
    obtain ⟨fu, rfl⟩ : ∃ f', fu = f' + 1 := ⟨fu - 1, by omega⟩
    rw [ze_57_11, if_neg (by rw [zo_le (by omega) (by omega) (by omega) (by omega)]; omega), k74 (d := d + 6) h, zr1]
    have e1 : zo (k : Int) + zo 1 = zo ((k + 1 : Nat) : Int) := by rw [zo_add]; rfl
    cases g : goO tx n st with
    | false =>
      refine ⟨vA ||| vB, S, by rw [if_pos (show zo (bI false) = zo 0 from rfl)], ?_⟩
      have e : flL tx n f (m + 1) st A B = (st, fun b => A b || B b) := by
        show (if kwO tx n 0 st = true then _ else if kwO tx n 14 st = true then _ else _) = _
        rw [kwO_g g, kwO_g g, if_neg (by decide), if_neg (by decide)]
      rw [e]
      exact ⟨h, fun z => MkB_or (hM z).1 (hM z).2, Fk_refl S⟩
    | true =>
      have o := go_O g
      rw [if_neg (by decide)]
      obtain ⟨b, S1, p1, p2, p3, p4⟩ := k78 (d := d) (t := 0) h (show 0 < txl 0 by decide)
      have g3 := p3 o
      rw [p1, zr1]
      have hC1 : Cb (S1.1 0 0) a := by rw [Fk_0 p4 0]; exact hC
      have nk : ∀ (t : Nat), kwO tx n t st = true → ∀ q, (f (nxt tx n st)).1 = .ok q → k + 1 ≤ q := by
        intro t ht q hq
        obtain ⟨p, rfl, _⟩ := kwO_ok ht
        have b := nx_b (tx := tx) (RkC_okn h p rfl)
        have b2 := b.2.2 (by have := kwO_t ht; omega)
        have := hA.2 _ q b.1 hq
        have := hp p rfl
        omega
      cases b with
      | true =>
        rw [if_neg (by decide)]
        rw [if_pos rfl] at p2
        obtain ⟨v2, S2, q1, q2, q3, q4⟩ := hf S1 (nxt tx n st) p2 hC1
        have hC2 : Cb (S2.1 0 0) a := by rw [Fk_0 q4 0]; exact hC1
        rw [q1, zr1, e1]
        obtain ⟨v3, S3, r1, r2, r3, r4⟩ := ih (k + 1) fu S2 (f (nxt tx n st)).1 A (fun b => B b && (f (nxt tx n st)).2.2 b) vA (vB &&& v2) (by omega) (by omega) q2 hC2 (nk 0 g3.symm) (fun z => ⟨(hM o).1, MkB_and (hM o).2 (q3 z)⟩)
        have e : flL tx n f (m + 1) st A B = flL tx n f m (f (nxt tx n st)).1 A (fun b => B b && (f (nxt tx n st)).2.2 b) := by
          show (if kwO tx n 0 st = true then _ else if kwO tx n 14 st = true then _ else _) = _
          rw [if_pos g3.symm]
        rw [e]
        exact ⟨v3, S3, r1, r2, r3, Fk_trans p4 (Fk_trans q4 r4)⟩
      | false =>
        rw [if_pos (show zo (bI false) = zo 0 from rfl)]
        rw [if_neg (by decide)] at p2
        obtain ⟨b, S2, s1, s2, s3, s4⟩ := k78 (d := d) (t := 14) p2 (show 0 < txl 14 by decide)
        have g4 := s3 o
        rw [s1, zr1]
        have hC2 : Cb (S2.1 0 0) a := by rw [Fk_0 s4 0]; exact hC1
        cases b with
        | true =>
          rw [if_neg (by decide)]
          rw [if_pos rfl] at s2
          obtain ⟨v2, S3, q1, q2, q3, q4⟩ := hf S2 (nxt tx n st) s2 hC2
          have hC3 : Cb (S3.1 0 0) a := by rw [Fk_0 q4 0]; exact hC2
          rw [q1, zr1, e1]
          obtain ⟨v3, S4, r1, r2, r3, r4⟩ := ih (k + 1) fu S3 (f (nxt tx n st)).1 (fun b => A b || B b) (f (nxt tx n st)).2.2 (vA ||| vB) v2 (by omega) (by omega) q2 hC3 (nk 14 g4.symm) (fun z => ⟨MkB_or (hM o).1 (hM o).2, q3 z⟩)
          have e : flL tx n f (m + 1) st A B = flL tx n f m (f (nxt tx n st)).1 (fun b => A b || B b) (f (nxt tx n st)).2.2 := by
            show (if kwO tx n 0 st = true then _ else if kwO tx n 14 st = true then _ else _) = _
            rw [← g3, if_neg (by decide), if_pos g4.symm]
          rw [e]
          exact ⟨v3, S4, r1, r2, r3, Fk_trans p4 (Fk_trans s4 (Fk_trans q4 r4))⟩
        | false =>
          rw [if_neg (by decide)] at s2
          refine ⟨vA ||| vB, S2, by rw [if_pos (show zo (bI false) = zo 0 from rfl)], ?_⟩
          have e : flL tx n f (m + 1) st A B = (st, fun b => A b || B b) := by
            show (if kwO tx n 0 st = true then _ else if kwO tx n 14 st = true then _ else _) = _
            rw [← g3, ← g4, if_neg (by decide), if_neg (by decide)]
          rw [e]
          exact ⟨s2, fun z => MkB_or (hM z).1 (hM z).2, Fk_trans p4 s4⟩
theorem k57 {o : Int} (hf : FS tx n a (d + 7) o f) (hA : Af n f) (hn : n ≤ 200) (h : RkC S tx n st) (hC : Cb (S.1 0 0) a) : ∃ v S', zr_sem zF (d + 8) 57 [za 1 0 18, zi (zo o)] S = some (.inl (some (zi v)), S') ∧ RkC S' tx n (tst tx n f st).1 ∧ (isO (tst tx n f st).1 = true → MkB v (tst tx n f st).2.2 (a 9).toNat) ∧ Fk S S' := by
  have hb := zF1_big
  obtain ⟨v, S1, p1, p2, p3, p4⟩ := hf S st h hC
  have hC1 : Cb (S1.1 0 0) a := by rw [Fk_0 p4 0]; exact hC
  obtain ⟨v2, S2, q1, q2, q3, q4⟩ := k57_l hf hA hn 200 0 zF1 S1 (f st).1 (fun _ => false) (f st).2.2 (zo 0) v (by omega) (by omega) p2 hC1 (fun _ _ => Nat.zero_le _) (fun z => ⟨MkB_f, p3 z⟩)
  rw [tst_fl hA hn (RkC_okn p2)] at q2 q3
  exact ⟨v2, S2, by rw [ze_57, p1, zr1]; exact q1, q2, q3, Fk_trans p4 q4⟩
theorem k58c (hw : WF T a) (h : RkC S tx n st) (hC : Cb (S.1 0 0) a) : ∃ v S', (zx_ret1 (zr_sem zF (d + 7) 59 [za 1 0 18] S) (fun x21 S19 => (zx_ret1 (zr_sem zF (d + 7) 60 [za 1 0 18] S19) (fun x24 S22 => (zx_ret1 (zr_sem zF (d + 7) 59 [za 1 0 18] S22) (fun x27 S25 => (zx_ret1 (zr_sem zF (d + 7) 61 [za 1 0 18, zi x21, zi x24, zi x27] S25) (fun x30 S28 => some (.inl (some (zi x30)), S28)) zxx)) zxx)) zxx)) zxx) = some (.inl (some (zi v)), S') ∧ RkC S' tx n (cmq tx n a st).1 ∧ (isO (cmq tx n a st).1 = true → MkB v (cmq tx n a st).2.2 (a 9).toNat) ∧ Fk S S' := by
  obtain ⟨w1, S1, p1, p2, p3, p4, p5⟩ := k59 (d := d) h
  obtain ⟨l, S2, q1, q2, q3, q4⟩ := k60 (d := d + 1) p2
  obtain ⟨w2, S3, r1, r2, r3, r4, r5⟩ := k59 (d := d) q2
  have hC3 : Cb (S3.1 0 0) a := by rw [Fk_0 r5 0, Fk_0 q4 0, Fk_0 p5 0]; exact hC
  obtain ⟨v, s1, s2⟩ := k61 (d := d + 1) (l := l) hC3 hw p3 r3
  refine ⟨v, S3, by rw [p1, zr1, q1, zr1, r1, zr1, s1, zr1], r2, fun z => ?_, Fk_trans p5 (Fk_trans q4 r5)⟩
  have z : isO (valE tx n (sgX tx n (valE tx n st))) = true := z
  have z2 := isO_valE z
  have z3 := isO_valE (isO_sgX z2)
  rw [p4 z3, r4 z2, q3 z2] at s2
  show MkB v (fun b => cmO (sgC tx n (valE tx n st)) (pv a b (valC tx n st)) (pv a b (valC tx n (sgX tx n (valE tx n st))))) _
  intro i hi
  rw [s2 i hi]
  show (_ && cmI _ _ _) = (_ && cmO _ _ _)
  rw [cmI_O sgC_b]
theorem k58 (hw : WF T a) (hn : n ≤ 200) : ∀ (k e : Nat) (o : Int), o + k = 6 → 0 ≤ o → FS tx n a (e + 2 * k + 8) o (fac tx n a k) := by
  intro k
  induction k with
  | zero =>
    intro e o ho h0 S st h hC
    have : o = 6 := by omega
    subst this
    show ∃ v S', zr_sem zF (e + 7 + 1) 58 [za 1 0 18, zi (zo 6)] S = _ ∧ _
    obtain ⟨b, e1, i1⟩ := q76 (d := e + 1) (t := 13) h (show 0 < txl 13 by decide)
    obtain ⟨b2, e2, i2⟩ := q77 (d := e + 6) (c := 40) h (by omega)
    obtain ⟨S3, p1, p2, p3⟩ := k75 (d := e + 6) (c := 3) h (by omega)
    rw [ze_58, e1, zr1]
    have bad : (isO st = true → (fac tx n a 0 st) = (ert tx n 3 st, [], fun _ => false)) → RkC S3 tx n (fac tx n a 0 st).1 ∧ (isO (fac tx n a 0 st).1 = true → MkB (zo 0) (fac tx n a 0 st).2.2 (a 9).toNat) ∧ Fk S S3 := by
      intro g
      cases st with
      | error x => rw [(fac_A 0).1 x]; exact ⟨p2, fun z => (Bool.false_ne_true z).elim, p3⟩
      | ok p => rw [g rfl]; exact ⟨p2, fun z => (Bool.false_ne_true z).elim, p3⟩
    cases b with
    | true =>
      rw [if_neg (by decide), if_neg (by decide), p1, zr0]
      exact ⟨_, S3, rfl, bad (fun z => by unfold fac; rw [if_pos (i1 z).symm])⟩
    | false =>
      rw [if_pos (show zo (bI false) = zo 0 from rfl), e2, zr1]
      cases b2 with
      | true =>
        rw [if_neg (by decide), if_neg (by decide), p1, zr0]
        exact ⟨_, S3, rfl, bad (fun z => by unfold fac; rw [← i1 z, if_neg (by decide), if_pos (i2 z).symm])⟩
      | false =>
        rw [if_pos (show zo (bI false) = zo 0 from rfl)]
        obtain ⟨v, S4, q1, q2, q3, q4⟩ := k58c (d := e) hw h hC
        refine ⟨v, S4, q1, ?_⟩
        cases st with
        | error x =>
          have c1 := (cmq_A (tx := tx) (n := n) (a := a)).1 x
          rw [c1] at q2
          rw [(fac_A 0).1 x]
          exact ⟨q2, fun z => (Bool.false_ne_true z).elim, q4⟩
        | ok p =>
          have : fac tx n a 0 (.ok p) = cmq tx n a (.ok p) := by unfold fac; rw [← i1 rfl, if_neg (by decide), ← i2 rfl, if_neg (by decide)]
          rw [this]
          exact ⟨q2, q3, q4⟩
  | succ k ih =>
    intro e o ho h0 S st h hC
    show ∃ v S', zr_sem zF (e + 2 * k + 9 + 1) 58 [za 1 0 18, zi (zo o)] S = _ ∧ _
    obtain ⟨b, e1, i1⟩ := q76 (d := e + 2 * k + 3) (t := 13) h (show 0 < txl 13 by decide)
    obtain ⟨b2, e2, i2⟩ := q77 (d := e + 2 * k + 8) (c := 40) h (by omega)
    obtain ⟨S1, p1, p2, p3⟩ := k72 (d := e + 2 * k + 7) h
    have hC1 : Cb (S1.1 0 0) a := by rw [Fk_0 p3 0]; exact hC
    have u9 := hw.1.2.2.2.2.2.2.2.2.2
    rw [ze_58, e1, zr1]
    have lo : zo o < zo 6 := by rw [zo_lt (by omega) (by omega) (by omega) (by omega)]; omega
    have eo : zo o + zo 1 = zo (o + 1) := zo_add o 1
    cases b with
    | true =>
      rw [if_neg (by decide), if_pos lo, p1, zr0, if_neg (by decide), eo]
      have hF := ih (e + 1) (o + 1) (by omega) (by omega)
      rw [show e + 1 + 2 * k + 8 = e + 2 * k + 9 by omega] at hF
      obtain ⟨v, S2, q1, q2, q3, q4⟩ := hF S1 (nxt tx n st) p2 hC1
      have hC2 : Cb (S2.1 0 0) a := by rw [Fk_0 q4 0]; exact hC1
      have n13 : S2.1 0 0 0 13 = zo (((a 9).toNat : Nat) : Int) := by rw [hC2.2.1.2.2.2.2.2.2.2.1]; congr 1; omega
      rw [q1, zr1, n13]
      refine ⟨_, S2, rfl, ?_⟩
      cases st with
      | error x =>
        have : (fac tx n a k (nxt tx n (.error x))).1 = .error x := (fac_A k).1 x
        rw [this] at q2
        rw [(fac_A (k + 1)).1 x]
        exact ⟨q2, fun z => (Bool.false_ne_true z).elim, Fk_trans p3 q4⟩
      | ok p =>
        have : fac tx n a (k + 1) (.ok p) = ((fac tx n a k (nxt tx n (.ok p))).1, (fac tx n a k (nxt tx n (.ok p))).2.1 ++ [-23], fun b => !(fac tx n a k (nxt tx n (.ok p))).2.2 b) := by
          show (if kwO tx n 13 (.ok p) = true then _ else _) = _
          rw [if_pos (i1 rfl).symm]
        rw [this]
        exact ⟨q2, fun z => MkB_not (by omega) (q3 z), Fk_trans p3 q4⟩
    | false =>
      rw [if_pos (show zo (bI false) = zo 0 from rfl), e2, zr1]
      cases b2 with
      | true =>
        rw [if_neg (by decide), if_pos lo, p1, zr0, if_pos (show zo (bI false) = zo 0 from rfl), eo]
        have hF := ih e (o + 1) (by omega) (by omega)
        obtain ⟨v, S2, q1, q2, q3, q4⟩ := k57 (d := e + 2 * k + 1) hF (fac_A k) hn p2 hC1
        obtain ⟨S3, r1, r2, r3⟩ := k80 (d := e + 2 * k + 6) (c := 41) q2 (by omega)
        rw [q1, zr1, r1, zr0]
        refine ⟨_, S3, rfl, ?_⟩
        cases st with
        | error x =>
          have : (tst tx n (fac tx n a k) (nxt tx n (.error x))).1 = .error x := (tst_A (fac_A k)).1 x
          rw [this] at r2
          rw [(fac_A (k + 1)).1 x]
          exact ⟨r2, fun z => (Bool.false_ne_true z).elim, Fk_trans p3 (Fk_trans q4 r3)⟩
        | ok p =>
          have : fac tx n a (k + 1) (.ok p) = (ceE tx n 41 (tst tx n (fac tx n a k) (nxt tx n (.ok p))).1, (tst tx n (fac tx n a k) (nxt tx n (.ok p))).2) := by
            show (if kwO tx n 13 (.ok p) = true then _ else if chO tx n 40 (.ok p) = true then _ else _) = _
            rw [← i1 rfl, if_neg (by decide), if_pos (i2 rfl).symm]
          rw [this]
          exact ⟨r2, fun z => q3 (isO_ceE z), Fk_trans p3 (Fk_trans q4 r3)⟩
      | false =>
        rw [if_pos (show zo (bI false) = zo 0 from rfl)]
        obtain ⟨v, S4, q1, q2, q3, q4⟩ := k58c (d := e + 2 * k + 2) hw h hC
        refine ⟨v, S4, q1, ?_⟩
        cases st with
        | error x =>
          have c1 := (cmq_A (tx := tx) (n := n) (a := a)).1 x
          rw [c1] at q2
          rw [(fac_A (k + 1)).1 x]
          exact ⟨q2, fun z => (Bool.false_ne_true z).elim, q4⟩
        | ok p =>
          have : fac tx n a (k + 1) (.ok p) = cmq tx n a (.ok p) := by
            show (if kwO tx n 13 (.ok p) = true then _ else if chO tx n 40 (.ok p) = true then _ else _) = _
            rw [← i1 rfl, if_neg (by decide), ← i2 rfl, if_neg (by decide)]
          rw [this]
          exact ⟨q2, q3, q4⟩
end DM

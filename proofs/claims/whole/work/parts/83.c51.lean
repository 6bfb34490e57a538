/-! THE PURE SIDE 51: queries: values, comparisons; class -/
def opn (w : Int) : Int := if 0 ≤ w then w else if w = -1 then -89 else if w = -2 then -100 else if w = -3 then -99 else if w = -4 then -98 else if w = -5 then -97 else if w = -6 then -96 else if w = -7 then -93 else if w = -8 then -88 else if w = -9 then -91 else -90
/-- the bits of v are the boats with P -/
def MkB (v : Int32) (P : Nat → Bool) (m : Nat) : Prop := ∀ i, i < 32 → v.toBitVec.getLsbD i = (decide (i < m) && P i)
section DL
variable {S : zS} {d n p k m : Nat} {tx : Nat → Int} {a : Rw} {st : Et} {T : Int} {P Q : Nat → Bool} {v w : Int32}
theorem k59 (h : RkC S tx n st) : ∃ w S', zr_sem zF (d + 7) 59 [za 1 0 18] S = some (.inl (some (zi (zo (opn w)))), S') ∧ RkC S' tx n (valE tx n st) ∧ (-10 ≤ w ∧ w ≤ 9999) ∧ (isO st = true → w = valC tx n st) ∧ Fk S S' := by
  have yes : ∀ (j : Nat) (w : Int), w = -1 - (j : Int) → j < 10 → (isO st = true → true = kwO tx n (nam j) st) → ∀ S', RkC S' tx n (nxt tx n st) → RkC S' tx n (valE tx n st) ∧ (-10 ≤ w ∧ w ≤ 9999) ∧ (isO st = true → w = valC tx n st) := by
    intro j w hw hj g S' hR
    subst hw
    cases st with
    | error e => exact ⟨by rw [valE_e]; exact hR, by omega, fun z => by cases z⟩
    | ok p =>
      have vi := valI_is hj (g rfl).symm
      refine ⟨?_, by omega, fun _ => ?_⟩
      · unfold valE; rw [vi, if_neg (by omega)]; exact hR
      · unfold valC; rw [vi, if_neg (by omega)]
  obtain ⟨b0, e0, i0⟩ := q76 (d := d) (t := 2) h (show 0 < txl 2 by decide)
  obtain ⟨b2, e2, i2⟩ := q76 (d := d) (t := 26) h (show 0 < txl 26 by decide)
  obtain ⟨b3, e3, i3⟩ := q76 (d := d) (t := 22) h (show 0 < txl 22 by decide)
  obtain ⟨b4, e4, i4⟩ := q76 (d := d) (t := 19) h (show 0 < txl 19 by decide)
  obtain ⟨b5, e5, i5⟩ := q76 (d := d) (t := 23) h (show 0 < txl 23 by decide)
  obtain ⟨b6, e6, i6⟩ := q76 (d := d) (t := 18) h (show 0 < txl 18 by decide)
  obtain ⟨b7, e7, i7⟩ := q76 (d := d) (t := 17) h (show 0 < txl 17 by decide)
  obtain ⟨b8, e8, i8⟩ := q76 (d := d) (t := 8) h (show 0 < txl 8 by decide)
  obtain ⟨b9, e9, i9⟩ := q76 (d := d) (t := 5) h (show 0 < txl 5 by decide)
  obtain ⟨b1, e1, i1⟩ := q76 (d := d) (t := 25) h (show 0 < txl 25 by decide)
  obtain ⟨S2, q1, q2, q3⟩ := k72 (d := d + 4) h
  rw [ze_59, e0, zr1]
  cases b0 with
  | true => obtain ⟨y1, y2, y3⟩ := yes 0 (-1) (by decide) (by omega) i0 S2 q2; exact ⟨-1, S2, by rw [if_neg (by decide), q1, zr0]; rfl, y1, y2, y3, q3⟩
  | false =>
  rw [if_pos (show zo (bI false) = zo 0 from rfl), e2, zr1]
  cases b2 with
  | true => obtain ⟨y1, y2, y3⟩ := yes 2 (-3) (by decide) (by omega) i2 S2 q2; exact ⟨-3, S2, by rw [if_neg (by decide), q1, zr0]; rfl, y1, y2, y3, q3⟩
  | false =>
  rw [if_pos (show zo (bI false) = zo 0 from rfl), e3, zr1]
  cases b3 with
  | true => obtain ⟨y1, y2, y3⟩ := yes 3 (-4) (by decide) (by omega) i3 S2 q2; exact ⟨-4, S2, by rw [if_neg (by decide), q1, zr0]; rfl, y1, y2, y3, q3⟩
  | false =>
  rw [if_pos (show zo (bI false) = zo 0 from rfl), e4, zr1]
  cases b4 with
  | true => obtain ⟨y1, y2, y3⟩ := yes 4 (-5) (by decide) (by omega) i4 S2 q2; exact ⟨-5, S2, by rw [if_neg (by decide), q1, zr0]; rfl, y1, y2, y3, q3⟩
  | false =>
  rw [if_pos (show zo (bI false) = zo 0 from rfl), e5, zr1]
  cases b5 with
  | true => obtain ⟨y1, y2, y3⟩ := yes 5 (-6) (by decide) (by omega) i5 S2 q2; exact ⟨-6, S2, by rw [if_neg (by decide), q1, zr0]; rfl, y1, y2, y3, q3⟩
  | false =>
  rw [if_pos (show zo (bI false) = zo 0 from rfl), e6, zr1]
  cases b6 with
  | true => obtain ⟨y1, y2, y3⟩ := yes 6 (-7) (by decide) (by omega) i6 S2 q2; exact ⟨-7, S2, by rw [if_neg (by decide), q1, zr0]; rfl, y1, y2, y3, q3⟩
  | false =>
  rw [if_pos (show zo (bI false) = zo 0 from rfl), e7, zr1]
  cases b7 with
  | true => obtain ⟨y1, y2, y3⟩ := yes 7 (-8) (by decide) (by omega) i7 S2 q2; exact ⟨-8, S2, by rw [if_neg (by decide), q1, zr0]; rfl, y1, y2, y3, q3⟩
  | false =>
  rw [if_pos (show zo (bI false) = zo 0 from rfl), e8, zr1]
  cases b8 with
  | true => obtain ⟨y1, y2, y3⟩ := yes 8 (-9) (by decide) (by omega) i8 S2 q2; exact ⟨-9, S2, by rw [if_neg (by decide), q1, zr0]; rfl, y1, y2, y3, q3⟩
  | false =>
  rw [if_pos (show zo (bI false) = zo 0 from rfl), e9, zr1]
  cases b9 with
  | true => obtain ⟨y1, y2, y3⟩ := yes 9 (-10) (by decide) (by omega) i9 S2 q2; exact ⟨-10, S2, by rw [if_neg (by decide), q1, zr0]; rfl, y1, y2, y3, q3⟩
  | false =>
  rw [if_pos (show zo (bI false) = zo 0 from rfl), e1, zr1]
  cases b1 with
  | true => obtain ⟨y1, y2, y3⟩ := yes 1 (-2) (by decide) (by omega) i1 S2 q2; exact ⟨-2, S2, by rw [if_neg (by decide), q1, zr0]; rfl, y1, y2, y3, q3⟩
  | false =>
  rw [if_pos (show zo (bI false) = zo 0 from rfl)]
  have no : isO st = true → valI tx n st = -1 := by
    intro z
    apply valI_no
    intro i hi
    have : i = 0 ∨ i = 1 ∨ i = 2 ∨ i = 3 ∨ i = 4 ∨ i = 5 ∨ i = 6 ∨ i = 7 ∨ i = 8 ∨ i = 9 := by omega
    rcases this with x | x | x | x | x | x | x | x | x | x <;> subst x
    · exact (i0 z).symm
    · exact (i1 z).symm
    · exact (i2 z).symm
    · exact (i3 z).symm
    · exact (i4 z).symm
    · exact (i5 z).symm
    · exact (i6 z).symm
    · exact (i7 z).symm
    · exact (i8 z).symm
    · exact (i9 z).symm
  obtain ⟨v, S3, p1, p2, p3, p4, p5⟩ := k81 (d := d + 4) (lo := 0) (hi := 9999) h (by omega) (by omega) (by omega)
  obtain ⟨S4, r1, r2, r3⟩ := k72 (d := d + 4) p2
  refine ⟨v, S4, ?_, ?_, by omega, fun z => ?_, Fk_trans p5 r3⟩
  · rw [p1, zr1, r1, zr0]; unfold opn; rw [if_pos p3.1]
  · cases st with
    | error e => rw [valE_e]; exact r2
    | ok p => unfold valE; rw [no rfl, if_pos rfl]; exact r2
  · unfold valC; rw [no z, if_pos rfl]; exact p4 z
theorem k60 (h : RkC S tx n st) : ∃ v S', zr_sem zF (d + 6) 60 [za 1 0 18] S = some (.inl (some (zi v)), S') ∧ RkC S' tx n (sgX tx n st) ∧ (isO (sgX tx n st) = true → v = zo (sgC tx n st)) ∧ Fk S S' := by
  obtain ⟨b0, e0, i0⟩ := q77 (d := d + 4) (c := 60) h (by omega)
  obtain ⟨b1, e1, i1⟩ := q77 (d := d + 4) (c := 61) h (by omega)
  obtain ⟨b2, e2, i2⟩ := q77 (d := d + 4) (c := 62) h (by omega)
  obtain ⟨S2, q1, q2, q3⟩ := k72 (d := d + 3) h
  have vv : ∀ c, isO st = true → chO tx n c st = true → S.1 1 0 14 6 = zo c := by
    intro c z g
    obtain ⟨hT, p, hP, hE⟩ := h
    cases st with
    | error e => cases z
    | ok r =>
      have e := hE.1; subst e
      have t3 := chO_t g
      rw [hP.2.2.2.2.2 t3]
      have g : chB tx n c r = true := g
      unfold chB at g
      rw [Bool.and_eq_true, decide_eq_true_eq, decide_eq_true_eq] at g
      rw [g.2]
  rw [ze_60, e0, zr1]
  have oX : isO (sgX tx n st) = true → isO st = true := by
    intro z
    cases st with
    | ok p => rfl
    | error e => rw [sgX_e] at z; cases z
  have fin : ∀ S', RkC S' tx n (nxt tx n st) → (chO tx n 60 st || (chO tx n 61 st || chO tx n 62 st)) = true → RkC S' tx n (sgX tx n st) := by
    intro S' hR g
    unfold sgX; rw [g]; exact hR
  cases b0 with
  | true =>
    rw [if_neg (by decide), q1, zr0]
    refine ⟨_, S2, rfl, ?_, fun z => ?_, q3⟩
    · cases st with
      | error e => rw [sgX_e]; exact q2
      | ok p => exact fin S2 q2 (by rw [← i0 rfl]; rfl)
    · have g := (i0 (oX z)).symm
      rw [vv 60 (oX z) g]; unfold sgC; rw [if_pos g]
  | false =>
  rw [if_pos (show zo (bI false) = zo 0 from rfl), e1, zr1]
  cases b1 with
  | true =>
    rw [if_neg (by decide), q1, zr0]
    refine ⟨_, S2, rfl, ?_, fun z => ?_, q3⟩
    · cases st with
      | error e => rw [sgX_e]; exact q2
      | ok p => exact fin S2 q2 (by rw [← i0 rfl, ← i1 rfl]; rfl)
    · have g := (i1 (oX z)).symm
      rw [vv 61 (oX z) g]; unfold sgC; rw [if_neg (by rw [← i0 (oX z)]; decide), if_pos g]
  | false =>
  rw [if_pos (show zo (bI false) = zo 0 from rfl), e2, zr1]
  cases b2 with
  | true =>
    rw [if_neg (by decide), q1, zr0]
    refine ⟨_, S2, rfl, ?_, fun z => ?_, q3⟩
    · cases st with
      | error e => rw [sgX_e]; exact q2
      | ok p => exact fin S2 q2 (by rw [← i0 rfl, ← i1 rfl, ← i2 rfl]; rfl)
    · have g := (i2 (oX z)).symm
      rw [vv 62 (oX z) g]; unfold sgC; rw [if_neg (by rw [← i0 (oX z)]; decide), if_neg (by rw [← i1 (oX z)]; decide)]
  | false =>
  rw [if_pos (show zo (bI false) = zo 0 from rfl)]
  obtain ⟨S3, p1, p2, p3⟩ := k75 (d := d + 4) (c := 1) h (by omega)
  obtain ⟨S4, r1, r2, r3⟩ := k72 (d := d + 3) p2
  rw [p1, zr0, r1, zr0]
  have eX : isO st = true → sgX tx n st = nxt tx n (ert tx n 1 st) := by
    intro z
    unfold sgX
    rw [← i0 z, ← i1 z, ← i2 z]; rfl
  refine ⟨_, S4, rfl, ?_, fun z => ?_, Fk_trans p3 r3⟩
  · cases st with
    | error e => rw [sgX_e]; exact r2
    | ok p => rw [eX rfl]; exact r2
  · cases st with
    | error e => rw [sgX_e] at z; cases z
    | ok p => rw [eX rfl] at z; cases z
theorem pv_1 {b : Nat} : pv a b (-1) = b := by
  unfold pv
  repeat rw [if_neg (by decide)]
  rw [if_pos rfl]
theorem pv_2 {b : Nat} : pv a b (-2) = bnum a b 0 := by
  unfold pv
  repeat rw [if_neg (by decide)]
  rw [if_pos rfl]
theorem pv_3 {b : Nat} : pv a b (-3) = bnum a b 1 := by
  unfold pv
  repeat rw [if_neg (by decide)]
  rw [if_pos rfl]
theorem pv_4 {b : Nat} : pv a b (-4) = a (40 + 10 * b + 1) := by
  unfold pv
  repeat rw [if_neg (by decide)]
  rw [if_pos rfl]
theorem pv_5 {b : Nat} : pv a b (-5) = a (40 + 10 * b + 2) := by
  unfold pv
  repeat rw [if_neg (by decide)]
  rw [if_pos rfl]
theorem pv_6 {b : Nat} : pv a b (-6) = a (40 + 10 * b + 3) := by
  unfold pv
  repeat rw [if_neg (by decide)]
  rw [if_pos rfl]
theorem pv_7 {b : Nat} : pv a b (-7) = a (40 + 10 * b + 6) := by
  unfold pv
  repeat rw [if_neg (by decide)]
  rw [if_pos rfl]
theorem pv_8 {b : Nat} : pv a b (-8) = a (160 + (a (40 + 10 * b)).toNat) := by
  unfold pv
  repeat rw [if_neg (by decide)]
  rw [if_pos rfl]
theorem pv_9 {b : Nat} : pv a b (-9) = a (40 + 10 * b + 8) := by
  unfold pv
  repeat rw [if_neg (by decide)]
  rw [if_pos rfl]
theorem pv_10 {b : Nat} : pv a b (-10) = a (40 + 10 * b + 9) := by
  unfold pv
  repeat rw [if_neg (by decide)]
theorem pv_n {b : Nat} {w : Int} (h : 0 ≤ w) : pv a b w = w := if_pos h
theorem pv_b (hw : WF T a) {b : Nat} (hb : (b : Int) < a 9) {w : Int} (h1 : -10 ≤ w ∧ w ≤ 9999) : -1 ≤ pv a b w ∧ pv a b w ≤ 2000000 := by
  by_cases c : 0 ≤ w
  · rw [pv_n c]; omega
  have hwO := hw; obtain ⟨⟨⟨u0, u0x⟩, ⟨u1, u1x⟩, ⟨u2, u2x⟩, ⟨u3, u3x⟩, ⟨u4, u4x⟩, ⟨u5, u5x⟩, ⟨u6, u6x, uT⟩, ⟨u7, u7x⟩, ⟨u8, u8x⟩, ⟨u9, u9x⟩⟩, uD, uP, uB, uS, uI⟩ := hwO
  have gB := uB b hb
  have uN := WF_nc hw
  have gS := uS (a (40 + 10 * b)).toNat (by omega)
  have d1 : 0 ≤ a (40 + 10 * b) / a 0 := Int.ediv_nonneg gB.1.1 (by omega)
  have d2 : a (40 + 10 * b) / a 0 ≤ a (40 + 10 * b) := Int.ediv_le_self _ gB.1.1
  have d3 := Int.emod_nonneg (a (40 + 10 * b)) (show a 0 ≠ 0 by omega)
  have d4 := Int.emod_lt_of_pos (a (40 + 10 * b)) (show 0 < a 0 by omega)
  have e0 : bnum a b 0 = a (40 + 10 * b) % a 0 := rfl
  have e1 : bnum a b 1 = a (40 + 10 * b) / a 0 := rfl
  have : w = -1 ∨ w = -2 ∨ w = -3 ∨ w = -4 ∨ w = -5 ∨ w = -6 ∨ w = -7 ∨ w = -8 ∨ w = -9 ∨ w = -10 := by omega
  rcases this with x | x | x | x | x | x | x | x | x | x <;> subst x
  · rw [pv_1]; omega
  · rw [pv_2, e0]; omega
  · rw [pv_3, e1]; omega
  · rw [pv_4]; omega
  · rw [pv_5]; omega
  · rw [pv_6]; omega
  · rw [pv_7]; omega
  · rw [pv_8]; omega
  · rw [pv_9]; omega
  · rw [pv_10]; omega
theorem k62p (h : Cb (S.1 0 0) a) (hw : WF T a) {b : Nat} (hb : (b : Int) < a 9) {c : Nat} (hc : c ≤ 10) : zr_sem zF (d + 5) 62 [za 1 0 18, zi (zo (-100 + (c : Int))), zi (zo b)] S = some (.inl (some (zi (zo (bnum a b c)))), S) := by
  have e : zo (-100 + (c : Int)) - zo (-100) = zo c := by rw [zo_sub]; congr 1; omega
  rw [ze_62, if_pos (by rw [zo_lt (by omega) (by omega) (by omega) (by omega)]; omega), e, if_neg (by rw [zo_eq (by omega) (by omega) (by omega) (by omega)]; omega), if_neg (by rw [zo_eq (by omega) (by omega) (by omega) (by omega)]; omega), c67w (d := d + 3) h hw hb hc, zr1]
/-- a boat's operand -/
theorem k62 (h : Cb (S.1 0 0) a) (hw : WF T a) {b : Nat} (hb : (b : Int) < a 9) {w : Int} (h1 : -10 ≤ w ∧ w ≤ 9999) : zr_sem zF (d + 5) 62 [za 1 0 18, zi (zo (opn w)), zi (zo b)] S = some (.inl (some (zi (zo (pv a b w)))), S) := by
  by_cases c : 0 ≤ w
  · unfold opn pv
    rw [if_pos c, if_pos c, ze_62, if_neg (by rw [zo_lt (by omega) (by omega) (by omega) (by omega)]; omega)]
  · have : w = -1 ∨ w = -2 ∨ w = -3 ∨ w = -4 ∨ w = -5 ∨ w = -6 ∨ w = -7 ∨ w = -8 ∨ w = -9 ∨ w = -10 := by omega
    rcases this with x | x | x | x | x | x | x | x | x | x <;> subst x
    · rw [show opn (-1) = -89 from rfl, ze_62, if_pos (by decide), if_pos (by decide)]; rfl
    · exact k62p h hw hb (c := 0) (by omega)
    · exact k62p h hw hb (c := 1) (by omega)
    · exact k62p h hw hb (c := 2) (by omega)
    · exact k62p h hw hb (c := 3) (by omega)
    · exact k62p h hw hb (c := 4) (by omega)
    · exact k62p h hw hb (c := 7) (by omega)
    · have hwO := hw; obtain ⟨⟨⟨u0, u0x⟩, ⟨u1, u1x⟩, ⟨u2, u2x⟩, ⟨u3, u3x⟩, ⟨u4, u4x⟩, ⟨u5, u5x⟩, ⟨u6, u6x, uT⟩, ⟨u7, u7x⟩, ⟨u8, u8x⟩, ⟨u9, u9x⟩⟩, uD, uP, uB, uS, uI⟩ := hwO
      have gB := uB b hb
      have eS : spC a (a (40 + 10 * b)) = a (160 + (a (40 + 10 * b)).toNat) := by unfold spC; rw [if_neg (by omega)]
      rw [show opn (-8) = -88 from rfl, ze_62, if_pos (by decide), if_neg (by decide), if_pos (by decide), c6 (d := d + 2) h hw hb, zr1, c63s (d := d + 3) h hw (c := a (40 + 10 * b)) (by omega), zr1, eS]
      rw [pv_8]
    · exact k62p h hw hb (c := 9) (by omega)
    · exact k62p h hw hb (c := 10) (by omega)
/-- one more bit -/
theorem MkB_0 : MkB (zo 0) P 0 := by
  intro i hi
  rw [decide_eq_false (by omega), Bool.false_and]
  show (0#32).getLsbD i = false
  simp
theorem MkB_sh : ∀ b, b < 12 → ∀ i, i < 32 → (zo 1 <<< (zo (b : Nat) &&& 31)).toBitVec.getLsbD i = decide (i = b) := by decide +kernel
theorem MkB_s1 {m : Nat} (hm : m < 12) (h : MkB v P m) (hp : P m = true) : MkB (v ||| (zo 1 <<< (zo (m : Nat) &&& 31))) P (m + 1) := by
  intro i hi
  rw [Int32.toBitVec_or, BitVec.getLsbD_or, h i hi, MkB_sh m hm i hi]
  by_cases e : i = m
  · subst e; simp [hp]
  · have : decide (i < m + 1) = decide (i < m) := by congr 1; exact propext (by omega)
    rw [this, decide_eq_false e, Bool.or_false]
theorem MkB_s0 {m : Nat} (hm : m < 12) (h : MkB v P m) (hp : P m = false) : MkB v P (m + 1) := by
  intro i hi
  rw [h i hi]
  by_cases e : i = m
  · subst e; simp [hp]
  · have : decide (i < m + 1) = decide (i < m) := by congr 1; exact propext (by omega)
    rw [this]
theorem MkB_and (h : MkB v P m) (h2 : MkB w Q m) : MkB (v &&& w) (fun b => P b && Q b) m := by
  intro i hi
  rw [Int32.toBitVec_and, BitVec.getLsbD_and, h i hi, h2 i hi]
  show _ = (decide (i < m) && (P i && Q i))
  cases decide (i < m) <;> cases P i <;> cases Q i <;> rfl
theorem MkB_or (h : MkB v P m) (h2 : MkB w Q m) : MkB (v ||| w) (fun b => P b || Q b) m := by
  intro i hi
  rw [Int32.toBitVec_or, BitVec.getLsbD_or, h i hi, h2 i hi]
  show _ = (decide (i < m) && (P i || Q i))
  cases decide (i < m) <;> cases P i <;> cases Q i <;> rfl
theorem MkB_f : MkB (zo 0) (fun _ => false) m := by
  intro i hi
  rw [Bool.and_false]
  show (0#32).getLsbD i = false
  simp
theorem MkB_ms : ∀ m, m < 13 → ∀ i, i < 32 → ((zo 1 <<< (zo (m : Nat) &&& 31)) - zo 1).toBitVec.getLsbD i = decide (i < m) := by decide +kernel
theorem MkB_m1 : ∀ i, i < 32 → (zo (-1)).toBitVec.getLsbD i = true := by decide +kernel
theorem MkB_not (hm : m < 13) (h : MkB v P m) : MkB ((v ^^^ zo (-1)) &&& ((zo 1 <<< (zo (m : Nat) &&& 31)) - zo 1)) (fun b => !P b) m := by
  intro i hi
  rw [Int32.toBitVec_and, BitVec.getLsbD_and, MkB_ms m hm i hi, Int32.toBitVec_xor, BitVec.getLsbD_xor, MkB_m1 i hi, h i hi]
  show _ = (decide (i < m) && !P i)
  cases decide (i < m) <;> cases P i <;> rfl
def cmI (l : Int32) (x y : Int) : Bool := if l = zo 60 then decide (x < y) else if l = zo 62 then decide (y < x) else decide (x = y)
theorem k61_l (h : Cb (S.1 0 0) a) (hw : WF T a) {w1 w2 : Int} (h1 : -10 ≤ w1 ∧ w1 ≤ 9999) (h2 : -10 ≤ w2 ∧ w2 ≤ 9999) {l : Int32} : ∀ (m k f : Nat) (v : Int32), k + m = (a 9).toNat → m < f → MkB v (fun b => cmI l (pv a b w1) (pv a b w2)) k → ∃ v', zy zF (d + 5) 61 f 6 [some (za 1 0 18), some (zi (zo (opn w1))), some (zi l), some (zi (zo (opn w2))), some (zi v), some (zi (zo k)), none] S = some (.inl (some (zi v')), S) ∧ MkB v' (fun b => cmI l (pv a b w1) (pv a b w2)) (a 9).toNat := by
  have n13 := h.2.1.2.2.2.2.2.2.2.1
  have u9 := hw.1.2.2.2.2.2.2.2.2.2
  intro m
  induction m with
  | zero =>
    intro k f v hk hf hM
    obtain ⟨f, rfl⟩ : ∃ f', f = f' + 1 := ⟨f - 1, by omega⟩
    refine ⟨v, ?_, by rw [← hk]; exact hM⟩
    rw [ze_61_6, n13, if_pos (by rw [zo_le (by omega) (by omega) (by omega) (by omega)]; omega)]
  | succ m ih =>
    intro k f v hk hf hM
    obtain ⟨f, rfl⟩ : ∃ f', f = f' + 1 := ⟨f - 1, by omega⟩
    have b1 := pv_b hw (b := k) (by omega) h1
    have b2 := pv_b hw (b := k) (by omega) h2
    rw [ze_61_6, n13, if_neg (by rw [zo_le (by omega) (by omega) (by omega) (by omega)]; omega), k62 h hw (b := k) (by omega) h1, zr1, k62 h hw (b := k) (by omega) h2, zr1, zo_sub]
    have e1 : zo (k : Int) + zo 1 = zo ((k + 1 : Nat) : Int) := by rw [zo_add]; rfl
    rw [e1]
    have t1 := fun (z : cmI l (pv a k w1) (pv a k w2) = true) => ih (k + 1) f _ (by omega) (by omega) (MkB_s1 (by omega) hM z)
    have t0 := fun (z : cmI l (pv a k w1) (pv a k w2) = false) => ih (k + 1) f _ (by omega) (by omega) (MkB_s0 (by omega) hM z)
    by_cases c : l = zo 60
    · rw [if_pos c]
      by_cases c2 : pv a k w1 < pv a k w2
      · rw [if_neg (by rw [zo_le (by omega) (by omega) (by omega) (by omega)]; omega)]
        exact t1 (by unfold cmI; rw [if_pos c, decide_eq_true c2])
      · rw [if_pos (by rw [zo_le (by omega) (by omega) (by omega) (by omega)]; omega)]
        exact t0 (by unfold cmI; rw [if_pos c, decide_eq_false c2])
    · rw [if_neg c]
      by_cases c3 : l = zo 62
      · rw [if_pos c3]
        by_cases c2 : pv a k w2 < pv a k w1
        · rw [if_neg (by rw [zo_le (by omega) (by omega) (by omega) (by omega)]; omega)]
          exact t1 (by unfold cmI; rw [if_neg c, if_pos c3, decide_eq_true c2])
        · rw [if_pos (by rw [zo_le (by omega) (by omega) (by omega) (by omega)]; omega)]
          exact t0 (by unfold cmI; rw [if_neg c, if_pos c3, decide_eq_false c2])
      · rw [if_neg c3]
        by_cases c2 : pv a k w1 = pv a k w2
        · rw [if_pos (by rw [zo_eq (by omega) (by omega) (by omega) (by omega)]; omega)]
          exact t1 (by unfold cmI; rw [if_neg c, if_neg c3, decide_eq_true c2])
        · rw [if_neg (by rw [zo_eq (by omega) (by omega) (by omega) (by omega)]; omega)]
          exact t0 (by unfold cmI; rw [if_neg c, if_neg c3, decide_eq_false c2])
theorem k61 (h : Cb (S.1 0 0) a) (hw : WF T a) {w1 w2 : Int} (h1 : -10 ≤ w1 ∧ w1 ≤ 9999) (h2 : -10 ≤ w2 ∧ w2 ≤ 9999) {l : Int32} : ∃ v', zr_sem zF (d + 6) 61 [za 1 0 18, zi (zo (opn w1)), zi l, zi (zo (opn w2))] S = some (.inl (some (zi v')), S) ∧ MkB v' (fun b => cmI l (pv a b w1) (pv a b w2)) (a 9).toNat := by
  have hb := zF1_big
  have u9 := hw.1.2.2.2.2.2.2.2.2.2
  rw [ze_61]
  exact k61_l h hw h1 h2 (a 9).toNat 0 _ (zo 0) (by omega) (by omega) MkB_0
theorem cmI_O {s x y : Int} (h : s = 60 ∨ s = 61 ∨ s = 62) : cmI (zo s) x y = cmO s x y := by
  rcases h with c | c | c <;> subst c <;> rfl
theorem sgC_b : sgC tx n st = 60 ∨ sgC tx n st = 61 ∨ sgC tx n st = 62 := by
  unfold sgC
  split
  · omega
  · split <;> omega
end DL

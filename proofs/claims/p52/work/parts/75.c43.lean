/-! THE PURE SIDE 43: reading a bath: drains, taps, boats, soap; class -/
def ctE (tx : Nat → Int) (n : Nat) (g : Bool) (c : Int) (st : Et) : Et := if g = true then st else ert tx n c st
def pl1 (tx : Nat → Int) (n : Nat) (g : Bool) (st : Et) : Et := nxt tx n (ctE tx n g 3 st)
def stX (tx : Nat → Int) (n : Nat) (a : Rw) (st : Et) : Et := nmE tx n 0 (a 0 - 1) st
def rdX (tx : Nat → Int) (n : Nat) (a : Rw) (st : Et) : Int := nuV tx n 0 (a 0 - 1) st
def rdY (tx : Nat → Int) (n : Nat) (a : Rw) (st : Et) : Int := nuV tx n 0 (a 1 - 1) (stX tx n a st)
def clE (tx : Nat → Int) (n : Nat) (a : Rw) (st : Et) : Int := a 0 * rdY tx n a st + rdX tx n a st
def pl4 (tx : Nat → Int) (n : Nat) (a : Rw) (g : Int → Bool) (st : Et) : Et := nxt tx n (ctE tx n (g (clE tx n a st)) 4 (nuE tx n 0 (a 1 - 1) (stX tx n a st)))
def frB (a : Rw) (c : Int) : Bool := decide (drIn a c = -1) && decide (tpIn a c = -1)
def ocB (a : Rw) (c : Int) : Bool := decide (occ a c (-1) = -1)
def sDr (tx : Nat → Int) (n : Nat) (st : Et) (a : Rw) : Et × Rw :=
  (ceE tx n 59 (nmE tx n 0 99 (nmE tx n 1 99 (pl4 tx n a (frB a) (pl1 tx n (decide (a 7 < 5)) st)))),
   if isO (nmE tx n 0 99 (nmE tx n 1 99 (pl4 tx n a (frB a) (pl1 tx n (decide (a 7 < 5)) st)))) = true then ndR a (clE tx n a (pl1 tx n (decide (a 7 < 5)) st)) (nuV tx n 1 99 (pl4 tx n a (frB a) (pl1 tx n (decide (a 7 < 5)) st))) (nuV tx n 0 99 (nmE tx n 1 99 (pl4 tx n a (frB a) (pl1 tx n (decide (a 7 < 5)) st)))) else a)
def sTp (tx : Nat → Int) (n : Nat) (st : Et) (a : Rw) : Et × Rw :=
  (ceE tx n 59 (nmE tx n 0 99 (pl4 tx n a (frB a) (pl1 tx n (decide (a 8 < 5)) st))),
   if isO (nmE tx n 0 99 (pl4 tx n a (frB a) (pl1 tx n (decide (a 8 < 5)) st))) = true then ntR a (clE tx n a (pl1 tx n (decide (a 8 < 5)) st)) (nuV tx n 0 99 (pl4 tx n a (frB a) (pl1 tx n (decide (a 8 < 5)) st))) else a)
/-- a boat: the state behind its strength; its wetness -/
def b4E (tx : Nat → Int) (n : Nat) (st : Et) (a : Rw) : Et := pl4 tx n a (ocB a) (pl1 tx n (decide (a 9 < 12)) st)
def b6E (tx : Nat → Int) (n : Nat) (st : Et) (a : Rw) : Et := nmE tx n 1 999 (nmE tx n 1 99 (b4E tx n st a))
def b6V (tx : Nat → Int) (n : Nat) (st : Et) (a : Rw) : Int := nuV tx n 1 999 (nmE tx n 1 99 (b4E tx n st a))
def b8E (tx : Nat → Int) (n : Nat) (st : Et) (a : Rw) : Et := if kwO tx n 23 (b6E tx n st a) = true then nmE tx n 0 (b6V tx n st a) (nxt tx n (b6E tx n st a)) else b6E tx n st a
def b8V (tx : Nat → Int) (n : Nat) (st : Et) (a : Rw) : Int := if kwO tx n 23 (b6E tx n st a) = true then nuV tx n 0 (b6V tx n st a) (nxt tx n (b6E tx n st a)) else 0
def sBt (tx : Nat → Int) (n : Nat) (st : Et) (a : Rw) : Et × Rw :=
  (ceE tx n 59 (b8E tx n st a),
   if isO (b8E tx n st a) = true then nbR a (clE tx n a (pl1 tx n (decide (a 9 < 12)) st)) (nuV tx n 1 99 (b4E tx n st a)) (b6V tx n st a) (b8V tx n st a) else a)
def s3E (tx : Nat → Int) (n : Nat) (st : Et) (a : Rw) : Et := nmE tx n 0 (a 1 - 1) (stX tx n a (nxt tx n st))
def sSo (tx : Nat → Int) (n : Nat) (st : Et) (a : Rw) : Et × Rw :=
  (ceE tx n 59 (nmE tx n 1 99 (s3E tx n st a)), if isO (nmE tx n 1 99 (s3E tx n st a)) = true then up a (160 + (clE tx n a (nxt tx n st)).toNat) (nuV tx n 1 99 (s3E tx n st a)) else a)
section DG
variable {S : zS} {d n p t l s : Nat} {a b : Rw} {T : Int} {tx : Nat → Int} {x y z lo hi c v : Int} {st : Et}
theorem isO_ctE {g : Bool} (h : isO (ctE tx n g c st) = true) : g = true ∧ isO st = true := by
  unfold ctE at h
  cases g with
  | true => rw [if_pos rfl] at h; exact ⟨rfl, h⟩
  | false => rw [if_neg (by decide), isO_ert] at h; exact (Bool.false_ne_true h).elim
theorem isO_pl1 {g : Bool} (h : isO (pl1 tx n g st) = true) : g = true ∧ isO st = true := by
  unfold pl1 at h; rw [isO_nxt] at h; exact isO_ctE h
theorem isO_pl4 {g : Int → Bool} (h : isO (pl4 tx n a g st) = true) : g (clE tx n a st) = true ∧ isO (stX tx n a st) = true ∧ isO st = true := by
  unfold pl4 at h; rw [isO_nxt] at h
  have h1 := isO_ctE h
  have h2 := isO_nuE h1.2
  exact ⟨h1.1, h2, isO_nmE h2⟩
theorem ctE_e {g : Bool} {e : Int × Int} : ctE tx n g c (.error e) = .error e := by cases g <;> rfl
theorem RkC_c {S' : zS} (h : RkC S tx n st) (hF : Fc 3 S S') : RkC S' tx n st := by
  obtain ⟨⟨⟨t1, t2⟩, t3⟩, p, ⟨k1, k2, k3, k4, k5, k6⟩, hE⟩ := h
  have e : ∀ j, S'.1 1 0 14 j = S.1 1 0 14 j := fun j => hF.2 _ _ _ _ (by omega) (by omega)
  refine ⟨⟨⟨by rw [e]; exact t1, t2⟩, fun i hi => by rw [hF.2 _ _ _ _ (by omega) (by omega)]; exact t3 i hi⟩, p, ⟨k1, by rw [e]; exact k2, by rw [e]; exact k3, by rw [e]; exact k4, fun z => by rw [e]; exact k5 z, fun z => by rw [e]; exact k6 z⟩, ?_⟩
  cases st with
  | ok q => exact ⟨hE.1, by rw [e]; exact hE.2.1, by rw [e]; exact hE.2.2⟩
  | error e' => exact ⟨by rw [e]; exact hE.1, hE.2.1, by rw [e]; exact hE.2.2⟩
theorem RkC_7 (h : RkC S tx n st) : if isO st = true then S.1 1 0 14 7 = zo 0 else ¬ S.1 1 0 14 7 = zo 0 := by
  obtain ⟨_, p, _, hE⟩ := h
  cases st with
  | ok q => exact hE.2.1
  | error e =>
    have he := hE.2.1
    show ¬ S.1 1 0 14 7 = zo 0
    rw [hE.1, zo_eq (by omega) (by omega) (by omega) (by omega)]; omega
theorem k33 (h : RkC S tx n st) (h1 : -100000 ≤ x ∧ x ≤ 100000) (h2 : -100000 ≤ y ∧ y ≤ 100000) : ∃ S', zr_sem zF (d + 3) 33 [za 1 0 17, zi (zo x), zi (zo y)] S = some (.inl none, S') ∧ RkC S' tx n (pl1 tx n (decide (x < y)) st) ∧ Fk S S' := by
  rw [ze_33]
  unfold pl1 ctE
  by_cases c : x < y
  · obtain ⟨S2, q1, q2, q3⟩ := k72 (d := d) h
    refine ⟨S2, ?_, by rw [decide_eq_true c, if_pos rfl]; exact q2, q3⟩
    rw [if_pos (show zo x < zo y by rw [zo_lt (by omega) (by omega) (by omega) (by omega)]; exact c), q1, zr0]
  · obtain ⟨S1, p1, p2, p3⟩ := k75 (d := d + 1) (c := 3) h (by omega)
    obtain ⟨S2, q1, q2, q3⟩ := k72 (d := d) p2
    refine ⟨S2, ?_, by rw [decide_eq_false c, if_neg (by decide)]; exact q2, Fk_trans p3 q3⟩
    rw [if_neg (show ¬ zo x < zo y by rw [zo_lt (by omega) (by omega) (by omega) (by omega)]; exact c), p1, zr0, q1, zr0]
theorem k35 (h : RkC S tx n st) (g : Bool) : ∃ S', zr_sem zF (d + 3) 35 [za 1 0 17, zi (zo (bI !g))] S = some (.inl none, S') ∧ RkC S' tx n (nxt tx n (ctE tx n g 4 st)) ∧ Fk S S' := by
  rw [ze_35]
  unfold ctE
  cases g with
  | true =>
    obtain ⟨S2, q1, q2, q3⟩ := k72 (d := d) h
    refine ⟨S2, ?_, by rw [if_pos rfl]; exact q2, q3⟩
    rw [if_pos (show zo (bI !true) = zo 0 from rfl), q1, zr0]
  | false =>
    obtain ⟨S1, p1, p2, p3⟩ := k75 (d := d + 1) (c := 4) h (by omega)
    obtain ⟨S2, q1, q2, q3⟩ := k72 (d := d) p2
    refine ⟨S2, ?_, by rw [if_neg (by decide)]; exact q2, Fk_trans p3 q3⟩
    rw [if_neg (by decide), p1, zr0, q1, zr0]
theorem k34 (h : RkC S tx n st) (hC : Cb (S.1 0 3) a) (hw : WF T a) (hx : 0 ≤ x ∧ x ≤ a 0 - 1) : ∃ v S', zr_sem zF (d + 4) 34 [za 1 0 17, zi (zo x)] S = some (.inl (some (zi (zo v))), S') ∧ RkC S' tx n (nxt tx n (ctE tx n (frB a (a 0 * v + x)) 4 (nuE tx n 0 (a 1 - 1) st))) ∧ (0 ≤ v ∧ v ≤ a 1 - 1) ∧ (isO st = true → v = nuV tx n 0 (a 1 - 1) st) ∧ Fk S S' := by
  have n7 := hC.2.1.2.1
  have u0 := hw.1.1
  have u1 := hw.1.2.1
  have uN := WF_nc hw
  obtain ⟨v, S1, p1, p2, p3, p4, p5⟩ := k81 (d := d + 1) (lo := 0) (hi := a 1 - 1) h (by omega) (by omega) (by omega)
  have hC1 : Cb (S1.1 0 3) a := by rw [Fk_0 p5 3]; exact hC
  have vc : (0 ≤ x ∧ x < a 0) ∧ (0 ≤ v ∧ v < a 1) := by omega
  have cl := cel_lt vc
  rw [ze_34, n7, zo_sub, p1, zr1, c3 hC1 hw (by omega) (by omega) (by omega) (by omega), zr1, cAt_in vc, c12 hC1 hw (by omega) (by omega), zr1]
  have bd : ∀ {m k : Nat} {f : Nat → Bool}, m ≤ 12 → k ≤ 12 → -1 ≤ zfst f m k ∧ zfst f m k ≤ 24 := by
    intro m
    induction m with
    | zero => intro k f _ _; exact ⟨by show (-1 : Int) ≤ -1; omega, by show (-1 : Int) ≤ 24; omega⟩
    | succ m ih => intro k f h1 h2; unfold zfst; split
                   · omega
                   · by_cases z : k = 12
                     · subst z
                       have : ∀ {m k : Nat} {f : Nat → Bool}, -1 ≤ zfst f m k ∧ zfst f m k ≤ (m + k : Nat) := by
                         intro m
                         induction m with
                         | zero => intro k f; exact ⟨by show (-1 : Int) ≤ -1; omega, by show (-1 : Int) ≤ _; omega⟩
                         | succ m ih2 =>
                           intro k f; unfold zfst; split
                           · omega
                           · have := ih2 (k := k + 1) (f := f); omega
                       have := this (m := m) (k := 12 + 1) (f := f); omega
                     · exact ih (by omega) (by omega)
  have u7 := hw.1.2.2.2.2.2.2.2.1
  have u8 := hw.1.2.2.2.2.2.2.2.2.1
  have bD : -1 ≤ drIn a (a 0 * v + x) ∧ drIn a (a 0 * v + x) ≤ 24 := bd (by omega) (by omega)
  have bT : -1 ≤ tpIn a (a 0 * v + x) ∧ tpIn a (a 0 * v + x) ≤ 24 := bd (by omega) (by omega)
  by_cases cD : drIn a (a 0 * v + x) = -1
  · rw [if_pos (show zo (drIn a (a 0 * v + x)) = zo (-1) by rw [cD]), c13 hC1 hw (by omega) (by omega), zr1]
    by_cases cT : tpIn a (a 0 * v + x) = -1
    · obtain ⟨S2, q1, q2, q3⟩ := k35 (d := d) p2 true
      refine ⟨v, S2, ?_, ?_, p3, p4, Fk_trans p5 q3⟩
      · rw [if_pos (show zo (tpIn a (a 0 * v + x)) = zo (-1) by rw [cT]), show zo 0 = zo (bI !true) from rfl, q1, zr0]
      · unfold frB; rw [decide_eq_true cD, decide_eq_true cT]; exact q2
    · obtain ⟨S2, q1, q2, q3⟩ := k35 (d := d) p2 false
      refine ⟨v, S2, ?_, ?_, p3, p4, Fk_trans p5 q3⟩
      · rw [if_neg (show ¬ zo (tpIn a (a 0 * v + x)) = zo (-1) by rw [zo_eq (by omega) (by omega) (by omega) (by omega)]; exact cT), show zo 1 = zo (bI !false) from rfl, q1, zr0]
      · unfold frB; rw [decide_eq_true cD, decide_eq_false cT]; exact q2
  · obtain ⟨S2, q1, q2, q3⟩ := k35 (d := d) p2 false
    refine ⟨v, S2, ?_, ?_, p3, p4, Fk_trans p5 q3⟩
    · rw [if_neg (show ¬ zo (drIn a (a 0 * v + x)) = zo (-1) by rw [zo_eq (by omega) (by omega) (by omega) (by omega)]; exact cD), show zo 1 = zo (bI !false) from rfl, q1, zr0]
    · unfold frB; rw [decide_eq_false cD, Bool.false_and]; exact q2
/-- the state behind a cell, when the numbers may not be the right ones -/
theorem pl4_c {g : Int → Bool} {v w : Int} (h1 : isO st = true → w = rdX tx n a st) (h2 : isO (stX tx n a st) = true → v = rdY tx n a st) : nxt tx n (ctE tx n (g (a 0 * v + w)) 4 (nuE tx n 0 (a 1 - 1) (stX tx n a st))) = pl4 tx n a g st := by
  unfold pl4
  cases e : stX tx n a st with
  | ok q =>
    have hO : isO (stX tx n a st) = true := by rw [e]; rfl
    have h3 := isO_nmE hO
    rw [h1 h3, h2 hO]
    rfl
  | error z =>
    show nxt tx n (ctE tx n _ 4 (.error z)) = nxt tx n (ctE tx n _ 4 (.error z))
    rw [ctE_e, ctE_e]
theorem k29 (h : RkC S tx n st) (hC : Cb (S.1 0 3) a) (hw : WF T a) : ∃ S', zr_sem zF (d + 5) 29 [za 1 0 17] S = some (.inl none, S') ∧ Pz S S' T tx n (sDr tx n st a) := by
  have n6 := hC.2.1.1
  have n14 := hC.2.1.2.2.2.2.2.2.2.2.1
  have u0 := hw.1.1
  have u1 := hw.1.2.1
  have u7 := hw.1.2.2.2.2.2.2.2.1
  have uN := WF_nc hw
  obtain ⟨S1, p1, p2, p3⟩ := k33 (d := d + 1) (x := a 7) (y := 5) h (by omega) (by omega)
  have hC1 : Cb (S1.1 0 3) a := by rw [Fk_0 p3 3]; exact hC
  obtain ⟨v1, S3, q1, q2, q3, q4, q5⟩ := k82 (d := d + 1) (lo := 0) (hi := a 0 - 1) p2 (by omega) (by omega) (by omega)
  have hC3 : Cb (S3.1 0 3) a := by rw [Fk_0 q5 3]; exact hC1
  obtain ⟨v2, S6, r1, r2, r3, r4, r5⟩ := k34 (d := d) q2 hC3 hw q3
  have hC6 : Cb (S6.1 0 3) a := by rw [Fk_0 r5 3]; exact hC3
  rw [show nxt tx n (nuE tx n 0 (a 0 - 1) (pl1 tx n (decide (a 7 < 5)) st)) = stX tx n a (pl1 tx n (decide (a 7 < 5)) st) from rfl] at r2 r4
  rw [pl4_c q4 r4] at r2
  obtain ⟨v3, S9, s1, s2, s3, s4, s5⟩ := k82 (d := d + 1) (lo := 1) (hi := 99) r2 (by omega) (by omega) (by omega)
  obtain ⟨v4, S12, t1, t2, t3, t4, t5⟩ := k82 (d := d + 1) (lo := 0) (hi := 99) s2 (by omega) (by omega) (by omega)
  obtain ⟨S15, w1, w2, w3⟩ := k80 (d := d + 1) (c := 59) t2 (by omega)
  have hC15 : Cb (S15.1 0 3) a := by rw [Fk_0 w3 3, Fk_0 t5 3, Fk_0 s5 3]; exact hC6
  have F : Fz S S15 := Fk_Fz (Fk_trans p3 (Fk_trans q5 (Fk_trans r5 (Fk_trans s5 (Fk_trans t5 w3)))))
  have e7 := RkC_7 w2
  rw [ze_29, n14, p1, zr0, hC1.2.1.1, zo_sub, q1, zr1, r1, zr1, s1, zr1, t1, zr1, w1, zr0]
  unfold sDr
  generalize hs1 : pl1 tx n (decide (a 7 < 5)) st = σ1 at *
  generalize hs4 : pl4 tx n a (frB a) σ1 = σ4 at *
  rw [show nxt tx n (nuE tx n 1 99 σ4) = nmE tx n 1 99 σ4 from rfl] at t2 t4 w2 e7
  rw [show nxt tx n (nuE tx n 0 99 (nmE tx n 1 99 σ4)) = nmE tx n 0 99 (nmE tx n 1 99 σ4) from rfl] at t2 w2 e7
  by_cases o : isO (ceE tx n 59 (nmE tx n 0 99 (nmE tx n 1 99 σ4))) = true
  · rw [if_pos o] at e7
    have o6 := isO_ceE o
    have o5 := isO_nmE o6
    have o4 := isO_nmE o5
    have o4' := o4
    rw [← hs4] at o4'
    obtain ⟨g4, oX, o1⟩ := isO_pl4 o4'
    have o1' := o1
    rw [← hs1] at o1'
    have g7 := of_decide_eq_true (isO_pl1 o1').1
    have vc : (0 ≤ v1 ∧ v1 < a 0) ∧ (0 ≤ v2 ∧ v2 < a 1) := by omega
    have cl := cel_lt vc
    obtain ⟨S17, x1, x2, x3⟩ := c18 (d := d + 2) (h := v3) (r := v4) hC15 hw g7 vc
    refine ⟨S17, by rw [if_pos e7, x1, zr0], RkC_c w2 x3, ⟨_, x2, WF_nd hw g7 cl s3 t3, fun _ => ?_⟩, Fz_trans F (Fc_Fz x3)⟩
    show ndR a (a 0 * v2 + v1) v3 v4 = if _ then _ else _
    rw [if_pos o6, q4 o1, r4 oX, s4 o4, t4 o5]
    rfl
  · rw [if_neg o] at e7
    exact ⟨S15, by rw [if_neg e7], w2, ⟨a, hC15, hw, fun z => absurd z o⟩, F⟩
theorem k30 (h : RkC S tx n st) (hC : Cb (S.1 0 3) a) (hw : WF T a) : ∃ S', zr_sem zF (d + 5) 30 [za 1 0 17] S = some (.inl none, S') ∧ Pz S S' T tx n (sTp tx n st a) := by
  have n15 := hC.2.1.2.2.2.2.2.2.2.2.2
  have u0 := hw.1.1
  have u1 := hw.1.2.1
  have u8 := hw.1.2.2.2.2.2.2.2.2.1
  have uN := WF_nc hw
  obtain ⟨S1, p1, p2, p3⟩ := k33 (d := d + 1) (x := a 8) (y := 5) h (by omega) (by omega)
  have hC1 : Cb (S1.1 0 3) a := by rw [Fk_0 p3 3]; exact hC
  obtain ⟨v1, S3, q1, q2, q3, q4, q5⟩ := k82 (d := d + 1) (lo := 0) (hi := a 0 - 1) p2 (by omega) (by omega) (by omega)
  have hC3 : Cb (S3.1 0 3) a := by rw [Fk_0 q5 3]; exact hC1
  obtain ⟨v2, S6, r1, r2, r3, r4, r5⟩ := k34 (d := d) q2 hC3 hw q3
  have hC6 : Cb (S6.1 0 3) a := by rw [Fk_0 r5 3]; exact hC3
  rw [show nxt tx n (nuE tx n 0 (a 0 - 1) (pl1 tx n (decide (a 8 < 5)) st)) = stX tx n a (pl1 tx n (decide (a 8 < 5)) st) from rfl] at r2 r4
  rw [pl4_c q4 r4] at r2
  obtain ⟨v4, S12, t1, t2, t3, t4, t5⟩ := k82 (d := d + 1) (lo := 0) (hi := 99) r2 (by omega) (by omega) (by omega)
  obtain ⟨S15, w1, w2, w3⟩ := k80 (d := d + 1) (c := 59) t2 (by omega)
  have hC15 : Cb (S15.1 0 3) a := by rw [Fk_0 w3 3, Fk_0 t5 3]; exact hC6
  have F : Fz S S15 := Fk_Fz (Fk_trans p3 (Fk_trans q5 (Fk_trans r5 (Fk_trans t5 w3))))
  have e7 := RkC_7 w2
  rw [ze_30, n15, p1, zr0, hC1.2.1.1, zo_sub, q1, zr1, r1, zr1, t1, zr1, w1, zr0]
  unfold sTp
  generalize hs1 : pl1 tx n (decide (a 8 < 5)) st = σ1 at *
  generalize hs4 : pl4 tx n a (frB a) σ1 = σ4 at *
  rw [show nxt tx n (nuE tx n 0 99 σ4) = nmE tx n 0 99 σ4 from rfl] at t2 w2 e7
  by_cases o : isO (ceE tx n 59 (nmE tx n 0 99 σ4)) = true
  · rw [if_pos o] at e7
    have o6 := isO_ceE o
    have o4 := isO_nmE o6
    have o4' := o4
    rw [← hs4] at o4'
    obtain ⟨g4, oX, o1⟩ := isO_pl4 o4'
    have o1' := o1
    rw [← hs1] at o1'
    have g7 := of_decide_eq_true (isO_pl1 o1').1
    have vc : (0 ≤ v1 ∧ v1 < a 0) ∧ (0 ≤ v2 ∧ v2 < a 1) := by omega
    have cl := cel_lt vc
    obtain ⟨S17, x1, x2, x3⟩ := c19 (d := d + 2) (r := v4) hC15 hw g7 vc
    refine ⟨S17, by rw [if_pos e7, x1, zr0], RkC_c w2 x3, ⟨_, x2, WF_nt hw g7 cl t3, fun _ => ?_⟩, Fz_trans F (Fc_Fz x3)⟩
    show ntR a (a 0 * v2 + v1) v4 = if _ then _ else _
    rw [if_pos o6, q4 o1, r4 oX, t4 o4]
    rfl
  · rw [if_neg o] at e7
    exact ⟨S15, by rw [if_neg e7], w2, ⟨a, hC15, hw, fun z => absurd z o⟩, F⟩
theorem k32 (h : RkC S tx n st) (hC : Cb (S.1 0 3) a) (hw : WF T a) : ∃ S', zr_sem zF (d + 5) 32 [za 1 0 17] S = some (.inl none, S') ∧ Pz S S' T tx n (sSo tx n st a) := by
  have u0 := hw.1.1
  have u1 := hw.1.2.1
  have uN := WF_nc hw
  obtain ⟨S1, p1, p2, p3⟩ := k72 (d := d + 2) h
  have hC1 : Cb (S1.1 0 3) a := by rw [Fk_0 p3 3]; exact hC
  obtain ⟨v1, S3, q1, q2, q3, q4, q5⟩ := k82 (d := d + 1) (lo := 0) (hi := a 0 - 1) p2 (by omega) (by omega) (by omega)
  have hC3 : Cb (S3.1 0 3) a := by rw [Fk_0 q5 3]; exact hC1
  obtain ⟨v2, S6, r1, r2, r3, r4, r5⟩ := k82 (d := d + 1) (lo := 0) (hi := a 1 - 1) q2 (by omega) (by omega) (by omega)
  have hC6 : Cb (S6.1 0 3) a := by rw [Fk_0 r5 3]; exact hC3
  obtain ⟨v4, S12, t1, t2, t3, t4, t5⟩ := k82 (d := d + 1) (lo := 1) (hi := 99) r2 (by omega) (by omega) (by omega)
  obtain ⟨S15, w1, w2, w3⟩ := k80 (d := d + 1) (c := 59) t2 (by omega)
  have hC15 : Cb (S15.1 0 3) a := by rw [Fk_0 w3 3, Fk_0 t5 3]; exact hC6
  have F : Fz S S15 := Fk_Fz (Fk_trans p3 (Fk_trans q5 (Fk_trans r5 (Fk_trans t5 w3))))
  have vc : (0 ≤ v1 ∧ v1 < a 0) ∧ (0 ≤ v2 ∧ v2 < a 1) := by omega
  have cl := cel_lt vc
  obtain ⟨i, hi⟩ : ∃ i : Nat, a 0 * v2 + v1 = i := ⟨(a 0 * v2 + v1).toNat, by omega⟩
  rw [ze_32, p1, zr0, hC1.2.1.1, zo_sub, q1, zr1, hC3.2.1.2.1, zo_sub, r1, zr1, t1, zr1, w1, zr0, c3 hC15 hw (by omega) (by omega) (by omega) (by omega), zr1, cAt_in vc, hi, c64s (by omega), zr0]
  refine ⟨_, rfl, RkC_s w2, ⟨_, Cb_s hC15 hw (by omega), ?_, fun z => ?_⟩, Fz_trans F Fz_s⟩
  · refine WF_soapF hw (fun j hj => ?_) (fun c hc => ?_)
    · unfold up; rw [if_neg (by omega)]
    · unfold up
      by_cases e : 160 + c = 160 + i
      · rw [if_pos e]; omega
      · rw [if_neg e]; exact hw.2.2.2.2.1 c hc
  · have o4 := isO_ceE z
    have o3 := isO_nmE o4
    have o2 := isO_nmE o3
    have o1 := isO_nmE o2
    show up a (160 + i) v4 = if isO (nmE tx n 1 99 (s3E tx n st a)) = true then up a (160 + (clE tx n a (nxt tx n st)).toNat) (nuV tx n 1 99 (s3E tx n st a)) else a
    have e1 : (clE tx n a (nxt tx n st)).toNat = i := by
      unfold clE rdX rdY
      rw [← q4 o1, show nuV tx n 0 (a 1 - 1) (stX tx n a (nxt tx n st)) = v2 from (r4 o2).symm, hi, Int.toNat_natCast]
    rw [if_pos o4, e1, show nuV tx n 1 99 (s3E tx n st a) = v4 from (t4 o3).symm]
end DG

/-! THE PURE SIDE 44: reading a bath: boats, the loop, load; class -/
def goO (tx : Nat → Int) (n : Nat) : Et → Bool
  | .ok p => decide (tkT tx n p ≠ 0)
  | .error _ => false
def dec1 (tx : Nat → Int) (n : Nat) (st : Et) (a : Rw) : Et × Rw := if kwO tx n 3 st = true then sDr tx n st a else if kwO tx n 20 st = true then sTp tx n st a else if kwO tx n 2 st = true then sBt tx n st a else if kwO tx n 17 st = true then sSo tx n st a else (ert tx n 1 st, a)
def dcl (tx : Nat → Int) (n : Nat) : Nat → Et → Rw → Et × Rw
  | 0, st, a => (st, a)
  | m + 1, st, a => if goO tx n st = true then dcl tx n m (dec1 tx n st a).1 (dec1 tx n st a).2 else (st, a)
def ldP (tx : Nat → Int) (n : Nat) : Et × Rw := dcl tx n 700 (hdA tx n (keE tx n 1 (.ok 0))).1 (hdA tx n (keE tx n 1 (.ok 0))).2
section DH
variable {S : zS} {d n p t l s k : Nat} {a b : Rw} {T : Int} {tx : Nat → Int} {x y z lo hi c v : Int} {st : Et} {u : Nat → Rw}
theorem nbR_up {w g v : Int} : up (nbR a c w g 0) (40 + 10 * (a 9).toNat + 3) v = nbR a c w g v := by
  funext i
  unfold up nbR
  by_cases e : i = 40 + 10 * (a 9).toNat + 3
  · subst e
    rw [if_pos rfl, if_neg (by omega), if_neg (by omega), if_neg (by omega), if_neg (by omega), if_neg (by omega), if_pos rfl]
  · rw [if_neg e]
    by_cases e1 : i = 9
    · rw [if_pos e1, if_pos e1]
    · rw [if_neg e1, if_neg e1]
      by_cases e2 : i < 40 + 10 * (a 9).toNat
      · rw [if_pos e2, if_pos e2]
      · rw [if_neg e2, if_neg e2]
        by_cases e3 : i = 40 + 10 * (a 9).toNat
        · rw [if_pos e3, if_pos e3]
        · rw [if_neg e3, if_neg e3]
          by_cases e4 : i = 40 + 10 * (a 9).toNat + 1
          · rw [if_pos e4, if_pos e4]
          · rw [if_neg e4, if_neg e4]
            by_cases e5 : i = 40 + 10 * (a 9).toNat + 2
            · rw [if_pos e5, if_pos e5]
            · rw [if_neg e5, if_neg e5, if_neg e, if_neg e]
def ld31 (d : Nat) (x5 x8 x19 x22 : Int32) (w : Int32) (S : zS) : Option zO := (zx_ret0 (zr_sem zF d 80 [za 1 0 14, zi (zo 59)] S) (fun S26 => (if (S26.1 1 0 14 7) = (zo 0) then (zx_ret0 (zr_sem zF d 20 [za 0 3 0, zi x5, zi x8, zi x19, zi x22] S26) (fun S28 => (zx_ret0 (zr_sem zF d 68 [za 0 3 1, zi ((S28.1 0 3 0 13) - (zo 1)), zi (zo 4), zi w] S28) (fun S30 => some (.inl none, S30)) zxx)) zxx) else some (.inl none, S26))) zxx)
theorem k31e {v1 v2 v3 v4 v5 : Int} (h : RkC S tx n st) (hC : Cb (S.1 0 3) a) (hw : WF T a) (vc : (0 ≤ v1 ∧ v1 < a 0) ∧ (0 ≤ v2 ∧ v2 < a 1)) (h3 : 1 ≤ v3 ∧ v3 ≤ 99) (h4 : 1 ≤ v4 ∧ v4 ≤ 999) (h5 : 0 ≤ v5 ∧ v5 ≤ v4) (hO : isO st = true → a 9 < 12 ∧ occ a (a 0 * v2 + v1) (-1) = -1 ∧ nbR a (a 0 * v2 + v1) v3 v4 v5 = b) : ∃ S', ld31 (d + 3) (zo v1) (zo v2) (zo v3) (zo v4) (zo v5) S = some (.inl none, S') ∧ Pz S S' T tx n (ceE tx n 59 st, b) := by
  have u9 := hw.1.2.2.2.2.2.2.2.2.2
  obtain ⟨S15, w1, w2, w3⟩ := k80 (d := d) (c := 59) h (by omega)
  have hC15 : Cb (S15.1 0 3) a := by rw [Fk_0 w3 3]; exact hC
  have e7 := RkC_7 w2
  unfold ld31
  rw [w1, zr0]
  by_cases o : isO (ceE tx n 59 st) = true
  · rw [if_pos o] at e7
    obtain ⟨g9, gO, gb⟩ := hO (isO_ceE o)
    have cl := cel_lt vc
    obtain ⟨S17, x1, x2, x3⟩ := c20 (d := d + 1) (w := v3) (s := v4) hC15 hw g9 vc gO
    have n13 : S17.1 0 3 0 13 = zo (a 9 + 1) := x2.2.1.2.2.2.2.2.2.2.1
    have hwn := WF_nb hw g9 cl gO h3 h4 (show 0 ≤ (0 : Int) ∧ 0 ≤ v4 by omega)
    have hwn5 := WF_nb hw g9 cl gO h3 h4 h5
    have C3 := Cb_b3 (v := v5) x2 hwn (b := (a 9).toNat) (by show _ < a 9 + 1; omega)
    rw [nbR_up] at C3
    rw [if_pos e7, x1, zr0, n13, zo_sub, show a 9 + 1 - 1 = (((a 9).toNat : Nat) : Int) by omega, c68b_4 (d := d + 2) x2.1 (b := (a 9).toNat) (by omega), zr0]
    exact ⟨_, rfl, RkC_s (RkC_c w2 x3), ⟨_, C3, hwn5, fun _ => gb⟩, Fz_trans (Fk_Fz w3) (Fz_trans (Fc_Fz x3) Fz_s)⟩
  · rw [if_neg o] at e7
    exact ⟨S15, by rw [if_neg e7], w2, ⟨a, hC15, hw, fun z => absurd z o⟩, Fk_Fz w3⟩
theorem k31 (h : RkC S tx n st) (hC : Cb (S.1 0 3) a) (hw : WF T a) : ∃ S', zr_sem zF (d + 8) 31 [za 1 0 17] S = some (.inl none, S') ∧ Pz S S' T tx n (sBt tx n st a) := by
  have n13 := hC.2.1.2.2.2.2.2.2.2.1
  have u0 := hw.1.1
  have u1 := hw.1.2.1
  have u9 := hw.1.2.2.2.2.2.2.2.2.2
  have uN := WF_nc hw
  obtain ⟨S1, p1, p2, p3⟩ := k33 (d := d + 4) (x := a 9) (y := 12) h (by omega) (by omega)
  have hC1 : Cb (S1.1 0 3) a := by rw [Fk_0 p3 3]; exact hC
  obtain ⟨v1, S3, q1, q2, q3, q4, q5⟩ := k82 (d := d + 4) (lo := 0) (hi := a 0 - 1) p2 (by omega) (by omega) (by omega)
  have hC3 : Cb (S3.1 0 3) a := by rw [Fk_0 q5 3]; exact hC1
  obtain ⟨v2, S6, r1, r2, r3, r4, r5⟩ := k81 (d := d + 5) (lo := 0) (hi := a 1 - 1) q2 (by omega) (by omega) (by omega)
  have hC6 : Cb (S6.1 0 3) a := by rw [Fk_0 r5 3]; exact hC3
  have vc : (0 ≤ v1 ∧ v1 < a 0) ∧ (0 ≤ v2 ∧ v2 < a 1) := by omega
  have cl := cel_lt vc
  have bo : -1 ≤ occ a (a 0 * v2 + v1) (-1) ∧ occ a (a 0 * v2 + v1) (-1) ≤ 24 := by
    have : ∀ {m k : Nat} {f : Nat → Bool}, -1 ≤ zfst f m k ∧ zfst f m k ≤ (m + k : Nat) := by
      intro m
      induction m with
      | zero => intro k f; exact ⟨by show (-1 : Int) ≤ -1; omega, by show (-1 : Int) ≤ _; omega⟩
      | succ m ih2 =>
        intro k f; unfold zfst; split
        · omega
        · have := ih2 (k := k + 1) (f := f); omega
    have := this (m := (a 9).toNat) (k := 0) (f := fun k => decide ((k : Int) ≠ -1) && (decide (a (40 + 10 * k + 6) = 0) && decide (a (40 + 10 * k) = a 0 * v2 + v1)))
    unfold occ; omega
  have eo : ocC a (a 0 * v2 + v1) = occ a (a 0 * v2 + v1) (-1) := if_neg (by omega)
  obtain ⟨S8, s1, s2, s3⟩ := k35 (d := d + 4) r2 (ocB a (a 0 * v2 + v1))
  have hC8 : Cb (S8.1 0 3) a := by rw [Fk_0 s3 3]; exact hC6
  rw [show nxt tx n (nuE tx n 0 (a 0 - 1) (pl1 tx n (decide (a 9 < 12)) st)) = stX tx n a (pl1 tx n (decide (a 9 < 12)) st) from rfl] at s2 r4
  rw [pl4_c q4 r4] at s2
  obtain ⟨v3, S9, t1, t2, t3, t4, t5⟩ := k82 (d := d + 4) (lo := 1) (hi := 99) s2 (by omega) (by omega) (by omega)
  obtain ⟨v4, S10, w1, w2, w3, w4, w5⟩ := k82 (d := d + 4) (lo := 1) (hi := 999) t2 (by omega) (by omega) (by omega)
  obtain ⟨g, S11, y1, y2, y3, y4⟩ := k78 (d := d) (t := 23) w2 (show 0 < txl 23 by decide)
  have hC11 : Cb (S11.1 0 3) a := by rw [Fk_0 y4 3, Fk_0 w5 3, Fk_0 t5 3]; exact hC8
  have F : Fz S S11 := Fk_Fz (Fk_trans p3 (Fk_trans q5 (Fk_trans r5 (Fk_trans s3 (Fk_trans t5 (Fk_trans w5 y4))))))
  have tail : (zx_ret1 (zr_sem zF (d + 7) 78 [za 1 0 14, za 6 23 0] S10) (fun x25 S23 => (if x25 = (zo 0) then ld31 (d + 7) (zo v1) (zo v2) (zo v3) (zo v4) (zo 0) S23 else (zx_ret1 (zr_sem zF (d + 7) 82 [za 1 0 14, zi (zo 0), zi (zo v4)] S23) (fun x34 S32 => ld31 (d + 7) (zo v1) (zo v2) (zo v3) (zo v4) x34 S32) zxx))) zxx) = (if g = false then ld31 (d + 7) (zo v1) (zo v2) (zo v3) (zo v4) (zo 0) S11 else (zx_ret1 (zr_sem zF (d + 7) 82 [za 1 0 14, zi (zo 0), zi (zo v4)] S11) (fun x34 S32 => ld31 (d + 7) (zo v1) (zo v2) (zo v3) (zo v4) x34 S32) zxx)) := by
    rw [y1, zr1]
    cases g with
    | false => rw [if_pos (show zo (bI false) = zo 0 from rfl), if_pos rfl]
    | true => rw [if_neg (by decide), if_neg (by decide)]
  have e31 : zr_sem zF (d + 8) 31 [za 1 0 17] S = (if g = false then ld31 (d + 7) (zo v1) (zo v2) (zo v3) (zo v4) (zo 0) S11 else (zx_ret1 (zr_sem zF (d + 7) 82 [za 1 0 14, zi (zo 0), zi (zo v4)] S11) (fun x34 S32 => ld31 (d + 7) (zo v1) (zo v2) (zo v3) (zo v4) x34 S32) zxx)) := by
    rw [← tail, ze_31, n13, p1, zr0, hC1.2.1.1, zo_sub, q1, zr1, hC3.2.1.2.1, zo_sub, r1, zr1, c3 hC6 hw (by omega) (by omega) (by omega) (by omega), zr1, cAt_in vc, c63o hC6 hw (Or.inr cl), zr1, eo]
    by_cases co : occ a (a 0 * v2 + v1) (-1) = -1
    · have : ocB a (a 0 * v2 + v1) = true := decide_eq_true co
      rw [this] at s1
      rw [if_pos (show zo (occ a (a 0 * v2 + v1) (-1)) = zo (-1) by rw [co]), show zr_sem zF (d + 7) 35 [za 1 0 17, zi (zo 0)] S6 = _ from s1, zr0, t1, zr1, w1, zr1]
      rfl
    · have : ocB a (a 0 * v2 + v1) = false := decide_eq_false co
      rw [this] at s1
      rw [if_neg (show ¬ zo (occ a (a 0 * v2 + v1) (-1)) = zo (-1) by rw [zo_eq (by omega) (by omega) (by omega) (by omega)]; exact co), show zr_sem zF (d + 7) 35 [za 1 0 17, zi (zo 1)] S6 = _ from s1, zr0, t1, zr1, w1, zr1]
      rfl
  rw [show nxt tx n (nuE tx n 1 999 (nxt tx n (nuE tx n 1 99 (pl4 tx n a (ocB a) (pl1 tx n (decide (a 9 < 12)) st))))) = b6E tx n st a from rfl] at y2 y3
  have O6 : isO (b6E tx n st a) = true → a 9 < 12 ∧ occ a (a 0 * v2 + v1) (-1) = -1 ∧ a 0 * v2 + v1 = clE tx n a (pl1 tx n (decide (a 9 < 12)) st) ∧ v3 = nuV tx n 1 99 (b4E tx n st a) ∧ v4 = b6V tx n st a := fun o6 => by
    have o5 := isO_nmE o6
    have o4 := isO_nmE o5
    obtain ⟨g4, oX, o1⟩ := isO_pl4 o4
    have g9 := of_decide_eq_true (isO_pl1 o1).1
    have ec : a 0 * v2 + v1 = clE tx n a (pl1 tx n (decide (a 9 < 12)) st) := by rw [q4 o1, r4 oX]; rfl
    refine ⟨g9, ?_, ec, t4 o4, w4 o5⟩
    rw [ec]; exact of_decide_eq_true g4
  rw [e31]
  cases g with
  | false =>
    rw [if_pos rfl]
    rw [if_neg (by decide)] at y2
    have e8 : b8E tx n st a = b6E tx n st a := by
      unfold b8E
      cases e : b6E tx n st a with
      | ok r => rw [← e, if_neg (by rw [← y3 (by rw [e]; rfl)]; decide)]
      | error e => rfl
    obtain ⟨S2, x1, x2, x3, x4⟩ := k31e (d := d + 4) (b := (sBt tx n st a).2) (v5 := 0) y2 hC11 hw vc t3 w3 (by omega) (fun o6 => by
      obtain ⟨g9, gO, ec, e3, e4⟩ := O6 o6
      refine ⟨g9, gO, ?_⟩
      have eV : b8V tx n st a = 0 := if_neg (by rw [← y3 o6]; decide)
      show _ = if isO (b8E tx n st a) = true then _ else _
      rw [if_pos (by rw [e8]; exact o6), eV, ← ec, ← e3, ← e4])
    refine ⟨S2, x1, ?_, ?_, Fz_trans F x4⟩
    · show RkC S2 tx n (ceE tx n 59 (b8E tx n st a))
      rw [e8]; exact x2
    · obtain ⟨a', z1, z2, z3⟩ := x3
      refine ⟨a', z1, z2, fun z => z3 ?_⟩
      change isO (ceE tx n 59 (b8E tx n st a)) = true at z
      rw [e8] at z; exact z
  | true =>
    rw [if_neg (by decide)]
    rw [if_pos rfl] at y2
    obtain ⟨v5, S12, z1, z2, z3, z4, z5⟩ := k82 (d := d + 4) (lo := 0) (hi := v4) y2 (by omega) (by omega) (by omega)
    have e8 : isO (b6E tx n st a) = true → b8E tx n st a = nmE tx n 0 v4 (nxt tx n (b6E tx n st a)) ∧ b8V tx n st a = v5 := fun o6 => by
      obtain ⟨g9, gO, ec, e3, e4⟩ := O6 o6
      have k6 : kwO tx n 23 (b6E tx n st a) = true := (y3 o6).symm
      unfold b8E b8V
      rw [if_pos k6, if_pos k6, ← e4]
      exact ⟨rfl, (z4 (by rw [isO_nxt]; exact o6)).symm⟩
    have e8' : b8E tx n st a = nmE tx n 0 v4 (nxt tx n (b6E tx n st a)) := by
      cases e : b6E tx n st a with
      | ok r => rw [← e]; exact (e8 (by rw [e]; rfl)).1
      | error e' =>
        have : kwO tx n 23 (b6E tx n st a) = false := by rw [e]; rfl
        unfold b8E
        rw [if_neg (by rw [this]; decide), e]; rfl
    obtain ⟨S2, x1, x2, x3, x4⟩ := k31e (d := d + 4) (b := (sBt tx n st a).2) (v5 := v5) z2 (by rw [Fk_0 z5 3]; exact hC11) hw vc t3 w3 z3 (fun o8 => by
      have o6 : isO (b6E tx n st a) = true := by
        have := isO_nmE o8
        rw [isO_nxt] at this; exact this
      obtain ⟨g9, gO, ec, e3, e4⟩ := O6 o6
      refine ⟨g9, gO, ?_⟩
      show _ = if isO (b8E tx n st a) = true then _ else _
      rw [if_pos (by rw [e8']; exact o8), (e8 o6).2, ← ec, ← e3, ← e4])
    refine ⟨S2, by rw [z1, zr1, x1], ?_, ?_, Fz_trans F (Fz_trans (Fk_Fz z5) x4)⟩
    · show RkC S2 tx n (ceE tx n 59 (b8E tx n st a))
      rw [e8']; exact x2
    · obtain ⟨a', y1, y2, y3⟩ := x3
      refine ⟨a', y1, y2, fun z => y3 ?_⟩
      change isO (ceE tx n 59 (b8E tx n st a)) = true at z
      rw [e8'] at z; exact z
theorem k74 (h : RkC S tx n st) : zr_sem zF (d + 1) 74 [za 1 0 14] S = some (.inl (some (zi (zo (bI (goO tx n st))))), S) := by
  have e7 := RkC_7 h
  obtain ⟨hT, p, hP, hE⟩ := h
  have bt := tkT_b (tx := tx) (n := n) (p := p)
  rw [ze_74]
  cases st with
  | ok r =>
    have e1 := hE.1; subst e1
    rw [if_pos (show S.1 1 0 14 7 = zo 0 from e7), hP.2.2.2.1]
    show _ = some (Sum.inl (some (zi (zo (bI (decide (tkT tx n r ≠ 0)))))), S)
    by_cases c : tkT tx n r = 0
    · rw [if_pos (show zo (tkT tx n r) = zo 0 by rw [c]), decide_eq_false (fun z => z c)]; rfl
    · rw [if_neg (show ¬ zo (tkT tx n r) = zo 0 by rw [zo_eq (by omega) (by omega) (by omega) (by omega)]; exact c), decide_eq_true c]; rfl
  | error e => rw [if_neg (show ¬ S.1 1 0 14 7 = zo 0 from e7)]; rfl
theorem go_O (h : goO tx n st = true) : isO st = true := by
  cases st with
  | ok r => rfl
  | error e => exact h
theorem k26_6 : ∀ (m k f : Nat) (S : zS) (st : Et) (a b : Rw), k + m = 700 → m < f → RkC S tx n st → Cb (S.1 0 3) a → WF T a → (isO st = true → a = b) → ∃ S', zy zF (d + 8) 26 f 6 [some (za 1 0 17), some (zi (zo k))] S = some (.inl none, S') ∧ Pz S S' T tx n (dcl tx n m st b) := by
  intro m
  induction m with
  | zero =>
    intro k f S st a b hk hf h hC hw hab
    obtain ⟨f, rfl⟩ : ∃ f', f = f' + 1 := ⟨f - 1, by omega⟩
    refine ⟨S, ?_, h, ⟨a, hC, hw, hab⟩, Fz_refl S⟩
    rw [ze_26_6, if_pos (show zo 700 ≤ zo (k : Int) by rw [zo_le (by omega) (by omega) (by omega) (by omega)]; omega)]
  | succ m ih =>
    intro k f S st a b hk hf h hC hw hab
    obtain ⟨f, rfl⟩ : ∃ f', f = f' + 1 := ⟨f - 1, by omega⟩
    have ed : dcl tx n (m + 1) st b = if goO tx n st = true then dcl tx n m (dec1 tx n st b).1 (dec1 tx n st b).2 else (st, b) := rfl
    rw [ze_26_6, if_neg (show ¬ zo 700 ≤ zo (k : Int) by rw [zo_le (by omega) (by omega) (by omega) (by omega)]; omega), k74 h, zr1, ed]
    by_cases g : goO tx n st = true
    · have o := go_O g
      have eab := hab o
      subst eab
      rw [g, if_neg (by decide), if_pos rfl]
      obtain ⟨w3, e3, c3⟩ := q76 (d := d + 2) (t := 3) h (show 0 < txl 3 by decide)
      obtain ⟨w20, e20, c20⟩ := q76 (d := d + 2) (t := 20) h (show 0 < txl 20 by decide)
      obtain ⟨w2, e2, c2⟩ := q76 (d := d + 2) (t := 2) h (show 0 < txl 2 by decide)
      obtain ⟨w17, e17, c17⟩ := q76 (d := d + 2) (t := 17) h (show 0 < txl 17 by decide)
      rw [c3 o] at e3
      rw [c20 o] at e20
      rw [c2 o] at e2
      rw [c17 o] at e17
      rw [e3, zr1, zo_add, show (k : Int) + 1 = ((k + 1 : Nat) : Int) from rfl]
      have go : ∀ (S2 : zS) (r : Et × Rw), Pz S S2 T tx n r → ∃ S', zy zF (d + 8) 26 f 6 [some (za 1 0 17), some (zi (zo ((k + 1 : Nat) : Int)))] S2 = some (.inl none, S') ∧ Pz S S' T tx n (dcl tx n m r.1 r.2) := fun S2 r hP => by
        obtain ⟨h2, ⟨a', y1, y2, y3⟩, F2⟩ := hP
        obtain ⟨S3, x1, x2, x3, x4⟩ := ih (k + 1) f S2 r.1 a' r.2 (by omega) (by omega) h2 y1 y2 y3
        exact ⟨S3, x1, x2, x3, Fz_trans F2 x4⟩
      unfold dec1
      by_cases k3 : kwO tx n 3 st = true
      · obtain ⟨S2, q1, q2⟩ := k29 (d := d + 3) h hC hw
        obtain ⟨S3, x1, x2⟩ := go S2 _ q2
        refine ⟨S3, ?_, by rw [if_pos k3]; exact x2⟩
        rw [k3, if_neg (by decide), q1, zr0]; exact x1
      rw [if_neg k3, Bool.eq_false_iff.2 k3, if_pos (show zo (bI false) = zo 0 from rfl), e20, zr1]
      by_cases k20 : kwO tx n 20 st = true
      · obtain ⟨S2, q1, q2⟩ := k30 (d := d + 3) h hC hw
        obtain ⟨S3, x1, x2⟩ := go S2 _ q2
        refine ⟨S3, ?_, by rw [if_pos k20]; exact x2⟩
        rw [k20, if_neg (by decide), q1, zr0]; exact x1
      rw [if_neg k20, Bool.eq_false_iff.2 k20, if_pos (show zo (bI false) = zo 0 from rfl), e2, zr1]
      by_cases k2 : kwO tx n 2 st = true
      · obtain ⟨S2, q1, q2⟩ := k31 (d := d) h hC hw
        obtain ⟨S3, x1, x2⟩ := go S2 _ q2
        refine ⟨S3, ?_, by rw [if_pos k2]; exact x2⟩
        rw [k2, if_neg (by decide), q1, zr0]; exact x1
      rw [if_neg k2, Bool.eq_false_iff.2 k2, if_pos (show zo (bI false) = zo 0 from rfl), e17, zr1]
      by_cases k17 : kwO tx n 17 st = true
      · obtain ⟨S2, q1, q2⟩ := k32 (d := d + 3) h hC hw
        obtain ⟨S3, x1, x2⟩ := go S2 _ q2
        refine ⟨S3, ?_, by rw [if_pos k17]; exact x2⟩
        rw [k17, if_neg (by decide), q1, zr0]; exact x1
      rw [if_neg k17, Bool.eq_false_iff.2 k17, if_pos (show zo (bI false) = zo 0 from rfl)]
      obtain ⟨S2, q1, q2, q3⟩ := k75 (d := d + 7) (c := 1) h (by omega)
      obtain ⟨S3, x1, x2⟩ := go S2 (ert tx n 1 st, a) ⟨q2, ⟨a, by rw [Fk_0 q3 3]; exact hC, hw, fun _ => rfl⟩, Fk_Fz q3⟩
      refine ⟨S3, ?_, x2⟩
      rw [q1, zr0]; exact x1
    · refine ⟨S, ?_, ?_⟩
      · rw [Bool.eq_false_iff.2 g, if_pos (show zo (bI false) = zo 0 from rfl)]
      · rw [if_neg g]; exact ⟨h, ⟨a, hC, hw, hab⟩, Fz_refl S⟩
theorem k26 (h : RkC S tx n (.ok 0)) (hF : CbF (S.1 0 3)) (hT : 0 ≤ T ∧ T ≤ 1000000) : ∃ S', zr_sem zF (d + 9) 26 [za 1 0 17] S = some (.inl none, S') ∧ Pz S S' T tx n (ldP tx n) := by
  have hb := zF1_big
  obtain ⟨S1, p1, p2, ⟨a, p3, p4, p5⟩, p6⟩ := k27 (d := d) h hF hT
  obtain ⟨S2, q1, q2, q3, q4⟩ := k26_6 (d := d) 700 0 zF1 S1 _ a _ (by omega) (by omega) p2 p3 p4 p5
  refine ⟨S2, ?_, q2, q3, Fz_trans p6 q4⟩
  rw [ze_26, p1, zr0]; exact q1
theorem k71 (hx : ∀ i, i < n → S.1 1 0 16 i = zo (tx i) ∧ 0 ≤ tx i ∧ tx i ≤ 255) (hn : n ≤ 700) : ∃ S', zr_sem zF (d + 3) 71 [za 1 0 14, zi (zo n)] S = some (.inl none, S') ∧ RkC S' tx n (.ok 0) ∧ S'.2 = S.2 ∧ (∀ k m o j, ¬(k = 1 ∧ m = 0 ∧ o = 14 ∧ 2 ≤ j) → S'.1 k m o j = S.1 k m o j) := by
  have hT : TxC (zs_set (zs_set (zs_set (zs_set S 1 0 14 2 (zo n)) 1 0 14 4 (zo 0)) 1 0 14 7 (zo 0)) 1 0 14 8 (zo (-1))) tx n := ⟨⟨by rw [zs_oth (by omega), zs_oth (by omega), zs_oth (by omega), zs_self], hn⟩, fun i hi => by rw [zs_oth (by omega), zs_oth (by omega), zs_oth (by omega), zs_oth (by omega)]; exact hx i hi⟩
  obtain ⟨S2, q1, q2, q3⟩ := c72 (d := d) (p := 0) hT (Nat.zero_le n) (by rw [zs_oth (by omega), zs_oth (by omega), zs_self]; rfl)
  refine ⟨S2, by rw [ze_71, q1, zr0], ⟨TxC_k hT (Fa_Fk q3), 0, q2, rfl, by rw [q3.2 _ _ _ _ (by omega), zs_oth (by omega), zs_self], by rw [q3.2 _ _ _ _ (by omega), zs_self]⟩, q3.1, fun k m o j b => ?_⟩
  rw [q3.2 k m o j (by omega), zs_oth (by omega), zs_oth (by omega), zs_oth (by omega), zs_oth (by omega)]
/-- load: code and place of the error, if there is one -/
def ldA (r : Et × Rw) : Int := match r.1 with
  | .ok _ => r.2 9
  | .error e => -10 - e.1
def epA (r : Et) : Int := match r with
  | .ok _ => -1
  | .error e => e.2
theorem A90 {tn : Nat} (H : HC S k u a) (h14 : S.1 1 0 14 1 = zo tn) (htn : tn ≤ 700) (hx : ∀ i, i < tn → S.1 1 0 16 i = zo (tx i) ∧ 0 ≤ tx i ∧ tx i ≤ 255) (hT : 0 ≤ T ∧ T ≤ 1000000) (g1 : -2147483648 ≤ x) (g2 : x < 2147483648) : if 0 ≤ x ∧ x ≤ tn then ∃ S', zr_sem zF (d + 10) 90 [za 1 0 0, zi (zo x)] S = some (.inl (some (zi (zo (ldA (ldP tx x.toNat))))), S') ∧ HC S' (if isO (ldP tx x.toNat).1 = true then 0 else k) u (if isO (ldP tx x.toNat).1 = true then (ldP tx x.toNat).2 else a) ∧ (isO (ldP tx x.toNat).1 = true → WF T (ldP tx x.toNat).2) ∧ S'.1 1 0 14 1 = zo 0 ∧ S'.1 1 0 0 11 = zo (epA (ldP tx x.toNat).1) ∧ S'.1 1 0 0 12 = (if isO (ldP tx x.toNat).1 = true then zo 0 else S.1 1 0 0 12) ∧ (∀ k m o j, ¬(k = 0 ∧ (m = 0 ∨ m = 3)) → ¬(k = 1 ∧ m = 0 ∧ ((o = 0 ∧ (j = 11 ∨ j = 12)) ∨ (o = 1 ∧ j = 2) ∨ o = 14 ∨ (o = 4 ∧ j ≠ 0) ∨ o = 6 ∨ o = 8 ∨ o = 11 ∨ o = 13)) → S'.1 k m o j = S.1 k m o j) else zr_sem zF (d + 10) 90 [za 1 0 0, zi (zo x)] S = some (.inr 2, zsn S) := by
  have e41 := c141 (d := d + 8) (S := S) (p := x) (l := 0) (m := tn) g1 g2 (by omega) (by omega) (by omega) (by omega)
  rw [ze_90, h14, e41]
  by_cases c : 0 ≤ x ∧ x ≤ tn
  · rw [if_pos c, if_pos c, zr0]
    obtain ⟨q, rfl⟩ : ∃ q : Nat, x = q := ⟨x.toNat, by omega⟩
    rw [Int.toNat_natCast]
    obtain ⟨S1, p1, p2, p3, p4⟩ := k71 (d := d + 6) (n := q) (fun i hi => hx i (by omega)) (by omega)
    have b0 : ∀ n, S1.1 0 n = S.1 0 n := fun n => by funext o j; exact p4 0 n o j (by omega)
    obtain ⟨S2, q1, q2, ⟨a', q3, q4, q5⟩, q6⟩ := k26 (d := d) p2 (by rw [b0]; exact H.2.2.2 3 (by omega)) hT
    have bb : ∀ n, n ≠ 3 → S2.1 0 n = S.1 0 n := fun n hn => by funext o j; rw [q6.2 0 n o j (by omega) (by omega), b0]
    have e7 := RkC_7 q2
    have e8 : S2.1 1 0 14 8 = zo (epA (ldP tx q).1) := by
      obtain ⟨_, p, _, hE⟩ := q2
      revert hE
      cases (ldP tx q).1 with
      | ok r => intro hE; exact hE.2.2
      | error e => intro hE; exact hE.2.2
    have hH : HC S2 k u a := by
      refine ⟨by rw [bb 0 (by omega)]; exact H.1, ?_, H.2.2.1, fun n hn => ?_⟩
      · obtain ⟨y, x1, x2, x3, x4⟩ := H.2.1
        refine ⟨y, x1, by rw [q6.2 _ _ _ _ (by omega) (by omega), p4 _ _ _ _ (by omega)]; exact x2, by rw [q6.2 _ _ _ _ (by omega) (by omega), p4 _ _ _ _ (by omega)]; exact x3, fun i hi => ?_⟩
        rw [bb _ (by omega)]; exact x4 i hi
      · by_cases e : n = 3
        · rw [e]; exact q3.1
        · rw [bb n e]; exact H.2.2.2 n hn
    rw [p1, zr0, q1, zr0, zs_oth (by omega), zs_oth (by omega), zs_oth (by omega), e8]
    have hH3 : HC (zs_set (zs_set S2 1 0 14 1 (zo 0)) 1 0 0 11 (zo (epA (ldP tx q).1))) k u a := by
      have bs : ∀ n, (zs_set (zs_set S2 1 0 14 1 (zo 0)) 1 0 0 11 (zo (epA (ldP tx q).1))).1 0 n = S2.1 0 n := fun n => by funext o j; rw [zs_oth (by omega), zs_oth (by omega)]
      refine ⟨by rw [bs]; exact hH.1, ?_, hH.2.2.1, fun n hn => by rw [bs]; exact hH.2.2.2 n hn⟩
      obtain ⟨y, x1, x2, x3, x4⟩ := hH.2.1
      exact ⟨y, x1, by rw [zs_oth (by omega), zs_oth (by omega)]; exact x2, by rw [zs_oth (by omega), zs_oth (by omega)]; exact x3, fun i hi => by rw [bs]; exact x4 i hi⟩
    by_cases o : isO (ldP tx q).1 = true
    · have o' := o
      rw [if_pos o] at e7
      rw [if_pos e7, if_pos o, if_pos o, if_pos o]
      have ea : ldA (ldP tx q) = (ldP tx q).2 9 := by
        unfold ldA
        revert o
        cases (ldP tx q).1 with
        | ok r => intro _; rfl
        | error e => intro z; exact (Bool.false_ne_true z).elim
      have er := q5 o
      rw [← er, ea, ← er]
      have c3b : Cb ((zs_set (zs_set S2 1 0 14 1 (zo 0)) 1 0 0 11 (zo (epA (ldP tx q).1))).1 0 3) a' := by
        have : (zs_set (zs_set S2 1 0 14 1 (zo 0)) 1 0 0 11 (zo (epA (ldP tx q).1))).1 0 3 = S2.1 0 3 := by funext o j; rw [zs_oth (by omega), zs_oth (by omega)]
        rw [this]; exact q3
      obtain ⟨S3, r1, r2, r3⟩ := c1 (S := zs_set (zs_set S2 1 0 14 1 (zo 0)) 1 0 0 11 (zo (epA (ldP tx q).1))) (n := 0) (p := 3) (d := d + 7) (by omega)
      have hN := r2 a' T c3b q4 (hH3.2.2.2 0 (by omega))
      rw [r1, zr0, ze_45, zr0]
      have ob : ∀ p, p ≠ 0 → S3.1 0 p = (zs_set (zs_set S2 1 0 14 1 (zo 0)) 1 0 0 11 (zo (epA (ldP tx q).1))).1 0 p := fun p hp => by funext o j; exact r3.2 0 p o j (by omega) (by omega)
      have oz : ∀ p, (zs_set (zs_set S3 1 0 1 2 (zo 0)) 1 0 0 12 (zo 0)).1 0 p = S3.1 0 p := fun p => by funext o j; rw [zs_oth (by omega), zs_oth (by omega)]
      refine ⟨_, ?_, ⟨by rw [oz]; exact hN, ?_, by omega, fun n hn => ?_⟩, fun _ => q4, ?_, ?_, zs_self, fun k m o j b1 b2 => ?_⟩
      · rw [zs_oth (by omega), zs_oth (by omega), hN.2.1.2.2.2.2.2.2.2.1]
      · obtain ⟨y, x1, x2, x3, x4⟩ := hH3.2.1
        refine ⟨y, x1, ?_, by rw [zs_oth (by omega), zs_self]; rfl, fun i hi => by omega⟩
        rw [zs_oth (by omega), zs_oth (by omega), r3.2 _ _ _ _ (by omega) (by omega)]; exact x2
      · rw [oz]
        by_cases e : n = 0
        · rw [e]; exact hN.1
        · rw [ob n e]; exact hH3.2.2.2 n hn
      · rw [zs_oth (by omega), zs_oth (by omega), r3.2 _ _ _ _ (by omega) (by omega), zs_oth (by omega), zs_self]
      · rw [zs_oth (by omega), zs_oth (by omega), r3.2 _ _ _ _ (by omega) (by omega), zs_self]
      · rw [zs_oth (by omega), zs_oth (by omega), r3.2 _ _ _ _ (by omega) (by omega), zs_oth (by omega), zs_oth (by omega), q6.2 _ _ _ _ (by omega) (by omega), p4 _ _ _ _ (by omega)]
    · rw [if_neg o] at e7
      rw [if_neg e7, if_neg o, if_neg o, if_neg o]
      refine ⟨_, ?_, hH3, fun z => absurd z o, ?_, zs_self, ?_, fun k m o j b1 b2 => ?_⟩
      · obtain ⟨_, p, _, hE⟩ := q2
        unfold ldA
        revert hE o
        cases (ldP tx q).1 with
        | ok r => intro z; exact absurd rfl z
        | error e => intro _ hE; rw [hE.1, zo_sub]
      · rw [zs_oth (by omega), zs_self]
      · rw [zs_oth (by omega), zs_oth (by omega), q6.2 _ _ _ _ (by omega) (by omega), p4 _ _ _ _ (by omega)]
      · rw [zs_oth (by omega), zs_oth (by omega), q6.2 _ _ _ _ (by omega) (by omega), p4 _ _ _ _ (by omega)]
  · rw [if_neg c, if_neg c]
    rfl
end DH

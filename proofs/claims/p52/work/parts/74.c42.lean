/-! THE PURE SIDE 42: reading a bath: what it comes to; the head, class -/
def nmE (tx : Nat → Int) (n : Nat) (lo hi : Int) (st : Et) : Et := nxt tx n (nuE tx n lo hi st)
def miE (tx : Nat → Int) (n : Nat) (st : Et) : Et := if chO tx n 45 st = true then nxt tx n st else st
def sgE (tx : Nat → Int) (n : Nat) (st : Et) : Et := nmE tx n 0 99 (miE tx n st)
def sgV (tx : Nat → Int) (n : Nat) (st : Et) : Int := if chO tx n 45 st = true then -(nuV tx n 0 99 (miE tx n st)) else nuV tx n 0 99 (miE tx n st)
def hdD (tx : Nat → Int) (n : Nat) (st : Et) (a : Rw) : Et × Rw := if kwO tx n 24 st = true then (ceE tx n 59 (sgE tx n (sgE tx n (nxt tx n st))), up (up a 4 (sgV tx n (nxt tx n st))) 5 (sgV tx n (sgE tx n (nxt tx n st)))) else (ceE tx n 59 st, a)
def hdC (tx : Nat → Int) (n : Nat) (st : Et) (a : Rw) : Et × Rw := if kwO tx n 16 st = true then hdD tx n (nmE tx n 0 9 (nxt tx n st)) (up a 3 (nuV tx n 0 9 (nxt tx n st))) else hdD tx n st a
def hdB (tx : Nat → Int) (n : Nat) (st : Et) (a : Rw) : Et × Rw := if kwO tx n 6 st = true then hdC tx n (nmE tx n 0 1000 (nxt tx n st)) (up a 2 (nuV tx n 0 1000 (nxt tx n st))) else hdC tx n st a
def hdA (tx : Nat → Int) (n : Nat) (st : Et) : Et × Rw := hdB tx n (nmE tx n 3 10 (nmE tx n 3 10 st)) (begR (nuV tx n 3 10 st) (nuV tx n 3 10 (nmE tx n 3 10 st)))
def Fz (S S' : zS) : Prop := S'.2 = S.2 ∧ ∀ k m o j, ¬(k = 0 ∧ m = 3) → ¬(k = 1 ∧ m = 0 ∧ ((o = 14 ∧ 3 ≤ j) ∨ (o = 4 ∧ j ≠ 0) ∨ o = 6 ∨ o = 8 ∨ o = 11 ∨ o = 13)) → S'.1 k m o j = S.1 k m o j
theorem Fz_refl (S : zS) : Fz S S := ⟨rfl, fun _ _ _ _ _ _ => rfl⟩
theorem Fz_trans {S S1 S2 : zS} (h1 : Fz S S1) (h2 : Fz S1 S2) : Fz S S2 := ⟨h2.1.trans h1.1, fun k m o j a b => (h2.2 k m o j a b).trans (h1.2 k m o j a b)⟩
theorem Fk_Fz {S S' : zS} (h : Fk S S') : Fz S S' := ⟨h.1, fun k m o j a b => h.2 k m o j (by omega)⟩
theorem Fc_Fz {S S' : zS} (h : Fc 3 S S') : Fz S S' := ⟨h.1, fun k m o j a b => h.2 k m o j (by omega) (by omega)⟩
/-- what reading a part of a bath leaves -/
def Pz (S S' : zS) (T : Int) (tx : Nat → Int) (n : Nat) (r : Et × Rw) : Prop := RkC S' tx n r.1 ∧ (∃ a', Cb (S'.1 0 3) a' ∧ WF T a' ∧ (isO r.1 = true → a' = r.2)) ∧ Fz S S'
def ld27D (d : Nat) (S : zS) : Option zO := (zx_ret1 (zr_sem zF d 78 [za 1 0 14, za 6 24 0] S) (fun x100 S98 => (if x100 = (zo 0) then (zx_ret0 (zr_sem zF d 80 [za 1 0 14, zi (zo 59)] S98) (fun S101 => some (.inl none, S101)) zxx) else (zx_ret1 (zr_sem zF d 28 [za 1 0 17] S98) (fun x105 S103 => (zx_ret1 (zr_sem zF d 28 [za 1 0 17] (zs_set S103 0 3 0 10 x105)) (fun x108 S106 => (zx_ret0 (zr_sem zF d 80 [za 1 0 14, zi (zo 59)] (zs_set S106 0 3 0 11 x108)) (fun S109 => some (.inl none, S109)) zxx)) zxx)) zxx))) zxx)
def ld27C (d : Nat) (S : zS) : Option zO := (zx_ret1 (zr_sem zF d 78 [za 1 0 14, za 6 16 0] S) (fun x97 S95 => (if x97 = (zo 0) then ld27D d S95 else (zx_ret1 (zr_sem zF d 82 [za 1 0 14, zi (zo 0), zi (zo 9)] S95) (fun x113 S111 => ld27D d (zs_set S111 0 3 0 9 x113)) zxx))) zxx)
def ld27B (d : Nat) (S : zS) : Option zO := (zx_ret1 (zr_sem zF d 78 [za 1 0 14, za 6 6 0] S) (fun x94 S92 => (if x94 = (zo 0) then ld27C d S92 else (zx_ret1 (zr_sem zF d 82 [za 1 0 14, zi (zo 0), zi (zo 1000)] S92) (fun x129 S127 => ld27C d (zs_set S127 0 3 0 8 x129)) zxx))) zxx)
def ld27A (d : Nat) (S : zS) : Option zO := (zx_ret1 (zr_sem zF d 82 [za 1 0 14, zi (zo 3), zi (zo 10)] S) (fun x86 S84 => (zx_ret1 (zr_sem zF d 82 [za 1 0 14, zi (zo 3), zi (zo 10)] S84) (fun x89 S87 => (zx_ret0 (zr_sem zF d 0 [za 0 3 0, zi x86, zi x89] S87) (fun S90 => ld27B d S90) zxx)) zxx)) zxx)
section DF
variable {S : zS} {d n p t l s : Nat} {a b : Rw} {T : Int} {tx : Nat → Int} {x y z lo hi c v : Int} {st : Et}
theorem isO_nxt : isO (nxt tx n st) = isO st := by cases st <;> rfl
theorem isO_ert : isO (ert tx n c st) = false := by cases st <;> rfl
theorem isO_nuE (h : isO (nuE tx n lo hi st) = true) : isO st = true := by
  cases st with
  | ok r => rfl
  | error e => exact h
theorem isO_nmE (h : isO (nmE tx n lo hi st) = true) : isO st = true := isO_nuE (by rw [← isO_nxt (tx := tx) (n := n)]; exact h)
theorem isO_ceE (h : isO (ceE tx n c st) = true) : isO st = true := by
  cases st with
  | ok r => rfl
  | error e => exact h
theorem isO_miE : isO (miE tx n st) = isO st := by
  unfold miE; split
  · exact isO_nxt
  · rfl
theorem isO_sgE (h : isO (sgE tx n st) = true) : isO st = true := by
  rw [← isO_miE (tx := tx) (n := n)]; exact isO_nmE h
theorem RkC_z {S' : zS} (h : RkC S tx n st) (hF : S'.2 = S.2) (h2 : ∀ o j, S'.1 1 0 o j = S.1 1 0 o j) : RkC S' tx n st := by
  obtain ⟨⟨⟨t1, t2⟩, t3⟩, p, ⟨k1, k2, k3, k4, k5, k6⟩, hE⟩ := h
  refine ⟨⟨⟨by rw [h2]; exact t1, t2⟩, fun i hi => by rw [h2]; exact t3 i hi⟩, p, ⟨k1, by rw [h2]; exact k2, by rw [h2]; exact k3, by rw [h2]; exact k4, fun z => by rw [h2]; exact k5 z, fun z => by rw [h2]; exact k6 z⟩, ?_⟩
  cases st with
  | ok q => exact ⟨hE.1, by rw [h2]; exact hE.2.1, by rw [h2]; exact hE.2.2⟩
  | error e => exact ⟨by rw [h2]; exact hE.1, hE.2.1, by rw [h2]; exact hE.2.2⟩
theorem RkC_s (h : RkC S tx n st) {o j : Nat} {v : Int32} : RkC (zs_set S 0 3 o j v) tx n st := RkC_z h rfl (fun o j => zs_oth (by omega))
theorem Fz_s {o j : Nat} {v : Int32} : Fz S (zs_set S 0 3 o j v) := ⟨rfl, fun k m o j a b => zs_oth (by omega)⟩
/-- a sign and a number -/
theorem k28 (h : RkC S tx n st) : ∃ v S', zr_sem zF (d + 4) 28 [za 1 0 17] S = some (.inl (some (zi (zo v))), S') ∧ RkC S' tx n (sgE tx n st) ∧ (-99 ≤ v ∧ v ≤ 99) ∧ (isO st = true → v = sgV tx n st) ∧ Fk S S' := by
  obtain ⟨b, S1, p1, p2, p3, p4⟩ := k79 (d := d) (c := 45) h (by omega)
  have e2 : (if b = true then nxt tx n st else st) = miE tx n st := by
    unfold miE
    cases st with
    | ok r => rw [p3 rfl]
    | error e => cases b <;> rfl
  rw [e2] at p2
  obtain ⟨v, S2, q1, q2, q3, q4, q5⟩ := k82 (d := d) (lo := 0) (hi := 99) p2 (by omega) (by omega) (by omega)
  rw [isO_miE] at q4
  cases b with
  | false =>
    refine ⟨v, S2, ?_, q2, by omega, fun z => ?_, Fk_trans p4 q5⟩
    · rw [ze_28, p1, zr1, q1, zr1, if_pos (show zo (bI false) = zo 0 from rfl)]
    · unfold sgV
      rw [← p3 z, if_neg (by decide), q4 z]
  | true =>
    refine ⟨-v, S2, ?_, q2, by omega, fun z => ?_, Fk_trans p4 q5⟩
    · rw [ze_28, p1, zr1, q1, zr1, if_neg (by decide), zo_neg]
    · unfold sgV
      rw [← p3 z, if_pos rfl, q4 z]
theorem k27D (h : RkC S tx n st) (hC : Cb (S.1 0 3) a) (hw : WF T a) (hab : isO st = true → a = b) : ∃ S', ld27D (d + 7) S = some (.inl none, S') ∧ Pz S S' T tx n (hdD tx n st b) := by
  obtain ⟨w, S1, p1, p2, p3, p4⟩ := k78 (d := d) (t := 24) h (show 0 < txl 24 by decide)
  have hC1 : Cb (S1.1 0 3) a := by rw [Fk_0 p4 3]; exact hC
  unfold ld27D
  rw [p1, zr1]
  cases w with
  | false =>
    rw [if_pos (show zo (bI false) = zo 0 from rfl)]
    rw [if_neg (by decide)] at p2
    obtain ⟨S2, q1, q2, q3⟩ := k80 (d := d + 4) (c := 59) p2 (by omega)
    have e : hdD tx n st b = (ceE tx n 59 st, b) := by
      unfold hdD
      cases st with
      | ok r => rw [if_neg (by rw [← p3 rfl]; decide)]
      | error e => rfl
    refine ⟨S2, by rw [q1, zr0], ?_⟩
    rw [e]
    exact ⟨q2, ⟨a, by rw [Fk_0 q3 3]; exact hC1, hw, fun z => hab (isO_ceE z)⟩, Fz_trans (Fk_Fz p4) (Fk_Fz q3)⟩
  | true =>
    rw [if_neg (by decide)]
    rw [if_pos rfl] at p2
    obtain ⟨v, S2, q1, q2, q3, q4, q5⟩ := k28 (d := d + 3) p2
    have hC2 : Cb (S2.1 0 3) a := by rw [Fk_0 q5 3]; exact hC1
    have hC3 := Cb_n4 (v := v) hC2 hw
    have hw3 := WF_h4 hw q3
    obtain ⟨v2, S4, r1, r2, r3, r4, r5⟩ := k28 (d := d + 3) (RkC_s (o := 0) (j := 10) (v := zo v) q2)
    have hC4 : Cb (S4.1 0 3) (up a 4 v) := by rw [Fk_0 r5 3]; exact hC3
    have hC5 := Cb_n5 (v := v2) hC4 hw3
    have hw5 := WF_h5 hw3 r3
    obtain ⟨S6, s1, s2, s3⟩ := k80 (d := d + 4) (c := 59) (RkC_s (o := 0) (j := 11) (v := zo v2) r2) (by omega)
    refine ⟨S6, by rw [q1, zr1, r1, zr1, s1, zr0], ?_⟩
    have F : Fz S S6 := Fz_trans (Fk_Fz p4) (Fz_trans (Fk_Fz q5) (Fz_trans Fz_s (Fz_trans (Fk_Fz r5) (Fz_trans Fz_s (Fk_Fz s3)))))
    cases st with
    | ok r =>
      have e : hdD tx n (.ok r) b = (ceE tx n 59 (sgE tx n (sgE tx n (nxt tx n (.ok r)))), up (up b 4 (sgV tx n (nxt tx n (.ok r)))) 5 (sgV tx n (sgE tx n (nxt tx n (.ok r))))) := if_pos (p3 rfl).symm
      rw [e]
      refine ⟨s2, ⟨_, by rw [Fk_0 s3 3]; exact hC5, hw5, fun z => ?_⟩, F⟩
      have z1 := isO_sgE (isO_ceE z)
      rw [q4 rfl, r4 z1, hab rfl]
    | error e => exact ⟨s2, ⟨_, by rw [Fk_0 s3 3]; exact hC5, hw5, fun z => (Bool.false_ne_true z).elim⟩, F⟩
theorem k27C (h : RkC S tx n st) (hC : Cb (S.1 0 3) a) (hw : WF T a) (hab : isO st = true → a = b) : ∃ S', ld27C (d + 7) S = some (.inl none, S') ∧ Pz S S' T tx n (hdC tx n st b) := by
  obtain ⟨w, S1, p1, p2, p3, p4⟩ := k78 (d := d) (t := 16) h (show 0 < txl 16 by decide)
  have hC1 : Cb (S1.1 0 3) a := by rw [Fk_0 p4 3]; exact hC
  unfold ld27C
  rw [p1, zr1]
  cases w with
  | false =>
    rw [if_pos (show zo (bI false) = zo 0 from rfl)]
    rw [if_neg (by decide)] at p2
    obtain ⟨S2, q1, q2, q3, q4⟩ := k27D (d := d) (b := b) p2 hC1 hw hab
    have e : hdC tx n st b = hdD tx n st b := by
      unfold hdC
      cases st with
      | ok r => rw [if_neg (by rw [← p3 rfl]; decide)]
      | error e => rfl
    refine ⟨S2, q1, ?_⟩
    rw [e]
    exact ⟨q2, q3, Fz_trans (Fk_Fz p4) q4⟩
  | true =>
    rw [if_neg (by decide)]
    rw [if_pos rfl] at p2
    obtain ⟨v, S2, q1, q2, q3, q4, q5⟩ := k82 (d := d + 4) (lo := 0) (hi := 9) p2 (by omega) (by omega) (by omega)
    have hC2 : Cb (S2.1 0 3) a := by rw [Fk_0 q5 3]; exact hC1
    have hC3 := Cb_n3 (v := v) hC2 hw
    have hw3 := WF_h3 hw q3
    rw [isO_nxt] at q4
    obtain ⟨S4, r1, r2, r3, r4⟩ := k27D (d := d) (b := up b 3 (nuV tx n 0 9 (nxt tx n st))) (RkC_s (o := 0) (j := 9) (v := zo v) q2) hC3 hw3 (fun z => by
      have z1 : isO st = true := by rw [← isO_nxt (tx := tx) (n := n)]; exact isO_nmE (lo := 0) (hi := 9) z
      rw [q4 z1, hab z1])
    refine ⟨S4, by rw [q1, zr1, r1], ?_⟩
    have F : Fz S S4 := Fz_trans (Fk_Fz p4) (Fz_trans (Fk_Fz q5) (Fz_trans Fz_s r4))
    cases st with
    | ok r =>
      have e : hdC tx n (.ok r) b = hdD tx n (nmE tx n 0 9 (nxt tx n (.ok r))) (up b 3 (nuV tx n 0 9 (nxt tx n (.ok r)))) := if_pos (p3 rfl).symm
      rw [e]
      exact ⟨r2, r3, F⟩
    | error e =>
      obtain ⟨a', x1, x2, x3⟩ := r3
      exact ⟨r2, ⟨a', x1, x2, fun z => (Bool.false_ne_true z).elim⟩, F⟩
theorem k27B (h : RkC S tx n st) (hC : Cb (S.1 0 3) a) (hw : WF T a) (hab : isO st = true → a = b) : ∃ S', ld27B (d + 7) S = some (.inl none, S') ∧ Pz S S' T tx n (hdB tx n st b) := by
  obtain ⟨w, S1, p1, p2, p3, p4⟩ := k78 (d := d) (t := 6) h (show 0 < txl 6 by decide)
  have hC1 : Cb (S1.1 0 3) a := by rw [Fk_0 p4 3]; exact hC
  unfold ld27B
  rw [p1, zr1]
  cases w with
  | false =>
    rw [if_pos (show zo (bI false) = zo 0 from rfl)]
    rw [if_neg (by decide)] at p2
    obtain ⟨S2, q1, q2, q3, q4⟩ := k27C (d := d) (b := b) p2 hC1 hw hab
    have e : hdB tx n st b = hdC tx n st b := by
      unfold hdB
      cases st with
      | ok r => rw [if_neg (by rw [← p3 rfl]; decide)]
      | error e => rfl
    refine ⟨S2, q1, ?_⟩
    rw [e]
    exact ⟨q2, q3, Fz_trans (Fk_Fz p4) q4⟩
  | true =>
    rw [if_neg (by decide)]
    rw [if_pos rfl] at p2
    obtain ⟨v, S2, q1, q2, q3, q4, q5⟩ := k82 (d := d + 4) (lo := 0) (hi := 1000) p2 (by omega) (by omega) (by omega)
    have hC2 : Cb (S2.1 0 3) a := by rw [Fk_0 q5 3]; exact hC1
    have hC3 := Cb_n2 (v := v) hC2 hw
    have hw3 := WF_h2 hw q3
    rw [isO_nxt] at q4
    obtain ⟨S4, r1, r2, r3, r4⟩ := k27C (d := d) (b := up b 2 (nuV tx n 0 1000 (nxt tx n st))) (RkC_s (o := 0) (j := 8) (v := zo v) q2) hC3 hw3 (fun z => by
      have z1 : isO st = true := by rw [← isO_nxt (tx := tx) (n := n)]; exact isO_nmE (lo := 0) (hi := 1000) z
      rw [q4 z1, hab z1])
    refine ⟨S4, by rw [q1, zr1, r1], ?_⟩
    have F : Fz S S4 := Fz_trans (Fk_Fz p4) (Fz_trans (Fk_Fz q5) (Fz_trans Fz_s r4))
    cases st with
    | ok r =>
      have e : hdB tx n (.ok r) b = hdC tx n (nmE tx n 0 1000 (nxt tx n (.ok r))) (up b 2 (nuV tx n 0 1000 (nxt tx n (.ok r)))) := if_pos (p3 rfl).symm
      rw [e]
      exact ⟨r2, r3, F⟩
    | error e =>
      obtain ⟨a', x1, x2, x3⟩ := r3
      exact ⟨r2, ⟨a', x1, x2, fun z => (Bool.false_ne_true z).elim⟩, F⟩
theorem k27A (h : RkC S tx n st) (hF : CbF (S.1 0 3)) (hT : 0 ≤ T ∧ T ≤ 1000000) : ∃ S', ld27A (d + 7) S = some (.inl none, S') ∧ Pz S S' T tx n (hdA tx n st) := by
  obtain ⟨v, S1, p1, p2, p3, p4, p5⟩ := k82 (d := d + 4) (lo := 3) (hi := 10) h (by omega) (by omega) (by omega)
  obtain ⟨v2, S2, q1, q2, q3, q4, q5⟩ := k82 (d := d + 4) (lo := 3) (hi := 10) p2 (by omega) (by omega) (by omega)
  obtain ⟨S3, r1, r2, r3⟩ := c0 (d := d + 5) (n := 3) (S := S2) (w := v) (s := v2) (by rw [Fk_0 q5 3, Fk_0 p5 3]; exact hF) p3 q3
  have hk : RkC S3 tx n (nmE tx n 3 10 (nmE tx n 3 10 st)) := by
    obtain ⟨⟨⟨t1, t2⟩, t3⟩, p, ⟨k1, k2, k3, k4, k5, k6⟩, hE⟩ := q2
    have e : ∀ j, S3.1 1 0 14 j = S2.1 1 0 14 j := fun j => r3.2 _ _ _ _ (by omega) (by omega)
    refine ⟨⟨⟨by rw [e]; exact t1, t2⟩, fun i hi => by rw [r3.2 _ _ _ _ (by omega) (by omega)]; exact t3 i hi⟩, p, ⟨k1, by rw [e]; exact k2, by rw [e]; exact k3, by rw [e]; exact k4, fun z => by rw [e]; exact k5 z, fun z => by rw [e]; exact k6 z⟩, ?_⟩
    show erC S3 (nxt tx n (nuE tx n 3 10 (nxt tx n (nuE tx n 3 10 st)))) p
    revert hE
    generalize nxt tx n (nuE tx n 3 10 (nxt tx n (nuE tx n 3 10 st))) = q
    intro hE
    cases q with
    | ok q => exact ⟨hE.1, by rw [e]; exact hE.2.1, by rw [e]; exact hE.2.2⟩
    | error e' => exact ⟨by rw [e]; exact hE.1, hE.2.1, by rw [e]; exact hE.2.2⟩
  obtain ⟨S4, s1, s2, s3, s4⟩ := k27B (d := d) (b := begR (nuV tx n 3 10 st) (nuV tx n 3 10 (nmE tx n 3 10 st))) hk r2 (WF_beg p3 q3 hT) (fun z => by
    have z1 := isO_nmE z
    have z2 := isO_nmE z1
    rw [p4 z2, q4 z1]
    rfl)
  refine ⟨S4, ?_, s2, s3, Fz_trans (Fk_Fz p5) (Fz_trans (Fk_Fz q5) (Fz_trans (Fc_Fz r3) s4))⟩
  unfold ld27A
  rw [p1, zr1, q1, zr1, r1, zr0, s1]
theorem k27 (h : RkC S tx n st) (hF : CbF (S.1 0 3)) (hT : 0 ≤ T ∧ T ≤ 1000000) : ∃ S', zr_sem zF (d + 8) 27 [za 1 0 17] S = some (.inl none, S') ∧ Pz S S' T tx n (hdA tx n (keE tx n 1 st)) := by
  obtain ⟨w, S1, p1, p2, p3, p4⟩ := k78 (d := d) (t := 1) h (show 0 < txl 1 by decide)
  have hF1 : CbF (S1.1 0 3) := by rw [Fk_0 p4 3]; exact hF
  rw [ze_27, p1, zr1]
  show ∃ S', (if zo (bI w) = zo 0 then zx_ret0 (zr_sem zF (d + 7) 75 [za 1 0 14, zi (zo 1)] S1) (fun S82 => ld27A (d + 7) S82) zxx else ld27A (d + 7) S1) = _ ∧ _
  cases w with
  | false =>
    rw [if_pos (show zo (bI false) = zo 0 from rfl)]
    rw [if_neg (by decide)] at p2
    obtain ⟨S2, q1, q2, q3⟩ := k75 (d := d + 6) (c := 1) p2 (by omega)
    obtain ⟨S3, r1, r2, r3, r4⟩ := k27A (d := d) q2 (by rw [Fk_0 q3 3]; exact hF1) hT
    have e : ert tx n 1 st = keE tx n 1 st := by
      cases st with
      | ok r => exact (if_neg (by rw [show kwB tx n 1 r = false from (p3 rfl).symm]; decide)).symm
      | error e => rfl
    rw [e] at r2 r3
    exact ⟨S3, by rw [q1, zr0, r1], r2, r3, Fz_trans (Fk_Fz p4) (Fz_trans (Fk_Fz q3) r4)⟩
  | true =>
    rw [if_neg (by decide)]
    rw [if_pos rfl] at p2
    obtain ⟨S3, r1, r2, r3, r4⟩ := k27A (d := d) p2 hF1 hT
    have e : nxt tx n st = keE tx n 1 st := by
      cases st with
      | ok r => exact (if_pos (show kwB tx n 1 r = true from (p3 rfl).symm)).symm
      | error e => rfl
    rw [e] at r2 r3
    exact ⟨S3, r1, r2, r3, Fz_trans (Fk_Fz p4) r4⟩
end DF

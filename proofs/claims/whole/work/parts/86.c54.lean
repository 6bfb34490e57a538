/-! THE PURE SIDE 54: queries: codes; model -/
def Cd (S : zS) (L : List Int) : Prop := S.1 3 0 0 27 = zo L.length ∧ L.length ≤ 200 ∧ ∀ i, i < L.length → S.1 3 0 8 i = zo (L.getD i 0)
def Fx (S S' : zS) : Prop := S'.2 = S.2 ∧ ∀ k m o j, ¬(k = 3 ∧ m = 0 ∧ ((o = 0 ∧ ((17 ≤ j ∧ j ≤ 21) ∨ j = 23 ∨ j = 27)) ∨ o = 8)) → S'.1 k m o j = S.1 k m o j
def FM (tx : Nat → Int) (n : Nat) (mi d : Nat) (o : Int) (f : Et → Rq) : Prop := ∀ S st L, RkM S tx n st → S.1 3 0 0 23 = zo o → (isO st = true → Cd S L) → (∀ p, st = .ok p → L.length ≤ p) → ∃ S', zr_sem zF d mi [za 3 0 0] S = some (.inl none, S') ∧ RkM S' tx n (f st).1 ∧ (isO (f st).1 = true → Cd S' (L ++ (f st).2.1)) ∧ S'.1 3 0 0 23 = zo o ∧ Fx S S'
section DO
variable {S : zS} {d n p k m : Nat} {tx : Nat → Int} {a : Rw} {st : Et} {T : Int} {f : Et → Rq} {L : List Int} {c o : Int}
theorem Fx_refl (S : zS) : Fx S S := ⟨rfl, fun _ _ _ _ _ => rfl⟩
theorem Fx_trans {S S1 S2 : zS} (h1 : Fx S S1) (h2 : Fx S1 S2) : Fx S S2 := ⟨h2.1.trans h1.1, fun k m o j a => (h2.2 k m o j a).trans (h1.2 k m o j a)⟩
theorem Fl_Fx {S S' : zS} (h : Fl S S') : Fx S S' := ⟨h.1, fun k m o j a => h.2 k m o j (by omega)⟩
theorem Cd_l {S' : zS} (h : Cd S L) (hF : Fl S S') : Cd S' L := ⟨by rw [hF.2 _ _ _ _ (by omega)]; exact h.1, h.2.1, fun i hi => by rw [hF.2 _ _ _ _ (by omega)]; exact h.2.2 i hi⟩
theorem RkM_okn (h : RkM S tx n st) : okn n st := by
  intro q hq
  subst hq
  obtain ⟨hT, p, hP, hE⟩ := h
  have e := hE.1
  rw [e]; exact hP.1
theorem RkM_y {S' : zS} (h : RkM S tx n st) (h0 : ∀ j, 16 ≤ j ∧ j ≤ 21 → S'.1 3 0 0 j = S.1 3 0 0 j) (h6 : ∀ j, S'.1 3 0 6 j = S.1 3 0 6 j) : RkM S' tx n st := by
  obtain ⟨⟨⟨t1, t2⟩, t3⟩, p, ⟨k1, k2, k3, k4⟩, hE⟩ := h
  refine ⟨⟨⟨by rw [h0 _ (by omega)]; exact t1, t2⟩, fun i hi => by rw [h6]; exact t3 i hi⟩, p, ⟨k1, by rw [h0 _ (by omega)]; exact k2, by rw [h0 _ (by omega)]; exact k3, by rw [h0 _ (by omega)]; exact k4⟩, ?_⟩
  cases st with
  | ok q => exact ⟨hE.1, by rw [h0 _ (by omega)]; exact hE.2⟩
  | error e => exact ⟨by rw [h0 _ (by omega)]; exact hE.1, hE.2.1, by rw [h0 _ (by omega)]; exact hE.2.2⟩
theorem gD_l {i : Nat} (h : i < L.length) : (L ++ [c]).getD i 0 = L.getD i 0 := by
  show (L ++ [c])[i]?.getD 0 = L[i]?.getD 0
  rw [List.getElem?_append_left h]
theorem gD_e : (L ++ [c]).getD L.length 0 = c := by
  show (L ++ [c])[L.length]?.getD 0 = c
  rw [List.getElem?_append_right (by omega), Nat.sub_self]; rfl
theorem n281 (h : RkM S tx n st) (hL : isO st = true → Cd S L ∧ L.length < 200) : ∃ S', zr_sem zF (d + 1) 281 [za 3 0 0, zi (zo c)] S = some (.inl none, S') ∧ RkM S' tx n st ∧ (isO st = true → Cd S' (L ++ [c])) ∧ S'.1 3 0 0 23 = S.1 3 0 0 23 ∧ Fx S S' := by
  have e20 := RkM_20 h
  rw [ze_281]
  cases g : isO st with
  | false =>
    rw [g, if_neg (by decide)] at e20
    rw [if_neg e20]
    exact ⟨S, rfl, h, fun z => (Bool.false_ne_true z).elim, rfl, Fx_refl S⟩
  | true =>
    rw [g, if_pos rfl] at e20
    obtain ⟨hC, hl⟩ := hL g
    have en : (zo (L.length : Int)).toNatClampNeg = L.length := by rw [zo_nn (by omega) (by omega)]; exact Int.toNat_natCast _
    rw [if_pos e20, hC.1, zin_ok (by omega) (by omega) (by omega), zlt_eq, en, zs_oth (by omega), hC.1, zo_add]
    refine ⟨_, rfl, RkM_y h (fun j hj => ?_) (fun j => ?_), fun _ => ⟨?_, ?_, fun i hi => ?_⟩, ?_, rfl, fun k m o j b => ?_⟩
    · rw [zs_oth (by omega), zs_oth (by omega)]
    · rw [zs_oth (by omega), zs_oth (by omega)]
    · rw [zs_self, List.length_append, List.length_singleton]; rfl
    · rw [List.length_append, List.length_singleton]; omega
    · rw [List.length_append, List.length_singleton] at hi
      rw [zs_oth (by omega)]
      by_cases e : i = L.length
      · subst e
        rw [zs_self, gD_e]
      · rw [zs_oth (by omega), gD_l (by omega)]
        exact hC.2.2 i (by omega)
    · rw [zs_oth (by omega), zs_oth (by omega)]
    · rw [zs_oth (by omega), zs_oth (by omega)]
theorem nam_nth : ∀ l, l < 10 → zx_nth zt_names (zo (l : Nat)).toNatClampNeg = some (nam l) := by decide +kernel
/-- the end of a value -/
theorem n283_e (h : RkM S tx n st) (g : Bool) (hL : isO st = true → Cd S L ∧ L.length < 200) : ∃ S', (zx_ret0 (zr_sem zF (d + 4) 262 [za 3 0 0, zi (zo (bI g)), zi (zo 1)] S) (fun S7 => (zx_ret0 (zr_sem zF (d + 4) 281 [za 3 0 0, zi (zo c)] S7) (fun S9 => (zx_ret0 (zr_sem zF (d + 4) 263 [za 3 0 0] S9) (fun S11 => some (.inl none, S11)) zxx)) zxx)) zxx) = some (.inl none, S') ∧ RkM S' tx n (nxt tx n (ctE tx n g 1 st)) ∧ (isO (ctE tx n g 1 st) = true → Cd S' (L ++ [c])) ∧ S'.1 3 0 0 23 = S.1 3 0 0 23 ∧ Fx S S' := by
  obtain ⟨S1, p1, p2, p3⟩ := n262g (d := d + 3) (c := 1) h g (by omega)
  obtain ⟨S2, q1, q2, q3, q4, q5⟩ := n281 (d := d + 3) (c := c) (L := L) p2 (fun z => by
    have := isO_ctE z
    exact ⟨Cd_l (hL this.2).1 p3, (hL this.2).2⟩)
  obtain ⟨S3, r1, r2, r3⟩ := n263 (d := d) q2
  refine ⟨S3, by rw [p1, zr0, q1, zr0, r1, zr0], r2, fun z => Cd_l (q3 z) r3, ?_, Fx_trans (Fl_Fx p3) (Fx_trans q5 (Fl_Fx r3))⟩
  rw [r3.2 _ _ _ _ (by omega), q4, p3.2 _ _ _ _ (by omega)]
theorem n283_30 (hn : n ≤ 200) (hc : Cd S L) (hl : L.length ≤ p) (h : RkM S tx n (.ok p)) (ht : tkT tx n p ≠ 2) : ∀ (m l f : Nat), l + m = 10 → m < f → (∀ i, i < l → kwO tx n (nam i) (.ok p) = false) → ∃ S', zy zF (d + 6) 283 f 30 [some (za 3 0 0), some (zi (zo l))] S = some (.inl none, S') ∧ RkM S' tx n (valE tx n (.ok p)) ∧ (isO (valE tx n (.ok p)) = true → Cd S' (L ++ [valC tx n (.ok p)])) ∧ S'.1 3 0 0 23 = S.1 3 0 0 23 ∧ Fx S S' := by
  have hp := RkM_okn h p rfl
  intro m
  induction m with
  | zero =>
    intro l f hl hf hi
    obtain ⟨f, rfl⟩ : ∃ f', f = f' + 1 := ⟨f - 1, by omega⟩
    have vi := valI_no (tx := tx) (n := n) (st := .ok p) (fun i h => hi i (by omega))
    have e : valE tx n (.ok p) = ert tx n 1 (.ok p) := by
      unfold valE nmE
      rw [if_pos vi]
      show nxt tx n (if tkT tx n p = 2 then _ else _) = _
      rw [if_neg ht]; rfl
    rw [ze_283_30, if_pos (by rw [zo_le (by omega) (by omega) (by omega) (by omega)]; omega), if_pos (by rw [zo_le (by omega) (by omega) (by omega) (by omega)]; omega), zo_sub, e]
    obtain ⟨S1, p1, p2, p3⟩ := n262g (d := d + 5) (c := 1) h false (by omega)
    obtain ⟨S2, q1, q2, q3, q4, q5⟩ := n281 (d := d + 5) (c := -1 - (l : Int)) (L := L) p2 (fun z => (Bool.false_ne_true z).elim)
    obtain ⟨S3, r1, r2, r3⟩ := n263 (d := d + 2) q2
    refine ⟨S3, by rw [show zo 0 = zo (bI false) from rfl, p1, zr0, q1, zr0, r1, zr0], r2, fun z => (Bool.false_ne_true z).elim, ?_, Fx_trans (Fl_Fx p3) (Fx_trans q5 (Fl_Fx r3))⟩
    rw [r3.2 _ _ _ _ (by omega), q4, p3.2 _ _ _ _ (by omega)]
  | succ m ih =>
    intro l f hl hf hi
    obtain ⟨f, rfl⟩ : ∃ f', f = f' + 1 := ⟨f - 1, by omega⟩
    have c10 : ¬ zo 10 ≤ zo (l : Int) := by rw [zo_le (by omega) (by omega) (by omega) (by omega)]; omega
    have e1 : zo (l : Int) + zo 1 = zo ((l + 1 : Nat) : Int) := by rw [zo_add]; rfl
    rw [ze_283_30, if_neg c10, zin_ok (by omega) (by omega) (by omega), nam_nth l (by omega)]
    show ∃ S', (zx_ret1 (zr_sem zF (d + 6) 265 [za 3 0 0, za 6 (nam l) 0] S) _ zxx) = _ ∧ _
    rw [n265 (d := d) h (nam_w l (by omega)), zr1]
    cases g : kwO tx n (nam l) (.ok p) with
    | false =>
      rw [if_pos (show zo (bI false) = zo 0 from rfl), e1]
      exact ih (l + 1) f (by omega) (by omega) (fun i h => by
        by_cases e : i = l
        · rw [e]; exact g
        · exact hi i (by omega))
    | true =>
      have vi := valI_is (by omega) g
      have t1 := kwO_t g
      have b := nx_b (tx := tx) hp
      have b1 := b.2.2 (by omega)
      rw [if_neg (by decide), if_neg c10, zo_sub]
      obtain ⟨S1, p1, p2, p3, p4, p5⟩ := n283_e (d := d + 2) (c := -1 - (l : Int)) h true (fun _ => ⟨hc, by omega⟩)
      refine ⟨S1, p1, ?_, fun z => ?_, p4, p5⟩
      · unfold valE; rw [vi, if_neg (by omega)]; exact p2
      · unfold valC; rw [vi, if_neg (by omega)]; exact p3 rfl
theorem n283 (hn : n ≤ 200) (h : RkM S tx n st) (hL : isO st = true → Cd S L) (hp : ∀ p, st = .ok p → L.length ≤ p) : ∃ S', zr_sem zF (d + 7) 283 [za 3 0 0] S = some (.inl none, S') ∧ RkM S' tx n (valE tx n st) ∧ (isO (valE tx n st) = true → Cd S' (L ++ [valC tx n st])) ∧ S'.1 3 0 0 23 = S.1 3 0 0 23 ∧ Fx S S' := by
  have hb := zF1_big
  have e20 := RkM_20 h
  have num : (valI tx n st = -1) → ∃ S', (zx_ret1 (zr_sem zF (d + 6) 270 [za 3 0 0, zi (zo 0), zi (zo 9999)] S) (fun x8 S6 => (zx_ret0 (zr_sem zF (d + 6) 281 [za 3 0 0, zi x8] S6) (fun S9 => some (.inl none, S9)) zxx)) zxx) = some (.inl none, S') ∧ RkM S' tx n (valE tx n st) ∧ (isO (valE tx n st) = true → Cd S' (L ++ [valC tx n st])) ∧ S'.1 3 0 0 23 = S.1 3 0 0 23 ∧ Fx S S' := by
    intro vi
    have eE : valE tx n st = nxt tx n (nuE tx n 0 9999 st) := by unfold valE; rw [vi, if_pos rfl]; rfl
    have eC : valC tx n st = nuV tx n 0 9999 st := by unfold valC; rw [vi, if_pos rfl]
    obtain ⟨S1, p1, p2, p3⟩ := n270 (d := d + 1) (lo := 0) (hi := 9999) h (by omega) (by omega) (by omega)
    obtain ⟨S2, q1, q2, q3, q4, q5⟩ := n281 (d := d + 5) (c := nuV tx n 0 9999 st) (L := L) p2 (fun z => by
      rw [← eE] at z
      have o := isO_valE z
      refine ⟨Cd_l (hL o) p3, ?_⟩
      cases st with
      | error e => exact (Bool.false_ne_true o).elim
      | ok p =>
        cases e : valE tx n (.ok p) with
        | error x => rw [e] at z; exact (Bool.false_ne_true z).elim
        | ok q =>
          have := valE_b (RkM_okn h p rfl) e
          have := hp p rfl
          omega)
    rw [eE, eC]
    refine ⟨S2, by rw [p1, zr1, q1, zr0], q2, q3, ?_, Fx_trans (Fl_Fx p3) q5⟩
    rw [q4, p3.2 _ _ _ _ (by omega)]
  rw [ze_283]
  cases st with
  | error e =>
    rw [if_neg (show ¬ S.1 3 0 0 20 = zo 0 from e20)]
    exact num (valI_no (fun _ _ => rfl))
  | ok p =>
    rw [if_pos (show S.1 3 0 0 20 = zo 0 from e20)]
    have h19 : S.1 3 0 0 19 = zo (tkT tx n p) := by
      obtain ⟨_, q, hT, hE⟩ := h
      have e := hE.1; subst e
      exact hT.2.2.2
    have bt := tkT_b (tx := tx) (n := n) (p := p)
    rw [h19]
    by_cases c : tkT tx n p = 2
    · rw [if_pos (by rw [c])]
      exact num (valI_no (fun i _ => by
        rw [Bool.eq_false_iff]
        intro z
        have := kwO_t z
        omega))
    · rw [if_neg (by rw [zo_eq (by omega) (by omega) (by omega) (by omega)]; exact c)]
      exact n283_30 hn (hL rfl) (hp p rfl) h c 10 0 _ (by omega) (by omega) (fun i h => by omega)
end DO

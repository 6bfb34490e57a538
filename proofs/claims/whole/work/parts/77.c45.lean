/-! THE PURE SIDE 45: reading a bath: model -/
def Fy (S S' : zS) : Prop := S'.2 = S.2 ∧ ∀ k m o j, ¬(k = 2 ∧ m = 1) → ¬(k = 3 ∧ m = 0 ∧ ((o = 0 ∧ 17 ≤ j ∧ j ≤ 21) ∨ o = 2 ∨ o = 3 ∨ o = 4)) → S'.1 k m o j = S.1 k m o j
theorem Fy_refl (S : zS) : Fy S S := ⟨rfl, fun _ _ _ _ _ _ => rfl⟩
theorem Fy_trans {S S1 S2 : zS} (h1 : Fy S S1) (h2 : Fy S1 S2) : Fy S S2 := ⟨h2.1.trans h1.1, fun k m o j a b => (h2.2 k m o j a b).trans (h1.2 k m o j a b)⟩
theorem Fl_Fy {S S' : zS} (h : Fl S S') : Fy S S' := ⟨h.1, fun k m o j a b => h.2 k m o j (by omega)⟩
theorem Fm_Fy {S S' : zS} (h : Fm 1 S S') : Fy S S' := ⟨h.1, fun k m o j a b => h.2 k m o j (by omega) (by omega)⟩
theorem Fy_r {S : zS} {j : Nat} {v : Int32} : Fy S (zs_set S 2 1 0 j v) := ⟨rfl, fun k m o j a b => zs_oth (by omega)⟩
def Pm (S S' : zS) (T : Int) (tx : Nat → Int) (n : Nat) (r : Et × Rw) : Prop := RkM S' tx n r.1 ∧ Md S' 1 r.2 ∧ WF T r.2 ∧ Fy S S'
def ld72D (d : Nat) (S : zS) : Option zO := (zx_ret1 (zr_sem zF d 266 [za 3 0 0, za 6 24 0] S) (fun x24 S22 => (if x24 = (zo 0) then (zx_ret0 (zr_sem zF d 267 [za 3 0 0, zi (zo 59)] S22) (fun S25 => some (.inl none, S25)) zxx) else (if (S22.1 3 0 0 8).toNatClampNeg < 4 then (zx_ret1 (zr_sem zF d 271 [za 3 0 0] S22) (fun x29 S27 => (za_in (zo 4) (zo 260) (zlt (zs_set S27 2 (S22.1 3 0 0 8).toNatClampNeg 0 ((zo 4)).toNatClampNeg x29) (fun S30 => (if (S30.1 3 0 0 8).toNatClampNeg < 4 then (zx_ret1 (zr_sem zF d 271 [za 3 0 0] S30) (fun x33 S31 => (za_in (zo 5) (zo 260) (zlt (zs_set S31 2 (S30.1 3 0 0 8).toNatClampNeg 0 ((zo 5)).toNatClampNeg x33) (fun S34 => (zx_ret0 (zr_sem zF d 267 [za 3 0 0, zi (zo 59)] S34) (fun S35 => some (.inl none, S35)) zxx))))) zxx) else none))))) zxx) else none))) zxx)
def ld72C (d : Nat) (S : zS) : Option zO := (zx_ret1 (zr_sem zF d 266 [za 3 0 0, za 6 16 0] S) (fun x21 S19 => (if x21 = (zo 0) then ld72D d S19 else (if (S19.1 3 0 0 8).toNatClampNeg < 4 then (zx_ret1 (zr_sem zF d 270 [za 3 0 0, zi (zo 0), zi (zo 9)] S19) (fun x39 S37 => (za_in (zo 3) (zo 260) (zlt (zs_set S37 2 (S19.1 3 0 0 8).toNatClampNeg 0 ((zo 3)).toNatClampNeg x39) (fun S40 => ld72D d S40)))) zxx) else none))) zxx)
def ld72B (d : Nat) (S : zS) : Option zO := (zx_ret1 (zr_sem zF d 266 [za 3 0 0, za 6 6 0] S) (fun x18 S16 => (if x18 = (zo 0) then ld72C d S16 else (if (S16.1 3 0 0 8).toNatClampNeg < 4 then (zx_ret1 (zr_sem zF d 270 [za 3 0 0, zi (zo 0), zi (zo 1000)] S16) (fun x58 S56 => (za_in (zo 2) (zo 260) (zlt (zs_set S56 2 (S16.1 3 0 0 8).toNatClampNeg 0 ((zo 2)).toNatClampNeg x58) (fun S59 => ld72C d S59)))) zxx) else none))) zxx)
section DI
variable {S : zS} {d n p t l s k : Nat} {a b : Rw} {T : Int} {tx : Nat → Int} {x y z lo hi c v : Int} {st : Et} {u : Nat → Rw}
theorem RkM_z {S' : zS} (h : RkM S tx n st) (h0 : ∀ j, 16 ≤ j → S'.1 3 0 0 j = S.1 3 0 0 j) (h6 : ∀ j, S'.1 3 0 6 j = S.1 3 0 6 j) : RkM S' tx n st := by
  obtain ⟨⟨⟨t1, t2⟩, t3⟩, p, ⟨k1, k2, k3, k4⟩, hE⟩ := h
  refine ⟨⟨⟨by rw [h0 _ (by omega)]; exact t1, t2⟩, fun i hi => by rw [h6]; exact t3 i hi⟩, p, ⟨k1, by rw [h0 _ (by omega)]; exact k2, by rw [h0 _ (by omega)]; exact k3, by rw [h0 _ (by omega)]; exact k4⟩, ?_⟩
  cases st with
  | ok q => exact ⟨hE.1, by rw [h0 _ (by omega)]; exact hE.2⟩
  | error e => exact ⟨by rw [h0 _ (by omega)]; exact hE.1, hE.2.1, by rw [h0 _ (by omega)]; exact hE.2.2⟩
theorem RkM_r {q j : Nat} {v : Int32} (h : RkM S tx n st) : RkM (zs_set S 2 q 0 j v) tx n st := RkM_z h (fun _ _ => zs_oth (by omega)) (fun _ => zs_oth (by omega))
theorem RkM_m {S' : zS} {q : Nat} (h : RkM S tx n st) (hF : Fm q S S') : RkM S' tx n st := RkM_z h (fun _ _ => hF.2 _ _ _ _ (by omega) (by omega)) (fun _ => hF.2 _ _ _ _ (by omega) (by omega))
theorem RkM_20 (h : RkM S tx n st) : if isO st = true then S.1 3 0 0 20 = zo 0 else ¬ S.1 3 0 0 20 = zo 0 := by
  obtain ⟨_, p, _, hE⟩ := h
  cases st with
  | ok q => exact hE.2
  | error e =>
    have he := hE.2.1
    show ¬ S.1 3 0 0 20 = zo 0
    rw [hE.1, zo_eq (by omega) (by omega) (by omega) (by omega)]; omega
theorem n271 (h : RkM S tx n st) : ∃ S', zr_sem zF (d + 6) 271 [za 3 0 0] S = some (.inl (some (zi (zo (sgV tx n st)))), S') ∧ RkM S' tx n (sgE tx n st) ∧ Fl S S' := by
  have e := n264 (d := d + 4) (c := 45) h (by omega)
  unfold sgV sgE miE
  by_cases c : chO tx n 45 st = true
  · obtain ⟨S1, p1, p2, p3⟩ := n263 (d := d + 1) h
    obtain ⟨S2, q1, q2, q3⟩ := n270 (d := d) (lo := 0) (hi := 99) p2 (by omega) (by omega) (by omega)
    rw [if_pos c, if_pos c]
    refine ⟨S2, ?_, q2, Fl_trans p3 q3⟩
    rw [ze_271, e, zr1, c, if_neg (by decide), p1, zr0, q1, zr1, if_neg (by decide), zo_neg]
  · obtain ⟨S2, q1, q2, q3⟩ := n270 (d := d) (lo := 0) (hi := 99) h (by omega) (by omega) (by omega)
    rw [if_neg c, if_neg c]
    refine ⟨S2, ?_, q2, q3⟩
    rw [ze_271, e, zr1, Bool.eq_false_iff.2 c, if_pos (show zo (bI false) = zo 0 from rfl), q1, zr1, if_pos (show zo (bI false) = zo 0 from rfl)]
theorem sgV_b : -99 ≤ sgV tx n st ∧ sgV tx n st ≤ 99 := by
  unfold sgV
  have := nuV_b (tx := tx) (n := n) (st := miE tx n st) (lo := 0) (hi := 99) (by omega)
  split <;> omega
theorem n72D (h : RkM S tx n st) (hM : Md S 1 a) (hw : WF T a) : ∃ S', ld72D (d + 7) S = some (.inl none, S') ∧ Pm S S' T tx n (hdD tx n st a) := by
  obtain ⟨S1, p1, p2, p3, _⟩ := n266 (d := d) (t := 24) h (show 0 < txl 24 by decide)
  have hM1 := Fl_Md p3 hM
  unfold ld72D hdD
  rw [p1, zr1]
  by_cases c : kwO tx n 24 st = true
  · rw [if_pos c] at p2 ⊢
    obtain ⟨S2, q1, q2, q3⟩ := n271 (d := d + 1) p2
    have hM2 := Fl_Md q3 hM1
    have hM3 := Md_set hM2 4 (sgV tx n (nxt tx n st))
    have hw3 := WF_h4 hw (sgV_b (tx := tx) (n := n) (st := nxt tx n st))
    have e8 : (zs_set S2 2 1 0 4 (zo (sgV tx n (nxt tx n st)))).1 3 0 0 8 = S2.1 3 0 0 8 := zs_oth (by omega)
    obtain ⟨S4, r1, r2, r3⟩ := n271 (d := d + 1) (RkM_r (q := 1) (j := 4) (v := zo (sgV tx n (nxt tx n st))) q2)
    have hM4 := Fl_Md r3 hM3
    have hM5 := Md_set hM4 5 (sgV tx n (sgE tx n (nxt tx n st)))
    have hw5 := WF_h5 hw3 (sgV_b (tx := tx) (n := n) (st := sgE tx n (nxt tx n st)))
    obtain ⟨S6, s1, s2, s3⟩ := n267 (d := d + 2) (c := 59) (RkM_r (q := 1) (j := 5) (v := zo (sgV tx n (sgE tx n (nxt tx n st)))) r2) (by omega)
    refine ⟨S6, ?_, s2, Fl_Md s3 hM5, hw5, Fy_trans (Fl_Fy p3) (Fy_trans (Fl_Fy q3) (Fy_trans Fy_r (Fy_trans (Fl_Fy r3) (Fy_trans Fy_r (Fl_Fy s3)))))⟩
    rw [c, if_neg (by decide), hM1.1, if_pos (by omega), q1, zr1, zin_ok (by omega) (by omega) (by omega), zlt_eq, show (zo 4).toNatClampNeg = 4 from rfl, e8, hM2.1, if_pos (by omega), r1, zr1, zin_ok (by omega) (by omega) (by omega), zlt_eq, show (zo 5).toNatClampNeg = 5 from rfl, s1, zr0]
  · rw [if_neg c] at p2 ⊢
    obtain ⟨S6, s1, s2, s3⟩ := n267 (d := d + 2) (c := 59) p2 (by omega)
    refine ⟨S6, ?_, s2, Fl_Md s3 hM1, hw, Fy_trans (Fl_Fy p3) (Fl_Fy s3)⟩
    rw [Bool.eq_false_iff.2 c, if_pos (show zo (bI false) = zo 0 from rfl), s1, zr0]
theorem n72C (h : RkM S tx n st) (hM : Md S 1 a) (hw : WF T a) : ∃ S', ld72C (d + 7) S = some (.inl none, S') ∧ Pm S S' T tx n (hdC tx n st a) := by
  obtain ⟨S1, p1, p2, p3, _⟩ := n266 (d := d) (t := 16) h (show 0 < txl 16 by decide)
  have hM1 := Fl_Md p3 hM
  unfold ld72C hdC
  rw [p1, zr1]
  by_cases c : kwO tx n 16 st = true
  · rw [if_pos c] at p2 ⊢
    obtain ⟨S2, q1, q2, q3⟩ := n270 (d := d + 2) (lo := 0) (hi := 9) p2 (by omega) (by omega) (by omega)
    have hM2 := Fl_Md q3 hM1
    have hM3 := Md_set hM2 3 (nuV tx n 0 9 (nxt tx n st))
    have hw3 := WF_h3 hw (nuV_b (tx := tx) (n := n) (st := nxt tx n st) (lo := 0) (hi := 9) (by omega))
    obtain ⟨S6, s1, s2, s3, s4, s5⟩ := n72D (d := d) (RkM_r (q := 1) (j := 3) (v := zo (nuV tx n 0 9 (nxt tx n st))) q2) hM3 hw3
    refine ⟨S6, ?_, s2, s3, s4, Fy_trans (Fl_Fy p3) (Fy_trans (Fl_Fy q3) (Fy_trans Fy_r s5))⟩
    rw [c, if_neg (by decide), hM1.1, if_pos (by omega), q1, zr1, zin_ok (by omega) (by omega) (by omega), zlt_eq, show (zo 3).toNatClampNeg = 3 from rfl, s1]
  · rw [if_neg c] at p2 ⊢
    obtain ⟨S6, s1, s2, s3, s4, s5⟩ := n72D (d := d) p2 hM1 hw
    refine ⟨S6, ?_, s2, s3, s4, Fy_trans (Fl_Fy p3) s5⟩
    rw [Bool.eq_false_iff.2 c, if_pos (show zo (bI false) = zo 0 from rfl), s1]
theorem n72B (h : RkM S tx n st) (hM : Md S 1 a) (hw : WF T a) : ∃ S', ld72B (d + 7) S = some (.inl none, S') ∧ Pm S S' T tx n (hdB tx n st a) := by
  obtain ⟨S1, p1, p2, p3, _⟩ := n266 (d := d) (t := 6) h (show 0 < txl 6 by decide)
  have hM1 := Fl_Md p3 hM
  unfold ld72B hdB
  rw [p1, zr1]
  by_cases c : kwO tx n 6 st = true
  · rw [if_pos c] at p2 ⊢
    obtain ⟨S2, q1, q2, q3⟩ := n270 (d := d + 2) (lo := 0) (hi := 1000) p2 (by omega) (by omega) (by omega)
    have hM2 := Fl_Md q3 hM1
    have hM3 := Md_set hM2 2 (nuV tx n 0 1000 (nxt tx n st))
    have hw3 := WF_h2 hw (nuV_b (tx := tx) (n := n) (st := nxt tx n st) (lo := 0) (hi := 1000) (by omega))
    obtain ⟨S6, s1, s2, s3, s4, s5⟩ := n72C (d := d) (RkM_r (q := 1) (j := 2) (v := zo (nuV tx n 0 1000 (nxt tx n st))) q2) hM3 hw3
    refine ⟨S6, ?_, s2, s3, s4, Fy_trans (Fl_Fy p3) (Fy_trans (Fl_Fy q3) (Fy_trans Fy_r s5))⟩
    rw [c, if_neg (by decide), hM1.1, if_pos (by omega), q1, zr1, zin_ok (by omega) (by omega) (by omega), zlt_eq, show (zo 2).toNatClampNeg = 2 from rfl, s1]
  · rw [if_neg c] at p2 ⊢
    obtain ⟨S6, s1, s2, s3, s4, s5⟩ := n72C (d := d) p2 hM1 hw
    refine ⟨S6, ?_, s2, s3, s4, Fy_trans (Fl_Fy p3) s5⟩
    rw [Bool.eq_false_iff.2 c, if_pos (show zo (bI false) = zo 0 from rfl), s1]
theorem n272 (h : RkM S tx n st) (h8 : (S.1 3 0 0 8).toNatClampNeg = 1) (hT : 0 ≤ T ∧ T ≤ 1000000) : ∃ S', zr_sem zF (d + 8) 272 [za 3 0 0] S = some (.inl none, S') ∧ Pm S S' T tx n (hdA tx n (keE tx n 1 st)) := by
  have e := n265 (d := d + 1) (t := 1) h (show 0 < txl 1 by decide)
  obtain ⟨S1, p1, p2, p3⟩ := n262 (d := d + 6) (c := 1) h (kwO tx n 1 st) (by omega)
  obtain ⟨S2, q1, q2, q3⟩ := n263 (d := d + 3) p2
  have ek : nxt tx n (if kwO tx n 1 st = true then st else ert tx n 1 st) = keE tx n 1 st := by
    cases st with
    | ok r =>
      show nxt tx n (if kwB tx n 1 r = true then _ else _) = if kwB tx n 1 r = true then _ else _
      by_cases c : kwB tx n 1 r = true
      · rw [if_pos c, if_pos c]; rfl
      · rw [if_neg c, if_neg c]; rfl
    | error e => rfl
  rw [ek] at q2
  obtain ⟨S3, r1, r2, r3⟩ := n270 (d := d + 2) (lo := 3) (hi := 10) q2 (by omega) (by omega) (by omega)
  obtain ⟨S4, s1, s2, s3⟩ := n270 (d := d + 2) (lo := 3) (hi := 10) r2 (by omega) (by omega) (by omega)
  have b1 := nuV_b (tx := tx) (n := n) (st := keE tx n 1 st) (lo := 3) (hi := 10) (by omega)
  have b2 := nuV_b (tx := tx) (n := n) (st := nxt tx n (nuE tx n 3 10 (keE tx n 1 st))) (lo := 3) (hi := 10) (by omega)
  have h84 : (S4.1 3 0 0 8).toNatClampNeg = 1 := by rw [s3.2 _ _ _ _ (by omega), r3.2 _ _ _ _ (by omega), q3.2 _ _ _ _ (by omega), p3.2 _ _ _ _ (by omega)]; exact h8
  obtain ⟨S5, t1, t2, t3⟩ := m151 (d := d + 6) (w := nuV tx n 3 10 (keE tx n 1 st)) (s := nuV tx n 3 10 (nxt tx n (nuE tx n 3 10 (keE tx n 1 st)))) (q := 1) (by omega) h84
  obtain ⟨S6, w1, w2, w3, w4, w5⟩ := n72B (d := d) (RkM_m s2 t3) t2 (WF_beg b1 b2 hT)
  refine ⟨S6, ?_, w2, w3, w4, Fy_trans (Fl_Fy p3) (Fy_trans (Fl_Fy q3) (Fy_trans (Fl_Fy r3) (Fy_trans (Fl_Fy s3) (Fy_trans (Fm_Fy t3) w5))))⟩
  rw [ze_272, e, zr1, p1, zr0, q1, zr0, r1, zr1, s1, zr1, t1, zr0]
  exact w1
theorem zfst_b : ∀ {m k : Nat} {f : Nat → Bool}, -1 ≤ zfst f m k ∧ zfst f m k ≤ (m + k : Nat) := by
  intro m
  induction m with
  | zero => intro k f; exact ⟨by show (-1 : Int) ≤ -1; omega, by show (-1 : Int) ≤ _; omega⟩
  | succ m ih2 =>
    intro k f; unfold zfst; split
    · omega
    · have := ih2 (k := k + 1) (f := f); omega
theorem occ_b (hw : WF T a) (c b : Int) : -1 ≤ occ a c b ∧ occ a c b ≤ 12 := by
  have u9 := hw.1.2.2.2.2.2.2.2.2.2
  have := zfst_b (m := (a 9).toNat) (k := 0) (f := fun k => decide ((k : Int) ≠ b) && (decide (a (40 + 10 * k + 6) = 0) && decide (a (40 + 10 * k) = c)))
  unfold occ; omega
theorem drIn_b (hw : WF T a) (c : Int) : -1 ≤ drIn a c ∧ drIn a c ≤ 5 := by
  have u7 := hw.1.2.2.2.2.2.2.2.1
  have := zfst_b (m := (a 7).toNat) (k := 0) (f := fun k => decide (a (10 + 4 * k) = c))
  unfold drIn; omega
theorem tpIn_b (hw : WF T a) (c : Int) : -1 ≤ tpIn a c ∧ tpIn a c ≤ 5 := by
  have u8 := hw.1.2.2.2.2.2.2.2.2.1
  have := zfst_b (m := (a 8).toNat) (k := 0) (f := fun k => decide (a (30 + 2 * k) = c))
  unfold tpIn; omega
theorem clE_vc (hw : WF T a) (st : Et) : (0 ≤ rdX tx n a st ∧ rdX tx n a st < a 0) ∧ (0 ≤ rdY tx n a st ∧ rdY tx n a st < a 1) := by
  have u0 := hw.1.1
  have u1 := hw.1.2.1
  have b1 := nuV_b (tx := tx) (n := n) (st := st) (lo := 0) (hi := a 0 - 1) (by omega)
  have b2 := nuV_b (tx := tx) (n := n) (st := stX tx n a st) (lo := 0) (hi := a 1 - 1) (by omega)
  unfold rdX rdY; omega
theorem n262t (h : RkM S tx n st) : zr_sem zF (d + 1) 262 [za 3 0 0, zi (zo 1), zi (zo 4)] S = some (.inl none, S) := by rw [ze_262, if_neg (by decide)]
theorem n273_56 (h : RkM S tx n st) (hM : Md S 1 a) (hw : WF T a) {c : Int} (hc : inN a c) {q : Int} {f : Nat} (hq : q = 0 ∨ q = 1 ∨ q = 2) (hf : frB a c = false) : ∃ S', zy zF (d + 5) 273 (f + 1) 56 [some (za 3 0 0), some (zi (zo q)), none, none, some (zi (zo c)), none] S = some (.inl (some (zi (zo c))), S') ∧ RkM S' tx n (nxt tx n (ctE tx n (if q = 1 then frB a c else if q = 2 then ocB a c else true) 4 st)) ∧ Fl S S' := by
  have uN := WF_nc hw
  have hc1 := hc.1
  have hc2 := hc.2
  have bo := occ_b hw c (-1)
  rcases hq with e | e | e
  · subst e
    obtain ⟨S2, q1, q2, q3⟩ := n263 (d := d + 1) h
    refine ⟨S2, ?_, by rw [if_neg (by omega), if_neg (by omega)]; exact q2, q3⟩
    rw [ze_273_56, if_neg (by decide), n262t h, zr0, if_neg (by decide), n262t h, zr0, q1, zr0]
  · subst e
    obtain ⟨S1, p1, p2, p3⟩ := n262 (d := d + 4) (c := 4) h false (by omega)
    obtain ⟨S2, q1, q2, q3⟩ := n263 (d := d + 1) p2
    refine ⟨S2, ?_, by rw [if_pos rfl, hf]; exact q2, Fl_trans p3 q3⟩
    rw [ze_273_56, if_pos rfl, show zr_sem zF (d + 5) 262 [za 3 0 0, zi (zo 0), zi (zo 4)] S = _ from p1, zr0, if_neg (by decide), n262t p2, zr0, q1, zr0]
  · subst e
    obtain ⟨S1, p1, p2, p3⟩ := n262 (d := d + 4) (c := 4) h (ocB a c) (by omega)
    obtain ⟨S2, q1, q2, q3⟩ := n263 (d := d + 1) p2
    refine ⟨S2, ?_, by rw [if_neg (by omega), if_pos rfl]; exact q2, Fl_trans p3 q3⟩
    rw [ze_273_56, if_neg (by decide), n262t h, zr0, if_pos rfl, m170 hM hw (c := c) (b := -1) (by omega) (by omega) (by omega) (by omega), zr1]
    by_cases z : occ a c (-1) = -1
    · have : ocB a c = true := decide_eq_true z
      rw [this] at p1
      rw [if_pos (show zo (occ a c (-1)) = zo (-1) by rw [z]), show zr_sem zF (d + 5) 262 [za 3 0 0, zi (zo 1), zi (zo 4)] S = _ from p1, zr0, q1, zr0]
    · have : ocB a c = false := decide_eq_false z
      rw [this] at p1
      rw [if_neg (show ¬ zo (occ a c (-1)) = zo (-1) by rw [zo_eq (by omega) (by omega) (by omega) (by omega)]; exact z), show zr_sem zF (d + 5) 262 [za 3 0 0, zi (zo 0), zi (zo 4)] S = _ from p1, zr0, q1, zr0]
theorem n273 (h : RkM S tx n st) (hM : Md S 1 a) (hw : WF T a) {q : Int} (hq : q = 0 ∨ q = 1 ∨ q = 2) : ∃ S', zr_sem zF (d + 6) 273 [za 3 0 0, zi (zo q)] S = some (.inl (some (zi (zo (clE tx n a st)))), S') ∧ RkM S' tx n (pl4 tx n a (fun c => if q = 1 then frB a c else if q = 2 then ocB a c else true) st) ∧ Fl S S' := by
  have hb := zF1_big
  have u0 := hw.1.1
  have u1 := hw.1.2.1
  have uN := WF_nc hw
  obtain ⟨S1, p1, p2, p3⟩ := n270 (d := d) (lo := 0) (hi := a 0 - 1) h (by omega) (by omega) (by omega)
  have hM1 := Fl_Md p3 hM
  obtain ⟨S2, q1, q2, q3⟩ := n269 (d := d + 3) (lo := 0) (hi := a 1 - 1) p2 (by omega) (by omega) (by omega)
  have hM2 := Fl_Md q3 hM1
  have vc := clE_vc (tx := tx) (n := n) hw st
  have cl := cel_lt vc
  have bD := drIn_b hw (clE tx n a st)
  have bT := tpIn_b hw (clE tx n a st)
  have bo := occ_b hw (clE tx n a st) (-1)
  have F := Fl_trans p3 q3
  have ic : inN a (clE tx n a st) := cl
  have i1 := ic.1
  have i2 := ic.2
  have q2' : RkM S2 tx n (nuE tx n 0 (a 1 - 1) (stX tx n a st)) := q2
  have eY : nuV tx n 0 (a 1 - 1) (nxt tx n (nuE tx n 0 (a 0 - 1) st)) = rdY tx n a st := rfl
  obtain ⟨f, hf⟩ : ∃ f', zF1 = f' + 1 := ⟨zF1 - 1, by omega⟩
  rw [ze_273, hM.1, if_pos (by omega), zin_ok (by omega) (by omega) (by omega), show (zo 0).toNatClampNeg = 0 from rfl, hM.2.2 0 (by omega), zo_sub, p1, zr1, hM1.1, if_pos (by omega), zin_ok (by omega) (by omega) (by omega), show (zo 1).toNatClampNeg = 1 from rfl, hM1.2.2 1 (by omega), zo_sub, q1, zr1, m154 hM2, zr1, eY, show a 0 * rdY tx n a st + nuV tx n 0 (a 0 - 1) st = clE tx n a st from rfl, m168 hM2 hw (by omega) (by omega), zr1]
  by_cases cD : drIn a (clE tx n a st) = -1
  · rw [if_pos (show zo (drIn a (clE tx n a st)) = zo (-1) by rw [cD]), m169 hM2 hw (by omega) (by omega), zr1]
    by_cases cT : tpIn a (clE tx n a st) = -1
    · rw [if_pos (show zo (tpIn a (clE tx n a st)) = zo (-1) by rw [cT])]
      have hfr : frB a (clE tx n a st) = true := by unfold frB; rw [decide_eq_true cD, decide_eq_true cT]; rfl
      unfold pl4
      rcases hq with e | e | e
      · subst e
        obtain ⟨S3, r1, r2, r3⟩ := n263 (d := d + 1) q2'
        refine ⟨S3, ?_, r2, Fl_trans F r3⟩
        rw [if_neg (by decide), n262t q2', zr0, if_neg (by decide), n262t q2', zr0, r1, zr0]
      · subst e
        obtain ⟨S3, r1, r2, r3⟩ := n263 (d := d + 1) q2'
        refine ⟨S3, ?_, ?_, Fl_trans F r3⟩
        · rw [if_pos rfl, n262t q2', zr0, if_neg (by decide), n262t q2', zr0, r1, zr0]
        · show RkM S3 tx n (nxt tx n (ctE tx n (frB a (clE tx n a st)) 4 (nuE tx n 0 (a 1 - 1) (stX tx n a st))))
          rw [hfr]; exact r2
      · subst e
        obtain ⟨S3, r1, r2, r3⟩ := n262 (d := d + 4) (c := 4) q2' (ocB a (clE tx n a st)) (by omega)
        obtain ⟨S4, s1, s2, s3⟩ := n263 (d := d + 1) r2
        refine ⟨S4, ?_, s2, Fl_trans F (Fl_trans r3 s3)⟩
        rw [if_neg (by decide), n262t q2', zr0, if_pos rfl, m170 hM2 hw (c := clE tx n a st) (b := -1) (by omega) (by omega) (by omega) (by omega), zr1]
        by_cases z : occ a (clE tx n a st) (-1) = -1
        · have : ocB a (clE tx n a st) = true := decide_eq_true z
          rw [this] at r1
          rw [if_pos (show zo (occ a (clE tx n a st) (-1)) = zo (-1) by rw [z]), show zr_sem zF (d + 5) 262 [za 3 0 0, zi (zo 1), zi (zo 4)] S2 = _ from r1, zr0, s1, zr0]
        · have : ocB a (clE tx n a st) = false := decide_eq_false z
          rw [this] at r1
          rw [if_neg (show ¬ zo (occ a (clE tx n a st) (-1)) = zo (-1) by rw [zo_eq (by omega) (by omega) (by omega) (by omega)]; exact z), show zr_sem zF (d + 5) 262 [za 3 0 0, zi (zo 0), zi (zo 4)] S2 = _ from r1, zr0, s1, zr0]
    · have hfr : frB a (clE tx n a st) = false := by unfold frB; rw [decide_eq_true cD, decide_eq_false cT]; rfl
      obtain ⟨S3, r1, r2, r3⟩ := n273_56 (d := d) (f := f) q2' hM2 hw ic hq hfr
      refine ⟨S3, ?_, r2, Fl_trans F r3⟩
      rw [if_neg (show ¬ zo (tpIn a (clE tx n a st)) = zo (-1) by rw [zo_eq (by omega) (by omega) (by omega) (by omega)]; exact cT), hf]
      exact r1
  · have hfr : frB a (clE tx n a st) = false := by unfold frB; rw [decide_eq_false cD]; rfl
    obtain ⟨S3, r1, r2, r3⟩ := n273_56 (d := d) (f := f) q2' hM2 hw ic hq hfr
    refine ⟨S3, ?_, r2, Fl_trans F r3⟩
    rw [if_neg (show ¬ zo (drIn a (clE tx n a st)) = zo (-1) by rw [zo_eq (by omega) (by omega) (by omega) (by omega)]; exact cD), hf]
    exact r1
end DI

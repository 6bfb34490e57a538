/-! THE PURE SIDE 57: queries: the answer; model -/
def q90 (d k : Nat) (x8 : Int32) (S : zS) : Option zO := (zx_ret0 (zr_sem zF d 287 [za 3 0 0] S) (fun S37 => (if (S37.1 3 0 0 20) = (zo 0) then (if (S37.1 3 0 0 19) = (zo 0) then (zx_ret0 (zr_sem zF d 262 [za 3 0 0, zi (zo 1), zi (zo 1)] S37) (fun S49 => (zx_ret1 (zr_sem zF d 261 [za 3 0 0] S49) (fun x53 S51 => if x53 = (zo 0) then zy zF d 290 k 134 [some (za 3 0 0), none, some (zi x8), some (zi (zo 0)), some (zi (zo 0))] S51 else some (.inl (some (zi ((zo (-1000000000)) - (S51.1 3 0 0 20)))), S51)) zxx)) zxx) else (zx_ret0 (zr_sem zF d 262 [za 3 0 0, zi (zo 0), zi (zo 1)] S37) (fun S49 => (zx_ret1 (zr_sem zF d 261 [za 3 0 0] S49) (fun x53 S51 => if x53 = (zo 0) then zy zF d 290 k 134 [some (za 3 0 0), none, some (zi x8), some (zi (zo 0)), some (zi (zo 0))] S51 else some (.inl (some (zi ((zo (-1000000000)) - (S51.1 3 0 0 20)))), S51)) zxx)) zxx)) else (zx_ret0 (zr_sem zF d 262 [za 3 0 0, zi (zo 1), zi (zo 1)] S37) (fun S49 => (zx_ret1 (zr_sem zF d 261 [za 3 0 0] S49) (fun x53 S51 => if x53 = (zo 0) then zy zF d 290 k 134 [some (za 3 0 0), none, some (zi x8), some (zi (zo 0)), some (zi (zo 0))] S51 else some (.inl (some (zi ((zo (-1000000000)) - (S51.1 3 0 0 20)))), S51)) zxx)) zxx))) zxx)
def Fo (S S' : zS) : Prop := S'.2 = S.2 ∧ ∀ k m o j, ¬(k = 3 ∧ m = 0 ∧ ((o = 0 ∧ ((15 ≤ j ∧ j ≤ 23) ∨ j = 27)) ∨ o = 8 ∨ o = 9)) → S'.1 k m o j = S.1 k m o j
section DR
variable {S : zS} {d n p k m t b tn : Nat} {tx : Nat → Int} {a : Rw} {st : Et} {T : Int} {f : Et → Rq} {L : List Int} {c o v x : Int} {P : Nat → Bool} {u : Nat → Rw}
theorem Fo_trans {S S1 S2 : zS} (h1 : Fo S S1) (h2 : Fo S1 S2) : Fo S S2 := ⟨h2.1.trans h1.1, fun k m o j a => (h2.2 k m o j a).trans (h1.2 k m o j a)⟩
theorem Fo_refl (S : zS) : Fo S S := ⟨rfl, fun _ _ _ _ _ => rfl⟩
theorem Fl_Fo {S S' : zS} (h : Fl S S') : Fo S S' := ⟨h.1, fun k m o j a => h.2 k m o j (by omega)⟩
theorem Fx_Fo {S S' : zS} (h : Fx S S') : Fo S S' := ⟨h.1, fun k m o j a => h.2 k m o j (by omega)⟩
theorem Fs_Fo {S S' : zS} (h : Fs S S') : Fo S S' := ⟨h.1, fun k m o j a => h.2 k m o j (by omega)⟩
theorem Fo_Md {S S' : zS} {q : Nat} (h : Fo S S') (hM : Md S q a) : Md S' q a := ⟨by rw [h.2 _ _ _ _ (by omega)]; exact hM.1, hM.2.1, fun j hj => by rw [h.2 _ _ _ _ (by omega)]; exact hM.2.2 j hj⟩
theorem n290_134 (hw : WF T a) {g : Bool} (hG : ∀ b : Nat, (b : Int) < a 9 → Cg a b L (bI (P b))) : ∀ (m k f : Nat) (S : zS), k + m = (a 9).toNat → m < f → Md S 0 a → Cd S L → ∃ S', zy zF (d + 5) 290 f 134 [some (za 3 0 0), none, some (zi (zo (bI g))), some (zi (zo (zsum (fun b => if P b = true then 1 else 0) k))), some (zi (zo k))] S = some (.inl (some (zi (zo (if g = true then zfst P m k else zsum (fun b => if P b = true then 1 else 0) (a 9).toNat)))), S') ∧ Fs S S' := by
  have u9 := hw.1.2.2.2.2.2.2.2.2.2
  intro m
  induction m with
  | zero =>
    intro k f S hk hf hM hC
    obtain ⟨f, rfl⟩ : ∃ f', f = f' + 1 := ⟨f - 1, by omega⟩
    rw [ze_290_134, hM.1, if_pos (by decide), zin_ok (by omega) (by omega) (by omega), show (zo 9).toNatClampNeg = 9 from rfl, hM.2.2 9 (by omega), if_pos (by rw [zo_le (by omega) (by omega) (by omega) (by omega)]; omega)]
    refine ⟨S, ?_, Fs_refl S⟩
    cases g with
    | true => rw [if_neg (by decide), if_pos rfl]; rfl
    | false => rw [if_pos (show zo (bI false) = zo 0 from rfl), if_neg (by decide), show k = (a 9).toNat by omega]
  | succ m ih =>
    intro k f S hk hf hM hC
    obtain ⟨f, rfl⟩ : ∃ f', f = f' + 1 := ⟨f - 1, by omega⟩
    obtain ⟨S1, p1, p2⟩ := n289 (d := d) hM hC (hG k (by omega))
    have i := ih (k + 1) f S1 (by omega) (by omega) (Fs_Md p2 hM) (Fs_Cd p2 hC)
    have e1 : zo (k : Int) + zo 1 = zo ((k + 1 : Nat) : Int) := by rw [zo_add]; rfl
    have es : zsum (fun b => if P b = true then 1 else 0) (k + 1) = zsum (fun b => if P b = true then 1 else 0) k + (if P k = true then (1 : Int) else 0) := rfl
    rw [ze_290_134, hM.1, if_pos (by decide), zin_ok (by omega) (by omega) (by omega), show (zo 9).toNatClampNeg = 9 from rfl, hM.2.2 9 (by omega), if_neg (by rw [zo_le (by omega) (by omega) (by omega) (by omega)]; omega), p1, zr1, e1, zfst_succ]
    cases hP : P k with
    | false =>
      rw [hP, if_neg (by decide), Int.add_zero] at es
      rw [es] at i
      rw [if_pos (show zo (bI false) = zo 0 from rfl), if_neg (show ¬ false = true by decide)]
      obtain ⟨S2, q1, q2⟩ := i
      exact ⟨S2, q1, Fs_trans p2 q2⟩
    | true =>
      rw [hP, if_pos rfl] at es
      rw [es] at i
      rw [if_neg (show ¬ zo (bI true) = zo 0 by decide), if_pos (show true = true from rfl)]
      cases g with
      | true =>
        rw [if_neg (show ¬ zo (bI true) = zo 0 by decide), if_pos rfl]
        exact ⟨S1, rfl, p2⟩
      | false =>
        rw [if_pos (show zo (bI false) = zo 0 from rfl), zo_add]
        obtain ⟨S2, q1, q2⟩ := i
        exact ⟨S2, q1, Fs_trans p2 q2⟩
theorem q90_ok (hw : WF T a) (hn : n ≤ 200) (h : RkM S tx n st) (hM : Md S 0 a) (hC : Cd S []) (h23 : S.1 3 0 0 23 = zo 0) (hk : 1000 < k) {g : Bool} : ∃ S', q90 (d + 29) k (zo (bI g)) S = some (.inl (some (zi (zo (match enE tx n (tst tx n (fac tx n a 6) st).1 with
    | .ok _ => qrV a (tst tx n (fac tx n a 6) st).2.2 (!g)
    | .error e => -1000000000 - e.1)))), S') ∧ S'.1 3 0 0 15 = zo 0 ∧ S'.1 3 0 0 22 = zo (epA (enE tx n (tst tx n (fac tx n a 6) st).1)) ∧ Fo S S' := by
  have u9 := hw.1.2.2.2.2.2.2.2.2.2
  have hF := n285 (tx := tx) (a := a) hn 6 d 0 (by omega) (by omega)
  have hG := n287 (d := d + 19) (n286 (d := d + 18) hF (fac_A 6) hn) (fac_A 6) hn
  obtain ⟨S1, p1, p2, p3, p4, p5⟩ := hG S st [] h h23 (fun _ => hC) (fun _ _ => Nat.zero_le _)
  have gG : isO (tst tx n (fac tx n a 6) st).1 = true → ∀ b : Nat, (b : Int) < a 9 → Cg a b (tst tx n (fac tx n a 6) st).2.1 (bI ((tst tx n (fac tx n a 6) st).2.2 b)) := tst_G (tx := tx) (fac_G hw 6) (fac_A 6) st
  unfold q90
  rw [p1, zr0]
  generalize (tst tx n (fac tx n a 6) st).1 = s at *
  generalize (tst tx n (fac tx n a 6) st).2.2 = P at *
  generalize (tst tx n (fac tx n a 6) st).2.1 = C at *
  have e20 := RkM_20 p2
  have fin : ∀ g2 : Bool, ctE tx n g2 1 s = enE tx n s → ∃ S', (zx_ret0 (zr_sem zF (d + 29) 262 [za 3 0 0, zi (zo (bI g2)), zi (zo 1)] S1) (fun S49 => (zx_ret1 (zr_sem zF (d + 29) 261 [za 3 0 0] S49) (fun x53 S51 => if x53 = (zo 0) then zy zF (d + 29) 290 k 134 [some (za 3 0 0), none, some (zi (zo (bI g))), some (zi (zo 0)), some (zi (zo 0))] S51 else some (.inl (some (zi ((zo (-1000000000)) - (S51.1 3 0 0 20)))), S51)) zxx)) zxx) = some (.inl (some (zi (zo (match enE tx n s with
    | .ok _ => qrV a P (!g)
    | .error e => -1000000000 - e.1)))), S') ∧ S'.1 3 0 0 15 = zo 0 ∧ S'.1 3 0 0 22 = zo (epA (enE tx n s)) ∧ Fo S S' := by
    intro g2 hg
    obtain ⟨S2, q1, q2, q3⟩ := n262g (d := d + 28) (c := 1) p2 g2 (by omega)
    rw [hg] at q2
    have ec := ec_0 q2
    have e2 := n261 (d := d + 28) q2
    have hFo : Fo S (zs_set (zs_set S2 3 0 0 15 (zo 0)) 3 0 0 22 (zo (epA (enE tx n s)))) := by
      refine Fo_trans (Fx_Fo p5) (Fo_trans (Fl_Fo q3) ⟨rfl, fun k m o j b => ?_⟩)
      rw [zs_oth (by omega), zs_oth (by omega)]
    rw [q1, zr0, e2, zr1]
    cases hs : enE tx n s with
    | ok y =>
      rw [hs] at ec hFo
      have o1 : isO s = true := by
        cases s with
        | ok y => rfl
        | error e => cases hs
      have e0 : ecA (.ok y) = 0 := rfl
      rw [e0, if_pos rfl]
      have hC2 : Cd S2 C := Cd_l (p3 o1) q3
      obtain ⟨S3, r1, r2⟩ := n290_134 (d := d + 24) (T := T) (P := P) (L := C) (g := g) hw (gG o1) (a 9).toNat 0 k (zs_set (zs_set S2 3 0 0 15 (zo 0)) 3 0 0 22 (zo (epA (.ok y)))) (by omega) (by omega) (Fo_Md hFo hM) (Cd_x hC2 (by rw [zs_oth (by omega), zs_oth (by omega)]) (fun j => by rw [zs_oth (by omega), zs_oth (by omega)]))
      refine ⟨S3, ?_, ?_, ?_, Fo_trans hFo (Fs_Fo r2)⟩
      · refine Eq.trans r1 ?_
        cases g <;> rfl
      · rw [r2.2 _ _ _ _ (by omega), zs_oth (by omega), zs_self]
      · rw [r2.2 _ _ _ _ (by omega), zs_self]
    | error e =>
      rw [hs] at ec hFo q2
      have b := ec.2 rfl
      rw [if_neg (by rw [zo_eq (by omega) (by omega) (by omega) (by omega)]; omega)]
      refine ⟨_, ?_, by rw [zs_oth (by omega), zs_self], zs_self, hFo⟩
      obtain ⟨_, _, _, hE⟩ := q2
      rw [zs_oth (by omega), zs_oth (by omega), hE.1, zo_sub]
  cases hs : s with
  | error e =>
    rw [hs] at e20 fin
    rw [if_neg (show ¬ S1.1 3 0 0 20 = zo 0 from e20)]
    exact fin true rfl
  | ok y =>
    rw [hs] at e20 fin p2
    rw [if_pos (show S1.1 3 0 0 20 = zo 0 from e20)]
    have bt := tkT_b (tx := tx) (n := n) (p := y)
    have h19 : S1.1 3 0 0 19 = zo (tkT tx n y) := by
      obtain ⟨_, q, hT, hE⟩ := p2
      have e := hE.1; subst e
      exact hT.2.2.2
    rw [h19]
    by_cases c : tkT tx n y = 0
    · rw [if_pos (by rw [c])]
      refine fin true ?_
      unfold enE
      rw [if_neg (show ¬ goO tx n (.ok y) = true from by show ¬ decide (tkT tx n y ≠ 0) = true; rw [decide_eq_true_eq]; omega)]; rfl
    · rw [if_neg (by rw [zo_eq (by omega) (by omega) (by omega) (by omega)]; exact c)]
      refine fin false ?_
      unfold enE
      rw [if_pos (show goO tx n (.ok y) = true from by show decide (tkT tx n y ≠ 0) = true; rw [decide_eq_true_eq]; exact c)]; rfl
theorem kw47 (h : kwO tx n 4 (.ok p) = true) : kwO tx n 7 (.ok p) = false := by
  rw [Bool.eq_false_iff]
  intro h2
  have := kwB_uni (show kwB tx n 4 p = true from h) (show kwB tx n 7 p = true from h2)
  exact absurd this.1 (by decide)
theorem enE_O (h : isO (enE tx n st) = true) : isO st = true := by
  cases st with
  | ok p => rfl
  | error e => cases h
theorem B290 (H : HM S k u a) (hw : WF T a) (h15 : S.1 3 0 0 15 = zo tn) (htn : tn ≤ 700) (hx : ∀ i, i < tn → S.1 3 0 6 i = zo (tx i) ∧ 0 ≤ tx i ∧ tx i ≤ 255) (g1 : -2147483648 ≤ x) (g2 : x < 2147483648) : if 0 ≤ x ∧ x ≤ tn ∧ x ≤ 200 then ∃ S', zr_sem zF (d + 30) 290 [za 3 0 0, zi (zo x)] S = some (.inl (some (zi (zo (qrA tx x.toNat a)))), S') ∧ S'.1 3 0 0 10 = zo 0 ∧ HM S' k u a ∧ S'.1 3 0 0 15 = zo 0 ∧ S'.1 3 0 0 22 = zo (epA (qrE tx x.toNat a)) ∧ Fo (mt S 0) S' else zr_sem zF (d + 30) 290 [za 3 0 0, zi (zo x)] S = some (.inl (some (zi (zo 0))), mt S 1) := by
  have hb := zF1_big
  have e15 : (zs_set S 3 0 0 10 (zo 0)).1 3 0 0 15 = zo tn := by rw [zs_oth (by omega)]; exact h15
  rw [ze_290, e15]
  have st0 : (if zo 200 ≤ zo (tn : Int) then zys zF (d + 29) 290 zF1 27 [some (za 3 0 0), some (zi (zo x)), none, none, none] [zi (zo 200), zi (zo 0), zi (zo x)] (zs_set S 3 0 0 10 (zo 0)) else zys zF (d + 29) 290 zF1 27 [some (za 3 0 0), some (zi (zo x)), none, none, none] [zi (zo tn), zi (zo 0), zi (zo x)] (zs_set S 3 0 0 10 (zo 0))) = zys zF (d + 29) 290 (999999999999998 + 1) 27 [some (za 3 0 0), some (zi (zo x)), none, none, none] [zi (zo (if (tn : Int) < 200 then (tn : Int) else 200)), zi (zo 0), zi (zo x)] (mt S 0) := by
    by_cases c : (tn : Int) < 200
    · rw [if_neg (by rw [zo_le (by omega) (by omega) (by omega) (by omega)]; omega), if_pos c]; rfl
    · rw [if_pos (by rw [zo_le (by omega) (by omega) (by omega) (by omega)]; omega), if_neg c]; rfl
  rw [st0, ze_290_27, m147 g1 g2 (by omega) (by omega) (by split <;> omega) (by split <;> omega), zr1]
  by_cases c : 0 ≤ x ∧ x ≤ tn ∧ x ≤ 200
  · rw [if_pos c, decide_eq_true (show 0 ≤ x ∧ x ≤ (if (tn : Int) < 200 then (tn : Int) else 200) by split <;> omega), if_neg (by decide)]
    obtain ⟨q, rfl⟩ : ∃ q : Nat, x = q := ⟨x.toNat, by omega⟩
    rw [Int.toNat_natCast]
    have hxq : ∀ i, i < q → (zs_set (mt S 0) 3 0 0 27 (zo 0)).1 3 0 6 i = zo (tx i) ∧ 0 ≤ tx i ∧ tx i ≤ 255 := fun i hi => by
      unfold mt; rw [zs_oth (by omega), zs_oth (by omega)]; exact hx i (by omega)
    obtain ⟨S1, p1, p2, p3, p4, p5⟩ := n260 (S := zs_set (mt S 0) 3 0 0 27 (zo 0)) (d := d + 25) (n := q) (tx := tx) hxq (by omega)
    have F1 : Fo (mt S 0) S1 := ⟨p4, fun k m o j b => by rw [p5 _ _ _ _ (by omega), zs_oth (by omega)]⟩
    have hM0 := Md_mt H.1 0
    have hU0 := UdM_mt 0 H.2
    have hC1 : Cd S1 [] := ⟨by rw [p5 _ _ _ _ (by omega), zs_self]; rfl, by decide, fun i hi => absurd hi (Nat.not_lt_zero i)⟩
    rw [p1, zr0, n265 (d := d + 23) p2 (show 0 < txl 4 by decide), zr1]
    have e10 : S1.1 3 0 0 10 = zo 0 := by rw [p5 _ _ _ _ (by omega), zs_oth (by omega)]; exact mt_10 S 0
    have fin : ∀ g3 : Bool, g3 = (kwO tx q 7 (.ok 0) || kwO tx q 4 (.ok 0)) → ∃ S', (zx_ret0 (zr_sem zF (d + 29) 262 [za 3 0 0, zi (zo (bI g3)), zi (zo 1)] S1) (fun S33 => (zx_ret0 (zr_sem zF (d + 29) 263 [za 3 0 0] S33) (fun S35 => q90 (d + 29) 999999999999998 (zo (bI (kwO tx q 4 (.ok 0)))) S35) zxx)) zxx) = some (.inl (some (zi (zo (qrA tx q a)))), S') ∧ S'.1 3 0 0 10 = zo 0 ∧ HM S' k u a ∧ S'.1 3 0 0 15 = zo 0 ∧ S'.1 3 0 0 22 = zo (epA (qrE tx q a)) ∧ Fo (mt S 0) S' := by
      intro g3 hg
      obtain ⟨S2, q1, q2, q3⟩ := n262g (d := d + 28) (c := 1) p2 g3 (by omega)
      obtain ⟨S3, r1, r2, r3⟩ := n263 (d := d + 25) q2
      rw [hg] at r2
      have r2 : RkM S3 tx q (qst tx q) := r2
      have F3 : Fo (mt S 0) S3 := Fo_trans F1 (Fo_trans (Fl_Fo q3) (Fl_Fo r3))
      obtain ⟨S4, s1, s2, s3, s4⟩ := q90_ok (d := d) (T := T) (a := a) (g := kwO tx q 4 (.ok 0)) (k := 999999999999998) hw (by omega) r2 (Fo_Md F3 hM0) (Cd_l (Cd_l hC1 q3) r3) (by rw [r3.2 _ _ _ _ (by omega), q3.2 _ _ _ _ (by omega)]; exact p3) (by omega)
      have F4 := Fo_trans F3 s4
      have e10' : S4.1 3 0 0 10 = zo 0 := by rw [F4.2 _ _ _ _ (by omega)]; exact mt_10 S 0
      refine ⟨S4, ?_, e10', ⟨Fo_Md F4 hM0, ?_⟩, s2, s3, F4⟩
      · rw [q1, zr0, r1, zr0]
        refine Eq.trans s1 ?_
        unfold qrA qrE
        cases he : enE tx q (qrR tx q a).1 with
        | error e =>
          have he : enE tx q (tst tx q (fac tx q a 6) (qst tx q)).1 = .error e := he
          rw [he]
        | ok y =>
          have he : enE tx q (tst tx q (fac tx q a 6) (qst tx q)).1 = .ok y := he
          rw [he]
          have o1 : isO (qst tx q) = true := by
            have := enE_O (tx := tx) (n := q) (st := (tst tx q (fac tx q a 6) (qst tx q)).1) (by rw [he]; rfl)
            cases hq : qst tx q with
            | ok y => rfl
            | error e => rw [hq, (tst_A (fac_A 6)).1 e] at this; cases this
          have o2 : (kwO tx q 7 (.ok 0) || kwO tx q 4 (.ok 0)) = true := by
            unfold qst at o1
            rw [isO_nxt] at o1
            exact (isO_ctE o1).1
          show some (Sum.inl (some (zi (zo (qrV a (tst tx q (fac tx q a 6) (qst tx q)).2.2 (!kwO tx q 4 (.ok 0)))))), S4) = some (Sum.inl (some (zi (zo (qrV a (tst tx q (fac tx q a 6) (qst tx q)).2.2 (kwO tx q 7 (.ok 0)))))), S4)
          cases h4 : kwO tx q 4 (.ok 0) with
          | true => rw [kw47 h4]; rfl
          | false =>
            rw [h4, Bool.or_false] at o2
            rw [o2]; rfl
      · obtain ⟨x1, x2, x3⟩ := hU0
        exact ⟨by rw [F4.2 _ _ _ _ (by omega)]; exact x1, x2, fun i j hi hj => by rw [F4.2 _ _ _ _ (by omega)]; exact x3 i j hi hj⟩
    cases h4 : kwO tx q 4 (.ok 0) with
    | true =>
      rw [h4] at fin
      rw [if_neg (by decide)]
      exact fin true (by rw [Bool.or_true])
    | false =>
      rw [h4] at fin
      rw [if_pos (show zo (bI false) = zo 0 from rfl), n265 (d := d + 23) p2 (show 0 < txl 7 by decide), zr1]
      cases h7 : kwO tx q 7 (.ok 0) with
      | true =>
        rw [h7] at fin
        rw [if_neg (by decide)]
        exact fin true rfl
      | false =>
        rw [h7] at fin
        rw [if_pos (show zo (bI false) = zo 0 from rfl)]
        exact fin false rfl
  · rw [if_neg c, decide_eq_false (show ¬ (0 ≤ x ∧ x ≤ (if (tn : Int) < 200 then (tn : Int) else 200)) by split <;> omega), if_pos (show zo (bI false) = zo 0 from rfl), m146, zr1, mt_mt]
end DR

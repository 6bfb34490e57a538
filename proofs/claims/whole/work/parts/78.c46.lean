/-! THE PURE SIDE 46: reading a bath: the loop, load; model -/
section DJ
variable {S : zS} {d n p t l s k : Nat} {a b : Rw} {T : Int} {tx : Nat → Int} {x y z lo hi c v : Int} {st : Et} {u : Nat → Rw}
theorem WF_sDr (hw : WF T a) : WF T (sDr tx n st a).2 := by
  show WF T (if _ then _ else _)
  by_cases o : isO (nmE tx n 0 99 (nmE tx n 1 99 (pl4 tx n a (frB a) (pl1 tx n (decide (a 7 < 5)) st)))) = true
  · rw [if_pos o]
    have g7 := of_decide_eq_true (isO_pl1 (isO_pl4 (isO_nmE (isO_nmE o))).2.2).1
    exact WF_nd hw g7 (cel_lt (clE_vc hw _)) (nuV_b (by omega)) (nuV_b (by omega))
  · rw [if_neg o]; exact hw
theorem WF_sTp (hw : WF T a) : WF T (sTp tx n st a).2 := by
  show WF T (if _ then _ else _)
  by_cases o : isO (nmE tx n 0 99 (pl4 tx n a (frB a) (pl1 tx n (decide (a 8 < 5)) st))) = true
  · rw [if_pos o]
    have g7 := of_decide_eq_true (isO_pl1 (isO_pl4 (isO_nmE o)).2.2).1
    exact WF_nt hw g7 (cel_lt (clE_vc hw _)) (nuV_b (by omega))
  · rw [if_neg o]; exact hw
theorem b6V_b : 1 ≤ b6V tx n st a ∧ b6V tx n st a ≤ 999 := nuV_b (by omega)
theorem b8V_b : 0 ≤ b8V tx n st a ∧ b8V tx n st a ≤ b6V tx n st a := by
  have := b6V_b (tx := tx) (n := n) (st := st) (a := a)
  unfold b8V
  split
  · exact nuV_b (by omega)
  · omega
theorem isO_b8E (h : isO (b8E tx n st a) = true) : isO (b6E tx n st a) = true := by
  unfold b8E at h
  split at h
  · have := isO_nmE h; rw [isO_nxt] at this; exact this
  · exact h
theorem WF_sBt (hw : WF T a) : WF T (sBt tx n st a).2 := by
  show WF T (if _ then _ else _)
  by_cases o : isO (b8E tx n st a) = true
  · rw [if_pos o]
    have o4 := isO_nmE (isO_nmE (isO_b8E o))
    have h4 := isO_pl4 o4
    have g9 := of_decide_eq_true (isO_pl1 h4.2.2).1
    exact WF_nb hw g9 (cel_lt (clE_vc hw _)) (of_decide_eq_true h4.1) (nuV_b (by omega)) b6V_b b8V_b
  · rw [if_neg o]; exact hw
theorem WF_sSo (hw : WF T a) : WF T (sSo tx n st a).2 := by
  have uN := WF_nc hw
  show WF T (if _ then _ else _)
  by_cases o : isO (nmE tx n 1 99 (s3E tx n st a)) = true
  · rw [if_pos o]
    have hv := nuV_b (tx := tx) (n := n) (st := s3E tx n st a) (lo := 1) (hi := 99) (by omega)
    refine WF_soapF hw (fun j hj => ?_) (fun c hc => ?_)
    · unfold up; rw [if_neg (by omega)]
    · unfold up
      split
      · omega
      · exact hw.2.2.2.2.1 c hc
  · rw [if_neg o]; exact hw
theorem WF_dec1 (hw : WF T a) : WF T (dec1 tx n st a).2 := by
  unfold dec1
  split
  · exact WF_sDr hw
  · split
    · exact WF_sTp hw
    · split
      · exact WF_sBt hw
      · split
        · exact WF_sSo hw
        · exact hw
theorem n262g (h : RkM S tx n st) (g : Bool) (hc : 1 ≤ c ∧ c ≤ 9) : ∃ S', zr_sem zF (d + 1) 262 [za 3 0 0, zi (zo (bI g)), zi (zo c)] S = some (.inl none, S') ∧ RkM S' tx n (ctE tx n g c st) ∧ Fl S S' := n262 h g hc
theorem n274 (h : RkM S tx n st) (hM : Md S 1 a) (hw : WF T a) : ∃ S', zr_sem zF (d + 7) 274 [za 3 0 0] S = some (.inl none, S') ∧ RkM S' tx n (nmE tx n 0 99 (nmE tx n 1 99 (pl4 tx n a (frB a) (pl1 tx n (decide (a 7 < 5)) st)))) ∧ Md S' 1 (sDr tx n st a).2 ∧ Fy S S' := by
  have u7 := hw.1.2.2.2.2.2.2.2.1
  have key : ∀ (g : Bool) (S1 : zS), (g = decide (a 7 < 5)) → zr_sem zF (d + 6) 262 [za 3 0 0, zi (zo (bI g)), zi (zo 3)] S = some (.inl none, S1) → RkM S1 tx n (ctE tx n g 3 st) → Fl S S1 → ∃ S', (zx_ret0 (zr_sem zF (d + 6) 262 [za 3 0 0, zi (zo (bI g)), zi (zo 3)] S) (fun S1 => (zx_ret0 (zr_sem zF (d + 6) 263 [za 3 0 0] S1) (fun S3 => (zx_ret1 (zr_sem zF (d + 6) 273 [za 3 0 0, zi (zo 1)] S3) (fun x7 S5 => (zx_ret1 (zr_sem zF (d + 6) 270 [za 3 0 0, zi (zo 1), zi (zo 99)] S5) (fun x10 S8 => (zx_ret1 (zr_sem zF (d + 6) 270 [za 3 0 0, zi (zo 0), zi (zo 99)] S8) (fun x13 S11 => (if (S11.1 3 0 0 20) = (zo 0) then (zx_ret0 (zr_sem zF (d + 6) 165 [za 3 0 0, zi x7, zi x10, zi x13] S11) (fun S14 => some (.inl none, S14)) zxx) else some (.inl none, S11))) zxx)) zxx)) zxx)) zxx)) zxx) = some (.inl none, S') ∧ RkM S' tx n (nmE tx n 0 99 (nmE tx n 1 99 (pl4 tx n a (frB a) (pl1 tx n (decide (a 7 < 5)) st)))) ∧ Md S' 1 (sDr tx n st a).2 ∧ Fy S S' := by
    intro g S1 eg e1 h1 F1
    obtain ⟨S3, q1, q2, q3⟩ := n263 (d := d + 2) h1
    rw [show nxt tx n (ctE tx n g 3 st) = pl1 tx n (decide (a 7 < 5)) st by rw [← eg]; rfl] at q2
    obtain ⟨S5, r1, r2, r3⟩ := n273 (d := d) q2 (Fl_Md q3 (Fl_Md F1 hM)) hw (q := 1) (by omega)
    have r2' : RkM S5 tx n (pl4 tx n a (frB a) (pl1 tx n (decide (a 7 < 5)) st)) := r2
    obtain ⟨S8, s1, s2, s3⟩ := n270 (d := d + 1) (lo := 1) (hi := 99) r2' (by omega) (by omega) (by omega)
    obtain ⟨S11, t1, t2, t3⟩ := n270 (d := d + 1) (lo := 0) (hi := 99) s2 (by omega) (by omega) (by omega)
    have F : Fl S S11 := Fl_trans F1 (Fl_trans q3 (Fl_trans r3 (Fl_trans s3 t3)))
    have hM11 := Fl_Md F hM
    have e20 := RkM_20 t2
    have t2' : RkM S11 tx n (nmE tx n 0 99 (nmE tx n 1 99 (pl4 tx n a (frB a) (pl1 tx n (decide (a 7 < 5)) st)))) := t2
    rw [e1, zr0, q1, zr0, r1, zr1, s1, zr1, t1, zr1]
    by_cases o : isO (nmE tx n 0 99 (nmE tx n 1 99 (pl4 tx n a (frB a) (pl1 tx n (decide (a 7 < 5)) st)))) = true
    · rw [if_pos (show isO (nxt tx n (nuE tx n 0 99 (nxt tx n (nuE tx n 1 99 (pl4 tx n a (frB a) (pl1 tx n (decide (a 7 < 5)) st)))))) = true from o)] at e20
      have g7 := of_decide_eq_true (isO_pl1 (isO_pl4 (isO_nmE (isO_nmE o))).2.2).1
      obtain ⟨S14, x1, x2, x3⟩ := m165 (d := d + 5) (c := clE tx n a (pl1 tx n (decide (a 7 < 5)) st)) (h := nuV tx n 1 99 (pl4 tx n a (frB a) (pl1 tx n (decide (a 7 < 5)) st))) (r := nuV tx n 0 99 (nxt tx n (nuE tx n 1 99 (pl4 tx n a (frB a) (pl1 tx n (decide (a 7 < 5)) st))))) hM11 u7.1 g7
      refine ⟨S14, by rw [if_pos e20, x1, zr0], RkM_m t2' x3, ?_, Fy_trans (Fl_Fy F) (Fm_Fy x3)⟩
      show Md S14 1 (if _ then _ else _)
      rw [if_pos o]; exact x2
    · rw [if_neg (show ¬ isO (nxt tx n (nuE tx n 0 99 (nxt tx n (nuE tx n 1 99 (pl4 tx n a (frB a) (pl1 tx n (decide (a 7 < 5)) st)))))) = true from o)] at e20
      refine ⟨S11, by rw [if_neg e20], t2', ?_, Fl_Fy F⟩
      show Md S11 1 (if _ then _ else _)
      rw [if_neg o]; exact hM11
  rw [ze_274, hM.1, if_pos (by omega), zin_ok (by omega) (by omega) (by omega), show (zo 7).toNatClampNeg = 7 from rfl, hM.2.2 7 (by omega)]
  obtain ⟨S1, p1, p2, p3⟩ := n262g (d := d + 5) (c := 3) h (decide (a 7 < 5)) (by omega)
  have K := key _ S1 rfl p1 p2 p3
  by_cases c : a 7 < 5
  · rw [if_neg (show ¬ zo 5 ≤ zo (a 7) by rw [zo_le (by omega) (by omega) (by omega) (by omega)]; omega)]
    rw [show zo (bI (decide (a 7 < 5))) = zo 1 by rw [decide_eq_true c]; rfl] at K
    exact K
  · rw [if_pos (show zo 5 ≤ zo (a 7) by rw [zo_le (by omega) (by omega) (by omega) (by omega)]; omega)]
    rw [show zo (bI (decide (a 7 < 5))) = zo 0 by rw [decide_eq_false c]; rfl] at K
    exact K
theorem n275 (h : RkM S tx n st) (hM : Md S 1 a) (hw : WF T a) : ∃ S', zr_sem zF (d + 7) 275 [za 3 0 0] S = some (.inl none, S') ∧ RkM S' tx n (nmE tx n 0 99 (pl4 tx n a (frB a) (pl1 tx n (decide (a 8 < 5)) st))) ∧ Md S' 1 (sTp tx n st a).2 ∧ Fy S S' := by
  have u8 := hw.1.2.2.2.2.2.2.2.2.1
  have key : ∀ (g : Bool) (S1 : zS), (g = decide (a 8 < 5)) → zr_sem zF (d + 6) 262 [za 3 0 0, zi (zo (bI g)), zi (zo 3)] S = some (.inl none, S1) → RkM S1 tx n (ctE tx n g 3 st) → Fl S S1 → ∃ S', (zx_ret0 (zr_sem zF (d + 6) 262 [za 3 0 0, zi (zo (bI g)), zi (zo 3)] S) (fun S1 => (zx_ret0 (zr_sem zF (d + 6) 263 [za 3 0 0] S1) (fun S3 => (zx_ret1 (zr_sem zF (d + 6) 273 [za 3 0 0, zi (zo 1)] S3) (fun x7 S5 => (zx_ret1 (zr_sem zF (d + 6) 270 [za 3 0 0, zi (zo 0), zi (zo 99)] S5) (fun x10 S8 => (if (S8.1 3 0 0 20) = (zo 0) then (zx_ret0 (zr_sem zF (d + 6) 166 [za 3 0 0, zi x7, zi x10] S8) (fun S11 => some (.inl none, S11)) zxx) else some (.inl none, S8))) zxx)) zxx)) zxx)) zxx) = some (.inl none, S') ∧ RkM S' tx n (nmE tx n 0 99 (pl4 tx n a (frB a) (pl1 tx n (decide (a 8 < 5)) st))) ∧ Md S' 1 (sTp tx n st a).2 ∧ Fy S S' := by
    intro g S1 eg e1 h1 F1
    obtain ⟨S3, q1, q2, q3⟩ := n263 (d := d + 2) h1
    rw [show nxt tx n (ctE tx n g 3 st) = pl1 tx n (decide (a 8 < 5)) st by rw [← eg]; rfl] at q2
    obtain ⟨S5, r1, r2, r3⟩ := n273 (d := d) q2 (Fl_Md q3 (Fl_Md F1 hM)) hw (q := 1) (by omega)
    have r2' : RkM S5 tx n (pl4 tx n a (frB a) (pl1 tx n (decide (a 8 < 5)) st)) := r2
    obtain ⟨S11, t1, t2, t3⟩ := n270 (d := d + 1) (lo := 0) (hi := 99) r2' (by omega) (by omega) (by omega)
    have F : Fl S S11 := Fl_trans F1 (Fl_trans q3 (Fl_trans r3 t3))
    have hM11 := Fl_Md F hM
    have e20 := RkM_20 t2
    have t2' : RkM S11 tx n (nmE tx n 0 99 (pl4 tx n a (frB a) (pl1 tx n (decide (a 8 < 5)) st))) := t2
    rw [e1, zr0, q1, zr0, r1, zr1, t1, zr1]
    by_cases o : isO (nmE tx n 0 99 (pl4 tx n a (frB a) (pl1 tx n (decide (a 8 < 5)) st))) = true
    · rw [if_pos (show isO (nxt tx n (nuE tx n 0 99 (pl4 tx n a (frB a) (pl1 tx n (decide (a 8 < 5)) st)))) = true from o)] at e20
      have g7 := of_decide_eq_true (isO_pl1 (isO_pl4 (isO_nmE o)).2.2).1
      obtain ⟨S14, x1, x2, x3⟩ := m166 (d := d + 5) (c := clE tx n a (pl1 tx n (decide (a 8 < 5)) st)) (r := nuV tx n 0 99 (pl4 tx n a (frB a) (pl1 tx n (decide (a 8 < 5)) st))) hM11 u8.1 g7
      refine ⟨S14, by rw [if_pos e20, x1, zr0], RkM_m t2' x3, ?_, Fy_trans (Fl_Fy F) (Fm_Fy x3)⟩
      show Md S14 1 (if _ then _ else _)
      rw [if_pos o]; exact x2
    · rw [if_neg (show ¬ isO (nxt tx n (nuE tx n 0 99 (pl4 tx n a (frB a) (pl1 tx n (decide (a 8 < 5)) st)))) = true from o)] at e20
      refine ⟨S11, by rw [if_neg e20], t2', ?_, Fl_Fy F⟩
      show Md S11 1 (if _ then _ else _)
      rw [if_neg o]; exact hM11
  rw [ze_275, hM.1, if_pos (by omega), zin_ok (by omega) (by omega) (by omega), show (zo 8).toNatClampNeg = 8 from rfl, hM.2.2 8 (by omega)]
  obtain ⟨S1, p1, p2, p3⟩ := n262g (d := d + 5) (c := 3) h (decide (a 8 < 5)) (by omega)
  have K := key _ S1 rfl p1 p2 p3
  by_cases c : a 8 < 5
  · rw [if_neg (show ¬ zo 5 ≤ zo (a 8) by rw [zo_le (by omega) (by omega) (by omega) (by omega)]; omega)]
    rw [show zo (bI (decide (a 8 < 5))) = zo 1 by rw [decide_eq_true c]; rfl] at K
    exact K
  · rw [if_pos (show zo 5 ≤ zo (a 8) by rw [zo_le (by omega) (by omega) (by omega) (by omega)]; omega)]
    rw [show zo (bI (decide (a 8 < 5))) = zo 0 by rw [decide_eq_false c]; rfl] at K
    exact K
theorem n276 (h : RkM S tx n st) (hM : Md S 1 a) (hw : WF T a) : ∃ S', zr_sem zF (d + 9) 276 [za 3 0 0] S = some (.inl none, S') ∧ RkM S' tx n (b8E tx n st a) ∧ Md S' 1 (sBt tx n st a).2 ∧ Fy S S' := by
  have u9 := hw.1.2.2.2.2.2.2.2.2.2
  have key : ∀ (g : Bool) (S1 : zS), (g = decide (a 9 < 12)) → zr_sem zF (d + 8) 262 [za 3 0 0, zi (zo (bI g)), zi (zo 3)] S = some (.inl none, S1) → RkM S1 tx n (ctE tx n g 3 st) → Fl S S1 → ∃ S', (zx_ret0 (zr_sem zF (d + 8) 262 [za 3 0 0, zi (zo (bI g)), zi (zo 3)] S) (fun S1 => (zx_ret0 (zr_sem zF (d + 8) 263 [za 3 0 0] S1) (fun S3 => (zx_ret1 (zr_sem zF (d + 8) 273 [za 3 0 0, zi (zo 2)] S3) (fun x7 S5 => (zx_ret1 (zr_sem zF (d + 8) 270 [za 3 0 0, zi (zo 1), zi (zo 99)] S5) (fun x10 S8 => (zx_ret1 (zr_sem zF (d + 8) 270 [za 3 0 0, zi (zo 1), zi (zo 999)] S8) (fun x13 S11 => (zx_ret1 (zr_sem zF (d + 8) 266 [za 3 0 0, za 6 23 0] S11) (fun x16 S14 => (if x16 = (zo 0) then (if (S14.1 3 0 0 20) = (zo 0) then (zx_ret0 (zr_sem zF (d + 8) 167 [za 3 0 0, zi x7, zi x10, zi x13, zi (zo 0)] S14) (fun S17 => some (.inl none, S17)) zxx) else some (.inl none, S14)) else (zx_ret1 (zr_sem zF (d + 8) 270 [za 3 0 0, zi (zo 0), zi x13] S14) (fun x21 S19 => (if (S19.1 3 0 0 20) = (zo 0) then (zx_ret0 (zr_sem zF (d + 8) 167 [za 3 0 0, zi x7, zi x10, zi x13, zi x21] S19) (fun S22 => some (.inl none, S22)) zxx) else some (.inl none, S19))) zxx))) zxx)) zxx)) zxx)) zxx)) zxx)) zxx) = some (.inl none, S') ∧ RkM S' tx n (b8E tx n st a) ∧ Md S' 1 (sBt tx n st a).2 ∧ Fy S S' := by
    intro g S1 eg e1 h1 F1
    obtain ⟨S3, q1, q2, q3⟩ := n263 (d := d + 4) h1
    rw [show nxt tx n (ctE tx n g 3 st) = pl1 tx n (decide (a 9 < 12)) st by rw [← eg]; rfl] at q2
    obtain ⟨S5, r1, r2, r3⟩ := n273 (d := d + 2) q2 (Fl_Md q3 (Fl_Md F1 hM)) hw (q := 2) (by omega)
    have r2' : RkM S5 tx n (b4E tx n st a) := r2
    obtain ⟨S8, s1, s2, s3⟩ := n270 (d := d + 3) (lo := 1) (hi := 99) r2' (by omega) (by omega) (by omega)
    obtain ⟨S11, t1, t2, t3⟩ := n270 (d := d + 3) (lo := 1) (hi := 999) s2 (by omega) (by omega) (by omega)
    have t2' : RkM S11 tx n (b6E tx n st a) := t2
    obtain ⟨S14, w1, w2, w3, _⟩ := n266 (d := d + 1) (t := 23) t2' (show 0 < txl 23 by decide)
    have F : Fl S S14 := Fl_trans F1 (Fl_trans q3 (Fl_trans r3 (Fl_trans s3 (Fl_trans t3 w3))))
    have hM14 := Fl_Md F hM
    have b6 := b6V_b (tx := tx) (n := n) (st := st) (a := a)
    have fin : ∀ (S2 : zS) (w : Int), RkM S2 tx n (b8E tx n st a) → b8V tx n st a = w → Fl S S2 → ∃ S', (if (S2.1 3 0 0 20) = (zo 0) then (zx_ret0 (zr_sem zF (d + 8) 167 [za 3 0 0, zi (zo (clE tx n a (pl1 tx n (decide (a 9 < 12)) st))), zi (zo (nuV tx n 1 99 (b4E tx n st a))), zi (zo (b6V tx n st a)), zi (zo w)] S2) (fun S17 => some (.inl none, S17)) zxx) else some (.inl none, S2)) = some (.inl none, S') ∧ RkM S' tx n (b8E tx n st a) ∧ Md S' 1 (sBt tx n st a).2 ∧ Fy S S' := by
      intro S2 w h2 ew F2
      have e20 := RkM_20 h2
      have hM2 := Fl_Md F2 hM
      by_cases o : isO (b8E tx n st a) = true
      · rw [if_pos o] at e20
        have g9 := of_decide_eq_true (isO_pl1 (isO_pl4 (isO_nmE (isO_nmE (isO_b8E o)))).2.2).1
        obtain ⟨S17, x1, x2, x3⟩ := m167 (d := d + 6) (c := clE tx n a (pl1 tx n (decide (a 9 < 12)) st)) (w := nuV tx n 1 99 (b4E tx n st a)) (s := b6V tx n st a) (wt := w) hM2 u9.1 g9
        refine ⟨S17, by rw [if_pos e20, x1, zr0], RkM_m h2 x3, ?_, Fy_trans (Fl_Fy F2) (Fm_Fy x3)⟩
        show Md S17 1 (if _ then _ else _)
        rw [if_pos o, ew]; exact x2
      · rw [if_neg o] at e20
        refine ⟨S2, by rw [if_neg e20], h2, ?_, Fl_Fy F2⟩
        show Md S2 1 (if _ then _ else _)
        rw [if_neg o]; exact hM2
    rw [e1, zr0, q1, zr0, r1, zr1, show zr_sem zF (d + 8) 270 [za 3 0 0, zi (zo 1), zi (zo 99)] S5 = _ from s1, zr1, t1, zr1, show nuV tx n 1 999 (nxt tx n (nuE tx n 1 99 (b4E tx n st a))) = b6V tx n st a from rfl, w1, zr1]
    by_cases c : kwO tx n 23 (b6E tx n st a) = true
    · rw [if_pos c] at w2
      obtain ⟨S19, y1, y2, y3⟩ := n270 (d := d + 3) (lo := 0) (hi := b6V tx n st a) w2 (by omega) (by omega) (by omega)
      have e8 : b8E tx n st a = nxt tx n (nuE tx n 0 (b6V tx n st a) (nxt tx n (b6E tx n st a))) := if_pos c
      have ev : b8V tx n st a = nuV tx n 0 (b6V tx n st a) (nxt tx n (b6E tx n st a)) := if_pos c
      rw [← e8] at y2
      rw [c, if_neg (by decide), y1, zr1]
      exact fin S19 _ y2 ev (Fl_trans F y3)
    · rw [if_neg c] at w2
      have e8 : b8E tx n st a = b6E tx n st a := if_neg c
      have ev : b8V tx n st a = 0 := if_neg c
      rw [← e8] at w2
      rw [Bool.eq_false_iff.2 c, if_pos (show zo (bI false) = zo 0 from rfl)]
      exact fin S14 _ w2 ev F
  rw [ze_276, hM.1, if_pos (by omega), zin_ok (by omega) (by omega) (by omega), show (zo 9).toNatClampNeg = 9 from rfl, hM.2.2 9 (by omega)]
  obtain ⟨S1, p1, p2, p3⟩ := n262g (d := d + 7) (c := 3) h (decide (a 9 < 12)) (by omega)
  have K := key _ S1 rfl p1 p2 p3
  by_cases c : a 9 < 12
  · rw [if_neg (show ¬ zo 12 ≤ zo (a 9) by rw [zo_le (by omega) (by omega) (by omega) (by omega)]; omega)]
    rw [show zo (bI (decide (a 9 < 12))) = zo 1 by rw [decide_eq_true c]; rfl] at K
    exact K
  · rw [if_pos (show zo 12 ≤ zo (a 9) by rw [zo_le (by omega) (by omega) (by omega) (by omega)]; omega)]
    rw [show zo (bI (decide (a 9 < 12))) = zo 0 by rw [decide_eq_false c]; rfl] at K
    exact K
theorem n277 (h : RkM S tx n st) (hM : Md S 1 a) (hw : WF T a) : ∃ S', zr_sem zF (d + 7) 277 [za 3 0 0] S = some (.inl none, S') ∧ RkM S' tx n (nmE tx n 1 99 (s3E tx n st a)) ∧ Md S' 1 (sSo tx n st a).2 ∧ Fy S S' := by
  have uN := WF_nc hw
  obtain ⟨S1, p1, p2, p3⟩ := n263 (d := d + 2) h
  obtain ⟨S3, q1, q2, q3⟩ := n273 (d := d) p2 (Fl_Md p3 hM) hw (q := 0) (by omega)
  have q2' : RkM S3 tx n (s3E tx n st a) := q2
  obtain ⟨S6, r1, r2, r3⟩ := n270 (d := d + 1) (lo := 1) (hi := 99) q2' (by omega) (by omega) (by omega)
  have r2' : RkM S6 tx n (nmE tx n 1 99 (s3E tx n st a)) := r2
  have F := Fl_trans p3 (Fl_trans q3 r3)
  have hM6 := Fl_Md F hM
  have e20 := RkM_20 r2'
  have cl := cel_lt (clE_vc (tx := tx) (n := n) hw (nxt tx n st))
  have cl2 : 0 ≤ clE tx n a (nxt tx n st) ∧ clE tx n a (nxt tx n st) < a 0 * a 1 := cl
  rw [ze_277, p1, zr0, q1, zr1, r1, zr1]
  by_cases o : isO (nmE tx n 1 99 (s3E tx n st a)) = true
  · rw [if_pos o] at e20
    rw [if_pos e20, hM6.1, if_pos (by omega), zo_add, zin_ok (by omega) (by omega) (by omega), zlt_eq, zo_nn (by omega) (by omega), show (160 + clE tx n a (nxt tx n st)).toNat = 160 + (clE tx n a (nxt tx n st)).toNat by omega]
    refine ⟨_, rfl, RkM_r r2', ?_, Fy_trans (Fl_Fy F) Fy_r⟩
    show Md _ 1 (if _ then _ else _)
    rw [if_pos o]; exact Md_set hM6 _ _
  · rw [if_neg o] at e20
    refine ⟨S6, by rw [if_neg e20], r2', ?_, Fl_Fy F⟩
    show Md S6 1 (if _ then _ else _)
    rw [if_neg o]; exact hM6
/-- a state is ahead of a place -/
def adv (n p : Nat) (st : Et) : Prop := ∀ q, st = .ok q → p < q ∧ q ≤ n
theorem adv_e {e : Int × Int} : adv n p (.error e) := fun q h => by cases h
theorem adv_nxt (h : adv n p st) : adv n p (nxt tx n st) := by
  cases st with
  | ok r =>
    intro q e
    have := h r rfl
    have b := tkE_b (tx := tx) this.2
    cases e
    omega
  | error e => exact adv_e
theorem adv_nuE (h : adv n p st) : adv n p (nuE tx n lo hi st) := by
  cases st with
  | ok r =>
    show adv n p (if _ then _ else _)
    split
    · split
      · exact h
      · exact adv_e
    · exact adv_e
  | error e => exact adv_e
theorem adv_nmE (h : adv n p st) : adv n p (nmE tx n lo hi st) := adv_nxt (adv_nuE h)
theorem adv_ctE {g : Bool} (h : adv n p st) : adv n p (ctE tx n g c st) := by
  unfold ctE; split
  · exact h
  · cases st with
    | ok r => exact adv_e
    | error e => exact adv_e
theorem adv_ceE (h : adv n p st) : adv n p (ceE tx n c st) := by
  cases st with
  | ok r =>
    show adv n p (if _ then _ else _)
    split
    · exact adv_nxt h
    · exact adv_e
  | error e => exact adv_e
theorem adv_pl4 {g : Int → Bool} (h : adv n p st) : adv n p (pl4 tx n a g st) := adv_nxt (adv_ctE (adv_nuE (adv_nmE h)))
theorem adv_st (hp : p ≤ n) (ht : tkT tx n p ≠ 0) : adv n p (nxt tx n (.ok p)) := fun q e => by
  have b := tkE_b (tx := tx) hp
  have := b.2.2.2 ht
  cases e
  omega
theorem adv_pl1 {g : Bool} (hp : p ≤ n) (ht : tkT tx n p ≠ 0) : adv n p (pl1 tx n g (.ok p)) := by
  unfold pl1 ctE
  split
  · exact adv_st hp ht
  · exact adv_e
theorem adv_dec1 (hp : p ≤ n) (ht : tkT tx n p ≠ 0) : adv n p (dec1 tx n (.ok p) a).1 := by
  unfold dec1
  split
  · exact adv_ceE (adv_nmE (adv_nmE (adv_pl4 (adv_pl1 hp ht))))
  · split
    · exact adv_ceE (adv_nmE (adv_pl4 (adv_pl1 hp ht)))
    · split
      · refine adv_ceE ?_
        have h6 : adv n p (b6E tx n (.ok p) a) := adv_nmE (adv_nmE (adv_pl4 (adv_pl1 hp ht)))
        unfold b8E
        split
        · exact adv_nmE (adv_nxt h6)
        · exact h6
      · split
        · exact adv_ceE (adv_nmE (adv_nmE (adv_nmE (adv_st hp ht))))
        · exact adv_e
theorem n278_4 : ∀ (m f : Nat) (S : zS) (st : Et) (a : Rw), (∀ p, st = .ok p → n - p < m ∧ p ≤ n) → m < f → RkM S tx n st → Md S 1 a → WF T a → ∃ S', zy zF (d + 9) 278 f 4 [some (za 3 0 0)] S = some (.inl none, S') ∧ Pm S S' T tx n (dcl tx n m st a) := by
  intro m
  induction m with
  | zero =>
    intro f S st a hp hf h hM hw
    obtain ⟨f, rfl⟩ : ∃ f', f = f' + 1 := ⟨f - 1, by omega⟩
    have e20 := RkM_20 h
    cases st with
    | ok r => have := hp r rfl; omega
    | error e =>
      refine ⟨S, ?_, h, hM, hw, Fy_refl S⟩
      rw [ze_278_4, if_neg (show ¬ S.1 3 0 0 20 = zo 0 from e20)]
  | succ m ih =>
    intro f S st a hp hf h hM hw
    obtain ⟨f, rfl⟩ : ∃ f', f = f' + 1 := ⟨f - 1, by omega⟩
    have e20 := RkM_20 h
    have ed : dcl tx n (m + 1) st a = if goO tx n st = true then dcl tx n m (dec1 tx n st a).1 (dec1 tx n st a).2 else (st, a) := rfl
    rw [ed]
    cases st with
    | error e =>
      refine ⟨S, ?_, h, hM, hw, Fy_refl S⟩
      rw [ze_278_4, if_neg (show ¬ S.1 3 0 0 20 = zo 0 from e20)]
    | ok r =>
      have hr := hp r rfl
      have bt := tkT_b (tx := tx) (n := n) (p := r)
      have e19 : S.1 3 0 0 19 = zo (tkT tx n r) := by
        obtain ⟨_, p, hP, hE⟩ := h
        have := hE.1; subst this; exact hP.2.2.2
      rw [ze_278_4, if_pos (show S.1 3 0 0 20 = zo 0 from e20), e19]
      by_cases ct : tkT tx n r = 0
      · have g : goO tx n (.ok r) = false := decide_eq_false (fun z => z ct)
        refine ⟨S, ?_, by rw [if_neg (by rw [g]; decide)]; exact ⟨h, hM, hw, Fy_refl S⟩⟩
        rw [if_pos (show zo (tkT tx n r) = zo 0 by rw [ct])]
      · have g : goO tx n (.ok r) = true := decide_eq_true ct
        rw [if_neg (show ¬ zo (tkT tx n r) = zo 0 by rw [zo_eq (by omega) (by omega) (by omega) (by omega)]; exact ct), if_pos g]
        have ad := adv_dec1 (a := a) hr.2 ct
        have go : ∀ (S2 : zS), RkM S2 tx n (dec1 tx n (.ok r) a).1 → Md S2 1 (dec1 tx n (.ok r) a).2 → Fy S S2 → ∃ S', zy zF (d + 9) 278 f 4 [some (za 3 0 0)] S2 = some (.inl none, S') ∧ Pm S S' T tx n (dcl tx n m (dec1 tx n (.ok r) a).1 (dec1 tx n (.ok r) a).2) := fun S2 h2 hM2 F2 => by
          obtain ⟨S3, x1, x2, x3, x4, x5⟩ := ih f S2 _ _ (fun p e => by have := ad p e; omega) (by omega) h2 hM2 (WF_dec1 hw)
          exact ⟨S3, x1, x2, x3, x4, Fy_trans F2 x5⟩
        have e3 := n265 (d := d + 3) (t := 3) h (show 0 < txl 3 by decide)
        have ek20 := n265 (d := d + 3) (t := 20) h (show 0 < txl 20 by decide)
        have e2 := n265 (d := d + 3) (t := 2) h (show 0 < txl 2 by decide)
        have e17 := n265 (d := d + 3) (t := 17) h (show 0 < txl 17 by decide)
        rw [e3, zr1]
        unfold dec1 at go ⊢
        by_cases k3 : kwO tx n 3 (.ok r) = true
        · rw [if_pos k3] at go ⊢
          obtain ⟨S1, p1, p2, p3, p4⟩ := n274 (d := d + 2) h hM hw
          obtain ⟨S2, q1, q2, q3⟩ := n267 (d := d + 4) (c := 59) p2 (by omega)
          rw [k3, if_neg (by decide), p1, zr0, q1, zr0]
          exact go S2 q2 (Fl_Md q3 p3) (Fy_trans p4 (Fl_Fy q3))
        rw [if_neg k3] at go ⊢
        rw [Bool.eq_false_iff.2 k3, if_pos (show zo (bI false) = zo 0 from rfl), ek20, zr1]
        by_cases k20 : kwO tx n 20 (.ok r) = true
        · rw [if_pos k20] at go ⊢
          obtain ⟨S1, p1, p2, p3, p4⟩ := n275 (d := d + 2) h hM hw
          obtain ⟨S2, q1, q2, q3⟩ := n267 (d := d + 4) (c := 59) p2 (by omega)
          rw [k20, if_neg (by decide), p1, zr0, q1, zr0]
          exact go S2 q2 (Fl_Md q3 p3) (Fy_trans p4 (Fl_Fy q3))
        rw [if_neg k20] at go ⊢
        rw [Bool.eq_false_iff.2 k20, if_pos (show zo (bI false) = zo 0 from rfl), e2, zr1]
        by_cases k2 : kwO tx n 2 (.ok r) = true
        · rw [if_pos k2] at go ⊢
          obtain ⟨S1, p1, p2, p3, p4⟩ := n276 (d := d) h hM hw
          obtain ⟨S2, q1, q2, q3⟩ := n267 (d := d + 4) (c := 59) p2 (by omega)
          rw [k2, if_neg (by decide), p1, zr0, q1, zr0]
          exact go S2 q2 (Fl_Md q3 p3) (Fy_trans p4 (Fl_Fy q3))
        rw [if_neg k2] at go ⊢
        obtain ⟨S0, o1, o2, o3⟩ := n262g (d := d + 8) (c := 1) h (kwO tx n 17 (.ok r)) (by omega)
        obtain ⟨S1, p1, p2, p3, p4⟩ := n277 (d := d + 2) o2 (Fl_Md o3 hM) hw
        obtain ⟨S2, q1, q2, q3⟩ := n267 (d := d + 4) (c := 59) p2 (by omega)
        rw [Bool.eq_false_iff.2 k2, if_pos (show zo (bI false) = zo 0 from rfl), e17, zr1, o1, zr0, p1, zr0, q1, zr0]
        have F2 := Fy_trans (Fl_Fy o3) (Fy_trans p4 (Fl_Fy q3))
        have hM2 := Fl_Md q3 p3
        by_cases k17 : kwO tx n 17 (.ok r) = true
        · rw [if_pos k17] at go ⊢
          rw [k17] at q2 hM2
          exact go S2 q2 hM2 F2
        · rw [if_neg k17] at go ⊢
          rw [Bool.eq_false_iff.2 k17] at q2 hM2
          exact go S2 q2 hM2 F2
end DJ

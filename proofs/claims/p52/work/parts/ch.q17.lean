/-! THE LAW'S LEVEL 17: its methods -/
theorem q_spl {α : Type} (f : α → Bool) (l : List α) (n : Nat) (h1 : (l.take n).all f = true) (h2 : (l.drop n).all f = true) : l.all f = true := by
  rw [← List.take_append_drop n l, List.all_append, h1, h2]
  rfl
theorem qt_t6 : qk_rng 43 1 = true := by
  have h : qm_43.all (qk_e RL "holds" cL_holds 14 (some .boolean) 2) = true := by
    refine q_spl _ _ 150 qt_6a ?_
    refine q_spl _ _ 100 qt_6b ?_
    rw [List.drop_drop]
    refine q_spl _ _ 90 qt_6c ?_
    rw [List.drop_drop]
    exact qt_6d
  have e : qk_rng 43 1 = ((Nat.beq 14 14 && qm_43.all (qk_e RL "holds" cL_holds 14 (some .boolean) 2) && qk_seq qm_43) && true) := rfl
  rw [e, h, qt_6e]
  rfl
theorem qt_ms_ok {mi : Nat} {T : List zE × Nat × Nat × Nat} {M : zM} (h : zx_nth qt_ms mi = some T) (hM : qt_mi mi = some M) : qk_t M T = true := by
  have hlt : mi < 47 := by
    have h9 := h
    rw [zx_nth_get] at h9
    have := (List.getElem?_eq_some_iff.mp h9).1
    rw [qt_len.1] at this
    exact this
  have key : qk_ti mi = true := by
    by_cases h0 : mi < 11
    · exact qk_rng_ok _ _ _ qt_t0 (by omega) (by omega)
    by_cases h1 : mi < 20
    · exact qk_rng_ok _ _ _ qt_t1 (by omega) (by omega)
    by_cases h2 : mi < 35
    · exact qk_rng_ok _ _ _ qt_t2 (by omega) (by omega)
    by_cases h3 : mi < 39
    · exact qk_rng_ok _ _ _ qt_t3 (by omega) (by omega)
    by_cases h4 : mi < 40
    · exact qk_rng_ok _ _ _ qt_t4 (by omega) (by omega)
    by_cases h5 : mi < 43
    · exact qk_rng_ok _ _ _ qt_t5 (by omega) (by omega)
    by_cases h6 : mi < 44
    · exact qk_rng_ok _ _ _ qt_t6 (by omega) (by omega)
    · exact qk_rng_ok _ _ _ qt_t7 (by omega) (by omega)
  unfold qk_ti at key
  unfold qt_mi at hM
  rw [h, hM] at key
  exact key
theorem q_sem_mono (F : Nat) : ∀ (d mi : Nat) (av : List zV) (T : qS) (o : qO), q_sem F d mi av T = some o → qm T o.2 := by
  intro d
  induction d with
  | zero => exact fun mi av T o h => nomatch h
  | succ d ih =>
    intro mi av T o h
    have h : (zx_nth qt_ms mi).bind (fun M => qx_run (fun mi av T => q_sem F d mi av T) (fun mi av S => zr_sem F d mi av S) M.1 M.2.1 M.2.2.2 F 0 (zl_init av M.2.2.1) [] T) = some o := h
    obtain ⟨M, -, h⟩ := Option.bind_eq_some_iff.mp h
    exact qx_run_mono ih _ _ _ _ _ h
theorem q_gh (F d : Nat) : qGh (fun mi av S => zr_sem F d mi av S) := fun mi av S S' v h hm => zg_l hm h
/-- SOUNDNESS of the law's level: what the interpreter answers, the machine does -/
theorem q_sem_ok {l : Launch} (F : Nat) : ∀ d, qGam l d (fun mi av T => q_sem F d mi av T) := by
  intro d
  induction d with
  | zero => exact fun mi av T o h => nomatch h
  | succ d ih =>
    intro mi av T o h M hM
    have hmono := q_sem_mono F (d + 1) mi av T o h
    have h : (zx_nth qt_ms mi).bind (fun M => qx_run (fun mi av T => q_sem F d mi av T) (fun mi av S => zr_sem F d mi av S) M.1 M.2.1 M.2.2.2 F 0 (zl_init av M.2.2.1) [] T) = some o := h
    obtain ⟨N, hN, h⟩ := Option.bind_eq_some_iff.mp h
    have hk := qt_ms_ok hN hM
    intro hlen
    unfold qk_t at hk
    rw [Bool.and_eq_true, Bool.and_eq_true] at hk
    obtain ⟨⟨h1, h2⟩, h3⟩ := hk
    have h1 : N.2.2.1 = M.2.2.1 := Nat.eq_of_beq_eq_true h1
    have h2 := List.all_eq_true.mp h2
    refine qCtr_of (q_m_ok hM).2 hmono hlen ?_
    intro G A aq p e s m args below meth c X
    rw [h1] at h
    have hd0 : d + 4 ≤ (qrm (d + 1) (o.2.2.length - T.2.length) (q_sl o.2.2 - q_sl T.2)).frames ∧ 36 * d + 136 ≤ (qrm (d + 1) (o.2.2.length - T.2.length) (q_sl o.2.2 - q_sl T.2)).locals := by
      unfold qrm
      constructor <;> simp only <;> omega
    have hR : qRm (qrm (d + 1) (o.2.2.length - T.2.length) (q_sl o.2.2 - q_sl T.2)) T o.2.2.length (q_sl o.2.2) 0 0 := by
      unfold qRm qrm
      refine ⟨⟨?_, ?_⟩, ?_, ?_⟩ <;> simp only <;> omega
    refine qx_run_ok (out := o) X hR hd0 ih (zr_sem_ok F d) (q_gh F d) h2 h3 (fun x hx hi nx jp lv st T' h => ?_) N.2.2.2 F 0 _ _ _ h
    have hz := h2 x hx
    unfold qk_e at hz
    rw [Bool.and_eq_true] at hz
    exact qx_ret_step X hi (of_decide_eq_true hz.1) hz.2 h

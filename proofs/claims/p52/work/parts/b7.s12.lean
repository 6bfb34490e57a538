/-! SOUNDNESS 12: every method -/
theorem zk_tt_ok : ∀ (ts : List (List zE × Nat × Nat × Nat)) (ms : List (Option zM)), zk_tt ts ms = true → ∀ (i : Nat) T M, zx_nth ts i = some T → zx_nth ms i = some (some M) → zk_t M T = true := by
  intro ts
  induction ts with
  | nil => exact fun ms _ i T M h => nomatch h
  | cons t ts ih =>
    intro ms h i T M hi hm
    cases ms with
    | nil => exact nomatch hm
    | cons o ms =>
      cases o with
      | none =>
        have h : zk_tt ts ms = true := h
        cases i with
        | zero => exact nomatch (Option.some.inj hm)
        | succ i => exact ih ms h i T M hi hm
      | some M0 =>
        have h : (zk_t M0 t && zk_tt ts ms) = true := h
        rw [Bool.and_eq_true] at h
        cases i with
        | zero =>
          have hi : t = T := Option.some.inj hi
          have hm : M0 = M := Option.some.inj (Option.some.inj hm)
          subst hi hm
          exact h.1
        | succ i => exact ih ms h.2 i T M hi hm
def zk_t2 : List (List (List zE × Nat × Nat × Nat)) → List (List (Option zM)) → Bool
  | [], [] => true
  | a :: l, b :: m => zk_tt a b && zk_t2 l m
  | _, _ => false
theorem zk_t2_ok : ∀ (ts : List (List (List zE × Nat × Nat × Nat))) (ms : List (List (Option zM))), zk_t2 ts ms = true → ∀ (i : Nat) a, zx_nth ts i = some a → ∃ b, zx_nth ms i = some b ∧ zk_tt a b = true := by
  intro ts
  induction ts with
  | nil => exact fun ms _ i T h => nomatch h
  | cons t ts ih =>
    intro ms h i T hi
    cases ms with
    | nil => exact nomatch h
    | cons M ms =>
      unfold zk_t2 at h
      rw [Bool.and_eq_true] at h
      cases i with
      | zero =>
        have hi : t = T := Option.some.inj hi
        subst hi
        exact ⟨M, rfl, h.1⟩
      | succ i => exact ih ms h.2 i T hi
theorem zt_tb : zk_t2 zt_msb zt_mib = true := by
  show (zk_tt zt_ms0 zt_mi0 && (zk_tt zt_ms1 zt_mi1 && (zk_tt zt_ms2 zt_mi2 && (zk_tt zt_ms3 zt_mi3 && (zk_tt zt_ms4 zt_mi4 && (zk_tt zt_ms5 zt_mi5 && (zk_tt zt_ms6 zt_mi6 && (zk_tt zt_ms7 zt_mi7 && (zk_tt zt_ms8 zt_mi8 && true))))))))) = true
  rw [zt_t0, zt_t1, zt_t2, zt_t3, zt_t4, zt_t5, zt_t6, zt_t7, zt_t8]
  rfl
theorem zt_ms_ok {mi : Nat} {T : List zE × Nat × Nat × Nat} (h : zt_ms mi = some T) {M : zM} (hM : zt_mi mi = some M) : zk_t M T = true := by
  unfold zt_ms at h
  obtain ⟨a, ha, h⟩ := Option.bind_eq_some_iff.mp h
  obtain ⟨b, hb, hk⟩ := zk_t2_ok _ _ zt_tb _ _ ha
  obtain ⟨l, hl, h9⟩ := zt_mi_in hM
  have e : b = l := Option.some.inj (hb.symm.trans hl)
  subst e
  exact zk_tt_ok _ _ hk _ _ _ h h9
/-- SOUNDNESS: what the interpreter answers, the machine does -/
theorem zr_sem_ok {l : Launch} (F : Nat) : ∀ d, zGam l d (fun mi av S => zr_sem F d mi av S) := by
  intro d
  induction d with
  | zero => exact fun mi av S o h => nomatch h
  | succ d ih =>
    intro mi av S o h M hM
    have hmono := zr_sem_mono F (d + 1) mi av S o h
    have h : (zt_ms mi).bind (fun M => zx_run (fun mi av S => zr_sem F d mi av S) M.1 M.2.1 M.2.2.2 F 0 (zl_init av M.2.2.1) [] S) = some o := h
    obtain ⟨T, hT, h⟩ := Option.bind_eq_some_iff.mp h
    have hk := zt_ms_ok hT hM
    intro hlen
    unfold zk_t at hk
    rw [Bool.and_eq_true, Bool.and_eq_true] at hk
    obtain ⟨⟨h1, h2⟩, h3⟩ := hk
    have h1 : T.2.2.1 = M.2.2.1 := Nat.eq_of_beq_eq_true h1
    have h2 := List.all_eq_true.mp h2
    refine zCtr_of (zk_m_ok hM).2.1 hmono hlen ?_
    intro hno G p e s m args below meth c X
    rw [h1] at h
    have hd0 : d + 4 ≤ (zrm (d + 1) (o.2.2.2.2 - S.2.2.2)).frames ∧ 36 * d + 136 ≤ (zrm (d + 1) (o.2.2.2.2 - S.2.2.2)).locals := by
      unfold zrm
      constructor <;> simp only <;> omega
    have hR : zRm (zrm (d + 1) (o.2.2.2.2 - S.2.2.2)) S o.2.2.2.2 := by
      unfold zRm zrm
      refine ⟨?_, ?_, ?_, ?_⟩ <;> simp only <;> omega
    refine (zx_run_ok (out := o) (gm := o.2.2.2.2) X hR hd0 ih rfl hno h2 h3 (fun x hx hi nx jp lv st S h => ?_) T.2.2.2 F 0 _ _ _ h).2
    have hz := h2 x hx
    unfold zk_e at hz
    rw [Bool.and_eq_true] at hz
    exact zx_ret_step X rfl hi (of_decide_eq_true hz.1) hz.2 h

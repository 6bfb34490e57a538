/-! SOUNDNESS 9: one step -/
def zt_isret : Instr → Bool
  | .ireturn => true
  | .freturn => true
  | .dreturn => true
  | .areturn => true
  | .return_ => true
  | _ => false
/-- what is known of the methods that a body calls -/
def zGam (l : Launch) (d : Nat) (Γ : Nat → List zV → zS → Option zO) : Prop := ∀ (mi : Nat) (av : List zV) (S : zS) (o : zO), Γ mi av S = some o → ∀ M, zt_mi mi = some M → av.length ≤ M.2.2.1 → zCtr l d M av S o
theorem za_inx_ok {i n : Int32} {x : Option zO} {out : zO} (h : za_in i n x = some out) : ¬ i < 0 ∧ ¬ n ≤ i ∧ x = some out := by
  unfold za_in at h
  split at h
  · exact nomatch h
  · split at h
    · exact nomatch h
    · rename_i h1 h2
      exact ⟨h1, h2, h⟩
theorem zx_lookup_find {pc : Nat} : ∀ (ps : List (Int × Int)) (tb : List (Int × Nat)) (_ : tb.map (fun q => (q.1, (q.2 : Int))) = ps.map (fun q => (q.1, (pc : Int) + q.2))) (x : Int) {dflt : Int} (t : Nat), (zx_find tb x = some t → (pc : Int) + Op.lookupswitch.offset ps dflt x = t) ∧ (zx_find tb x = none → Op.lookupswitch.offset ps dflt x = dflt) := by
  intro ps
  induction ps with
  | nil =>
    intro tb h x dflt t
    cases tb with
    | nil => exact ⟨fun h => (nomatch h), fun _ => rfl⟩
    | cons q tb => exact nomatch h
  | cons q ps ih =>
    intro tb h x dflt t
    cases tb with
    | nil => exact nomatch h
    | cons w tb =>
      simp only [List.map_cons, List.cons.injEq, Prod.mk.injEq] at h
      obtain ⟨⟨h1, h2⟩, h3⟩ := h
      obtain ⟨q1, q2⟩ := q
      obtain ⟨w1, w2⟩ := w
      simp only at h1 h2
      subst h1
      rw [Op.lookupswitch.offset_cons]
      simp only [zx_find]
      split
      · refine ⟨fun h => ?_, fun h => (nomatch h)⟩
        have := Option.some.inj h
        omega
      · exact ih tb h3 x t
theorem zx_pop_ok : ∀ (n : Nat) (acc st a rest : List zV), zx_pop n acc st = some (a, rest) → ∃ as, st = as ++ rest ∧ as.length = n ∧ a = as.reverse ++ acc ∧ ∀ v, v ∈ as → zl_wide (some v) = false := by
  intro n
  induction n with
  | zero =>
    intro acc st a rest h
    have h := Option.some.inj h
    cases h
    exact ⟨[], rfl, rfl, rfl, fun v h => absurd h List.not_mem_nil⟩
  | succ n ih =>
    intro acc st a rest h
    cases st with
    | nil => exact nomatch h
    | cons v st =>
      unfold zx_pop at h
      split at h
      · exact nomatch h
      · rename_i hw
        obtain ⟨as, h1, h2, h3, h4⟩ := ih _ _ _ _ h
        refine ⟨v :: as, by rw [h1]; rfl, by rw [← h2]; rfl, by rw [h3, List.reverse_cons, List.append_assoc]; rfl, fun w hw2 => ?_⟩
        rcases List.mem_cons.mp hw2 with e | e
        · rw [e]; exact hw
        · exact h4 w e
theorem zx_ret_ok {t : Nat} {r : Option zO} {st : List zV} {nx : List zV → zS → Option zO} {hx : Nat → zS → Option zO} {out : zO} (h : zx_ret t r st nx hx = some out) : ∃ o, r = some o ∧ (∀ v, o.1 = .inl v → nx (v.toList ++ st) o.2 = some out) ∧ (∀ x, o.1 = .inr x → hx x o.2 = some out) := by
  unfold zx_ret at h
  split at h
  · unfold zx_ret0 at h
    split at h
    · exact ⟨_, rfl, fun v e => by cases e; exact h, fun x e => (nomatch e)⟩
    · exact ⟨_, rfl, fun v e => (nomatch e), fun x e => by cases e; exact h⟩
    · exact nomatch h
  · unfold zx_ret1 at h
    split at h
    · exact ⟨_, rfl, fun v e => by cases e; exact h, fun x e => (nomatch e)⟩
    · exact ⟨_, rfl, fun v e => (nomatch e), fun x e => by cases e; exact h⟩
    · exact nomatch h
  · unfold zx_ret3 at h
    split at h
    · exact ⟨_, rfl, fun v e => by cases e; exact h, fun x e => (nomatch e)⟩
    · exact ⟨_, rfl, fun v e => (nomatch e), fun x e => by cases e; exact h⟩
    · exact nomatch h
  · unfold zx_ret4 at h
    split at h
    · exact ⟨_, rfl, fun v e => by cases e; exact h, fun x e => (nomatch e)⟩
    · exact ⟨_, rfl, fun v e => (nomatch e), fun x e => by cases e; exact h⟩
    · exact nomatch h
  · unfold zx_ret5 at h
    split at h
    · exact ⟨_, rfl, fun v e => by cases e; exact h, fun x e => (nomatch e)⟩
    · exact ⟨_, rfl, fun v e => (nomatch e), fun x e => by cases e; exact h⟩
    · exact nomatch h
  · exact nomatch h
section ZN
variable {p : Program} {l : Launch} {e : Env} {R : Room} {s : State} {m : MethodId} {args : Array Value} {below : List Frame} {meth : Method} {c : Code} {Q : State → Prop} {G : zG} {S0 : zS} {own : String} {cc : ByteArray} {nL : Nat} {ret : Option FieldType} {hh : List (Nat × Nat × Nat × Nat)} {S : zS} {pc : Nat} {lv : zL} {st : List zV} {out : zO} {gm d : Nat} {Γ : Nat → List zV → zS → Option zO}
theorem zJ_virt (X : zX p l s m meth c G S0 own cc nL ret hh) (hR : zRm R S0 gm) (hd0 : d + 4 ≤ R.frames ∧ 36 * d + 136 ≤ R.locals) {ix len a b c9 p9 rt : Nat} {tb : List (Int × Nat)} (hd : decode cc pc = .ok (.invokevirtual ix, len)) (hΓ : zGam l d Γ) (hgm : gm = out.2.2.2.2) (hno : ∃ v, out.1 = .inl v) {nx : zL → List zV → zS → Option zO} {jp : Nat → zL → List zV → zS → Option zO}
    (hk : (decide (len = 3) && (match (generalizing := false) c9 with
    | 99 => false
    | 98 => true
    | _ => (match (generalizing := false) zt_mi a with
      | some M => decide (lw_tbl[p9]? = some (.methodLink own ix M.1) ∧ b = M.2.2.2.2.2.1 + 1) && decide (M.2.2.2.2.1 = []) && decide (lw_tbl[M.2.2.2.2.2.2.2.2.1]? = some (.instanceMethod M.1)) && (match (generalizing := false) c9 with
          | 12 => decide (M.1.cls = "java/lang/String")
          | _ => (match (generalizing := false) vwCl[c9]? with
            | some Cl => decide (Cl.1 = M.1.cls)
            | none => false)) && (match (generalizing := false) tb with
          | [] => true
          | _ :: _ => false)
      | none => false))) = true) (h : (match (generalizing := false) c9 with
    | 99 => zx_lib a st S (fun st S => nx lv st S)
    | 98 => none
    | _ => (zx_pop b [] st).bind (fun q => zx_if (Nat.ble (zx_wd q.2) 8) (match (generalizing := false) q.1 with
      | .inr (.inl (some r)) :: _ => zx_if (zx_rc r c9) (zx_ret rt (Γ a q.1 S) q.2 (fun st S => nx lv st S) (fun e S => match (generalizing := false) tb with
        | [] => some (.inr e, S)
        | _ :: _ => (zx_find tb (Int.ofNat e)).bind (fun t => (zx_find tb (-1)).bind (fun j => jp t (zl_set lv j none) [] S))))
      | _ => none))) = some out) (kn : ∀ lv st S, nx lv st S = some out → zJ2 p l e R s m args below meth c Q G S0 nL gm S (pc + len) lv st) (kj : ∀ t lv st S, jp t lv st S = some out → zJ2 p l e R s m args below meth c Q G S0 nL gm S t lv st) : zJ2 p l e R s m args below meth c Q G S0 nL gm S pc lv st := by
  rw [Bool.and_eq_true] at hk
  obtain ⟨hk1, hk2⟩ := hk
  have e1 : len = 3 := of_decide_eq_true hk1
  subst e1
  split at h
  · exact nomatch hk2
  · exact nomatch h
  · rename_i h99 h98
    obtain ⟨q, hq, h⟩ := Option.bind_eq_some_iff.mp h
    obtain ⟨hw, h⟩ := zx_if_ok h
    have hw : zx_wd q.2 ≤ 8 := Nat.le_of_ble_eq_true hw
    obtain ⟨as, hst, hlen, hq1, hnw⟩ := zx_pop_ok _ _ _ _ _ hq
    rw [List.append_nil] at hq1
    split at h
    · rename_i r as2 hr
      obtain ⟨hrc, h⟩ := zx_if_ok h
      obtain ⟨o, ho, hn, hx⟩ := zx_ret_ok h
      split at hk2
      · exact absurd rfl h99
      · exact absurd rfl h98
      · split at hk2
        · rename_i M hM
          have hC := hΓ _ _ _ _ ho M hM
          simp only [Bool.and_eq_true] at hk2
          obtain ⟨⟨⟨⟨hA, hB⟩, hsel⟩, hCC⟩, hD⟩ := hk2
          have hno2 : ∃ v, o.1 = .inl v := by
            cases ho1 : o.1 with
            | inl v => exact ⟨v, rfl⟩
            | inr x =>
              have hx := hx x ho1
              cases tb with
              | nil =>
                have hx := (Option.some.inj hx).symm
                rw [hx] at hno
                obtain ⟨v, hv⟩ := hno
                exact nomatch hv
              | cons t0 tb => exact nomatch hD
          obtain ⟨hlink, hbn⟩ := of_decide_eq_true hA
          have hnoh := of_decide_eq_true hB
          have hsel : lw_tbl[M.2.2.2.2.2.2.2.2.1]? = some (.instanceMethod M.1) := of_decide_eq_true hsel
          obtain ⟨hok, -, -, hv⟩ := zk_m_ok hM
          obtain ⟨hV, hle⟩ := hv hsel hnoh
          have has : as = as2.reverse ++ [.inr (.inl (some r))] := by
            have := congrArg List.reverse (hq1.symm.trans hr)
            rw [List.reverse_reverse, List.reverse_cons] at this
            exact this
          have hl2 : as2.length = M.2.2.2.2.2.1 := by
            have h9 := hlen
            rw [has, List.length_append, List.length_reverse, hbn] at h9
            exact Nat.add_right_cancel h9
          rw [hr] at hC
          have hst2 : st = as2.reverse ++ .inr (.inl (some r)) :: q.2 := by rw [hst, has, List.append_assoc]; rfl
          rw [hst2]
          refine zJ_callV X hR hd0 hd hlink hok hV (hC (by rw [List.length_cons, hl2]; exact hle)) ?_ hw (fun v hv => hnw v (by rw [has]; exact List.mem_append_left _ (List.mem_reverse.mpr hv))) hl2 hno2 (fun v hv => kn _ _ _ (hn v hv))
          · unfold zx_rc at hrc
            split at hrc
            · exact Or.inr ⟨Nat.eq_of_beq_eq_true hrc, of_decide_eq_true hCC⟩
            · rename_i h12
              split at hCC
              · exact absurd rfl h12
              · split at hCC
                · rename_i Cl hCl
                  exact Or.inl ⟨_, Cl, hrc, hCl, of_decide_eq_true hCC⟩
                · exact nomatch hCC
        · exact nomatch hk2
    · exact nomatch h
theorem zJ_stat (X : zX p l s m meth c G S0 own cc nL ret hh) (hR : zRm R S0 gm) (hd0 : d + 4 ≤ R.frames ∧ 36 * d + 136 ≤ R.locals) {ix len a b c9 p9 rt : Nat} (hd : decode cc pc = .ok (.invokestatic ix, len)) (hΓ : zGam l d Γ) (hgm : gm = out.2.2.2.2) (hno : ∃ v, out.1 = .inl v) {nx : zL → List zV → zS → Option zO}
    (hk : (decide (len = 3) && (match (generalizing := false) c9 with
    | 99 => (match (generalizing := false) a with
      | 0 => decide (lw_tbl[p9]? = some (.methodLink own ix Lib.Math.min.name))
      | 1 => decide (lw_tbl[p9]? = some (.methodLink own ix Lib.Math.max.name))
      | 2 => decide (lw_tbl[p9]? = some (.methodLink own ix Lib.Math.abs.name))
      | 3 => decide (lw_tbl[p9]? = some (.methodLink own ix arraycopyName))
      | 6 => decide (lw_tbl[p9]? = some (.methodLink own ix yJ0_checkIndex_df160))
      | _ => false)
    | 98 => true
    | _ => (match (generalizing := false) zt_mi a with
      | some M => decide (lw_tbl[p9]? = some (.methodLink own ix M.1) ∧ b = M.2.2.2.2.2.1) && decide (lw_tbl[M.2.2.2.2.2.2.2.2.1]? = some (.static M.1))
      | none => false))) = true) (h : (match (generalizing := false) c9 with
    | 99 => zx_lib a st S (fun st S => nx lv st S)
    | 98 => none
    | _ => (zx_pop b [] st).bind (fun q => zx_if (Nat.ble (zx_wd q.2) 8) (zx_ret rt (Γ a q.1 S) q.2 (fun st S => nx lv st S) (fun e S => some (.inr e, S))))) = some out) (kn : ∀ lv st S, nx lv st S = some out → zJ2 p l e R s m args below meth c Q G S0 nL gm S (pc + len) lv st) : zJ2 p l e R s m args below meth c Q G S0 nL gm S pc lv st := by
  rw [Bool.and_eq_true] at hk
  obtain ⟨hk1, hk2⟩ := hk
  have e1 : len = 3 := of_decide_eq_true hk1
  subst e1
  split at h
  · unfold zx_lib at h
    obtain ⟨hw, h⟩ := zx_if_ok h
    have hw := Nat.le_of_ble_eq_true hw
    split at h
    · exact zlib_min X hR hw hd (of_decide_eq_true hk2) (kn _ _ _ h)
    · exact zlib_max X hR hw hd (of_decide_eq_true hk2) (kn _ _ _ h)
    · exact zlib_abs X hR hw hd (of_decide_eq_true hk2) (kn _ _ _ h)
    · exact zlib_copy X hR hw hd (of_decide_eq_true hk2) h (fun S' h => kn _ _ _ h)
    · rename_i n i st2 _ _
      obtain ⟨h8, h⟩ := zx_if_ok h
      obtain ⟨h0, h1, h⟩ := za_inx_ok h
      exact zJ_callS (as := [zi i, zi n]) (rest := st2) (M := zM_chk) (n := 2) X hR hd0 hd (of_decide_eq_true hk2) zM_chk_ok.1 zM_chk_ok.2 (zCtr_chk d i n S h0 (Int32.not_le.mp h1)) (Nat.le_of_ble_eq_true h8) (fun v hv => by
        rcases List.mem_cons.mp hv with e | e
        · rw [e]; rfl
        · rw [List.mem_singleton.mp e]; rfl) rfl ⟨_, rfl⟩ (fun v hv => by cases hv; exact kn _ _ _ h)
    · exact nomatch h
  · exact nomatch h
  · rename_i h99 h98
    obtain ⟨q, hq, h⟩ := Option.bind_eq_some_iff.mp h
    obtain ⟨hw, h⟩ := zx_if_ok h
    have hw : zx_wd q.2 ≤ 8 := Nat.le_of_ble_eq_true hw
    obtain ⟨as, hst, hlen, hq1, hnw⟩ := zx_pop_ok _ _ _ _ _ hq
    rw [List.append_nil] at hq1
    obtain ⟨o, ho, hn, hx⟩ := zx_ret_ok h
    have hno2 : ∃ v, o.1 = .inl v := by
      cases ho1 : o.1 with
      | inl v => exact ⟨v, rfl⟩
      | inr x =>
        have hx := (Option.some.inj (hx x ho1)).symm
        rw [hx] at hno
        obtain ⟨v, hv⟩ := hno
        exact nomatch hv
    split at hk2
    · exact absurd rfl h99
    · exact absurd rfl h98
    · split at hk2
      · rename_i M hM
        have hC := hΓ _ _ _ _ ho M hM
        simp only [Bool.and_eq_true] at hk2
        obtain ⟨hA, hsel⟩ := hk2
        obtain ⟨hlink, hbn⟩ := of_decide_eq_true hA
        have hsel : lw_tbl[M.2.2.2.2.2.2.2.2.1]? = some (.static M.1) := of_decide_eq_true hsel
        obtain ⟨hok, -, hs, -⟩ := zk_m_ok hM
        obtain ⟨hV, hle⟩ := hs hsel
        have hl2 : q.1.length = M.2.2.2.2.2.1 := by rw [hq1, List.length_reverse, hlen, hbn]
        have hst2 : st = q.1.reverse ++ q.2 := by rw [hst, hq1, List.reverse_reverse]
        rw [hst2]
        exact zJ_callS X hR hd0 hd hlink hok hV (hC (by rw [hl2]; exact hle)) hw (fun v hv => hnw v (by rw [hq1] at hv; exact List.mem_reverse.mp hv)) hl2 hno2 (fun v hv => kn _ _ _ (hn v hv))
      · exact nomatch hk2
set_option maxHeartbeats 4000000 in
/-- one step is sound -/
theorem zx_step_ok (X : zX p l s m meth c G S0 own cc nL ret hh) (hR : zRm R S0 gm) (hd0 : d + 4 ≤ R.frames ∧ 36 * d + 136 ≤ R.locals) (hΓ : zGam l d Γ) (hgm : gm = out.2.2.2.2) (hno : ∃ v, out.1 = .inl v) {i : Instr} {len a b c9 p9 rt rk : Nat} {k : Int32} {tb : List (Int × Nat)} (hd : decode cc pc = .ok (i, len)) (hk : zk_i own cc nL ret hh rk pc i len a b c9 p9 rt k tb = true)
    {nx : zL → List zV → zS → Option zO} {jp : Nat → zL → List zV → zS → Option zO} (h : zx_step Γ rk nx jp i a b c9 rt k tb lv st S = some out) (kn : zt_falls i = true → ∀ lv st S, nx lv st S = some out → zJ2 p l e R s m args below meth c Q G S0 nL gm S (pc + len) lv st) (kj : ∀ t lv st S, jp t lv st S = some out → zJ2 p l e R s m args below meth c Q G S0 nL gm S t lv st)
    (hret : zt_isret i = true → zJ2 p l e R s m args below meth c Q G S0 nL gm S pc lv st) : zJ2 p l e R s m args below meth c Q G S0 nL gm S pc lv st := by
  cases i with
  | iload_n j =>
    have hk : (decide (len = 1)) = true := hk
    have h : (match (generalizing := false) zl_get lv j.val with
    | some (.inl x) => nx lv (zi x :: st) S
    | _ => none) = some out := h
    have e1 : len = 1 := of_decide_eq_true hk
    subst e1
    split at h
    · rename_i hl
      exact (fun q => ⟨q.1, zJ_iload_n X hd hl q.2⟩) (kn rfl _ _ _ h)
    · exact nomatch h
  | iload j =>
    have hk : (decide (len = 2)) = true := hk
    have h : (match (generalizing := false) zl_get lv j with
    | some (.inl x) => nx lv (zi x :: st) S
    | _ => none) = some out := h
    have e1 : len = 2 := of_decide_eq_true hk
    subst e1
    split at h
    · rename_i hl
      exact (fun q => ⟨q.1, zJ_iload X hd hl q.2⟩) (kn rfl _ _ _ h)
    · exact nomatch h
  | aload_n j =>
    have hk : (decide (len = 1)) = true := hk
    have h : (match (generalizing := false) zl_get lv j.val with
    | some (.inr (.inl (some r))) => nx lv (.inr (.inl (some r)) :: st) S
    | some (.inr (.inl none)) => nx lv (zn :: st) S
    | _ => none) = some out := h
    have e1 : len = 1 := of_decide_eq_true hk
    subst e1
    split at h
    · rename_i hl
      exact (fun q => ⟨q.1, zJ_aload_n X hd hl q.2⟩) (kn rfl _ _ _ h)
    · rename_i hl
      exact (fun q => ⟨q.1, zJ_aload_nN X hd hl q.2⟩) (kn rfl _ _ _ h)
    · exact nomatch h
  | aload j =>
    have hk : (decide (len = 2)) = true := hk
    have h : (match (generalizing := false) zl_get lv j with
    | some (.inr (.inl (some r))) => nx lv (.inr (.inl (some r)) :: st) S
    | _ => none) = some out := h
    have e1 : len = 2 := of_decide_eq_true hk
    subst e1
    split at h
    · rename_i hl
      exact (fun q => ⟨q.1, zJ_aload X hd hl q.2⟩) (kn rfl _ _ _ h)
    · exact nomatch h
  | fload_n j =>
    have hk : (decide (len = 1)) = true := hk
    have h : (match (generalizing := false) zl_get lv j.val with
    | some (.inr (.inr (.inl x))) => nx lv (zf x :: st) S
    | _ => none) = some out := h
    have e1 : len = 1 := of_decide_eq_true hk
    subst e1
    split at h
    · rename_i hl
      exact (fun q => ⟨q.1, zJ_fload_n X hd hl q.2⟩) (kn rfl _ _ _ h)
    · exact nomatch h
  | fload j =>
    have hk : (decide (len = 2)) = true := hk
    have h : (match (generalizing := false) zl_get lv j with
    | some (.inr (.inr (.inl x))) => nx lv (zf x :: st) S
    | _ => none) = some out := h
    have e1 : len = 2 := of_decide_eq_true hk
    subst e1
    split at h
    · rename_i hl
      exact (fun q => ⟨q.1, zJ_fload X hd hl q.2⟩) (kn rfl _ _ _ h)
    · exact nomatch h
  | dload j =>
    have hk : (decide (len = 2)) = true := hk
    have h : (match (generalizing := false) zl_get lv j with
    | some (.inr (.inr (.inr (.inr x)))) => nx lv (zd x :: st) S
    | _ => none) = some out := h
    have e1 : len = 2 := of_decide_eq_true hk
    subst e1
    split at h
    · rename_i hl
      exact (fun q => ⟨q.1, zJ_dload X hd hl q.2⟩) (kn rfl _ _ _ h)
    · exact nomatch h
  | istore_n j =>
    have hk : (decide (len = 1 ∧ j.val < nL)) = true := hk
    have h : (match (generalizing := false) st with
    | .inl x :: st => nx (zl_set lv j.val (some (zi x))) st S
    | _ => none) = some out := h
    obtain ⟨e1, hn⟩ : len = 1 ∧ j.val < nL := of_decide_eq_true hk
    subst e1
    split at h
    · exact (fun q => ⟨q.1, zJ_istore_n X hd hn q.2⟩) (kn rfl _ _ _ h)
    · exact nomatch h
  | istore j =>
    have hk : (decide (len = 2 ∧ j < nL)) = true := hk
    have h : (match (generalizing := false) st with
    | .inl x :: st => nx (zl_set lv j (some (zi x))) st S
    | _ => none) = some out := h
    obtain ⟨e1, hn⟩ : len = 2 ∧ j < nL := of_decide_eq_true hk
    subst e1
    split at h
    · exact (fun q => ⟨q.1, zJ_istore X hd hn q.2⟩) (kn rfl _ _ _ h)
    · exact nomatch h
  | astore_n j =>
    have hk : (decide (len = 1 ∧ j.val < nL)) = true := hk
    have h : (match (generalizing := false) st with
    | .inr (.inl (some r)) :: st => nx (zl_set lv j.val (some (.inr (.inl (some r))))) st S
    | .inr (.inl none) :: st => nx (zl_set lv j.val (some zn)) st S
    | _ => none) = some out := h
    obtain ⟨e1, hn⟩ : len = 1 ∧ j.val < nL := of_decide_eq_true hk
    subst e1
    split at h
    · exact (fun q => ⟨q.1, zJ_astore_n X hd hn q.2⟩) (kn rfl _ _ _ h)
    · exact (fun q => ⟨q.1, zJ_astore_nN X hd hn q.2⟩) (kn rfl _ _ _ h)
    · exact nomatch h
  | astore j =>
    have hk : (decide (len = 2 ∧ j < nL)) = true := hk
    have h : (match (generalizing := false) st with
    | .inr (.inl (some r)) :: st => nx (zl_set lv j (some (.inr (.inl (some r))))) st S
    | _ => none) = some out := h
    obtain ⟨e1, hn⟩ : len = 2 ∧ j < nL := of_decide_eq_true hk
    subst e1
    split at h
    · exact (fun q => ⟨q.1, zJ_astore X hd hn q.2⟩) (kn rfl _ _ _ h)
    · exact nomatch h
  | fstore_n j =>
    have hk : (decide (len = 1 ∧ j.val < nL)) = true := hk
    have h : (match (generalizing := false) st with
    | .inr (.inr (.inl x)) :: st => nx (zl_set lv j.val (some (zf x))) st S
    | _ => none) = some out := h
    obtain ⟨e1, hn⟩ : len = 1 ∧ j.val < nL := of_decide_eq_true hk
    subst e1
    split at h
    · exact (fun q => ⟨q.1, zJ_fstore_n X hd hn q.2⟩) (kn rfl _ _ _ h)
    · exact nomatch h
  | fstore j =>
    have hk : (decide (len = 2 ∧ j < nL)) = true := hk
    have h : (match (generalizing := false) st with
    | .inr (.inr (.inl x)) :: st => nx (zl_set lv j (some (zf x))) st S
    | _ => none) = some out := h
    obtain ⟨e1, hn⟩ : len = 2 ∧ j < nL := of_decide_eq_true hk
    subst e1
    split at h
    · exact (fun q => ⟨q.1, zJ_fstore X hd hn q.2⟩) (kn rfl _ _ _ h)
    · exact nomatch h
  | dstore j =>
    have hk : (decide (len = 2 ∧ j + 1 < nL)) = true := hk
    have h : (match (generalizing := false) st with
    | .inr (.inr (.inr (.inr x))) :: st => nx (zl_clr (zl_set lv j (some (zd x))) (j + 1)) st S
    | _ => none) = some out := h
    obtain ⟨e1, hn⟩ : len = 2 ∧ j + 1 < nL := of_decide_eq_true hk
    subst e1
    split at h
    · exact (fun q => ⟨q.1, zJ_dstore X hd hn q.2⟩) (kn rfl _ _ _ h)
    · exact nomatch h
  | iinc j n =>
    have hk : (decide (len = 3 ∧ j < nL ∧ Int32.ofInt n = k)) = true := hk
    have h : (match (generalizing := false) zl_get lv j with
    | some (.inl x) => nx (zl_set lv j (some (zi (x + k)))) st S
    | _ => none) = some out := h
    obtain ⟨e1, hn, hk9⟩ : len = 3 ∧ j < nL ∧ Int32.ofInt n = k := of_decide_eq_true hk
    subst e1
    split at h
    · rename_i hl
      exact (fun q => ⟨q.1, zJ_iinc X hd hn hk9 hl q.2⟩) (kn rfl _ _ _ h)
    · exact nomatch h
  | iconst n =>
    have hk : (decide (len = 1 ∧ Int32.ofInt n = k)) = true := hk
    have h : (nx lv (zi k :: st) S) = some out := h
    obtain ⟨e1, hk9⟩ : len = 1 ∧ Int32.ofInt n = k := of_decide_eq_true hk
    subst e1
    exact (fun q => ⟨q.1, zJ_iconst X hd hk9 q.2⟩) (kn rfl _ _ _ h)
  | bipush n =>
    have hk : (decide (len = 2 ∧ (Int8.ofInt n).toInt32 = k)) = true := hk
    have h : (nx lv (zi k :: st) S) = some out := h
    obtain ⟨e1, hk9⟩ : len = 2 ∧ (Int8.ofInt n).toInt32 = k := of_decide_eq_true hk
    subst e1
    exact (fun q => ⟨q.1, zJ_bipush X hd hk9 q.2⟩) (kn rfl _ _ _ h)
  | sipush n =>
    have hk : (decide (len = 3 ∧ (Int16.ofInt n).toInt32 = k)) = true := hk
    have h : (nx lv (zi k :: st) S) = some out := h
    obtain ⟨e1, hk9⟩ : len = 3 ∧ (Int16.ofInt n).toInt32 = k := of_decide_eq_true hk
    subst e1
    exact (fun q => ⟨q.1, zJ_sipush X hd hk9 q.2⟩) (kn rfl _ _ _ h)
  | ldc ix =>
    have hk : (decide (len = 2) && (match (generalizing := false) a with
    | 0 => decide (lw_tbl[p9]? = some (.constant own ix k))
    | _ => decide (zt_srs[p9]? = some (own, ix, b) ∧ b < zt_strs.length ∧ b ∈ zt_av))) = true := hk
    have h : (match (generalizing := false) a with
    | 0 => nx lv (zi k :: st) S
    | _ => nx lv (za 6 b 0 :: st) S) = some out := h
    rw [Bool.and_eq_true] at hk
    obtain ⟨hk1, hk2⟩ := hk
    have e1 : len = 2 := of_decide_eq_true hk1
    subst e1
    cases a with
    | zero =>
      have hk2 : lw_tbl[p9]? = some (.constant own ix k) := of_decide_eq_true hk2
      exact (fun q => ⟨q.1, zJ_ldc X hd hk2 q.2⟩) (kn rfl _ _ _ h)
    | succ a =>
      obtain ⟨h1, h2, h3⟩ : zt_srs[p9]? = some (own, ix, b) ∧ b < zt_strs.length ∧ b ∈ zt_av := of_decide_eq_true hk2
      exact (fun q => ⟨q.1, zJ_ldcS X hd h1 (List.getElem?_eq_getElem h2) h3 q.2⟩) (kn rfl _ _ _ h)
  | ldc_w ix =>
    have hk : (decide (len = 3) && (match (generalizing := false) a with
    | 0 => decide (lw_tbl[p9]? = some (.constant own ix k))
    | _ => decide (zt_srs[p9]? = some (own, ix, b) ∧ b < zt_strs.length ∧ b ∈ zt_av))) = true := hk
    have h : (match (generalizing := false) a with
    | 0 => nx lv (zi k :: st) S
    | _ => nx lv (za 6 b 0 :: st) S) = some out := h
    rw [Bool.and_eq_true] at hk
    obtain ⟨hk1, hk2⟩ := hk
    have e1 : len = 3 := of_decide_eq_true hk1
    subst e1
    cases a with
    | zero =>
      have hk2 : lw_tbl[p9]? = some (.constant own ix k) := of_decide_eq_true hk2
      exact (fun q => ⟨q.1, zJ_ldc_w X hd hk2 q.2⟩) (kn rfl _ _ _ h)
    | succ a =>
      obtain ⟨h1, h2, h3⟩ : zt_srs[p9]? = some (own, ix, b) ∧ b < zt_strs.length ∧ b ∈ zt_av := of_decide_eq_true hk2
      exact (fun q => ⟨q.1, zJ_ldc_wS X hd h1 (List.getElem?_eq_getElem h2) h3 q.2⟩) (kn rfl _ _ _ h)
  | aconst_null =>
    have hk : (decide (len = 1)) = true := hk
    have h : (nx lv (zn :: st) S) = some out := h
    have e1 : len = 1 := of_decide_eq_true hk
    subst e1
    exact (fun q => ⟨q.1, zJ_aconst_null X hd q.2⟩) (kn rfl _ _ _ h)
  | fconst j =>
    have hk : (decide (len = 1)) = true := hk
    have h : (match (generalizing := false) j.val with
    | 0 => nx lv (zf FP.fconst0 :: st) S
    | _ => none) = some out := h
    have e1 : len = 1 := of_decide_eq_true hk
    subst e1
    obtain ⟨v, hv⟩ := j
    cases v with
    | zero => exact (fun q => ⟨q.1, zJ_fconst0 X hd q.2⟩) (kn rfl _ _ _ h)
    | succ v => exact nomatch h
  | dconst j =>
    have hk : (decide (len = 1)) = true := hk
    have h : (match (generalizing := false) j.val with
    | 0 => nx lv (zd FP.dconst0 :: st) S
    | _ => none) = some out := h
    have e1 : len = 1 := of_decide_eq_true hk
    subst e1
    obtain ⟨v, hv⟩ := j
    cases v with
    | zero => exact (fun q => ⟨q.1, zJ_dconst0 X hd q.2⟩) (kn rfl _ _ _ h)
    | succ v => exact nomatch h
  | dup =>
    have hk : (decide (len = 1)) = true := hk
    have h : (match (generalizing := false) st with
    | .inl x :: st => nx lv (zi x :: zi x :: st) S
    | .inr (.inl (some r)) :: st => nx lv (.inr (.inl (some r)) :: .inr (.inl (some r)) :: st) S
    | _ => none) = some out := h
    have e1 : len = 1 := of_decide_eq_true hk
    subst e1
    split at h
    · exact (fun q => ⟨q.1, zJ_dup X hd rfl q.2⟩) (kn rfl _ _ _ h)
    · exact (fun q => ⟨q.1, zJ_dup X hd rfl q.2⟩) (kn rfl _ _ _ h)
    · exact nomatch h
  | dup2 =>
    have hk : (decide (len = 1)) = true := hk
    have h : (match (generalizing := false) st with
    | .inl x :: .inr (.inl (some r)) :: st => nx lv (zi x :: .inr (.inl (some r)) :: zi x :: .inr (.inl (some r)) :: st) S
    | _ => none) = some out := h
    have e1 : len = 1 := of_decide_eq_true hk
    subst e1
    split at h
    · exact (fun q => ⟨q.1, zJ_dup2 X hd rfl rfl q.2⟩) (kn rfl _ _ _ h)
    · exact nomatch h
  | iadd =>
    have hk : (decide (len = 1)) = true := hk
    have h : (match (generalizing := false) st with
    | .inl y :: .inl x :: st => nx lv (zi (x + y) :: st) S
    | _ => none) = some out := h
    have e1 : len = 1 := of_decide_eq_true hk
    subst e1
    split at h
    · exact (fun q => ⟨q.1, zJ_iadd X hd q.2⟩) (kn rfl _ _ _ h)
    · exact nomatch h
  | isub =>
    have hk : (decide (len = 1)) = true := hk
    have h : (match (generalizing := false) st with
    | .inl y :: .inl x :: st => nx lv (zi (x - y) :: st) S
    | _ => none) = some out := h
    have e1 : len = 1 := of_decide_eq_true hk
    subst e1
    split at h
    · exact (fun q => ⟨q.1, zJ_isub X hd q.2⟩) (kn rfl _ _ _ h)
    · exact nomatch h
  | imul =>
    have hk : (decide (len = 1)) = true := hk
    have h : (match (generalizing := false) st with
    | .inl y :: .inl x :: st => nx lv (zi (x * y) :: st) S
    | _ => none) = some out := h
    have e1 : len = 1 := of_decide_eq_true hk
    subst e1
    split at h
    · exact (fun q => ⟨q.1, zJ_imul X hd q.2⟩) (kn rfl _ _ _ h)
    · exact nomatch h
  | idiv =>
    have hk : (decide (len = 1)) = true := hk
    have h : (match (generalizing := false) st with
    | .inl y :: .inl x :: st => if y = 0 then none else nx lv (zi (x / y) :: st) S
    | _ => none) = some out := h
    have e1 : len = 1 := of_decide_eq_true hk
    subst e1
    split at h
    · split at h
      · exact nomatch h
      · rename_i hne
        exact (fun q => ⟨q.1, zJ_idiv X hd hne q.2⟩) (kn rfl _ _ _ h)
    · exact nomatch h
  | irem =>
    have hk : (decide (len = 1)) = true := hk
    have h : (match (generalizing := false) st with
    | .inl y :: .inl x :: st => if y = 0 then none else nx lv (zi (x - x / y * y) :: st) S
    | _ => none) = some out := h
    have e1 : len = 1 := of_decide_eq_true hk
    subst e1
    split at h
    · split at h
      · exact nomatch h
      · rename_i hne
        exact (fun q => ⟨q.1, zJ_irem X hd hne q.2⟩) (kn rfl _ _ _ h)
    · exact nomatch h
  | ineg =>
    have hk : (decide (len = 1)) = true := hk
    have h : (match (generalizing := false) st with
    | .inl x :: st => nx lv (zi (-x) :: st) S
    | _ => none) = some out := h
    have e1 : len = 1 := of_decide_eq_true hk
    subst e1
    split at h
    · exact (fun q => ⟨q.1, zJ_ineg X hd q.2⟩) (kn rfl _ _ _ h)
    · exact nomatch h
  | iand =>
    have hk : (decide (len = 1)) = true := hk
    have h : (match (generalizing := false) st with
    | .inl y :: .inl x :: st => nx lv (zi (x &&& y) :: st) S
    | _ => none) = some out := h
    have e1 : len = 1 := of_decide_eq_true hk
    subst e1
    split at h
    · exact (fun q => ⟨q.1, zJ_iand X hd q.2⟩) (kn rfl _ _ _ h)
    · exact nomatch h
  | ior =>
    have hk : (decide (len = 1)) = true := hk
    have h : (match (generalizing := false) st with
    | .inl y :: .inl x :: st => nx lv (zi (x ||| y) :: st) S
    | _ => none) = some out := h
    have e1 : len = 1 := of_decide_eq_true hk
    subst e1
    split at h
    · exact (fun q => ⟨q.1, zJ_ior X hd q.2⟩) (kn rfl _ _ _ h)
    · exact nomatch h
  | ixor =>
    have hk : (decide (len = 1)) = true := hk
    have h : (match (generalizing := false) st with
    | .inl y :: .inl x :: st => nx lv (zi (x ^^^ y) :: st) S
    | _ => none) = some out := h
    have e1 : len = 1 := of_decide_eq_true hk
    subst e1
    split at h
    · exact (fun q => ⟨q.1, zJ_ixor X hd q.2⟩) (kn rfl _ _ _ h)
    · exact nomatch h
  | ishl =>
    have hk : (decide (len = 1)) = true := hk
    have h : (match (generalizing := false) st with
    | .inl y :: .inl x :: st => nx lv (zi (x <<< (y &&& 31)) :: st) S
    | _ => none) = some out := h
    have e1 : len = 1 := of_decide_eq_true hk
    subst e1
    split at h
    · exact (fun q => ⟨q.1, zJ_ishl X hd q.2⟩) (kn rfl _ _ _ h)
    · exact nomatch h
  | ishr =>
    have hk : (decide (len = 1)) = true := hk
    have h : (match (generalizing := false) st with
    | .inl y :: .inl x :: st => nx lv (zi (x >>> (y &&& 31)) :: st) S
    | _ => none) = some out := h
    have e1 : len = 1 := of_decide_eq_true hk
    subst e1
    split at h
    · exact (fun q => ⟨q.1, zJ_ishr X hd q.2⟩) (kn rfl _ _ _ h)
    · exact nomatch h
  | iushr =>
    have hk : (decide (len = 1)) = true := hk
    have h : (match (generalizing := false) st with
    | .inl y :: .inl x :: st => nx lv (zi (x.toUInt32 >>> (y.toUInt32 &&& Int32.toUInt32 31)).toInt32 :: st) S
    | _ => none) = some out := h
    have e1 : len = 1 := of_decide_eq_true hk
    subst e1
    split at h
    · exact (fun q => ⟨q.1, zJ_iushr X hd q.2⟩) (kn rfl _ _ _ h)
    · exact nomatch h
  | i2l =>
    have hk : (decide (len = 1)) = true := hk
    have h : (match (generalizing := false) st with
    | .inl x :: st => nx lv (zl x.toInt64 :: st) S
    | _ => none) = some out := h
    have e1 : len = 1 := of_decide_eq_true hk
    subst e1
    split at h
    · exact (fun q => ⟨q.1, zJ_i2l X hd q.2⟩) (kn rfl _ _ _ h)
    · exact nomatch h
  | i2f =>
    have hk : (decide (len = 1)) = true := hk
    have h : (match (generalizing := false) st with
    | .inl x :: st => nx lv (zf (FP.i2f x) :: st) S
    | _ => none) = some out := h
    have e1 : len = 1 := of_decide_eq_true hk
    subst e1
    split at h
    · exact (fun q => ⟨q.1, zJ_i2f X hd q.2⟩) (kn rfl _ _ _ h)
    · exact nomatch h
  | i2d =>
    have hk : (decide (len = 1)) = true := hk
    have h : (match (generalizing := false) st with
    | .inl x :: st => nx lv (zd (FP.i2d x) :: st) S
    | _ => none) = some out := h
    have e1 : len = 1 := of_decide_eq_true hk
    subst e1
    split at h
    · exact (fun q => ⟨q.1, zJ_i2d X hd q.2⟩) (kn rfl _ _ _ h)
    · exact nomatch h
  | f2i =>
    have hk : (decide (len = 1)) = true := hk
    have h : (match (generalizing := false) st with
    | .inr (.inr (.inl x)) :: st => nx lv (zi (FP.f2i x) :: st) S
    | _ => none) = some out := h
    have e1 : len = 1 := of_decide_eq_true hk
    subst e1
    split at h
    · exact (fun q => ⟨q.1, zJ_f2i X hd q.2⟩) (kn rfl _ _ _ h)
    · exact nomatch h
  | f2d =>
    have hk : (decide (len = 1)) = true := hk
    have h : (match (generalizing := false) st with
    | .inr (.inr (.inl x)) :: st => if FP.fIsNaN x = true then none else nx lv (zd (FP.f2d x) :: st) S
    | _ => none) = some out := h
    have e1 : len = 1 := of_decide_eq_true hk
    subst e1
    split at h
    · split at h
      · exact nomatch h
      · rename_i hne
        exact (fun q => ⟨q.1, zJ_f2d X hd hne q.2⟩) (kn rfl _ _ _ h)
    · exact nomatch h
  | fadd =>
    have hk : (decide (len = 1)) = true := hk
    have h : (match (generalizing := false) st with
    | .inr (.inr (.inl y)) :: .inr (.inr (.inl x)) :: st => if FP.fIsNaN (FP.fadd x y) = true then none else nx lv (zf (FP.fadd x y) :: st) S
    | _ => none) = some out := h
    have e1 : len = 1 := of_decide_eq_true hk
    subst e1
    split at h
    · split at h
      · exact nomatch h
      · rename_i hne
        exact (fun q => ⟨q.1, zJ_fadd X hd hne q.2⟩) (kn rfl _ _ _ h)
    · exact nomatch h
  | fsub =>
    have hk : (decide (len = 1)) = true := hk
    have h : (match (generalizing := false) st with
    | .inr (.inr (.inl y)) :: .inr (.inr (.inl x)) :: st => if FP.fIsNaN (FP.fsub x y) = true then none else nx lv (zf (FP.fsub x y) :: st) S
    | _ => none) = some out := h
    have e1 : len = 1 := of_decide_eq_true hk
    subst e1
    split at h
    · split at h
      · exact nomatch h
      · rename_i hne
        exact (fun q => ⟨q.1, zJ_fsub X hd hne q.2⟩) (kn rfl _ _ _ h)
    · exact nomatch h
  | fmul =>
    have hk : (decide (len = 1)) = true := hk
    have h : (match (generalizing := false) st with
    | .inr (.inr (.inl y)) :: .inr (.inr (.inl x)) :: st => if FP.fIsNaN (FP.fmul x y) = true then none else nx lv (zf (FP.fmul x y) :: st) S
    | _ => none) = some out := h
    have e1 : len = 1 := of_decide_eq_true hk
    subst e1
    split at h
    · split at h
      · exact nomatch h
      · rename_i hne
        exact (fun q => ⟨q.1, zJ_fmul X hd hne q.2⟩) (kn rfl _ _ _ h)
    · exact nomatch h
  | fdiv =>
    have hk : (decide (len = 1)) = true := hk
    have h : (match (generalizing := false) st with
    | .inr (.inr (.inl y)) :: .inr (.inr (.inl x)) :: st => if FP.fIsNaN (FP.fdiv x y) = true then none else nx lv (zf (FP.fdiv x y) :: st) S
    | _ => none) = some out := h
    have e1 : len = 1 := of_decide_eq_true hk
    subst e1
    split at h
    · split at h
      · exact nomatch h
      · rename_i hne
        exact (fun q => ⟨q.1, zJ_fdiv X hd hne q.2⟩) (kn rfl _ _ _ h)
    · exact nomatch h
  | ddiv =>
    have hk : (decide (len = 1)) = true := hk
    have h : (match (generalizing := false) st with
    | .inr (.inr (.inr (.inr y))) :: .inr (.inr (.inr (.inr x))) :: st => if FP.dIsNaN (FP.ddiv x y) = true then none else nx lv (zd (FP.ddiv x y) :: st) S
    | _ => none) = some out := h
    have e1 : len = 1 := of_decide_eq_true hk
    subst e1
    split at h
    · split at h
      · exact nomatch h
      · rename_i hne
        exact (fun q => ⟨q.1, zJ_ddiv X hd hne q.2⟩) (kn rfl _ _ _ h)
    · exact nomatch h
  | fneg =>
    have hk : (decide (len = 1)) = true := hk
    have h : (match (generalizing := false) st with
    | .inr (.inr (.inl x)) :: st => nx lv (zf (FP.fneg x) :: st) S
    | _ => none) = some out := h
    have e1 : len = 1 := of_decide_eq_true hk
    subst e1
    split at h
    · exact (fun q => ⟨q.1, zJ_fneg X hd q.2⟩) (kn rfl _ _ _ h)
    · exact nomatch h
  | fcmp op =>
    have hk : (decide (len = 1)) = true := hk
    have h : (match (generalizing := false) st with
    | .inr (.inr (.inl y)) :: .inr (.inr (.inl x)) :: st => nx lv (zi (Op.cmpValue (FP.fcmp x y) op) :: st) S
    | _ => none) = some out := h
    have e1 : len = 1 := of_decide_eq_true hk
    subst e1
    split at h
    · exact (fun q => ⟨q.1, zJ_fcmp X hd q.2⟩) (kn rfl _ _ _ h)
    · exact nomatch h
  | dcmp op =>
    have hk : (decide (len = 1)) = true := hk
    have h : (match (generalizing := false) st with
    | .inr (.inr (.inr (.inr y))) :: .inr (.inr (.inr (.inr x))) :: st => nx lv (zi (Op.cmpValue (FP.dcmp x y) op) :: st) S
    | _ => none) = some out := h
    have e1 : len = 1 := of_decide_eq_true hk
    subst e1
    split at h
    · exact (fun q => ⟨q.1, zJ_dcmp X hd q.2⟩) (kn rfl _ _ _ h)
    · exact nomatch h
  | lcmp =>
    have hk : (decide (len = 1)) = true := hk
    have h : (match (generalizing := false) st with
    | .inr (.inr (.inr (.inl y))) :: .inr (.inr (.inr (.inl x))) :: st => nx lv (zi (lg_cmp x y) :: st) S
    | _ => none) = some out := h
    have e1 : len = 1 := of_decide_eq_true hk
    subst e1
    split at h
    · exact (fun q => ⟨q.1, zJ_lcmp X hd q.2⟩) (kn rfl _ _ _ h)
    · exact nomatch h
  | ifCond cc0 off =>
    have hk : (decide (len = 3 ∧ (pc : Int) + off = (a : Int))) = true := hk
    have h : (match (generalizing := false) st with
    | .inl x :: st => zx_cond cc0 x 0 (jp a lv st S) (nx lv st S)
    | _ => none) = some out := h
    obtain ⟨e1, ht⟩ : len = 3 ∧ (pc : Int) + off = (a : Int) := of_decide_eq_true hk
    subst e1
    split at h
    · cases cc0 with
      | eq =>
        have h := h
        simp only [zx_cond] at h
        split at h
        · rename_i hx
          exact (fun q => ⟨q.1, zJ_if_eq X hd ht (fun _ => q.2) (fun z => absurd hx z)⟩) (kj _ _ _ _ h)
        · rename_i hx
          exact (fun q => ⟨q.1, zJ_if_eq X hd ht (fun z => absurd z hx) (fun _ => q.2)⟩) (kn rfl _ _ _ h)
      | ne =>
        have h := h
        simp only [zx_cond] at h
        split at h
        · rename_i hx
          exact (fun q => ⟨q.1, zJ_if_ne X hd ht (fun z => absurd hx z) (fun _ => q.2)⟩) (kn rfl _ _ _ h)
        · rename_i hx
          exact (fun q => ⟨q.1, zJ_if_ne X hd ht (fun _ => q.2) (fun z => absurd z hx)⟩) (kj _ _ _ _ h)
      | lt =>
        have h := h
        simp only [zx_cond] at h
        split at h
        · rename_i hx
          exact (fun q => ⟨q.1, zJ_if_lt X hd ht (fun _ => q.2) (fun z => absurd hx z)⟩) (kj _ _ _ _ h)
        · rename_i hx
          exact (fun q => ⟨q.1, zJ_if_lt X hd ht (fun z => absurd z hx) (fun _ => q.2)⟩) (kn rfl _ _ _ h)
      | ge =>
        have h := h
        simp only [zx_cond] at h
        split at h
        · rename_i hx
          exact (fun q => ⟨q.1, zJ_if_ge X hd ht (fun _ => q.2) (fun z => absurd hx z)⟩) (kj _ _ _ _ h)
        · rename_i hx
          exact (fun q => ⟨q.1, zJ_if_ge X hd ht (fun z => absurd z hx) (fun _ => q.2)⟩) (kn rfl _ _ _ h)
      | gt =>
        have h := h
        simp only [zx_cond] at h
        split at h
        · rename_i hx
          exact (fun q => ⟨q.1, zJ_if_gt X hd ht (fun _ => q.2) (fun z => absurd hx z)⟩) (kj _ _ _ _ h)
        · rename_i hx
          exact (fun q => ⟨q.1, zJ_if_gt X hd ht (fun z => absurd z hx) (fun _ => q.2)⟩) (kn rfl _ _ _ h)
      | le =>
        have h := h
        simp only [zx_cond] at h
        split at h
        · rename_i hx
          exact (fun q => ⟨q.1, zJ_if_le X hd ht (fun _ => q.2) (fun z => absurd hx z)⟩) (kj _ _ _ _ h)
        · rename_i hx
          exact (fun q => ⟨q.1, zJ_if_le X hd ht (fun z => absurd z hx) (fun _ => q.2)⟩) (kn rfl _ _ _ h)
    · exact nomatch h
  | if_icmp cc0 off =>
    have hk : (decide (len = 3 ∧ (pc : Int) + off = (a : Int))) = true := hk
    have h : (match (generalizing := false) st with
    | .inl y :: .inl x :: st => zx_cond cc0 x y (jp a lv st S) (nx lv st S)
    | _ => none) = some out := h
    obtain ⟨e1, ht⟩ : len = 3 ∧ (pc : Int) + off = (a : Int) := of_decide_eq_true hk
    subst e1
    split at h
    · cases cc0 with
      | eq =>
        have h := h
        simp only [zx_cond] at h
        split at h
        · rename_i hx
          exact (fun q => ⟨q.1, zJ_icmp_eq X hd ht (fun _ => q.2) (fun z => absurd hx z)⟩) (kj _ _ _ _ h)
        · rename_i hx
          exact (fun q => ⟨q.1, zJ_icmp_eq X hd ht (fun z => absurd z hx) (fun _ => q.2)⟩) (kn rfl _ _ _ h)
      | ne =>
        have h := h
        simp only [zx_cond] at h
        split at h
        · rename_i hx
          exact (fun q => ⟨q.1, zJ_icmp_ne X hd ht (fun z => absurd hx z) (fun _ => q.2)⟩) (kn rfl _ _ _ h)
        · rename_i hx
          exact (fun q => ⟨q.1, zJ_icmp_ne X hd ht (fun _ => q.2) (fun z => absurd z hx)⟩) (kj _ _ _ _ h)
      | lt =>
        have h := h
        simp only [zx_cond] at h
        split at h
        · rename_i hx
          exact (fun q => ⟨q.1, zJ_icmp_lt X hd ht (fun _ => q.2) (fun z => absurd hx z)⟩) (kj _ _ _ _ h)
        · rename_i hx
          exact (fun q => ⟨q.1, zJ_icmp_lt X hd ht (fun z => absurd z hx) (fun _ => q.2)⟩) (kn rfl _ _ _ h)
      | ge =>
        have h := h
        simp only [zx_cond] at h
        split at h
        · rename_i hx
          exact (fun q => ⟨q.1, zJ_icmp_ge X hd ht (fun _ => q.2) (fun z => absurd hx z)⟩) (kj _ _ _ _ h)
        · rename_i hx
          exact (fun q => ⟨q.1, zJ_icmp_ge X hd ht (fun z => absurd z hx) (fun _ => q.2)⟩) (kn rfl _ _ _ h)
      | gt =>
        have h := h
        simp only [zx_cond] at h
        split at h
        · rename_i hx
          exact (fun q => ⟨q.1, zJ_icmp_gt X hd ht (fun _ => q.2) (fun z => absurd hx z)⟩) (kj _ _ _ _ h)
        · rename_i hx
          exact (fun q => ⟨q.1, zJ_icmp_gt X hd ht (fun z => absurd z hx) (fun _ => q.2)⟩) (kn rfl _ _ _ h)
      | le =>
        have h := h
        simp only [zx_cond] at h
        split at h
        · rename_i hx
          exact (fun q => ⟨q.1, zJ_icmp_le X hd ht (fun _ => q.2) (fun z => absurd hx z)⟩) (kj _ _ _ _ h)
        · rename_i hx
          exact (fun q => ⟨q.1, zJ_icmp_le X hd ht (fun z => absurd z hx) (fun _ => q.2)⟩) (kn rfl _ _ _ h)
    · exact nomatch h
  | ifnonnull off =>
    have hk : (decide (len = 3 ∧ (pc : Int) + off = (a : Int))) = true := hk
    have h : (match (generalizing := false) st with
    | .inr (.inl (some _)) :: st => jp a lv st S
    | .inr (.inl none) :: st => nx lv st S
    | _ => none) = some out := h
    obtain ⟨e1, ht⟩ : len = 3 ∧ (pc : Int) + off = (a : Int) := of_decide_eq_true hk
    subst e1
    split at h
    · exact (fun q => ⟨q.1, zJ_ifnonnull X hd ht q.2⟩) (kj _ _ _ _ h)
    · exact (fun q => ⟨q.1, zJ_ifnonnullN X hd q.2⟩) (kn rfl _ _ _ h)
    · exact nomatch h
  | goto off =>
    have hk : (decide (len = 3 ∧ (pc : Int) + off = (a : Int))) = true := hk
    have h : (jp a lv st S) = some out := h
    obtain ⟨e1, ht⟩ : len = 3 ∧ (pc : Int) + off = (a : Int) := of_decide_eq_true hk
    subst e1
    exact (fun q => ⟨q.1, zJ_goto X hd ht q.2⟩) (kj _ _ _ _ h)
  | tableswitch dflt lo hi offs =>
    have hk : (decide ((pc : Int) + dflt = (a : Int) ∧ tb.map (fun q => (q.1, (q.2 : Int))) = zt_rows pc lo offs.toList ∧ lo + offs.toList.length = hi + 1)) = true := hk
    have h : (match (generalizing := false) st with
    | .inl x :: st => zx_sw x (fun t => jp t lv st S) tb a
    | _ => none) = some out := h
    obtain ⟨ha, ht, hn⟩ : (pc : Int) + dflt = (a : Int) ∧ tb.map (fun q => (q.1, (q.2 : Int))) = zt_rows pc lo offs.toList ∧ lo + offs.toList.length = hi + 1 := of_decide_eq_true hk
    split at h
    · exact zJ_table X hd ha ht hn h (fun t h => kj _ _ _ _ h)
    · exact nomatch h
  | lookupswitch dflt ps =>
    have hk : (decide ((pc : Int) + dflt = (a : Int) ∧ tb.map (fun q => (q.1, (q.2 : Int))) = ps.toList.map (fun q => (q.1, (pc : Int) + q.2))) && (ps.toList.zip (ps.toList.drop 1)).all (fun (a, next) => a.1 < next.1)) = true := hk
    have h : (match (generalizing := false) st with
    | .inl x :: st => zx_sw x (fun t => jp t lv st S) tb a
    | _ => none) = some out := h
    rw [Bool.and_eq_true] at hk
    obtain ⟨hk1, hp⟩ := hk
    obtain ⟨ha, ht⟩ : (pc : Int) + dflt = (a : Int) ∧ tb.map (fun q => (q.1, (q.2 : Int))) = ps.toList.map (fun q => (q.1, (pc : Int) + q.2)) := of_decide_eq_true hk1
    split at h
    · exact zJ_lookup2 X hd hp ha (fun t => zx_lookup_find ps.toList tb ht _ t) h (fun t h => kj _ _ _ _ h)
    · exact nomatch h
  | getfield ix =>
    have hk : (decide (len = 3) && (match (generalizing := false) c9 with
    | 2 => (match (generalizing := false) b with
      | 0 => decide (lw_tbl[p9]? = some (.fieldLink own ix "java/lang/String" "value" "[B"))
      | _ => decide (lw_tbl[p9]? = some (.fieldLink own ix "java/lang/String" "coder" "B")))
    | _ => (match (generalizing := false) vwCl[a]? with
      | some Cl => decide (b < Cl.2.2 ∧ lw_tbl[p9]? = some (if c9 = 0 then .fieldLink own ix (Cl.2.1 b).1 (Cl.2.1 b).2.1 (Cl.2.1 b).2.2.1 else .fieldLinkNest own ix (Cl.2.1 b).1 (Cl.2.1 b).2.1 (Cl.2.1 b).2.2.1 "BathBoats"))
      | none => false))) = true := hk
    have h : (match (generalizing := false) c9 with
   | 2 => match (generalizing := false) st with
    | .inr (.inl (some (6, t, 0))) :: st => match (generalizing := false) b with
      | 0 => nx lv (za 7 t 0 :: st) S
      | _ => nx lv (zi 0 :: st) S
    | _ => none
   | _ => match (generalizing := false) st with
    | .inr (.inl (some r)) :: st => zx_if (zx_is r a) ((zf_of a b).bind (fun f => zf_get f b r S (fun v => nx lv (v :: st) S)))
    | _ => none) = some out := h
    rw [Bool.and_eq_true] at hk
    obtain ⟨hk1, hk2⟩ := hk
    have e1 : len = 3 := of_decide_eq_true hk1
    subst e1
    split at h
    · split at h
      · split at h
        · exact zJ_strValue X hd (of_decide_eq_true hk2) (kn rfl _ _ _ h)
        · rename_i hb0
          have hb : b ≠ 0 := fun z => hb0 z
          cases b with
          | zero => exact absurd rfl hb
          | succ b => exact zJ_strCoder X hd (of_decide_eq_true hk2) (kn rfl _ _ _ h)
      · exact nomatch h
    · rename_i hc2
      split at hk2
      · rename_i h9
        exact absurd rfl (fun z => hc2 z)
      · split at h
        · split at hk2
          · rename_i Cl hCl
            obtain ⟨hb, hq⟩ := of_decide_eq_true hk2
            obtain ⟨hi, h⟩ := zx_if_ok h
            obtain ⟨f, hf, h⟩ := Option.bind_eq_some_iff.mp h
            exact zJ_getfield X hd hCl hb hq hf hi h (fun v h => kn rfl _ _ _ h)
          · exact nomatch hk2
        · exact nomatch h
  | putfield ix =>
    have hk : (decide (len = 3) && (match (generalizing := false) vwCl[a]? with
      | some Cl => decide (b < Cl.2.2 ∧ lw_tbl[p9]? = some (if c9 = 0 then .fieldLink own ix (Cl.2.1 b).1 (Cl.2.1 b).2.1 (Cl.2.1 b).2.2.1 else .fieldLinkNest own ix (Cl.2.1 b).1 (Cl.2.1 b).2.1 (Cl.2.1 b).2.2.1 "BathBoats") ∧ (Cl.2.1 b).2.2.2 = false) && (match (generalizing := false) zf_of a b with
        | some f => (match (generalizing := false) zf_ty f.1 with
          | some ty => decide (parseFieldDescriptor (Cl.2.1 b).2.2.1 = some ty)
          | none => false)
        | none => false)
      | none => false)) = true := hk
    have h : (match (generalizing := false) st with
    | v :: .inr (.inl (some r)) :: st => zx_if (zx_is r a) ((zf_of a b).bind (fun f => (zf_put f b r v S).bind (fun S' => nx lv st S')))
    | _ => none) = some out := h
    rw [Bool.and_eq_true] at hk
    obtain ⟨hk1, hk2⟩ := hk
    have e1 : len = 3 := of_decide_eq_true hk1
    subst e1
    split at h
    · obtain ⟨hi, h⟩ := zx_if_ok h
      obtain ⟨f, hf, h⟩ := Option.bind_eq_some_iff.mp h
      obtain ⟨S1, hS1, h⟩ := Option.bind_eq_some_iff.mp h
      split at hk2
      · rename_i Cl hCl
        rw [Bool.and_eq_true] at hk2
        obtain ⟨hk3, hk4⟩ := hk2
        obtain ⟨hb, hq, hfin⟩ := of_decide_eq_true hk3
        rw [hf] at hk4
        have hk4 : (match (generalizing := false) zf_ty f.1 with
          | some ty => decide (parseFieldDescriptor (Cl.2.1 b).2.2.1 = some ty)
          | none => false) = true := hk4
        split at hk4
        · rename_i ty hty
          exact zJ_putfield X hd hCl hb hq hfin (of_decide_eq_true hk4) hf hty hi hS1 (kn rfl _ _ _ h)
        · exact nomatch hk4
      · exact nomatch hk2
    · exact nomatch h
  | arraylength =>
    have hk : (decide (len = 1)) = true := hk
    have h : (match (generalizing := false) st with
    | .inr (.inl (some r)) :: st => za_len r S (fun x => nx lv (zi x :: st) S)
    | _ => none) = some out := h
    have e1 : len = 1 := of_decide_eq_true hk
    subst e1
    split at h
    · exact zJ_arraylength X hd h (fun _ h => kn rfl _ _ _ h)
    · exact nomatch h
  | iaload =>
    have hk : (decide (len = 1)) = true := hk
    have h : (match (generalizing := false) st with
    | .inl j :: .inr (.inl (some r)) :: st => za_ld r j S (fun x => nx lv (zi x :: st) S)
    | _ => none) = some out := h
    have e1 : len = 1 := of_decide_eq_true hk
    subst e1
    split at h
    · exact zJ_iaload X hd h (fun _ h => kn rfl _ _ _ h)
    · exact nomatch h
  | iastore =>
    have hk : (decide (len = 1)) = true := hk
    have h : (match (generalizing := false) st with
    | .inl x :: .inl j :: .inr (.inl (some r)) :: st => za_st r j x S (fun S' => nx lv st S')
    | _ => none) = some out := h
    have e1 : len = 1 := of_decide_eq_true hk
    subst e1
    split at h
    · exact zJ_iastore X hd h (fun _ h => kn rfl _ _ _ h)
    · exact nomatch h
  | baload =>
    have hk : (decide (len = 1)) = true := hk
    have h : (match (generalizing := false) st with
    | .inl j :: .inr (.inl (some (7, t, 0))) :: st => (zx_nth zt_texts t).bind (fun w => za_in j (Int32.ofNat w.length) ((zx_nth w j.toNatClampNeg).bind (fun x => nx lv (zi x :: st) S)))
    | _ => none) = some out := h
    have e1 : len = 1 := of_decide_eq_true hk
    subst e1
    split at h
    · obtain ⟨w, hw, h⟩ := Option.bind_eq_some_iff.mp h
      obtain ⟨h0, h1, h⟩ := za_inx_ok h
      obtain ⟨x, hx, h⟩ := Option.bind_eq_some_iff.mp h
      exact zJ_baload X hd hw h0 h1 hx (kn rfl _ _ _ h)
    · exact nomatch h
  | getstatic ix =>
    have hk : (decide (len = 3 ∧ lw_tbl[p9]? = some (.fieldLink own ix "java/lang/String" "COMPACT_STRINGS" "Z"))) = true := hk
    have h : (nx lv (zi 1 :: st) S) = some out := h
    obtain ⟨e1, hq⟩ : len = 3 ∧ lw_tbl[p9]? = some (.fieldLink own ix "java/lang/String" "COMPACT_STRINGS" "Z") := of_decide_eq_true hk
    subst e1
    exact zJ_compact X hd hq (kn rfl _ _ _ h)
  | i2c =>
    have hk : (decide (len = 1)) = true := hk
    have h : (match (generalizing := false) st with
    | .inl x :: st => nx lv (zi (x.toUInt32 % 65536).toInt32 :: st) S
    | _ => none) = some out := h
    have e1 : len = 1 := of_decide_eq_true hk
    subst e1
    split at h
    · exact (fun q => ⟨q.1, zJ_i2c X hd q.2⟩) (kn rfl _ _ _ h)
    · exact nomatch h
  | aaload =>
    have hk : (decide (len = 1)) = true := hk
    have h : (match (generalizing := false) st with
    | .inl j :: .inr (.inl (some r)) :: st => za_ldr r j (fun v => nx lv (v :: st) S)
    | _ => none) = some out := h
    have e1 : len = 1 := of_decide_eq_true hk
    subst e1
    split at h
    · exact zJ_aaload X hd h (fun _ h => kn rfl _ _ _ h)
    · exact nomatch h
  | laload =>
    exact nomatch (show false = true from hk)
  | lastore =>
    exact nomatch (show false = true from hk)
  | daload =>
    exact nomatch (show false = true from hk)
  | dastore =>
    exact nomatch (show false = true from hk)
  | new ix =>
    have h : (match (generalizing := false) a, st with
    | 1, [] => some (.inr b, S.1, S.2.1, S.2.2.1, S.2.2.2 + 1)
    | _, _ => none) = some out := h
    split at h
    · have h := (Option.some.inj h).symm
      rw [h] at hno
      obtain ⟨v, hv⟩ := hno
      exact nomatch hv
    · exact nomatch h
  | invokevirtual ix =>
    have hk : (decide (len = 3) && (match (generalizing := false) c9 with
    | 99 => false
    | 98 => true
    | _ => (match (generalizing := false) zt_mi a with
      | some M => decide (lw_tbl[p9]? = some (.methodLink own ix M.1) ∧ b = M.2.2.2.2.2.1 + 1) && decide (M.2.2.2.2.1 = []) && decide (lw_tbl[M.2.2.2.2.2.2.2.2.1]? = some (.instanceMethod M.1)) && (match (generalizing := false) c9 with
          | 12 => decide (M.1.cls = "java/lang/String")
          | _ => (match (generalizing := false) vwCl[c9]? with
            | some Cl => decide (Cl.1 = M.1.cls)
            | none => false)) && (match (generalizing := false) tb with
          | [] => true
          | _ :: _ => false)
      | none => false))) = true := hk
    have h : (match (generalizing := false) c9 with
    | 99 => zx_lib a st S (fun st S => nx lv st S)
    | 98 => none
    | _ => (zx_pop b [] st).bind (fun q => zx_if (Nat.ble (zx_wd q.2) 8) (match (generalizing := false) q.1 with
      | .inr (.inl (some r)) :: _ => zx_if (zx_rc r c9) (zx_ret rt (Γ a q.1 S) q.2 (fun st S => nx lv st S) (fun e S => match (generalizing := false) tb with
        | [] => some (.inr e, S)
        | _ :: _ => (zx_find tb (Int.ofNat e)).bind (fun t => (zx_find tb (-1)).bind (fun j => jp t (zl_set lv j none) [] S))))
      | _ => none))) = some out := h
    exact zJ_virt X hR hd0 hd hΓ hgm hno hk h (fun lv st S h => kn rfl lv st S h) kj
  | invokestatic ix =>
    have hk : (decide (len = 3) && (match (generalizing := false) c9 with
    | 99 => (match (generalizing := false) a with
      | 0 => decide (lw_tbl[p9]? = some (.methodLink own ix Lib.Math.min.name))
      | 1 => decide (lw_tbl[p9]? = some (.methodLink own ix Lib.Math.max.name))
      | 2 => decide (lw_tbl[p9]? = some (.methodLink own ix Lib.Math.abs.name))
      | 3 => decide (lw_tbl[p9]? = some (.methodLink own ix arraycopyName))
      | 6 => decide (lw_tbl[p9]? = some (.methodLink own ix yJ0_checkIndex_df160))
      | _ => false)
    | 98 => true
    | _ => (match (generalizing := false) zt_mi a with
      | some M => decide (lw_tbl[p9]? = some (.methodLink own ix M.1) ∧ b = M.2.2.2.2.2.1) && decide (lw_tbl[M.2.2.2.2.2.2.2.2.1]? = some (.static M.1))
      | none => false))) = true := hk
    have h : (match (generalizing := false) c9 with
    | 99 => zx_lib a st S (fun st S => nx lv st S)
    | 98 => none
    | _ => (zx_pop b [] st).bind (fun q => zx_if (Nat.ble (zx_wd q.2) 8) (zx_ret rt (Γ a q.1 S) q.2 (fun st S => nx lv st S) (fun e S => some (.inr e, S))))) = some out := h
    exact zJ_stat X hR hd0 hd hΓ hgm hno hk h (fun lv st S h => kn rfl lv st S h)
  | ireturn => exact hret rfl
  | freturn => exact hret rfl
  | dreturn => exact hret rfl
  | areturn => exact hret rfl
  | return_ => exact hret rfl
  | _ => exact nomatch (show (none : Option zO) = some out from h)
end ZN

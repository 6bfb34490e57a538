/-! SOUNDNESS 10: blocks, runs -/
section ZO
variable {p : Program} {l : Launch} {e : Env} {R : Room} {s : State} {m : MethodId} {args : Array Value} {below : List Frame} {meth : Method} {c : Code} {Q : State → Prop} {G : zG} {S0 : zS} {own : String} {cc : ByteArray} {nL : Nat} {ret : Option FieldType} {hh : List (Nat × Nat × Nat × Nat)} {S : zS} {pc : Nat} {lv : zL} {st : List zV} {out : zO} {gm d : Nat} {Γ : Nat → List zV → zS → Option zO}
/-- how a body ends -/
theorem zx_ret_step (X : zX p l s m meth c G S0 own cc nL ret hh) (hgm : gm = out.2.2.2.2) {i : Instr} {len a b c9 p9 rt rk : Nat} {k : Int32} {tb : List (Int × Nat)} (hi : zt_isret i = true) (hd : decode cc pc = .ok (i, len)) (hk : zk_i own cc nL ret hh rk pc i len a b c9 p9 rt k tb = true)
    {nx : zL → List zV → zS → Option zO} {jp : Nat → zL → List zV → zS → Option zO} (h : zx_step Γ rk nx jp i a b c9 rt k tb lv st S = some out) : zJ2 p l e R s m args below meth c (zQ below args s G S0 out) G S0 nL gm S pc lv st := by
  cases i with
  | ireturn =>
    have hk : (decide (len = 1) && (match (generalizing := false) rk with
      | 1 => decide (ret = some .int)
      | 2 => decide (ret = some .boolean)
      | 6 => decide (ret = some .byte)
      | 7 => decide (ret = some .char)
      | _ => false)) = true := hk
    rw [Bool.and_eq_true] at hk
    obtain ⟨hk1, hk2⟩ := hk
    have e1 : len = 1 := of_decide_eq_true hk1
    subst e1
    have h : (match (generalizing := false) st with
      | .inl x :: [] => (match (generalizing := false) rk with
        | 1 => some (.inl (some (zi x)), S)
        | 2 => if x &&& 1 = x then some (.inl (some (zi x)), S) else none
        | 6 => if x.toInt8.toInt32 = x then some (.inl (some (zi x)), S) else none
        | 7 => if x.toUInt32.toUInt16.toUInt32.toInt32 = x then some (.inl (some (zi x)), S) else none
        | _ => none)
      | _ => none : Option zO) = some out := h
    split at h
    · split at h
      · have h := (Option.some.inj h).symm
        subst h
        exact ⟨Nat.le_of_eq hgm.symm, zJ_iret X (of_decide_eq_true hk2) hd⟩
      · split at h
        · rename_i hx
          have h := (Option.some.inj h).symm
          subst h
          exact ⟨Nat.le_of_eq hgm.symm, zJ_zret X (of_decide_eq_true hk2) hx hd⟩
        · exact nomatch h
      · split at h
        · rename_i hx
          have h := (Option.some.inj h).symm
          subst h
          exact ⟨Nat.le_of_eq hgm.symm, zJ_bret X (of_decide_eq_true hk2) hx hd⟩
        · exact nomatch h
      · split at h
        · rename_i hx
          have h := (Option.some.inj h).symm
          subst h
          exact ⟨Nat.le_of_eq hgm.symm, zJ_cret X (of_decide_eq_true hk2) hx hd⟩
        · exact nomatch h
      · exact nomatch h
    · exact nomatch h
  | freturn =>
    obtain ⟨e1, hr⟩ : len = 1 ∧ ret = some .float := of_decide_eq_true hk
    subst e1
    have h : (match (generalizing := false) st with
      | .inr (.inr (.inl x)) :: [] => some (.inl (some (zf x)), S)
      | _ => none : Option zO) = some out := h
    split at h
    · have h := (Option.some.inj h).symm
      subst h
      exact ⟨Nat.le_of_eq hgm.symm, zJ_fret X hr hd⟩
    · exact nomatch h
  | dreturn =>
    obtain ⟨e1, hr⟩ : len = 1 ∧ ret = some .double := of_decide_eq_true hk
    subst e1
    have h : (match (generalizing := false) st with
      | .inr (.inr (.inr (.inr x))) :: [] => some (.inl (some (zd x)), S)
      | _ => none : Option zO) = some out := h
    split at h
    · have h := (Option.some.inj h).symm
      subst h
      exact ⟨Nat.le_of_eq hgm.symm, zJ_dret X hr hd⟩
    · exact nomatch h
  | areturn =>
    have hk : (decide (len = 1) && (match (generalizing := false) ret with
      | some (.object _) => true
      | _ => false)) = true := hk
    rw [Bool.and_eq_true] at hk
    obtain ⟨hk1, hk2⟩ := hk
    have e1 : len = 1 := of_decide_eq_true hk1
    subst e1
    have h : (match (generalizing := false) st with
      | .inr (.inl r) :: [] => some (.inl (some (.inr (.inl r))), S)
      | _ => none : Option zO) = some out := h
    split at h
    · have h := (Option.some.inj h).symm
      subst h
      split at hk2
      · exact ⟨Nat.le_of_eq hgm.symm, zJ_aret X (Or.inl ⟨_, rfl⟩) hd⟩
      · exact nomatch hk2
    · exact nomatch h
  | return_ =>
    obtain ⟨e1, hr⟩ : len = 1 ∧ ret = none := of_decide_eq_true hk
    subst e1
    have h : (match (generalizing := false) st with
      | [] => some (.inl none, S)
      | _ => none : Option zO) = some out := h
    split at h
    · have h := (Option.some.inj h).symm
      subst h
      exact ⟨Nat.le_of_eq hgm.symm, zJ_vret X hr hd⟩
    · exact nomatch h
  | _ => exact nomatch (show false = true from hi)
theorem zJ2_keep {mm : List Bool} (h : zJ2 p l e R s m args below meth c Q G S0 nL gm S pc (zl_keep mm lv) st) : zJ2 p l e R s m args below meth c Q G S0 nL gm S pc lv st := by
  refine ⟨h.1, fun ls H locs hl hP hS h5 hg hs hv => h.2 ls H locs (lv_mono hl (fun q hq => ?_)) hP hS h5 hg hs (fun j v hj => hv j v (zl_getkeep _ _ _ _ hj))⟩
  obtain ⟨j, v, e1, e2⟩ := zl_mem0.mp hq
  exact zl_mem0.mpr ⟨j, v, e1, zl_getkeep _ _ _ _ e2⟩
theorem zx_at_ok (pc : Nat) : ∀ cd : List zE, zk_seq cd = true → (∀ y, y ∈ zx_at cd pc → y ∈ cd) ∧ zk_seq (zx_at cd pc) = true ∧ ∀ y es2, zx_at cd pc = y :: es2 → y.2.1 = pc := by
  intro cd
  induction cd with
  | nil => exact fun _ => ⟨fun y h => h, rfl, fun y es2 h => nomatch h⟩
  | cons x cd ih =>
    intro h
    unfold zx_at
    split
    · rename_i hb
      exact ⟨fun y h => h, h, fun y es2 h => by cases h; exact Nat.eq_of_beq_eq_true hb⟩
    · have h2 : zk_seq cd = true := by
        unfold zk_seq at h
        rw [Bool.and_eq_true] at h
        exact h.2
      obtain ⟨i1, i2, i3⟩ := ih h2
      exact ⟨fun y h => List.mem_cons_of_mem _ (i1 y h), i2, i3⟩
/-- an entry's step -/
abbrev zx_stp (Γ : Nat → List zV → zS → Option zO) (rk : Nat) (nx : zL → List zV → zS → Option zO) (jp : Nat → zL → List zV → zS → Option zO) (x : zE) (lv : zL) (st : List zV) (S : zS) : Option zO := zx_step Γ rk nx jp x.2.2.1 x.2.2.2.2.1.1 x.2.2.2.2.1.2.1 x.2.2.2.2.1.2.2.1 x.2.2.2.2.1.2.2.2.2 x.2.2.2.2.2.1 x.2.2.2.2.2.2 lv st S
theorem zx_blk_ok (X : zX p l s m meth c G S0 own cc nL ret hh) (hR : zRm R S0 gm) (hd0 : d + 4 ≤ R.frames ∧ 36 * d + 136 ≤ R.locals) (hΓ : zGam l d Γ) (hgm : gm = out.2.2.2.2) (hno : ∃ v, out.1 = .inl v) {cd : List zE} {rk : Nat} (hcd : ∀ x, x ∈ cd → zk_e own cc nL ret hh rk x = true) (hseq : zk_seq cd = true)
    {K : Nat → zL → List zV → zS → Option zO} (hK : ∀ pc lv st S, K pc lv st S = some out → zJ2 p l e R s m args below meth c Q G S0 nL gm S pc lv st)
    (hret : ∀ x, x ∈ cd → zt_isret x.2.2.1 = true → ∀ nx jp lv st S, zx_stp Γ rk nx jp x lv st S = some out → zJ2 p l e R s m args below meth c Q G S0 nL gm S x.2.1 lv st) :
    ∀ (n : Nat) (x : zE) (es : List zE), (∀ y, y ∈ x :: es → y ∈ cd) → zk_seq (x :: es) = true → ∀ lv st S, zx_blk Γ cd rk K n (x :: es) lv st S = some out → zJ2 p l e R s m args below meth c Q G S0 nL gm S x.2.1 lv st := by
  intro n
  induction n with
  | zero => exact fun x es _ _ lv st S h => nomatch h
  | succ n ih =>
    intro x es hsub hsq lv st S h
    have hx := hcd x (hsub x List.mem_cons_self)
    unfold zk_e at hx
    rw [Bool.and_eq_true] at hx
    obtain ⟨h1, h2⟩ := hx
    have nxt : ∀ es' : List zE, (∀ y, y ∈ es' → y ∈ cd) → zk_seq es' = true → ∀ lv st S, zx_next (fun es lv st S => zx_blk Γ cd rk K n es lv st S) K es' lv st S = some out → ∃ y es2, es' = y :: es2 ∧ zJ2 p l e R s m args below meth c Q G S0 nL gm S y.2.1 lv st := by
      intro es' hs' hq' lv st S h
      cases es' with
      | nil => exact nomatch h
      | cons y es2 =>
        refine ⟨y, es2, rfl, ?_⟩
        have h : (match (generalizing := false) y.1 with
          | none => zx_blk Γ cd rk K n (y :: es2) lv st S
          | some mm => K y.2.1 (zl_keep mm lv) st S) = some out := h
        split at h
        · exact ih y es2 hs' hq' lv st S h
        · exact zJ2_keep (hK _ _ _ _ h)
    have h : zx_stp Γ rk (fun lv st S => zx_next (fun es lv st S => zx_blk Γ cd rk K n es lv st S) K es lv st S) (fun pc lv st S => zx_next (fun es lv st S => zx_blk Γ cd rk K n es lv st S) K (zx_at cd pc) lv st S) x lv st S = some out := h
    have hsq2 : zk_seq es = true := by
      unfold zk_seq at hsq
      rw [Bool.and_eq_true] at hsq
      exact hsq.2
    refine zx_step_ok X hR hd0 hΓ hgm hno (of_decide_eq_true h1) h2 h (fun hf lv st S h => ?_) (fun t lv st S h => ?_) (fun hi => hret x (hsub x List.mem_cons_self) hi _ _ lv st S h)
    · obtain ⟨y, es2, e9, hJ⟩ := nxt es (fun y hy => hsub y (List.mem_cons_of_mem _ hy)) hsq2 lv st S h
      subst e9
      have h3 : (!zt_falls x.2.2.1 || Nat.beq (x.2.1 + x.2.2.2.1) y.2.1) = true := by
        unfold zk_seq at hsq
        rw [Bool.and_eq_true] at hsq
        exact hsq.1
      rw [hf] at h3
      have h3 : x.2.1 + x.2.2.2.1 = y.2.1 := Nat.eq_of_beq_eq_true h3
      rw [h3]
      exact hJ
    · obtain ⟨a1, a2, a3⟩ := zx_at_ok t cd hseq
      obtain ⟨y, es2, e9, hJ⟩ := nxt (zx_at cd t) a1 a2 lv st S h
      rw [← a3 y es2 e9]
      exact hJ
theorem zx_run_ok (X : zX p l s m meth c G S0 own cc nL ret hh) (hR : zRm R S0 gm) (hd0 : d + 4 ≤ R.frames ∧ 36 * d + 136 ≤ R.locals) (hΓ : zGam l d Γ) (hgm : gm = out.2.2.2.2) (hno : ∃ v, out.1 = .inl v) {cd : List zE} {rk : Nat} (hcd : ∀ x, x ∈ cd → zk_e own cc nL ret hh rk x = true) (hseq : zk_seq cd = true)
    (hret : ∀ x, x ∈ cd → zt_isret x.2.2.1 = true → ∀ nx jp lv st S, zx_stp Γ rk nx jp x lv st S = some out → zJ2 p l e R s m args below meth c Q G S0 nL gm S x.2.1 lv st) (N : Nat) :
    ∀ (n pc : Nat) (lv : zL) (st : List zV) (S : zS), zx_run Γ cd rk N n pc lv st S = some out → zJ2 p l e R s m args below meth c Q G S0 nL gm S pc lv st := by
  intro n
  induction n with
  | zero => exact fun pc lv st S h => nomatch h
  | succ n ih =>
    intro pc lv st S h
    have h : zx_blk Γ cd rk (fun pc lv st S => zx_run Γ cd rk N n pc lv st S) N (zx_at cd pc) lv st S = some out := h
    obtain ⟨a1, a2, a3⟩ := zx_at_ok pc cd hseq
    cases hat : zx_at cd pc with
    | nil =>
      rw [hat] at h
      cases N with
      | zero => exact nomatch h
      | succ N => exact nomatch h
    | cons y es2 =>
      rw [hat] at h a1 a2
      rw [← a3 y es2 hat]
      exact zx_blk_ok X hR hd0 hΓ hgm hno hcd hseq ih hret N y es2 a1 a2 lv st S h
end ZO

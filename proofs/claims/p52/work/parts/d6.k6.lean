/-! THE CONSTRUCTION 9: soundness of a run, the contracts -/
def kn_last : List zE → Nat
  | [] => 0
  | x :: l => match l with
    | [] => x.2.1 + x.2.2.2.1
    | _ => kn_last l
theorem kn_last_app : ∀ (pre : List zE) (x : zE), kn_last (pre ++ [x]) = x.2.1 + x.2.2.2.1 := by
  intro pre
  induction pre with
  | nil => intro x; rfl
  | cons y pre ih =>
    intro x
    cases pre with
    | nil => rfl
    | cons z pre => exact ih x
theorem kn_seq_next : ∀ (pre : List zE) (x y : zE) (es : List zE), kn_seq (pre ++ x :: y :: es) = true → x.2.1 + x.2.2.2.1 = y.2.1 := by
  intro pre
  induction pre with
  | nil =>
    intro x y es h
    have h : (Nat.beq (x.2.1 + x.2.2.2.1) y.2.1 && kn_seq (y :: es)) = true := h
    rw [Bool.and_eq_true] at h
    exact Nat.eq_of_beq_eq_true h.1
  | cons z pre ih =>
    intro x y es h
    refine ih x y es ?_
    have h : ((match (generalizing := false) pre ++ x :: y :: es with
      | [] => true
      | y :: _ => Nat.beq (z.2.1 + z.2.2.2.1) y.2.1) && kn_seq (pre ++ x :: y :: es)) = true := h
    rw [Bool.and_eq_true] at h
    exact h.2
theorem kx_at (pc : Nat) : ∀ (cd : List zE), (∃ pre, cd = pre ++ zx_at cd pc) ∧ ∀ y es, zx_at cd pc = y :: es → y.2.1 = pc := by
  intro cd
  induction cd with
  | nil => exact ⟨⟨[], rfl⟩, fun y es h => nomatch h⟩
  | cons x cd ih =>
    unfold zx_at
    split
    · rename_i h
      exact ⟨⟨[], rfl⟩, fun y es e => by cases e; exact Nat.eq_of_beq_eq_true h⟩
    · obtain ⟨⟨pre, e⟩, h2⟩ := ih
      exact ⟨⟨x :: pre, by rw [List.cons_append, ← e]⟩, h2⟩
theorem kn_go_nr {Γ : Nat → List zV → nS → Option nS} {fin : zL → List zV → nS → Option nS} {cd : List zE} {f : Nat} {e : zE} {es : List zE} {lv : zL} {st : List zV} {w : nS} (h : e.2.2.1 ≠ .return_) : kn_go Γ fin cd (f + 1) (e :: es) lv st w = (match kn_step Γ e.2.2.1 e.2.2.2.2.1.1 e.2.2.2.2.1.2.1 e.2.2.2.2.1.2.2.1 e.2.2.2.2.2.1 lv st w with
      | some (none, lv, st, w) => kn_go Γ fin cd f es lv st w
      | some (some pc, lv, st, w) => (match zx_at cd pc with
        | [] => none
        | y :: es => kn_go Γ fin cd f (y :: es) lv st w)
      | none => none) := by
  obtain ⟨x1, pc, i, r⟩ := e
  cases i <;> first
    | rfl
    | exact absurd rfl h
section KE
variable {p : Program} {l : Launch} {e : Env} {R : Room} {s : State} {m : MethodId} {args : Array Value} {below : List Frame} {meth : Method} {c : Code} {Q : State → Prop} {D : va_G} {cA : Nat → ClassId} {adT : zR → Nat} {S0 : zS} {A : Nat → Prop} {ad0 : zR → Nat} {w0 wF w : nS} {own nm : String} {cc : ByteArray} {nL pc : Nat} {lv : zL} {st : List zV}
theorem kn_go_ok {Γ : Nat → List zV → nS → Option nS} {fin : zL → List zV → nS → Option nS} {d : Nat} {cd : List zE} (hΓ : kGam l d D cA adT S0 A Γ) (hR : wF.length - w0.length ≤ R.cells ∧ n_sl wF - n_sl w0 ≤ R.slots) (hd : d + 7 ≤ R.frames ∧ 64 * d + 264 ≤ R.locals) (hcd : ∀ x, x ∈ cd → kn_row own nm cc nL x = true) (hseq : kn_seq cd = true) (hret : ∀ x, x ∈ cd → x.2.2.1 = .return_ → ∀ lv, decode cc x.2.1 = .ok (.return_, 1) → kJ2 p l e R s m args below meth c Q D cA adT S0 A own nm cc nL ad0 w0 wF wF x.2.1 lv []) (hfin : ∀ lv st w, fin lv st w = some wF → kJ2 p l e R s m args below meth c Q D cA adT S0 A own nm cc nL ad0 w0 wF w (kn_last cd) lv st) :
    ∀ (f : Nat) (es pre : List zE) (pc : Nat) (lv : zL) (st : List zV) (w : nS), cd = pre ++ es → (es = [] → pc = kn_last cd) → (∀ y es2, es = y :: es2 → y.2.1 = pc) → kn_go Γ fin cd f es lv st w = some wF → kJ2 p l e R s m args below meth c Q D cA adT S0 A own nm cc nL ad0 w0 wF w pc lv st := by
  intro f
  induction f with
  | zero => intro es pre pc lv st w _ _ _ h; exact nomatch h
  | succ f ih =>
    intro es pre pc lv st w hsuf hnil hcons h
    cases es with
    | nil =>
      rw [hnil rfl]
      exact hfin lv st w h
    | cons e es =>
      have hpc := hcons e es rfl
      subst hpc
      have hrow := hcd e (by rw [hsuf]; exact List.mem_append_right _ List.mem_cons_self)
      unfold kn_row at hrow
      rw [Bool.and_eq_true] at hrow
      have hdec := of_decide_eq_true hrow.1
      have hsuf2 : cd = (pre ++ [e]) ++ es := by rw [hsuf, List.append_assoc]; rfl
      by_cases hr : e.2.2.1 = .return_
      · obtain ⟨x1, pc, i, len, ⟨a, b, c9, q, rt⟩, k, tb⟩ := e
        have hr : i = .return_ := hr
        subst hr
        have hl : len = 1 := of_decide_eq_true (show decide (len = 1) = true from hrow.2)
        subst hl
        have h : (match (generalizing := false) st with
          | [] => some w
          | _ => none) = some wF := h
        split at h
        · have h := Option.some.inj h
          subst h
          exact hret _ (by rw [hsuf]; exact List.mem_append_right _ List.mem_cons_self) rfl lv hdec
        · cases h
      · rw [kn_go_nr hr] at h
        cases hstep : kn_step Γ e.2.2.1 e.2.2.2.2.1.1 e.2.2.2.2.1.2.1 e.2.2.2.2.1.2.2.1 e.2.2.2.2.2.1 lv st w with
        | none => rw [hstep] at h; cases h
        | some o =>
          rw [hstep] at h
          obtain ⟨j, lv2, st2, w2⟩ := o
          refine kn_step_ok hΓ hR hd hdec hrow.2 hstep (fun hj => ?_) (fun t hj => ?_)
          · have hj : j = none := hj
            subst hj
            have h : kn_go Γ fin cd f es lv2 st2 w2 = some wF := h
            refine ih es (pre ++ [e]) _ lv2 st2 w2 hsuf2 (fun h0 => ?_) (fun y es2 h0 => ?_) h
            · rw [hsuf2, h0, List.append_nil, kn_last_app]
            · rw [hsuf, h0] at hseq
              exact (kn_seq_next pre e y es2 hseq).symm
          · have hj : j = some t := hj
            subst hj
            have h : (match (generalizing := false) zx_at cd t with
              | [] => none
              | y :: es => kn_go Γ fin cd f (y :: es) lv2 st2 w2) = some wF := h
            obtain ⟨⟨pre2, e1⟩, e2⟩ := kx_at t cd
            cases hz : zx_at cd t with
            | nil => rw [hz] at h; cases h
            | cons y es3 =>
              rw [hz] at h e1
              exact ih (y :: es3) pre2 t lv2 st2 w2 e1 (fun h0 => nomatch h0) (fun y2 es2 h0 => by cases h0; exact e2 y es3 hz) h
end KE
def kt_row (mi : Nat) : Bool := match zx_nth zt_ns mi, zx_nth kt_mi mi with
  | some N, some M => Nat.beq N.2 M.2.2.1 && kn_seq N.1 && Nat.ble (M.2.2.2.2.2.1 + 1) N.2 && (match N.1 with
    | [] => false
    | x :: _ => Nat.beq x.2.1 0) && N.1.all (kn_row M.1.cls M.1.name M.2.1 M.2.2.1)
  | none, _ => true
  | _, _ => false
theorem kt_row_a : (List.range 12).all kt_row = true := by decide +kernel
theorem kt_row_12 : kt_row 12 = true := by decide +kernel
theorem kt_row_ok (mi : Nat) : kt_row mi = true := by
  by_cases h : mi < 12
  · exact List.all_eq_true.mp kt_row_a mi (List.mem_range.mpr h)
  · by_cases h2 : mi = 12
    · rw [h2]; exact kt_row_12
    · have e : zx_nth zt_ns mi = none := by
        rw [zx_nth_get]
        exact List.getElem?_eq_none (by show 13 ≤ mi; omega)
      unfold kt_row
      rw [e]
theorem kv_initmem {n : Nat} {av : List zV} {k : Nat} (h : ∀ v, v ∈ av → kv_ok n v) : ∀ (j : Nat) (v : zV), zl_get (zl_init av k) j = some v → kv_ok n v := fun j v hj => h v (zl_initmem av _ j v hj)
/-- the constructors keep their contracts; the state and the rest are any, for the world's own part -/
theorem kn_sem_ok {l : Launch} {D : va_G} {cA : Nat → ClassId} {adT : zR → Nat} {S0 : zS} {A : Nat → Prop} (p0 : Program) (e0 : Env) (s0 : State) (m0 : MethodId) (meth0 : Method) (c0 : Code) (F : Nat) : ∀ d, kGam l d D cA adT S0 A (fun mi av w => kn_sem F d mi av w) := by
  intro d
  induction d with
  | zero => intro mi av w w' h; exact nomatch (show (none : Option nS) = some w' from h)
  | succ d ih =>
    intro mi av w w' h
    have hrow := kt_row_ok mi
    have h : (match (generalizing := false) zx_nth zt_ns mi with
      | some M => kn_go (fun mi av w => kn_sem F d mi av w) (fun _ _ _ => none) M.1 F M.1 (zl_init av M.2) [] w
      | none => none) = some w' := h
    unfold kt_row at hrow
    split at h
    · rename_i N hN
      rw [hN] at hrow
      cases hM : zx_nth kt_mi mi with
      | none => rw [hM] at hrow; cases hrow
      | some M =>
        rw [hM] at hrow
        obtain ⟨cd, nL⟩ := N
        have hrow : (Nat.beq nL M.2.2.1 && kn_seq cd && Nat.ble (M.2.2.2.2.2.1 + 1) nL && (match (generalizing := false) cd with
          | [] => false
          | x :: _ => Nat.beq x.2.1 0) && cd.all (kn_row M.1.cls M.1.name M.2.1 M.2.2.1)) = true := hrow
        simp only [Bool.and_eq_true] at hrow
        obtain ⟨⟨⟨⟨h1, h2⟩, h3⟩, h4⟩, h5⟩ := hrow
        have h1 := Nat.eq_of_beq_eq_true h1
        subst h1
        have h3 := Nat.le_of_ble_eq_true h3
        have h : kn_go (fun mi av w => kn_sem F d mi av w) (fun _ _ _ => none) cd F cd (zl_init av M.2.2.1) [] w = some w' := h
        have hMok := kt_M hM
        refine ⟨M, rfl, fun hav => ?_⟩
        have key : ∀ (p : Program) (e : Env) (s : State) (m : MethodId) (args : Array Value) (below : List Frame) (meth : Method) (c : Code) (Q : State → Prop) (ad0 : zR → Nat), (∀ pc lv, decode M.2.1 pc = .ok (.return_, 1) → kJ2 p l e (krm (d + 1) (w'.length - w.length) (n_sl w' - n_sl w)) s m args below meth c Q D cA adT S0 A M.1.cls M.1.name M.2.1 M.2.2.1 ad0 w w' w' pc lv []) → kJ2 p l e (krm (d + 1) (w'.length - w.length) (n_sl w' - n_sl w)) s m args below meth c Q D cA adT S0 A M.1.cls M.1.name M.2.1 M.2.2.1 ad0 w w' w 0 (zl_init av M.2.2.1) [] := fun p e s m args below meth c Q ad0 hret =>
          kn_go_ok ih ⟨Nat.le_refl _, Nat.le_refl _⟩ ⟨by show d + 7 ≤ d + 1 + 6; omega, by show 64 * d + 264 ≤ 64 * (d + 1) + 200; omega⟩ (fun x hx => List.all_eq_true.mp h5 x hx) h2 (fun x _ _ lv hdec => hret x.2.1 lv hdec) (fun lv st w (hz : (none : Option nS) = some w') => nomatch hz) F cd [] 0 _ _ _ rfl (fun h0 => by rw [h0] at h4; cases h4) (fun y es h0 => by rw [h0] at h4; exact Nat.eq_of_beq_eq_true h4) h
        have kret : ∀ (p : Program) (e : Env) (s : State) (m : MethodId) (args : Array Value) (below : List Frame) (meth : Method) (c : Code) (Q : State → Prop) (ad0 : zR → Nat) (pc : Nat) (lv : zL), ((∀ x, x ∈ w' → kc_ok w'.length x) → kX p s m meth c D cA adT S0 A M.1.cls M.1.name M.2.1 M.2.2.1 → ∀ (ad : zR → Nat) (ls : Array Slot) (H : Heap) (locs : List Loc), (∀ r : zR, r.1 ≠ 8 → ad r = adT r) → (∀ r, kr_ok w.length r → ad r = ad0 r) → va_P D vwCl (k_ws cA ad w') H → va_D A (k_ws cA ad w') → va_S A s.heap H locs → W p l e (krm (d + 1) (w'.length - w.length) (n_sl w' - n_sl w)) s m args below meth c H locs (w'.length - w.length) (n_sl w' - n_sl w) Q (F0 m pc ls [])) → kJ2 p l e (krm (d + 1) (w'.length - w.length) (n_sl w' - n_sl w)) s m args below meth c Q D cA adT S0 A M.1.cls M.1.name M.2.1 M.2.2.1 ad0 w w' w' pc lv [] := fun p e s m args below meth c Q ad0 pc lv hW =>
          ⟨⟨Nat.le_refl _, Nat.le_refl _⟩, fun hwf => ⟨hwf.2.2.1, fun X ad ls H locs ha h0 hl hP hD hS => hW hwf.2.2.1 X ad ls H locs ha h0 hP hD hS⟩⟩
        have pure := key p0 e0 s0 m0 #[] [] meth0 c0 (fun _ => True) adT (fun pc lv hdec => kret _ _ _ _ _ _ _ _ _ _ _ _ (fun hwf X ad ls H locs ha h0 hP hD hS => by
          intro T hT Y
          exact ⟨_, Steps.refl _, trivial⟩))
        have hpu := fun hwf hargs => (pure.2 ⟨Nat.le_refl _, Nat.le_refl _, hwf, fun v hv => absurd hv List.not_mem_nil, kv_initmem hargs⟩).1
        refine ⟨⟨pure.1.1, pure.1.2⟩, fun hwf hargs => ⟨hpu hwf (fun v hv => (hargs v hv).1), fun ad ha => ?_⟩⟩
        have hnw : ∀ v, v ∈ av → zl_wide (some v) = false := fun v h => (hargs v h).2
        obtain ⟨hz1, hz2, hz3, hz4, hz5, hz6⟩ := hMok
        refine Met.ofW (cc := M.2.1) (maxL := M.2.2.1) (ret := none) hz6 (show [zM_word M] = _ :: [] by unfold zM_word; rw [hz3]) ?_
        intro p e s m args below meth c s₁ B hml hPc
        obtain ⟨ha9, hP, hD, hK, hF, hAsz, hO1, hO2⟩ := hPc
        have X : kX p s m meth c D cA adT S0 A M.1.cls M.1.name M.2.1 M.2.2.1 := ⟨B.exec, B.bytes, hml, findClass_of_methodNamed B.named, hK, hF, hAsz, (name_of_methodNamed B.named B.method).1, hO1, hO2⟩
        have hb := (key p e s m args below meth c (MQ below (kQc D cA adT A ad w w') args s (w'.length - w.length) (n_sl w' - n_sl w) A) ad (fun pc lv hdec => kret _ _ _ _ _ _ _ _ _ _ _ _ (fun _ X2 ad2 ls H locs ha2 h02 hP2 hD2 hS2 => W.vret X2.1 X2.2.1 B.returns (fun t ht hW => ⟨⟨ad2, rfl, ⟨ha2, h02⟩, by rw [ht]; exact hP2, hD2⟩, hS2.F ht⟩) hS2.2.2 hdec B.notSynchronized))).2 ⟨Nat.le_refl _, Nat.le_refl _, hwf, fun v hv => absurd hv List.not_mem_nil, kv_initmem (fun v hv => (hargs v hv).1)⟩
        rw [ha9, lg_entry_eq]
        have hle := lv_entry (av.map (zc ad)) (n := M.2.2.1) (by rw [zl_sllen av hnw]; omega)
        generalize (lg_sl (av.map (zc ad)) ++ List.replicate (M.2.2.1 - (lg_sl (av.map (zc ad))).length) Slot.unset).toArray = ls at hle ⊢
        have h9 := hb.2 X ad ls s.heap [] ha (fun r hr => rfl) (lv_mono hle (fun q hq => zl_args av 0 _ hnw q hq)) hP hD va_S.rf
        rw [Nat.sub_self, Nat.sub_self, ha9] at h9
        exact h9
    · cases h

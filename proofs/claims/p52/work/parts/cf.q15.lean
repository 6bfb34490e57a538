/-! THE LAW'S LEVEL 15: blocks, runs, methods -/
def qk_e (own nm : String) (cc : ByteArray) (nL : Nat) (ret : Option FieldType) (rk : Nat) (x : zE) : Bool := decide (decode cc x.2.1 = .ok (x.2.2.1, x.2.2.2.1)) && qk_i own nm nL ret rk x.2.1 x.2.2.1 x.2.2.2.1 x.2.2.2.2.1.1 x.2.2.2.2.1.2.1 x.2.2.2.2.1.2.2.1 x.2.2.2.2.1.2.2.2.1 x.2.2.2.2.1.2.2.2.2 x.2.2.2.2.2.1
def qk_seq : List zE → Bool
  | [] => true
  | x :: l => (match l with
    | [] => true
    | y :: _ => !qt_falls x.2.2.1 x.2.2.2.2.1.1 x.2.2.2.2.1.2.2.1 || Nat.beq (x.2.1 + x.2.2.2.1) y.2.1) && qk_seq l
theorem qx_at_ok (pc : Nat) : ∀ cd : List zE, qk_seq cd = true → (∀ y, y ∈ zx_at cd pc → y ∈ cd) ∧ qk_seq (zx_at cd pc) = true ∧ ∀ y es2, zx_at cd pc = y :: es2 → y.2.1 = pc := by
  intro cd
  induction cd with
  | nil => exact fun _ => ⟨fun y h => h, rfl, fun y es2 h => nomatch h⟩
  | cons x cd ih =>
    intro h
    unfold zx_at
    split
    · rename_i hb
      exact ⟨fun y h => h, h, fun y es2 h => by cases h; exact Nat.eq_of_beq_eq_true hb⟩
    · have h2 : qk_seq cd = true := by
        unfold qk_seq at h
        rw [Bool.and_eq_true] at h
        exact h.2
      obtain ⟨i1, i2, i3⟩ := ih h2
      exact ⟨fun y h => List.mem_cons_of_mem _ (i1 y h), i2, i3⟩
abbrev qx_stp (Γ : Nat → List zV → qS → Option qO) (Z : Nat → List zV → zS → Option zO) (rk : Nat) (nx : zL → List zV → qS → Option qO) (jp : Nat → zL → List zV → qS → Option qO) (x : zE) (lv : zL) (st : List zV) (T : qS) : Option qO := qx_step Γ Z rk nx jp x.2.2.1 x.2.2.2.2.1.1 x.2.2.2.2.1.2.1 x.2.2.2.2.1.2.2.1 x.2.2.2.2.1.2.2.2.2 x.2.2.2.2.2.1 lv st T
section QT
variable {p : Program} {l : Launch} {e : Env} {R : Room} {s : State} {m : MethodId} {args : Array Value} {below : List Frame} {meth : Method} {c : Code} {Q : State → Prop} {G : zG} {T0 : qS} {A : Nat → Prop} {aq0 : Nat → Nat} {own nm : String} {cc : ByteArray} {nL : Nat} {ret : Option FieldType} {cF sF o1 o2 : Nat} {T : qS} {pc : Nat} {lv : zL} {st : List zV}
variable {d : Nat} {out : qO} {Γ : Nat → List zV → qS → Option qO} {Z : Nat → List zV → zS → Option zO}
theorem qJ2_keep {mm : List Bool} (h : qJ2 p l e R s m args below meth c Q G T0 A aq0 nL cF sF o1 o2 T pc (zl_keep mm lv) st) : qJ2 p l e R s m args below meth c Q G T0 A aq0 nL cF sF o1 o2 T pc lv st := by
  refine ⟨h.1, fun aq ls H locs ha hl hP hD hS h5 hs hv => h.2 aq ls H locs ha (lv_mono hl (fun q hq => ?_)) hP hD hS h5 hs (fun j v hj => hv j v (zl_getkeep _ _ _ _ hj))⟩
  obtain ⟨j, v, e1, e2⟩ := zl_mem0.mp hq
  exact zl_mem0.mpr ⟨j, v, e1, zl_getkeep _ _ _ _ e2⟩
/-- how a body ends -/
theorem qx_ret_step (X : qX p s m meth c G T0 A own nm cc nL ret) {i : Instr} {len a b c9 p9 rt rk : Nat} {k : Int32} (hi : zt_isret i = true) (hd : decode cc pc = .ok (i, len)) (hk : qk_i own nm nL ret rk pc i len a b c9 p9 rt k = true)
    {nx : zL → List zV → qS → Option qO} {jp : Nat → zL → List zV → qS → Option qO} (h : qx_step Γ Z rk nx jp i a b c9 rt k lv st T = some out) : qJ2 p l e R s m args below meth c (qQ below args s G A aq0 T0 out) G T0 A aq0 nL out.2.2.length (q_sl out.2.2) 0 0 T pc lv st := by
  cases i with
  | ireturn =>
    have hk : (decide (len = 1) && (match (generalizing := false) rk with
      | 1 => decide (ret = some .int)
      | 2 => decide (ret = some .boolean)
      | 6 => decide (ret = some .byte)
      | 7 => decide (ret = some .char)
      | _ => false)) = true := hk
    rw [Bool.and_eq_true] at hk
    obtain ⟨hk1, hk2⟩ := hk
    have e1 : len = 1 := of_decide_eq_true hk1
    subst e1
    have h : (match (generalizing := false) st with
      | .inl x :: [] => (match (generalizing := false) rk with
        | 1 => some (some (zi x), T)
        | 2 => if x &&& 1 = x then some (some (zi x), T) else none
        | 6 => if x.toInt8.toInt32 = x then some (some (zi x), T) else none
        | 7 => if x.toUInt32.toUInt16.toUInt32.toInt32 = x then some (some (zi x), T) else none
        | _ => none)
      | _ => none : Option qO) = some out := h
    split at h
    · split at h
      · have h := (Option.some.inj h).symm
        subst h
        exact qJ_iret X (of_decide_eq_true hk2) ⟨Nat.le_refl _, Nat.le_refl _⟩ hd
      · split at h
        · rename_i hx
          have h := (Option.some.inj h).symm
          subst h
          exact qJ_zret X (of_decide_eq_true hk2) hx ⟨Nat.le_refl _, Nat.le_refl _⟩ hd
        · exact nomatch h
      · split at h
        · rename_i hx
          have h := (Option.some.inj h).symm
          subst h
          exact qJ_bret X (of_decide_eq_true hk2) hx ⟨Nat.le_refl _, Nat.le_refl _⟩ hd
        · exact nomatch h
      · split at h
        · rename_i hx
          have h := (Option.some.inj h).symm
          subst h
          exact qJ_cret X (of_decide_eq_true hk2) hx ⟨Nat.le_refl _, Nat.le_refl _⟩ hd
        · exact nomatch h
      · exact nomatch h
    · exact nomatch h
  | areturn =>
    have hk : (decide (len = 1) && (match (generalizing := false) ret with
      | some (.object _) => true
      | some (.array _) => true
      | _ => false)) = true := hk
    rw [Bool.and_eq_true] at hk
    obtain ⟨hk1, hk2⟩ := hk
    have e1 : len = 1 := of_decide_eq_true hk1
    subst e1
    have h : (match (generalizing := false) st with
      | .inr (.inl (some r)) :: [] => some (some (.inr (.inl (some r))), T)
      | _ => none : Option qO) = some out := h
    split at h
    · have h := (Option.some.inj h).symm
      subst h
      split at hk2
      · exact qJ_aret X (Or.inl ⟨_, rfl⟩) ⟨Nat.le_refl _, Nat.le_refl _⟩ hd
      · exact qJ_aret X (Or.inr ⟨_, rfl⟩) ⟨Nat.le_refl _, Nat.le_refl _⟩ hd
      · exact nomatch hk2
    · exact nomatch h
  | return_ =>
    obtain ⟨e1, hr⟩ : len = 1 ∧ ret = none := of_decide_eq_true hk
    subst e1
    have h : (match (generalizing := false) st with
      | [] => some (none, T)
      | _ => none : Option qO) = some out := h
    split at h
    · have h := (Option.some.inj h).symm
      subst h
      exact qJ_vret X hr ⟨Nat.le_refl _, Nat.le_refl _⟩ hd
    · exact nomatch h
  | freturn => exact nomatch h
  | dreturn => exact nomatch h
  | _ => exact nomatch (show false = true from hi)
theorem qx_blk_ok (X : qX p s m meth c G T0 A own nm cc nL ret) (hR : qRm R T0 cF sF o1 o2) (hd0 : d + 4 ≤ R.frames ∧ 36 * d + 136 ≤ R.locals) (hΓ : qGam l d Γ) (hZ : zGam l d Z) (hZ2 : qGh Z) {cd : List zE} {rk : Nat} (hcd : ∀ x, x ∈ cd → qk_e own nm cc nL ret rk x = true) (hseq : qk_seq cd = true)
    {K : Nat → zL → List zV → qS → Option qO} (hK : ∀ pc lv st T, K pc lv st T = some out → qJ2 p l e R s m args below meth c Q G T0 A aq0 nL cF sF o1 o2 T pc lv st)
    (hret : ∀ x, x ∈ cd → zt_isret x.2.2.1 = true → ∀ nx jp lv st T, qx_stp Γ Z rk nx jp x lv st T = some out → qJ2 p l e R s m args below meth c Q G T0 A aq0 nL cF sF o1 o2 T x.2.1 lv st) :
    ∀ (n : Nat) (x : zE) (es : List zE), (∀ y, y ∈ x :: es → y ∈ cd) → qk_seq (x :: es) = true → ∀ lv st T, qx_blk Γ Z cd rk K n (x :: es) lv st T = some out → qJ2 p l e R s m args below meth c Q G T0 A aq0 nL cF sF o1 o2 T x.2.1 lv st := by
  intro n
  induction n with
  | zero => exact fun x es _ _ lv st T h => nomatch h
  | succ n ih =>
    intro x es hsub hsq lv st T h
    have hx := hcd x (hsub x List.mem_cons_self)
    unfold qk_e at hx
    rw [Bool.and_eq_true] at hx
    obtain ⟨h1, h2⟩ := hx
    have nxt : ∀ es' : List zE, (∀ y, y ∈ es' → y ∈ cd) → qk_seq es' = true → ∀ lv st T, qx_next (fun es lv st T => qx_blk Γ Z cd rk K n es lv st T) K es' lv st T = some out → ∃ y es2, es' = y :: es2 ∧ qJ2 p l e R s m args below meth c Q G T0 A aq0 nL cF sF o1 o2 T y.2.1 lv st := by
      intro es' hs' hq' lv st T h
      cases es' with
      | nil => exact nomatch h
      | cons y es2 =>
        refine ⟨y, es2, rfl, ?_⟩
        have h : (match (generalizing := false) y.1 with
          | none => qx_blk Γ Z cd rk K n (y :: es2) lv st T
          | some mm => K y.2.1 (zl_keep mm lv) st T) = some out := h
        split at h
        · exact ih y es2 hs' hq' lv st T h
        · exact qJ2_keep (hK _ _ _ _ h)
    have h : qx_stp Γ Z rk (fun lv st T => qx_next (fun es lv st T => qx_blk Γ Z cd rk K n es lv st T) K es lv st T) (fun pc lv st T => qx_next (fun es lv st T => qx_blk Γ Z cd rk K n es lv st T) K (zx_at cd pc) lv st T) x lv st T = some out := h
    have hsq2 : qk_seq es = true := by
      unfold qk_seq at hsq
      rw [Bool.and_eq_true] at hsq
      exact hsq.2
    cases hi : zt_isret x.2.2.1 with
    | true => exact hret x (hsub x List.mem_cons_self) hi _ _ lv st T h
    | false =>
      refine qx_step_ok X hR hd0 hΓ hZ hZ2 hi (of_decide_eq_true h1) h2 h (fun hf lv st T h => ?_) (fun t lv st T h => ?_)
      · obtain ⟨y, es2, e9, hJ⟩ := nxt es (fun y hy => hsub y (List.mem_cons_of_mem _ hy)) hsq2 lv st T h
        subst e9
        have h3 : (!qt_falls x.2.2.1 x.2.2.2.2.1.1 x.2.2.2.2.1.2.2.1 || Nat.beq (x.2.1 + x.2.2.2.1) y.2.1) = true := by
          unfold qk_seq at hsq
          rw [Bool.and_eq_true] at hsq
          exact hsq.1
        rw [hf] at h3
        have h3 : x.2.1 + x.2.2.2.1 = y.2.1 := Nat.eq_of_beq_eq_true h3
        rw [h3]
        exact hJ
      · obtain ⟨a1, a2, a3⟩ := qx_at_ok t cd hseq
        obtain ⟨y, es2, e9, hJ⟩ := nxt (zx_at cd t) a1 a2 lv st T h
        rw [← a3 y es2 e9]
        exact hJ
theorem qx_run_ok (X : qX p s m meth c G T0 A own nm cc nL ret) (hR : qRm R T0 cF sF o1 o2) (hd0 : d + 4 ≤ R.frames ∧ 36 * d + 136 ≤ R.locals) (hΓ : qGam l d Γ) (hZ : zGam l d Z) (hZ2 : qGh Z) {cd : List zE} {rk : Nat} (hcd : ∀ x, x ∈ cd → qk_e own nm cc nL ret rk x = true) (hseq : qk_seq cd = true)
    (hret : ∀ x, x ∈ cd → zt_isret x.2.2.1 = true → ∀ nx jp lv st T, qx_stp Γ Z rk nx jp x lv st T = some out → qJ2 p l e R s m args below meth c Q G T0 A aq0 nL cF sF o1 o2 T x.2.1 lv st) (N : Nat) :
    ∀ (n pc : Nat) (lv : zL) (st : List zV) (T : qS), qx_run Γ Z cd rk N n pc lv st T = some out → qJ2 p l e R s m args below meth c Q G T0 A aq0 nL cF sF o1 o2 T pc lv st := by
  intro n
  induction n with
  | zero => exact fun pc lv st T h => nomatch h
  | succ n ih =>
    intro pc lv st T h
    have h : qx_blk Γ Z cd rk (fun pc lv st T => qx_run Γ Z cd rk N n pc lv st T) N (zx_at cd pc) lv st T = some out := h
    obtain ⟨a1, a2, a3⟩ := qx_at_ok pc cd hseq
    cases hat : zx_at cd pc with
    | nil =>
      rw [hat] at h
      cases N with
      | zero => exact nomatch h
      | succ N => exact nomatch h
    | cons y es2 =>
      rw [hat] at h a1 a2
      rw [← a3 y es2 hat]
      exact qx_blk_ok X hR hd0 hΓ hZ hZ2 hcd hseq ih hret N y es2 a1 a2 lv st T h
end QT

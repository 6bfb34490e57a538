/-! THE PURE SIDE 76: how many exceptions are made (after part 17) -/
def xo (o : zO) : Nat := match o.1 with
  | .inl _ => 0
  | .inr _ => 1
/-- no call with a handler -/
def zg_iv (i : Instr) (a : Nat) (tb : List (Int × Nat)) : Bool := match i with
  | .invokevirtual _ => tb.isEmpty && decide (a < 297)
  | .invokestatic _ => decide (a < 297)
  | _ => true
theorem zg_put {f : Nat × Nat × Nat × Nat} {b : Nat} {r : zR} {v : zV} {S S1 : zS} (h : zf_put f b r v S = some S1) : S1.2.2.2 = S.2.2.2 := by
  unfold zf_put at h
  split at h
  · have h := Option.some.inj h; subst h; rfl
  · split at h
    · have h := Option.some.inj h; subst h; rfl
    · exact nomatch h
  · have h := Option.some.inj h; subst h; rfl
  · split at h
    · exact nomatch h
    · have h := Option.some.inj h; subst h; rfl
  · exact nomatch h
theorem zg_st {Q : Nat → Prop} {r : zR} {i x : Int32} {S : zS} {nx : zS → Option zO} {out : zO} (h : za_st r i x S nx = some out) (k : ∀ S', nx S' = some out → Q S'.2.2.2) : Q S.2.2.2 := by
  unfold za_st at h
  split at h
  · have q := k _ (za_inx_ok h).2.2
    exact q
  · exact nomatch h
theorem zg_lib {Q : Nat → Prop} {b : Nat} {st : List zV} {S : zS} {nx : List zV → zS → Option zO} {out : zO} (h : zx_lib b st S nx = some out) (k : ∀ st S', nx st S' = some out → Q S'.2.2.2) : Q S.2.2.2 := by
  unfold zx_lib at h
  obtain ⟨-, h⟩ := zx_if_ok h
  split at h
  · exact k _ _ h
  · exact k _ _ h
  · exact k _ _ h
  · unfold za_copy at h
    split at h
    · split at h
      · have q := k _ _ h
        exact q
      · exact nomatch h
    · exact nomatch h
  · obtain ⟨-, h⟩ := zx_if_ok h
    exact k _ _ (za_inx_ok h).2.2
  · exact nomatch h
set_option maxHeartbeats 4000000 in
theorem zg_step {Γ : Nat → List zV → zS → Option zO} (hΓ : ∀ (mi : Nat) (av : List zV) (S : zS) (o : zO), mi < 297 → Γ mi av S = some o → o.2.2.2.2 ≤ S.2.2.2 + xo o) {i : Instr} {a b c9 rt rk : Nat} {k : Int32} {tb : List (Int × Nat)} {lv : zL} {st : List zV} {S : zS} {out : zO}
    {nx : zL → List zV → zS → Option zO} {jp : Nat → zL → List zV → zS → Option zO} (h : zx_step Γ rk nx jp i a b c9 rt k tb lv st S = some out) (kn : ∀ lv st S, nx lv st S = some out → out.2.2.2.2 ≤ S.2.2.2 + xo out) (kj : ∀ t lv st S, jp t lv st S = some out → out.2.2.2.2 ≤ S.2.2.2 + xo out) (htb : zg_iv i a tb = true) : out.2.2.2.2 ≤ S.2.2.2 + xo out := by
  cases i with
  | iload_n j =>
    have h : (match (generalizing := false) zl_get lv j.val with
    | some (.inl x) => nx lv (zi x :: st) S
    | _ => none) = some out := h
    split at h
    · exact kn _ _ _ h
    · exact nomatch h
  | iload j =>
    have h : (match (generalizing := false) zl_get lv j with
    | some (.inl x) => nx lv (zi x :: st) S
    | _ => none) = some out := h
    split at h
    · exact kn _ _ _ h
    · exact nomatch h
  | aload_n j =>
    have h : (match (generalizing := false) zl_get lv j.val with
    | some (.inr (.inl (some r))) => nx lv (.inr (.inl (some r)) :: st) S
    | some (.inr (.inl none)) => nx lv (zn :: st) S
    | _ => none) = some out := h
    split at h
    · exact kn _ _ _ h
    · exact kn _ _ _ h
    · exact nomatch h
  | aload j =>
    have h : (match (generalizing := false) zl_get lv j with
    | some (.inr (.inl (some r))) => nx lv (.inr (.inl (some r)) :: st) S
    | _ => none) = some out := h
    split at h
    · exact kn _ _ _ h
    · exact nomatch h
  | fload_n j =>
    have h : (match (generalizing := false) zl_get lv j.val with
    | some (.inr (.inr (.inl x))) => nx lv (zf x :: st) S
    | _ => none) = some out := h
    split at h
    · exact kn _ _ _ h
    · exact nomatch h
  | fload j =>
    have h : (match (generalizing := false) zl_get lv j with
    | some (.inr (.inr (.inl x))) => nx lv (zf x :: st) S
    | _ => none) = some out := h
    split at h
    · exact kn _ _ _ h
    · exact nomatch h
  | dload j =>
    have h : (match (generalizing := false) zl_get lv j with
    | some (.inr (.inr (.inr (.inr x)))) => nx lv (zd x :: st) S
    | _ => none) = some out := h
    split at h
    · exact kn _ _ _ h
    · exact nomatch h
  | istore_n j =>
    have h : (match (generalizing := false) st with
    | .inl x :: st => nx (zl_set lv j.val (some (zi x))) st S
    | _ => none) = some out := h
    split at h
    · exact kn _ _ _ h
    · exact nomatch h
  | istore j =>
    have h : (match (generalizing := false) st with
    | .inl x :: st => nx (zl_set lv j (some (zi x))) st S
    | _ => none) = some out := h
    split at h
    · exact kn _ _ _ h
    · exact nomatch h
  | astore_n j =>
    have h : (match (generalizing := false) st with
    | .inr (.inl (some r)) :: st => nx (zl_set lv j.val (some (.inr (.inl (some r))))) st S
    | .inr (.inl none) :: st => nx (zl_set lv j.val (some zn)) st S
    | _ => none) = some out := h
    split at h
    · exact kn _ _ _ h
    · exact kn _ _ _ h
    · exact nomatch h
  | astore j =>
    have h : (match (generalizing := false) st with
    | .inr (.inl (some r)) :: st => nx (zl_set lv j (some (.inr (.inl (some r))))) st S
    | _ => none) = some out := h
    split at h
    · exact kn _ _ _ h
    · exact nomatch h
  | fstore_n j =>
    have h : (match (generalizing := false) st with
    | .inr (.inr (.inl x)) :: st => nx (zl_set lv j.val (some (zf x))) st S
    | _ => none) = some out := h
    split at h
    · exact kn _ _ _ h
    · exact nomatch h
  | fstore j =>
    have h : (match (generalizing := false) st with
    | .inr (.inr (.inl x)) :: st => nx (zl_set lv j (some (zf x))) st S
    | _ => none) = some out := h
    split at h
    · exact kn _ _ _ h
    · exact nomatch h
  | dstore j =>
    have h : (match (generalizing := false) st with
    | .inr (.inr (.inr (.inr x))) :: st => nx (zl_clr (zl_set lv j (some (zd x))) (j + 1)) st S
    | _ => none) = some out := h
    split at h
    · exact kn _ _ _ h
    · exact nomatch h
  | iinc j n =>
    have h : (match (generalizing := false) zl_get lv j with
    | some (.inl x) => nx (zl_set lv j (some (zi (x + k)))) st S
    | _ => none) = some out := h
    split at h
    · exact kn _ _ _ h
    · exact nomatch h
  | iconst n =>
    have h : (nx lv (zi k :: st) S) = some out := h
    exact kn _ _ _ h
  | bipush n =>
    have h : (nx lv (zi k :: st) S) = some out := h
    exact kn _ _ _ h
  | sipush n =>
    have h : (nx lv (zi k :: st) S) = some out := h
    exact kn _ _ _ h
  | ldc ix =>
    have h : (match (generalizing := false) a with
    | 0 => nx lv (zi k :: st) S
    | _ => nx lv (za 6 b 0 :: st) S) = some out := h
    cases a with
    | zero => exact kn _ _ _ h
    | succ a => exact kn _ _ _ h
  | ldc_w ix =>
    have h : (match (generalizing := false) a with
    | 0 => nx lv (zi k :: st) S
    | _ => nx lv (za 6 b 0 :: st) S) = some out := h
    cases a with
    | zero => exact kn _ _ _ h
    | succ a => exact kn _ _ _ h
  | aconst_null =>
    have h : (nx lv (zn :: st) S) = some out := h
    exact kn _ _ _ h
  | fconst j =>
    have h : (match (generalizing := false) j.val with
    | 0 => nx lv (zf FP.fconst0 :: st) S
    | _ => none) = some out := h
    obtain ⟨v, hv⟩ := j
    cases v with
    | zero => exact kn _ _ _ h
    | succ v => exact nomatch h
  | dconst j =>
    have h : (match (generalizing := false) j.val with
    | 0 => nx lv (zd FP.dconst0 :: st) S
    | _ => none) = some out := h
    obtain ⟨v, hv⟩ := j
    cases v with
    | zero => exact kn _ _ _ h
    | succ v => exact nomatch h
  | dup =>
    have h : (match (generalizing := false) st with
    | .inl x :: st => nx lv (zi x :: zi x :: st) S
    | .inr (.inl (some r)) :: st => nx lv (.inr (.inl (some r)) :: .inr (.inl (some r)) :: st) S
    | _ => none) = some out := h
    split at h
    · exact kn _ _ _ h
    · exact kn _ _ _ h
    · exact nomatch h
  | dup2 =>
    have h : (match (generalizing := false) st with
    | .inl x :: .inr (.inl (some r)) :: st => nx lv (zi x :: .inr (.inl (some r)) :: zi x :: .inr (.inl (some r)) :: st) S
    | _ => none) = some out := h
    split at h
    · exact kn _ _ _ h
    · exact nomatch h
  | iadd =>
    have h : (match (generalizing := false) st with
    | .inl y :: .inl x :: st => nx lv (zi (x + y) :: st) S
    | _ => none) = some out := h
    split at h
    · exact kn _ _ _ h
    · exact nomatch h
  | isub =>
    have h : (match (generalizing := false) st with
    | .inl y :: .inl x :: st => nx lv (zi (x - y) :: st) S
    | _ => none) = some out := h
    split at h
    · exact kn _ _ _ h
    · exact nomatch h
  | imul =>
    have h : (match (generalizing := false) st with
    | .inl y :: .inl x :: st => nx lv (zi (x * y) :: st) S
    | _ => none) = some out := h
    split at h
    · exact kn _ _ _ h
    · exact nomatch h
  | idiv =>
    have h : (match (generalizing := false) st with
    | .inl y :: .inl x :: st => if y = 0 then none else nx lv (zi (x / y) :: st) S
    | _ => none) = some out := h
    split at h
    · split at h
      · exact nomatch h
      · exact kn _ _ _ h
    · exact nomatch h
  | irem =>
    have h : (match (generalizing := false) st with
    | .inl y :: .inl x :: st => if y = 0 then none else nx lv (zi (x - x / y * y) :: st) S
    | _ => none) = some out := h
    split at h
    · split at h
      · exact nomatch h
      · exact kn _ _ _ h
    · exact nomatch h
  | ineg =>
    have h : (match (generalizing := false) st with
    | .inl x :: st => nx lv (zi (-x) :: st) S
    | _ => none) = some out := h
    split at h
    · exact kn _ _ _ h
    · exact nomatch h
  | iand =>
    have h : (match (generalizing := false) st with
    | .inl y :: .inl x :: st => nx lv (zi (x &&& y) :: st) S
    | _ => none) = some out := h
    split at h
    · exact kn _ _ _ h
    · exact nomatch h
  | ior =>
    have h : (match (generalizing := false) st with
    | .inl y :: .inl x :: st => nx lv (zi (x ||| y) :: st) S
    | _ => none) = some out := h
    split at h
    · exact kn _ _ _ h
    · exact nomatch h
  | ixor =>
    have h : (match (generalizing := false) st with
    | .inl y :: .inl x :: st => nx lv (zi (x ^^^ y) :: st) S
    | _ => none) = some out := h
    split at h
    · exact kn _ _ _ h
    · exact nomatch h
  | ishl =>
    have h : (match (generalizing := false) st with
    | .inl y :: .inl x :: st => nx lv (zi (x <<< (y &&& 31)) :: st) S
    | _ => none) = some out := h
    split at h
    · exact kn _ _ _ h
    · exact nomatch h
  | ishr =>
    have h : (match (generalizing := false) st with
    | .inl y :: .inl x :: st => nx lv (zi (x >>> (y &&& 31)) :: st) S
    | _ => none) = some out := h
    split at h
    · exact kn _ _ _ h
    · exact nomatch h
  | iushr =>
    have h : (match (generalizing := false) st with
    | .inl y :: .inl x :: st => nx lv (zi (x.toUInt32 >>> (y.toUInt32 &&& Int32.toUInt32 31)).toInt32 :: st) S
    | _ => none) = some out := h
    split at h
    · exact kn _ _ _ h
    · exact nomatch h
  | i2l =>
    have h : (match (generalizing := false) st with
    | .inl x :: st => nx lv (zl x.toInt64 :: st) S
    | _ => none) = some out := h
    split at h
    · exact kn _ _ _ h
    · exact nomatch h
  | i2f =>
    have h : (match (generalizing := false) st with
    | .inl x :: st => nx lv (zf (FP.i2f x) :: st) S
    | _ => none) = some out := h
    split at h
    · exact kn _ _ _ h
    · exact nomatch h
  | i2d =>
    have h : (match (generalizing := false) st with
    | .inl x :: st => nx lv (zd (FP.i2d x) :: st) S
    | _ => none) = some out := h
    split at h
    · exact kn _ _ _ h
    · exact nomatch h
  | f2i =>
    have h : (match (generalizing := false) st with
    | .inr (.inr (.inl x)) :: st => nx lv (zi (FP.f2i x) :: st) S
    | _ => none) = some out := h
    split at h
    · exact kn _ _ _ h
    · exact nomatch h
  | f2d =>
    have h : (match (generalizing := false) st with
    | .inr (.inr (.inl x)) :: st => if FP.fIsNaN x = true then none else nx lv (zd (FP.f2d x) :: st) S
    | _ => none) = some out := h
    split at h
    · split at h
      · exact nomatch h
      · exact kn _ _ _ h
    · exact nomatch h
  | fadd =>
    have h : (match (generalizing := false) st with
    | .inr (.inr (.inl y)) :: .inr (.inr (.inl x)) :: st => if FP.fIsNaN (FP.fadd x y) = true then none else nx lv (zf (FP.fadd x y) :: st) S
    | _ => none) = some out := h
    split at h
    · split at h
      · exact nomatch h
      · exact kn _ _ _ h
    · exact nomatch h
  | fsub =>
    have h : (match (generalizing := false) st with
    | .inr (.inr (.inl y)) :: .inr (.inr (.inl x)) :: st => if FP.fIsNaN (FP.fsub x y) = true then none else nx lv (zf (FP.fsub x y) :: st) S
    | _ => none) = some out := h
    split at h
    · split at h
      · exact nomatch h
      · exact kn _ _ _ h
    · exact nomatch h
  | fmul =>
    have h : (match (generalizing := false) st with
    | .inr (.inr (.inl y)) :: .inr (.inr (.inl x)) :: st => if FP.fIsNaN (FP.fmul x y) = true then none else nx lv (zf (FP.fmul x y) :: st) S
    | _ => none) = some out := h
    split at h
    · split at h
      · exact nomatch h
      · exact kn _ _ _ h
    · exact nomatch h
  | fdiv =>
    have h : (match (generalizing := false) st with
    | .inr (.inr (.inl y)) :: .inr (.inr (.inl x)) :: st => if FP.fIsNaN (FP.fdiv x y) = true then none else nx lv (zf (FP.fdiv x y) :: st) S
    | _ => none) = some out := h
    split at h
    · split at h
      · exact nomatch h
      · exact kn _ _ _ h
    · exact nomatch h
  | ddiv =>
    have h : (match (generalizing := false) st with
    | .inr (.inr (.inr (.inr y))) :: .inr (.inr (.inr (.inr x))) :: st => if FP.dIsNaN (FP.ddiv x y) = true then none else nx lv (zd (FP.ddiv x y) :: st) S
    | _ => none) = some out := h
    split at h
    · split at h
      · exact nomatch h
      · exact kn _ _ _ h
    · exact nomatch h
  | fneg =>
    have h : (match (generalizing := false) st with
    | .inr (.inr (.inl x)) :: st => nx lv (zf (FP.fneg x) :: st) S
    | _ => none) = some out := h
    split at h
    · exact kn _ _ _ h
    · exact nomatch h
  | fcmp op =>
    have h : (match (generalizing := false) st with
    | .inr (.inr (.inl y)) :: .inr (.inr (.inl x)) :: st => nx lv (zi (Op.cmpValue (FP.fcmp x y) op) :: st) S
    | _ => none) = some out := h
    split at h
    · exact kn _ _ _ h
    · exact nomatch h
  | dcmp op =>
    have h : (match (generalizing := false) st with
    | .inr (.inr (.inr (.inr y))) :: .inr (.inr (.inr (.inr x))) :: st => nx lv (zi (Op.cmpValue (FP.dcmp x y) op) :: st) S
    | _ => none) = some out := h
    split at h
    · exact kn _ _ _ h
    · exact nomatch h
  | lcmp =>
    have h : (match (generalizing := false) st with
    | .inr (.inr (.inr (.inl y))) :: .inr (.inr (.inr (.inl x))) :: st => nx lv (zi (lg_cmp x y) :: st) S
    | _ => none) = some out := h
    split at h
    · exact kn _ _ _ h
    · exact nomatch h
  | ifCond cc0 off =>
    have h : (match (generalizing := false) st with
    | .inl x :: st => zx_cond cc0 x 0 (jp a lv st S) (nx lv st S)
    | _ => none) = some out := h
    split at h
    · exact zm_cond h (fun h => kj _ _ _ _ h) (fun h => kn _ _ _ h)
    · exact nomatch h
  | if_icmp cc0 off =>
    have h : (match (generalizing := false) st with
    | .inl y :: .inl x :: st => zx_cond cc0 x y (jp a lv st S) (nx lv st S)
    | _ => none) = some out := h
    split at h
    · exact zm_cond h (fun h => kj _ _ _ _ h) (fun h => kn _ _ _ h)
    · exact nomatch h
  | ifnonnull off =>
    have h : (match (generalizing := false) st with
    | .inr (.inl (some _)) :: st => jp a lv st S
    | .inr (.inl none) :: st => nx lv st S
    | _ => none) = some out := h
    split at h
    · exact kj _ _ _ _ h
    · exact kn _ _ _ h
    · exact nomatch h
  | goto off =>
    have h : (jp a lv st S) = some out := h
    exact kj _ _ _ _ h
  | tableswitch dflt lo hi offs =>
    have h : (match (generalizing := false) st with
    | .inl x :: st => zx_sw x (fun t => jp t lv st S) tb a
    | _ => none) = some out := h
    split at h
    · exact zm_sw _ _ h (fun t h => kj _ _ _ _ h)
    · exact nomatch h
  | lookupswitch dflt ps =>
    have h : (match (generalizing := false) st with
    | .inl x :: st => zx_sw x (fun t => jp t lv st S) tb a
    | _ => none) = some out := h
    split at h
    · exact zm_sw _ _ h (fun t h => kj _ _ _ _ h)
    · exact nomatch h
  | getfield ix =>
    have h : (match (generalizing := false) c9 with
   | 2 => match (generalizing := false) st with
    | .inr (.inl (some (6, t, 0))) :: st => match (generalizing := false) b with
      | 0 => nx lv (za 7 t 0 :: st) S
      | _ => nx lv (zi 0 :: st) S
    | _ => none
   | _ => match (generalizing := false) st with
    | .inr (.inl (some r)) :: st => zx_if (zx_is r a) ((zf_of a b).bind (fun f => zf_get f b r S (fun v => nx lv (v :: st) S)))
    | _ => none) = some out := h
    split at h
    · split at h
      · split at h
        · exact kn _ _ _ h
        · exact kn _ _ _ h
      · exact nomatch h
    · split at h
      · obtain ⟨-, h⟩ := zx_if_ok h
        obtain ⟨f, -, h⟩ := Option.bind_eq_some_iff.mp h
        exact zm_get h (fun v h => kn _ _ _ h)
      · exact nomatch h
  | putfield ix =>
    have h : (match (generalizing := false) st with
    | v :: .inr (.inl (some r)) :: st => zx_if (zx_is r a) ((zf_of a b).bind (fun f => (zf_put f b r v S).bind (fun S' => nx lv st S')))
    | _ => none) = some out := h
    split at h
    · obtain ⟨-, h⟩ := zx_if_ok h
      obtain ⟨f, -, h⟩ := Option.bind_eq_some_iff.mp h
      obtain ⟨S1, hS, h⟩ := Option.bind_eq_some_iff.mp h
      have e := zg_put hS
      have := kn _ _ _ h
      omega
    · exact nomatch h
  | arraylength =>
    have h : (match (generalizing := false) st with
    | .inr (.inl (some r)) :: st => za_len r S (fun x => nx lv (zi x :: st) S)
    | _ => none) = some out := h
    split at h
    · exact zm_len h (fun x h => kn _ _ _ h)
    · exact nomatch h
  | iaload =>
    have h : (match (generalizing := false) st with
    | .inl j :: .inr (.inl (some r)) :: st => za_ld r j S (fun x => nx lv (zi x :: st) S)
    | _ => none) = some out := h
    split at h
    · exact zm_ld h (fun x h => kn _ _ _ h)
    · exact nomatch h
  | iastore =>
    have h : (match (generalizing := false) st with
    | .inl x :: .inl j :: .inr (.inl (some r)) :: st => za_st r j x S (fun S' => nx lv st S')
    | _ => none) = some out := h
    split at h
    · exact zg_st (Q := fun n => out.2.2.2.2 ≤ n + xo out) h (fun S h => kn _ _ _ h)
    · exact nomatch h
  | baload =>
    have h : (match (generalizing := false) st with
    | .inl j :: .inr (.inl (some (7, t, 0))) :: st => (zx_nth zt_texts t).bind (fun w => za_in j (Int32.ofNat w.length) ((zx_nth w j.toNatClampNeg).bind (fun x => nx lv (zi x :: st) S)))
    | _ => none) = some out := h
    split at h
    · obtain ⟨w, hw, h⟩ := Option.bind_eq_some_iff.mp h
      obtain ⟨h0, h1, h⟩ := za_inx_ok h
      obtain ⟨x, hx, h⟩ := Option.bind_eq_some_iff.mp h
      exact kn _ _ _ h
    · exact nomatch h
  | getstatic ix =>
    have h : (nx lv (zi 1 :: st) S) = some out := h
    exact kn _ _ _ h
  | i2c =>
    have h : (match (generalizing := false) st with
    | .inl x :: st => nx lv (zi (x.toUInt32 % 65536).toInt32 :: st) S
    | _ => none) = some out := h
    split at h
    · exact kn _ _ _ h
    · exact nomatch h
  | aaload =>
    have h : (match (generalizing := false) st with
    | .inl j :: .inr (.inl (some r)) :: st => za_ldr r j (fun v => nx lv (v :: st) S)
    | _ => none) = some out := h
    split at h
    · exact zm_ldr h (fun x h => kn _ _ _ h)
    · exact nomatch h
  | laload =>
    have h : (match (generalizing := false) st with
    | .inl j :: .inr (.inl (some (4, 0, 0))) :: st => if j = 0 then nx lv (zl S.2.1 :: st) S else none
    | _ => none) = some out := h
    split at h
    · split at h
      · have q := kn _ _ _ h
        exact q
      · exact nomatch h
    · exact nomatch h
  | lastore =>
    have h : (match (generalizing := false) st with
    | .inr (.inr (.inr (.inl x))) :: .inl j :: .inr (.inl (some (4, 0, 0))) :: st => if j = 0 then nx lv st (S.1, x, S.2.2) else none
    | _ => none) = some out := h
    split at h
    · split at h
      · have q := kn _ _ _ h
        exact q
      · exact nomatch h
    · exact nomatch h
  | daload =>
    have h : (match (generalizing := false) st with
    | .inl j :: .inr (.inl (some (4, 0, 1))) :: st => if j = 0 then nx lv (zd S.2.2.1 :: st) S else none
    | _ => none) = some out := h
    split at h
    · split at h
      · have q := kn _ _ _ h
        exact q
      · exact nomatch h
    · exact nomatch h
  | dastore =>
    have h : (match (generalizing := false) st with
    | .inr (.inr (.inr (.inr x))) :: .inl j :: .inr (.inl (some (4, 0, 1))) :: st => if j = 0 then nx lv st (S.1, S.2.1, x, S.2.2.2) else none
    | _ => none) = some out := h
    split at h
    · split at h
      · have q := kn _ _ _ h
        exact q
      · exact nomatch h
    · exact nomatch h
  | new ix =>
    have h : (match (generalizing := false) a, st with
    | 1, [] => some (.inr b, S.1, S.2.1, S.2.2.1, S.2.2.2 + 1)
    | _, _ => none) = some out := h
    split at h
    · have h := Option.some.inj h
      subst h
      exact Nat.le_refl _
    · exact nomatch h
  | invokevirtual ix =>
    have h : (match (generalizing := false) c9 with
    | 99 => zx_lib a st S (fun st S => nx lv st S)
    | 98 => none
    | _ => (zx_pop b [] st).bind (fun q => zx_if (Nat.ble (zx_wd q.2) 8) (match (generalizing := false) q.1 with
      | .inr (.inl (some r)) :: _ => zx_if (zx_rc r c9) (zx_ret rt (Γ a q.1 S) q.2 (fun st S => nx lv st S) (fun e S => match (generalizing := false) tb with
        | [] => some (.inr e, S)
        | _ :: _ => (zx_find tb (Int.ofNat e)).bind (fun t => (zx_find tb (-1)).bind (fun j => jp t (zl_set lv j none) [] S))))
      | _ => none))) = some out := h
    split at h
    · exact zg_lib (Q := fun n => out.2.2.2.2 ≤ n + xo out) h (fun st S h => kn _ _ _ h)
    · exact nomatch h
    · obtain ⟨q, hq, h⟩ := Option.bind_eq_some_iff.mp h
      obtain ⟨-, h⟩ := zx_if_ok h
      split at h
      · obtain ⟨-, h⟩ := zx_if_ok h
        obtain ⟨o, ho, hn, hx⟩ := zx_ret_ok h
        have ha : a < 297 := of_decide_eq_true (Bool.and_eq_true_iff.mp (show (tb.isEmpty && decide (a < 297)) = true from htb)).2
        have hG := hΓ _ _ _ _ ha ho
        cases ho1 : o.1 with
        | inl v =>
          have := kn _ _ _ (hn v ho1)
          have e : xo o = 0 := by unfold xo; rw [ho1]
          omega
        | inr x =>
          have hx := hx x ho1
          cases tb with
          | nil =>
            have hx := (Option.some.inj hx)
            subst hx
            have e : xo o = 1 := by unfold xo; rw [ho1]
            rw [e] at hG
            exact hG
          | cons t0 tb => exact nomatch (show false = true from htb)
      · exact nomatch h
  | invokestatic ix =>
    have h : (match (generalizing := false) c9 with
    | 99 => zx_lib a st S (fun st S => nx lv st S)
    | 98 => none
    | _ => (zx_pop b [] st).bind (fun q => zx_if (Nat.ble (zx_wd q.2) 8) (zx_ret rt (Γ a q.1 S) q.2 (fun st S => nx lv st S) (fun e S => some (.inr e, S))))) = some out := h
    split at h
    · exact zg_lib (Q := fun n => out.2.2.2.2 ≤ n + xo out) h (fun st S h => kn _ _ _ h)
    · exact nomatch h
    · obtain ⟨q, hq, h⟩ := Option.bind_eq_some_iff.mp h
      obtain ⟨-, h⟩ := zx_if_ok h
      obtain ⟨o, ho, hn, hx⟩ := zx_ret_ok h
      have ha : a < 297 := of_decide_eq_true (show decide (a < 297) = true from htb)
      have hG := hΓ _ _ _ _ ha ho
      cases ho1 : o.1 with
      | inl v =>
        have := kn _ _ _ (hn v ho1)
        have e : xo o = 0 := by unfold xo; rw [ho1]
        omega
      | inr x =>
        have hx := Option.some.inj (hx x ho1)
        subst hx
        have e : xo o = 1 := by unfold xo; rw [ho1]
        rw [e] at hG
        exact hG
  | ireturn =>
    have h : (match (generalizing := false) st with
    | .inl x :: [] => match (generalizing := false) rk with
      | 1 => some (.inl (some (zi x)), S)
      | 2 => if x &&& 1 = x then some (.inl (some (zi x)), S) else none
      | 6 => if x.toInt8.toInt32 = x then some (.inl (some (zi x)), S) else none
      | 7 => if x.toUInt32.toUInt16.toUInt32.toInt32 = x then some (.inl (some (zi x)), S) else none
      | _ => none
    | _ => none) = some out := h
    split at h
    · split at h
      · have h := Option.some.inj h
        subst h
        exact Nat.le_refl _
      · split at h
        · have h := Option.some.inj h
          subst h
          exact Nat.le_refl _
        · exact nomatch h
      · split at h
        · have h := Option.some.inj h
          subst h
          exact Nat.le_refl _
        · exact nomatch h
      · split at h
        · have h := Option.some.inj h
          subst h
          exact Nat.le_refl _
        · exact nomatch h
      · exact nomatch h
    · exact nomatch h
  | freturn =>
    have h : (match (generalizing := false) st with
    | .inr (.inr (.inl x)) :: [] => some (.inl (some (zf x)), S)
    | _ => none) = some out := h
    split at h
    · have h := Option.some.inj h
      subst h
      exact Nat.le_refl _
    · exact nomatch h
  | dreturn =>
    have h : (match (generalizing := false) st with
    | .inr (.inr (.inr (.inr x))) :: [] => some (.inl (some (zd x)), S)
    | _ => none) = some out := h
    split at h
    · have h := Option.some.inj h
      subst h
      exact Nat.le_refl _
    · exact nomatch h
  | areturn =>
    have h : (match (generalizing := false) st with
    | .inr (.inl r) :: [] => some (.inl (some (.inr (.inl r))), S)
    | _ => none) = some out := h
    split at h
    · have h := Option.some.inj h
      subst h
      exact Nat.le_refl _
    · exact nomatch h
  | return_ =>
    have h : (match (generalizing := false) st with
    | [] => some (.inl none, S)
    | _ => none) = some out := h
    split at h
    · have h := Option.some.inj h
      subst h
      exact Nat.le_refl _
    · exact nomatch h
  | _ => exact nomatch (show (none : Option zO) = some out from h)
def zg_cd (cd : List zE) : Bool := cd.all (fun x => zg_iv x.2.2.1 x.2.2.2.2.1.1 x.2.2.2.2.2.2)
theorem zg_at : ∀ (cd : List zE) (pc : Nat), ∀ x ∈ zx_at cd pc, x ∈ cd := by
  intro cd
  induction cd with
  | nil => intro pc x h; exact nomatch h
  | cons y es ih =>
    intro pc x h
    unfold zx_at at h
    split at h
    · exact h
    · exact List.mem_cons_of_mem _ (ih pc x h)
theorem zg_blk {Γ : Nat → List zV → zS → Option zO} (hΓ : ∀ (mi : Nat) (av : List zV) (S : zS) (o : zO), mi < 297 → Γ mi av S = some o → o.2.2.2.2 ≤ S.2.2.2 + xo o) {cd : List zE} (hcd : zg_cd cd = true) {rk : Nat} {out : zO} {K : Nat → zL → List zV → zS → Option zO} (hK : ∀ pc lv st S, K pc lv st S = some out → out.2.2.2.2 ≤ S.2.2.2 + xo out) :
    ∀ (n : Nat) (es : List zE) (lv : zL) (st : List zV) (S : zS), (∀ x ∈ es, x ∈ cd) → zx_blk Γ cd rk K n es lv st S = some out → out.2.2.2.2 ≤ S.2.2.2 + xo out := by
  intro n
  induction n with
  | zero => exact fun es lv st S _ h => nomatch h
  | succ n ih =>
    intro es lv st S hes h
    cases es with
    | nil => exact nomatch h
    | cons x es =>
      have nxt : ∀ es' : List zE, (∀ x ∈ es', x ∈ cd) → ∀ lv st S, zx_next (fun es lv st S => zx_blk Γ cd rk K n es lv st S) K es' lv st S = some out → out.2.2.2.2 ≤ S.2.2.2 + xo out := by
        intro es' he lv st S h
        cases es' with
        | nil => exact nomatch h
        | cons y es2 =>
          have h : (match (generalizing := false) y.1 with
            | none => zx_blk Γ cd rk K n (y :: es2) lv st S
            | some mm => K y.2.1 (zl_keep mm lv) st S) = some out := h
          split at h
          · exact ih _ _ _ _ he h
          · exact hK _ _ _ _ h
      have h : zx_stp Γ rk (fun lv st S => zx_next (fun es lv st S => zx_blk Γ cd rk K n es lv st S) K es lv st S) (fun pc lv st S => zx_next (fun es lv st S => zx_blk Γ cd rk K n es lv st S) K (zx_at cd pc) lv st S) x lv st S = some out := h
      exact zg_step hΓ h (fun lv st S h => nxt _ (fun y hy => hes y (List.mem_cons_of_mem _ hy)) _ _ _ h) (fun t lv st S h => nxt _ (zg_at cd t) _ _ _ h) (List.all_eq_true.mp hcd x (hes x (List.mem_cons_self ..)))
theorem zg_run {Γ : Nat → List zV → zS → Option zO} (hΓ : ∀ (mi : Nat) (av : List zV) (S : zS) (o : zO), mi < 297 → Γ mi av S = some o → o.2.2.2.2 ≤ S.2.2.2 + xo o) {cd : List zE} (hcd : zg_cd cd = true) {rk N : Nat} {out : zO} : ∀ (n pc : Nat) (lv : zL) (st : List zV) (S : zS), zx_run Γ cd rk N n pc lv st S = some out → out.2.2.2.2 ≤ S.2.2.2 + xo out := by
  intro n
  induction n with
  | zero => exact fun pc lv st S h => nomatch h
  | succ n ih =>
    intro pc lv st S h
    have h : zx_blk Γ cd rk (fun pc lv st S => zx_run Γ cd rk N n pc lv st S) N (zx_at cd pc) lv st S = some out := h
    exact zg_blk hΓ hcd ih N _ _ _ _ (zg_at cd pc) h
theorem zg_all : ∀ mi, mi < 297 → (match zt_ms mi with
  | some M => zg_cd M.1
  | none => true) = true := by decide +kernel
theorem zg_sem (F : Nat) : ∀ (d mi : Nat) (av : List zV) (S : zS) (o : zO), mi < 297 → zr_sem F d mi av S = some o → o.2.2.2.2 ≤ S.2.2.2 + xo o := by
  intro d
  induction d with
  | zero => exact fun mi av S o _ h => nomatch h
  | succ d ih =>
    intro mi av S o hm h
    have h : (zt_ms mi).bind (fun M => zx_run (fun mi av S => zr_sem F d mi av S) M.1 M.2.1 M.2.2.2 F 0 (zl_init av M.2.2.1) [] S) = some o := h
    obtain ⟨M, hM, h⟩ := Option.bind_eq_some_iff.mp h
    have hc := zg_all mi hm
    rw [hM] at hc
    exact zg_run (fun mi av S o hm h => ih mi av S o hm h) hc F 0 _ _ _ h
theorem zg_l {F d mi : Nat} {av : List zV} {S S' : zS} {v : Option zV} (hm : mi < 297) (h : zr_sem F d mi av S = some (.inl v, S')) : S'.2.2.2 ≤ S.2.2.2 := zg_sem F d mi av S _ hm h
theorem zg_x {F d mi : Nat} {av : List zV} {S S' : zS} {v : Option zV ⊕ Nat} (hm : mi < 297) (h : zr_sem F d mi av S = some (v, S')) : S'.2.2.2 ≤ S.2.2.2 + 1 := by
  have := zg_sem F d mi av S _ hm h
  have e : xo (v, S') ≤ 1 := by
    cases v with
    | inl _ => exact Nat.zero_le _
    | inr _ => exact Nat.le_refl _
  exact Nat.le_trans this (Nat.add_le_add_left e _)

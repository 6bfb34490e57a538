/-! THE LAW'S LEVEL 13: no step takes a cell away (tools/gensq.py) -/
theorem qx_step_mono {Γ : Nat → List zV → qS → Option qO} {Z : Nat → List zV → zS → Option zO} (hΓ : ∀ (mi : Nat) (av : List zV) (T : qS) (o : qO), Γ mi av T = some o → qm T o.2) {i : Instr} {a b c9 rt rk : Nat} {k : Int32} {lv : zL} {st : List zV} {T : qS} {out : qO}
    {nx : zL → List zV → qS → Option qO} {jp : Nat → zL → List zV → qS → Option qO} (h : qx_step Γ Z rk nx jp i a b c9 rt k lv st T = some out) (kn : ∀ lv st T', nx lv st T' = some out → qm T' out.2) (kj : ∀ t lv st T', jp t lv st T' = some out → qm T' out.2) : qm T out.2 := by
  cases i with
  | iload_n j =>
    have h : (match (generalizing := false) zl_get lv j.val with
      | some (.inl x) => nx lv (zi x :: st) T
      | _ => none : Option qO) = some out := h
    split at h
    · exact kn _ _ _ h
    · exact nomatch h
  | iload j =>
    have h : (match (generalizing := false) zl_get lv j with
      | some (.inl x) => nx lv (zi x :: st) T
      | _ => none : Option qO) = some out := h
    split at h
    · exact kn _ _ _ h
    · exact nomatch h
  | aload_n j =>
    have h : (match (generalizing := false) zl_get lv j.val with
      | some (.inr (.inl (some r))) => nx lv (.inr (.inl (some r)) :: st) T
      | _ => none : Option qO) = some out := h
    split at h
    · exact kn _ _ _ h
    · exact nomatch h
  | aload j =>
    have h : (match (generalizing := false) zl_get lv j with
      | some (.inr (.inl (some r))) => nx lv (.inr (.inl (some r)) :: st) T
      | _ => none : Option qO) = some out := h
    split at h
    · exact kn _ _ _ h
    · exact nomatch h
  | istore_n j =>
    have h : (match (generalizing := false) st with
      | .inl x :: st => nx (zl_set lv j.val (some (zi x))) st T
      | _ => none : Option qO) = some out := h
    split at h
    · exact kn _ _ _ h
    · exact nomatch h
  | istore j =>
    have h : (match (generalizing := false) st with
      | .inl x :: st => nx (zl_set lv j (some (zi x))) st T
      | _ => none : Option qO) = some out := h
    split at h
    · exact kn _ _ _ h
    · exact nomatch h
  | astore_n j =>
    have h : (match (generalizing := false) st with
      | .inr (.inl (some r)) :: st => nx (zl_set lv j.val (some (.inr (.inl (some r))))) st T
      | _ => none : Option qO) = some out := h
    split at h
    · exact kn _ _ _ h
    · exact nomatch h
  | astore j =>
    have h : (match (generalizing := false) st with
      | .inr (.inl (some r)) :: st => nx (zl_set lv j (some (.inr (.inl (some r))))) st T
      | _ => none : Option qO) = some out := h
    split at h
    · exact kn _ _ _ h
    · exact nomatch h
  | iinc j n =>
    have h : (match (generalizing := false) zl_get lv j with
      | some (.inl x) => nx (zl_set lv j (some (zi (x + k)))) st T
      | _ => none : Option qO) = some out := h
    split at h
    · exact kn _ _ _ h
    · exact nomatch h
  | iconst n =>
    have h : (nx lv (zi k :: st) T : Option qO) = some out := h
    exact kn _ _ _ h
  | bipush n =>
    have h : (nx lv (zi k :: st) T : Option qO) = some out := h
    exact kn _ _ _ h
  | sipush n =>
    have h : (nx lv (zi k :: st) T : Option qO) = some out := h
    exact kn _ _ _ h
  | ldc ix =>
    have h : (match (generalizing := false) a with
      | 0 => nx lv (zi k :: st) T
      | _ => nx lv (za 6 b 0 :: st) T : Option qO) = some out := h
    split at h
    · exact kn _ _ _ h
    · exact kn _ _ _ h
  | aconst_null =>
    have h : (nx lv (zn :: st) T : Option qO) = some out := h
    exact kn _ _ _ h
  | dup =>
    have h : (match (generalizing := false) st with
      | .inr (.inl (some r)) :: st => nx lv (.inr (.inl (some r)) :: .inr (.inl (some r)) :: st) T
      | _ => none : Option qO) = some out := h
    split at h
    · exact kn _ _ _ h
    · exact nomatch h
  | dup2 =>
    have h : (match (generalizing := false) st with
      | .inl x :: .inr (.inl (some r)) :: st => nx lv (zi x :: .inr (.inl (some r)) :: zi x :: .inr (.inl (some r)) :: st) T
      | _ => none : Option qO) = some out := h
    split at h
    · exact kn _ _ _ h
    · exact nomatch h
  | dup_x1 =>
    have h : (match (generalizing := false) st with
      | .inl x :: .inr (.inl (some r)) :: st => nx lv (zi x :: .inr (.inl (some r)) :: zi x :: st) T
      | _ => none : Option qO) = some out := h
    split at h
    · exact kn _ _ _ h
    · exact nomatch h
  | pop =>
    have h : (match (generalizing := false) st with
      | .inl _ :: st => nx lv st T
      | .inr (.inl (some _)) :: st => nx lv st T
      | _ => none : Option qO) = some out := h
    split at h
    · exact kn _ _ _ h
    · exact kn _ _ _ h
    · exact nomatch h
  | iadd =>
    have h : (match (generalizing := false) st with
      | .inl y :: .inl x :: st => nx lv (zi (x + y) :: st) T
      | _ => none : Option qO) = some out := h
    split at h
    · exact kn _ _ _ h
    · exact nomatch h
  | isub =>
    have h : (match (generalizing := false) st with
      | .inl y :: .inl x :: st => nx lv (zi (x - y) :: st) T
      | _ => none : Option qO) = some out := h
    split at h
    · exact kn _ _ _ h
    · exact nomatch h
  | imul =>
    have h : (match (generalizing := false) st with
      | .inl y :: .inl x :: st => nx lv (zi (x * y) :: st) T
      | _ => none : Option qO) = some out := h
    split at h
    · exact kn _ _ _ h
    · exact nomatch h
  | idiv =>
    have h : (match (generalizing := false) st with
      | .inl y :: .inl x :: st => if y = 0 then none else nx lv (zi (x / y) :: st) T
      | _ => none : Option qO) = some out := h
    split at h
    · split at h
      · exact nomatch h
      · exact kn _ _ _ h
    · exact nomatch h
  | irem =>
    have h : (match (generalizing := false) st with
      | .inl y :: .inl x :: st => if y = 0 then none else nx lv (zi (x - x / y * y) :: st) T
      | _ => none : Option qO) = some out := h
    split at h
    · split at h
      · exact nomatch h
      · exact kn _ _ _ h
    · exact nomatch h
  | ineg =>
    have h : (match (generalizing := false) st with
      | .inl x :: st => nx lv (zi (-x) :: st) T
      | _ => none : Option qO) = some out := h
    split at h
    · exact kn _ _ _ h
    · exact nomatch h
  | iand =>
    have h : (match (generalizing := false) st with
      | .inl y :: .inl x :: st => nx lv (zi (x &&& y) :: st) T
      | _ => none : Option qO) = some out := h
    split at h
    · exact kn _ _ _ h
    · exact nomatch h
  | ior =>
    have h : (match (generalizing := false) st with
      | .inl y :: .inl x :: st => nx lv (zi (x ||| y) :: st) T
      | _ => none : Option qO) = some out := h
    split at h
    · exact kn _ _ _ h
    · exact nomatch h
  | ishl =>
    have h : (match (generalizing := false) st with
      | .inl y :: .inl x :: st => nx lv (zi (x <<< (y &&& 31)) :: st) T
      | _ => none : Option qO) = some out := h
    split at h
    · exact kn _ _ _ h
    · exact nomatch h
  | ishr =>
    have h : (match (generalizing := false) st with
      | .inl y :: .inl x :: st => nx lv (zi (x >>> (y &&& 31)) :: st) T
      | _ => none : Option qO) = some out := h
    split at h
    · exact kn _ _ _ h
    · exact nomatch h
  | i2b =>
    have h : (match (generalizing := false) st with
      | .inl x :: st => nx lv (zi x.toInt8.toInt32 :: st) T
      | _ => none : Option qO) = some out := h
    split at h
    · exact kn _ _ _ h
    · exact nomatch h
  | i2c =>
    have h : (match (generalizing := false) st with
      | .inl x :: st => nx lv (zi (x.toUInt32 % 65536).toInt32 :: st) T
      | _ => none : Option qO) = some out := h
    split at h
    · exact kn _ _ _ h
    · exact nomatch h
  | ifCond cc0 off =>
    have h : (match (generalizing := false) st with
      | .inl x :: st => qx_cond cc0 x 0 (jp a lv st T) (nx lv st T)
      | _ => none : Option qO) = some out := h
    split at h
    · exact mq_cond h (fun h => kj _ _ _ _ h) (fun h => kn _ _ _ h)
    · exact nomatch h
  | if_icmp cc0 off =>
    have h : (match (generalizing := false) st with
      | .inl y :: .inl x :: st => qx_cond cc0 x y (jp a lv st T) (nx lv st T)
      | _ => none : Option qO) = some out := h
    split at h
    · exact mq_cond h (fun h => kj _ _ _ _ h) (fun h => kn _ _ _ h)
    · exact nomatch h
  | ifnonnull off =>
    have h : (match (generalizing := false) st with
      | .inr (.inl (some _)) :: st => jp a lv st T
      | _ => none : Option qO) = some out := h
    split at h
    · exact kj _ _ _ _ h
    · exact nomatch h
  | goto off =>
    have h : (jp a lv st T : Option qO) = some out := h
    exact kj _ _ _ _ h
  | getfield ix =>
    have h : (match (generalizing := false) st with
      | .inr (.inl (some r)) :: st => qf_get a b r T (fun v => nx lv (v :: st) T)
      | _ => none : Option qO) = some out := h
    split at h
    · exact mq_get h (fun _ h => kn _ _ _ h)
    · exact nomatch h
  | putfield ix =>
    have h : (match (generalizing := false) st with
      | v :: .inr (.inl (some r)) :: st => qf_put a b r v T (fun T => nx lv st T)
      | _ => none : Option qO) = some out := h
    split at h
    · exact mq_put h (fun _ h => kn _ _ _ h)
    · exact nomatch h
  | getstatic ix =>
    have h : (match (generalizing := false) a with
      | 0 => nx lv (zi 1 :: st) T
      | 1 => nx lv (za 9 0 0 :: st) T
      | 2 => nx lv (za 9 1 0 :: st) T
      | _ => none : Option qO) = some out := h
    split at h
    · exact kn _ _ _ h
    · exact kn _ _ _ h
    · exact kn _ _ _ h
    · exact nomatch h
  | arraylength =>
    have h : (match (generalizing := false) st with
      | .inr (.inl (some r)) :: st => qa_len r T (fun x => nx lv (zi x :: st) T)
      | _ => none : Option qO) = some out := h
    split at h
    · exact mq_len h (fun _ h => kn _ _ _ h)
    · exact nomatch h
  | iaload =>
    have h : (match (generalizing := false) st with
      | .inl j :: .inr (.inl (some r)) :: st => qa_ld r j T (fun x => nx lv (zi x :: st) T)
      | _ => none : Option qO) = some out := h
    split at h
    · exact mq_ld h (fun _ h => kn _ _ _ h)
    · exact nomatch h
  | iastore =>
    have h : (match (generalizing := false) st with
      | .inl x :: .inl j :: .inr (.inl (some r)) :: st => qa_st r j x T (fun T => nx lv st T)
      | _ => none : Option qO) = some out := h
    split at h
    · exact mq_st h (fun _ h => kn _ _ _ h)
    · exact nomatch h
  | baload =>
    have h : (match (generalizing := false) st with
      | .inl j :: .inr (.inl (some r)) :: st => qa_bld r j T (fun x => nx lv (zi x :: st) T)
      | _ => none : Option qO) = some out := h
    split at h
    · exact mq_bld h (fun _ h => kn _ _ _ h)
    · exact nomatch h
  | bastore =>
    have h : (match (generalizing := false) st with
      | .inl x :: .inl j :: .inr (.inl (some r)) :: st => qa_bst r j x T (fun T => nx lv st T)
      | _ => none : Option qO) = some out := h
    split at h
    · exact mq_bst h (fun _ h => kn _ _ _ h)
    · exact nomatch h
  | aaload =>
    have h : (match (generalizing := false) st with
      | .inl j :: .inr (.inl (some r)) :: st => qa_ldr r j T (fun v => nx lv (v :: st) T)
      | _ => none : Option qO) = some out := h
    split at h
    · exact mq_ldr h (fun _ h => kn _ _ _ h)
    · exact nomatch h
  | newarray at9 =>
    have h : (match (generalizing := false) st with
      | .inl n :: st => qa_new n a T (fun v T => nx lv (v :: st) T)
      | _ => none : Option qO) = some out := h
    split at h
    · exact mq_new h (fun _ _ h => kn _ _ _ h)
    · exact nomatch h
  | multianewarray ix dims =>
    have h : (match (generalizing := false) st with
      | .inl m :: .inl n :: st => qa_new2 n m T (fun v T => nx lv (v :: st) T)
      | _ => none : Option qO) = some out := h
    split at h
    · exact mq_new2 h (fun _ _ h => kn _ _ _ h)
    · exact nomatch h
  | new ix =>
    have h : (match (generalizing := false) a with
      | 11 => nx lv (za 8 T.2.length 0 :: st) (T.1, T.2 ++ [.inl (11, qd_obj 11)])
      | 12 => nx lv (za 8 T.2.length 0 :: st) (T.1, T.2 ++ [.inl (12, qd_obj 12)])
      | _ => none : Option qO) = some out := h
    split at h
    · exact qm_tr (qm_push T.1 T.2 _) (kn _ _ _ h)
    · exact qm_tr (qm_push T.1 T.2 _) (kn _ _ _ h)
    · exact nomatch h
  | checkcast ix =>
    have h : (match (generalizing := false) st with
      | .inr (.inl (some (8, q, 0))) :: st => (match (generalizing := false) zx_nth T.2 q with
        | some (.inr (.inl (5, _))) => nx lv (za 8 q 0 :: st) T
        | _ => none)
      | _ => none : Option qO) = some out := h
    split at h
    · split at h
      · exact kn _ _ _ h
      · exact nomatch h
    · exact nomatch h
  | invokevirtual ix =>
    have h : (match (generalizing := false) c9 with
      | 10 => (zx_pop b [] st).bind (fun q => zx_if (Nat.ble (zx_wd q.2) 8) (match (generalizing := false) q.1 with
        | .inr (.inl (some (1, 0, 0))) :: as => zx_if (qx_ints as) (qz_ret rt (Z a q.1 T.1) T.2 q.2 (fun st T => nx lv st T))
        | _ => none))
      | 97 => qx_lib a st T (fun st T => nx lv st T)
      | 98 => none
      | c => (zx_pop b [] st).bind (fun q => zx_if (Nat.ble (zx_wd q.2) 8) (match (generalizing := false) q.1 with
        | .inr (.inl (some r)) :: _ => zx_if (qx_rc r (qx_cls c) T) (qx_ret rt (Γ a q.1 T) q.2 (fun st T => nx lv st T))
        | _ => none)) : Option qO) = some out := h
    split at h
    · obtain ⟨q, -, h⟩ := Option.bind_eq_some_iff.mp h
      obtain ⟨-, h⟩ := zx_if_ok h
      split at h
      · obtain ⟨-, h⟩ := zx_if_ok h
        exact mz_ret h (fun _ _ h => kn _ _ _ h)
      · exact nomatch h
    · exact mq_lib h (fun _ _ h => kn _ _ _ h)
    · exact nomatch h
    · obtain ⟨q, -, h⟩ := Option.bind_eq_some_iff.mp h
      obtain ⟨-, h⟩ := zx_if_ok h
      split at h
      · obtain ⟨-, h⟩ := zx_if_ok h
        exact mq_ret h (fun o ho => hΓ _ _ _ _ ho) (fun _ _ h => kn _ _ _ h)
      · exact nomatch h
  | invokespecial ix =>
    have h : (match (generalizing := false) c9 with
      | 97 => qx_lib a st T (fun st T => nx lv st T)
      | 98 => none
      | 5 => (zx_pop b [] st).bind (fun q => zx_if (Nat.ble (zx_wd q.2) 8) (match (generalizing := false) q.1 with
        | .inr (.inl (some _)) :: _ => qx_ret rt (Γ a q.1 T) q.2 (fun st T => nx lv st T)
        | _ => none))
      | c => (zx_pop b [] st).bind (fun q => zx_if (Nat.ble (zx_wd q.2) 8) (match (generalizing := false) q.1 with
        | .inr (.inl (some r)) :: _ => zx_if (qx_rc r (qx_cls c) T) (qx_ret rt (Γ a q.1 T) q.2 (fun st T => nx lv st T))
        | _ => none)) : Option qO) = some out := h
    split at h
    · exact mq_lib h (fun _ _ h => kn _ _ _ h)
    · exact nomatch h
    · obtain ⟨q, -, h⟩ := Option.bind_eq_some_iff.mp h
      obtain ⟨-, h⟩ := zx_if_ok h
      split at h
      · exact mq_ret h (fun o ho => hΓ _ _ _ _ ho) (fun _ _ h => kn _ _ _ h)
      · exact nomatch h
    · obtain ⟨q, -, h⟩ := Option.bind_eq_some_iff.mp h
      obtain ⟨-, h⟩ := zx_if_ok h
      split at h
      · obtain ⟨-, h⟩ := zx_if_ok h
        exact mq_ret h (fun o ho => hΓ _ _ _ _ ho) (fun _ _ h => kn _ _ _ h)
      · exact nomatch h
  | invokestatic ix =>
    have h : (match (generalizing := false) c9 with
      | 97 => qx_lib a st T (fun st T => nx lv st T)
      | 98 => none
      | _ => (zx_pop b [] st).bind (fun q => zx_if (Nat.ble (zx_wd q.2) 8) (qx_ret rt (Γ a q.1 T) q.2 (fun st T => nx lv st T))) : Option qO) = some out := h
    split at h
    · exact mq_lib h (fun _ _ h => kn _ _ _ h)
    · exact nomatch h
    · obtain ⟨q, -, h⟩ := Option.bind_eq_some_iff.mp h
      obtain ⟨-, h⟩ := zx_if_ok h
      exact mq_ret h (fun o ho => hΓ _ _ _ _ ho) (fun _ _ h => kn _ _ _ h)
  | ireturn =>
    have h : (match (generalizing := false) st with
      | .inl x :: [] => match (generalizing := false) rk with
        | 1 => some (some (zi x), T)
        | 2 => if x &&& 1 = x then some (some (zi x), T) else none
        | 6 => if x.toInt8.toInt32 = x then some (some (zi x), T) else none
        | 7 => if x.toUInt32.toUInt16.toUInt32.toInt32 = x then some (some (zi x), T) else none
        | _ => none
      | _ => none : Option qO) = some out := h
    split at h
    · split at h
      · cases h; exact qm_rf _
      · split at h
        · cases h; exact qm_rf _
        · exact nomatch h
      · split at h
        · cases h; exact qm_rf _
        · exact nomatch h
      · split at h
        · cases h; exact qm_rf _
        · exact nomatch h
      · exact nomatch h
    · exact nomatch h
  | areturn =>
    have h : (match (generalizing := false) st with
      | .inr (.inl (some r)) :: [] => some (some (.inr (.inl (some r))), T)
      | _ => none : Option qO) = some out := h
    split at h
    · cases h; exact qm_rf _
    · exact nomatch h
  | return_ =>
    have h : (match (generalizing := false) st with
      | [] => some (none, T)
      | _ => none : Option qO) = some out := h
    split at h
    · cases h; exact qm_rf _
    · exact nomatch h
  | _ => exact nomatch h
theorem qx_next_mono {R : List zE → zL → List zV → qS → Option qO} {K : Nat → zL → List zV → qS → Option qO} {es : List zE} {lv : zL} {st : List zV} {T : qS} {out : qO} (h : qx_next R K es lv st T = some out) (hR : ∀ es lv st T, R es lv st T = some out → qm T out.2) (hK : ∀ pc lv st T, K pc lv st T = some out → qm T out.2) : qm T out.2 := by
  unfold qx_next at h
  split at h
  · exact nomatch h
  · split at h
    · exact hR _ _ _ _ h
    · exact hK _ _ _ _ h
theorem qx_blk_mono {Γ : Nat → List zV → qS → Option qO} {Z : Nat → List zV → zS → Option zO} (hΓ : ∀ (mi : Nat) (av : List zV) (T : qS) (o : qO), Γ mi av T = some o → qm T o.2) {cd : List zE} {rk : Nat} {K : Nat → zL → List zV → qS → Option qO} {out : qO} (hK : ∀ pc lv st T, K pc lv st T = some out → qm T out.2) : ∀ (n : Nat) (es : List zE) (lv : zL) (st : List zV) (T : qS), qx_blk Γ Z cd rk K n es lv st T = some out → qm T out.2 := by
  intro n
  induction n with
  | zero => exact fun es lv st T h => nomatch h
  | succ n ih =>
    intro es lv st T h
    cases es with
    | nil => exact nomatch h
    | cons e es =>
      exact qx_step_mono hΓ (out := out) h (fun lv st T' h => qx_next_mono h (fun es lv st T h => ih es lv st T h) hK) (fun t lv st T' h => qx_next_mono h (fun es lv st T h => ih es lv st T h) hK)
theorem qx_run_mono {Γ : Nat → List zV → qS → Option qO} {Z : Nat → List zV → zS → Option zO} (hΓ : ∀ (mi : Nat) (av : List zV) (T : qS) (o : qO), Γ mi av T = some o → qm T o.2) {cd : List zE} {rk N : Nat} {out : qO} : ∀ (n pc : Nat) (lv : zL) (st : List zV) (T : qS), qx_run Γ Z cd rk N n pc lv st T = some out → qm T out.2 := by
  intro n
  induction n with
  | zero => exact fun pc lv st T h => nomatch h
  | succ n ih => exact fun pc lv st T h => qx_blk_mono hΓ (fun pc lv st T h => ih pc lv st T h) N _ lv st T h

/-! THE CONSTRUCTION 8: soundness of the checked interpreter -/
def kn_i (own nm : String) (nL pc : Nat) (i : Instr) (len a b c q : Nat) (k : Int32) : Bool :=
  match i with
  | .iload_n _ => decide (len = 1)
  | .aload_n _ => decide (len = 1)
  | .istore_n j => decide (len = 1 ∧ j.val < nL)
  | .istore j => decide (len = 2 ∧ j < nL)
  | .astore_n j => decide (len = 1 ∧ j.val < nL)
  | .astore j => decide (len = 2 ∧ j < nL)
  | .iinc j n => decide (len = 3 ∧ j < nL ∧ Int32.ofInt n = k)
  | .iconst n => decide (len = 1 ∧ Int32.ofInt n = k)
  | .bipush n => decide (len = 2 ∧ (Int8.ofInt n).toInt32 = k)
  | .sipush n => decide (len = 3 ∧ (Int16.ofInt n).toInt32 = k)
  | .ldc ix => match a with
    | 0 => decide (len = 2 ∧ lw_tbl[q]? = some (.constant own ix k))
    | _ + 1 => false
  | .dup => decide (len = 1)
  | .imul => decide (len = 1)
  | .if_icmp _ off => decide (len = 3 ∧ (pc : Int) + off = (a : Int))
  | .goto off => decide (len = 3 ∧ (pc : Int) + off = (a : Int))
  | .new ix => match vwCl[a]? with
    | some Cl => decide (len = 3 ∧ lw_tbl[q]? = some (.classLink own ix Cl.1) ∧ lw_tbl[b]? = some (.instantiable Cl.1 Cl.2.2) ∧ lw_tbl[c]? = some (.initialized Cl.1) ∧ (kt_nf.getD a []).length = Cl.2.2 ∧ a < 11)
    | none => false
  | .newarray t => match t, a with
    | .int, 0 => decide (len = 2)
    | _, _ => false
  | .anewarray ix => decide (len = 3 ∧ a = 1 ∧ lw_tbl[q]? = some (.classLink own ix "BathBoats$Bath"))
  | .putfield ix => match vwCl[a]? with
    | some Cl => (match parseFieldDescriptor (Cl.2.1 b).2.2.1 with
      | some ty => decide (len = 3 ∧ b < Cl.2.2 ∧ lw_tbl[q]? = some (.fieldLink own ix (Cl.2.1 b).1 (Cl.2.1 b).2.1 (Cl.2.1 b).2.2.1) ∧ kt_fits ((kt_nf.getD a []).getD b 9) ty = true ∧ ((Cl.2.1 b).2.2.2 = false ∨ ((Cl.2.1 b).2.2.2 = true ∧ nm = "<init>" ∧ (Cl.2.1 b).1 = own)))
      | none => false)
    | none => false
  | .getfield ix => match vwCl[a]? with
    | some Cl => decide (len = 3 ∧ b < Cl.2.2 ∧ lw_tbl[q]? = some (.fieldLink own ix (Cl.2.1 b).1 (Cl.2.1 b).2.1 (Cl.2.1 b).2.2.1))
    | none => false
  | .arraylength => decide (len = 1)
  | .iastore => decide (len = 1)
  | .aastore => decide (len = 1)
  | .invokestatic ix => decide (len = 3 ∧ lw_tbl[q]? = some (.methodLink own ix Lib.Math.max.name))
  | .invokespecial ix => match Nat.beq c 97 with
    | true => decide (len = 3 ∧ lw_tbl[q]? = some (.methodLink own ix Lib.objectInit))
    | false => match zx_nth kt_mi a with
      | some M => decide (len = 3 ∧ (lw_tbl[q]? = some (.methodLink own ix M.1) ∨ lw_tbl[q]? = some (.methodLinkNest own ix M.1 "BathBoats")) ∧ M.1.name = "<init>" ∧ M.2.2.2.2.2.1 = b)
      | none => false
  | .invokevirtual ix => match zx_nth kt_mi a with
    | some M => decide (len = 3 ∧ lw_tbl[q]? = some (.methodLink own ix M.1) ∧ lw_tbl[M.2.2.2.2.2.2.2.2.2]? = some (.selects M.1.cls M.1 M.1) ∧ M.2.2.2.2.2.1 = b)
    | none => false
  | .return_ => decide (len = 1)
  | _ => false
def kn_row (own nm : String) (cc : ByteArray) (nL : Nat) (x : zE) : Bool :=
  decide (decode cc x.2.1 = .ok (x.2.2.1, x.2.2.2.1)) && kn_i own nm nL x.2.1 x.2.2.1 x.2.2.2.1 x.2.2.2.2.1.1 x.2.2.2.2.1.2.1 x.2.2.2.2.1.2.2.1 x.2.2.2.2.1.2.2.2.1 x.2.2.2.2.2.1
def kn_seq : List zE → Bool
  | [] => true
  | x :: l => (match l with
    | [] => true
    | y :: _ => Nat.beq (x.2.1 + x.2.2.2.1) y.2.1) && kn_seq l
/-- what is known of the methods that a body calls -/
def kGam (l : Launch) (d : Nat) (D : va_G) (cA : Nat → ClassId) (adT : zR → Nat) (S0 : zS) (A : Nat → Prop) (Γ : Nat → List zV → nS → Option nS) : Prop := ∀ (mi : Nat) (av : List zV) (w w' : nS), Γ mi av w = some w' → ∃ M, zx_nth kt_mi mi = some M ∧ (av.length = M.2.2.2.2.2.1 + 1 → kCtr l d D cA adT S0 A M av w w')
theorem kt_mi_ok : kt_mi.all (fun M => decide (lw_tbl[M.2.2.2.2.2.2.1]? = some (zM_word M)) && decide (lw_tbl[M.2.2.2.2.2.2.2.1]? = some (.initialized M.1.cls) ∧ M.1.cls ≠ "java/lang/invoke/MethodHandle" ∧ M.1.cls ≠ "java/lang/invoke/VarHandle" ∧ (parseMethodDescriptor M.1.desc).map (fun d => d.parameters.length) = some M.2.2.2.2.2.1 ∧ M.2.2.1 ≤ 17) && decide (M.2.2.2.2.1 = [] ∧ M.2.2.2.1 = none ∧ lw_tbl[M.2.2.2.2.2.2.2.2.1]? = some (.instanceMethod M.1) ∧ (M.1.name = "<init>" ∨ lw_tbl[M.2.2.2.2.2.2.2.2.2]? = some (.selects M.1.cls M.1 M.1)) ∧ plainName M.1.cls = true)) = true := by decide +kernel
theorem kt_M {mi : Nat} {M : zM} (h : zx_nth kt_mi mi = some M) : kM_ok M := by
  rw [zx_nth_get] at h
  have := List.all_eq_true.mp kt_mi_ok M (List.mem_of_getElem? h)
  simp only [Bool.and_eq_true, decide_eq_true_eq] at this
  obtain ⟨⟨h1, h2, h3, h4, h5, h6⟩, h7, h8, h9, h10, h11⟩ := this
  exact ⟨⟨h1, h2, h3, h4, h5, h6⟩, h7, h8, h9, h10, h11⟩
theorem kt_mc_ok : (List.range 13).all (fun mi => match zx_nth kt_mi mi, zx_nth kt_mc mi with
    | some M, some ci => (match vwCl[ci]? with
      | some Cl => decide (Cl.1 = M.1.cls)
      | none => false)
    | _, _ => false) = true := by decide +kernel
theorem kt_C {mi ci : Nat} {M : zM} (h : zx_nth kt_mi mi = some M) (hc : zx_nth kt_mc mi = some ci) : ∃ Cl, vwCl[ci]? = some Cl ∧ Cl.1 = M.1.cls := by
  have hl : mi < 13 := by
    rw [zx_nth_get] at h
    exact (List.getElem?_eq_some_iff.mp h).1
  have := List.all_eq_true.mp kt_mc_ok mi (List.mem_range.mpr hl)
  rw [h, hc] at this
  have this : (match vwCl[ci]? with
      | some Cl => decide (Cl.1 = M.1.cls)
      | none => false) = true := this
  split at this
  · rename_i Cl e
    exact ⟨Cl, e, of_decide_eq_true this⟩
  · cases this
section KD
variable {p : Program} {l : Launch} {e : Env} {R : Room} {s : State} {m : MethodId} {args : Array Value} {below : List Frame} {meth : Method} {c : Code} {Q : State → Prop} {D : va_G} {cA : Nat → ClassId} {adT : zR → Nat} {S0 : zS} {A : Nat → Prop} {ad0 : zR → Nat} {w0 wF w : nS} {own nm : String} {cc : ByteArray} {nL pc : Nat} {lv : zL} {st : List zV}
theorem kn_call_ok {Γ : Nat → List zV → nS → Option nS} {d ix q a b : Nat} {vir : Bool} {M : zM} {o : kR} (hΓ : kGam l d D cA adT S0 A Γ) (hR : wF.length - w0.length ≤ R.cells ∧ n_sl wF - n_sl w0 ≤ R.slots) (hd : d + 7 ≤ R.frames ∧ 64 * d + 264 ≤ R.locals) (hdg : decode cc pc = .ok (match vir with | true => .invokevirtual ix | false => .invokespecial ix, 3)) (hlink : lw_tbl[q]? = some (.methodLink own ix M.1) ∨ (vir = false ∧ lw_tbl[q]? = some (.methodLinkNest own ix M.1 "BathBoats"))) (hMa : zx_nth kt_mi a = some M) (hb : M.2.2.2.2.2.1 = b)
    (hini : vir = false → M.1.name = "<init>") (hvir : vir = true → lw_tbl[M.2.2.2.2.2.2.2.2.2]? = some (.selects M.1.cls M.1 M.1)) (h : kn_call Γ vir a b lv st w = some o) (kk : o.1 = none → kJ2 p l e R s m args below meth c Q D cA adT S0 A own nm cc nL ad0 w0 wF o.2.2.2 (pc + 3) o.2.1 o.2.2.1) (kj : ∀ t, o.1 = some t → kJ2 p l e R s m args below meth c Q D cA adT S0 A own nm cc nL ad0 w0 wF o.2.2.2 t o.2.1 o.2.2.1) : kJ2 p l e R s m args below meth c Q D cA adT S0 A own nm cc nL ad0 w0 wF w pc lv st := by
  unfold kn_call at h
  split at h
  · rename_i r as rest hpop
    obtain ⟨as', e1, e2, e3, e4⟩ := zx_pop_ok _ _ _ _ _ hpop
    rw [List.append_nil] at e3
    have e5 : as' = as.reverse ++ [.inr (.inl (some r))] := by
      rw [← List.reverse_reverse as', ← e3, List.reverse_cons]
    have hlen : as.length = b := by
      rw [e5, List.length_append, List.length_reverse] at e2
      have e2 : as.length + 1 = b + 1 := e2
      omega
    have hst : st = as.reverse ++ .inr (.inl (some r)) :: rest := by
      rw [e1, e5, List.append_assoc]; rfl
    have hnw : ∀ v, v ∈ as → zl_wide (some v) = false := fun v hv => e4 v (by rw [e5]; exact List.mem_append_left _ (List.mem_reverse.mpr hv))
    split at h
    · rename_i hcond
      rw [Bool.and_eq_true] at hcond
      split at h
      · rename_i w' hw'
        have h := Option.some.inj h
        subst h
        obtain ⟨M', hM', hC⟩ := hΓ _ _ _ _ hw'
        rw [hMa] at hM'
        have hM' := Option.some.inj hM'
        subst hM'
        rw [hst]
        refine kJ_call (vir := vir) hR hd hdg hlink (kt_M hMa) hini (fun hv => ⟨hvir hv, ?_⟩) (hC (by rw [List.length_cons, hlen, hb])) (Nat.le_of_ble_eq_true hcond.1) hnw (by rw [hlen, hb]) (kk rfl)
        have hc2 := hcond.2
        rw [hv] at hc2
        have hc2 : (match (generalizing := false) r with
          | (8, q, 0) => (match (generalizing := false) zx_nth w q with
            | some (.inl (ci, _)) => (match (generalizing := false) zx_nth kt_mc a with
              | some x => Nat.beq x ci
              | none => false)
            | _ => false)
          | _ => false) = true := hc2
        split at hc2
        · rename_i k _
          split at hc2
          · rename_i ci fs hk
            split at hc2
            · rename_i x hx
              have hx2 := Nat.eq_of_beq_eq_true hc2
              subst hx2
              obtain ⟨Cl, f1, f2⟩ := kt_C hMa hx
              rw [zx_nth_get] at hk
              exact ⟨k, x, fs, Cl, rfl, hk, f1, f2⟩
            · cases hc2
          · cases hc2
        · cases hc2
      · cases h
    · cases h
  · cases h
/-- one step is sound -/
theorem kn_step_ok {Γ : Nat → List zV → nS → Option nS} {d len a b c1 q : Nat} {k : Int32} {i : Instr} {o : kR} (hΓ : kGam l d D cA adT S0 A Γ) (hR : wF.length - w0.length ≤ R.cells ∧ n_sl wF - n_sl w0 ≤ R.slots) (hd : d + 7 ≤ R.frames ∧ 64 * d + 264 ≤ R.locals) (hdg : decode cc pc = .ok (i, len)) (hk : kn_i own nm nL pc i len a b c1 q k = true) (h : kn_step Γ i a b c1 k lv st w = some o) (kk : o.1 = none → kJ2 p l e R s m args below meth c Q D cA adT S0 A own nm cc nL ad0 w0 wF o.2.2.2 (pc + len) o.2.1 o.2.2.1) (kj : ∀ t, o.1 = some t → kJ2 p l e R s m args below meth c Q D cA adT S0 A own nm cc nL ad0 w0 wF o.2.2.2 t o.2.1 o.2.2.1) : kJ2 p l e R s m args below meth c Q D cA adT S0 A own nm cc nL ad0 w0 wF w pc lv st := by
  cases i with
  | iload_n j =>
    have e := of_decide_eq_true (show decide (len = 1) = true from hk)
    subst e
    replace h : (match (generalizing := false) zl_get lv j.val with
      | some (.inl x) => some ((none, lv, zi x :: st, w) : kR)
      | _ => none) = some o := h
    split at h
    · rename_i x hx
      cases Option.some.inj h
      exact kJ_iload_n hdg hx (kk rfl)
    · cases h
  | aload_n j =>
    have e := of_decide_eq_true (show decide (len = 1) = true from hk)
    subst e
    replace h : (match (generalizing := false) zl_get lv j.val with
      | some (.inr (.inl (some r))) => some ((none, lv, .inr (.inl (some r)) :: st, w) : kR)
      | _ => none) = some o := h
    split at h
    · rename_i x hx
      cases Option.some.inj h
      exact kJ_aload_n hdg hx (kk rfl)
    · cases h
  | istore_n j =>
    obtain ⟨e, hj⟩ := of_decide_eq_true (show decide (len = 1 ∧ j.val < nL) = true from hk)
    subst e
    replace h : (match (generalizing := false) st with
      | .inl x :: st => some ((none, zl_set lv j.val (some (zi x)), st, w) : kR)
      | _ => none) = some o := h
    split at h
    · cases Option.some.inj h
      exact kJ_istore_n hdg hj (kk rfl)
    · cases h
  | istore j =>
    obtain ⟨e, hj⟩ := of_decide_eq_true (show decide (len = 2 ∧ j < nL) = true from hk)
    subst e
    replace h : (match (generalizing := false) st with
      | .inl x :: st => some ((none, zl_set lv j (some (zi x)), st, w) : kR)
      | _ => none) = some o := h
    split at h
    · cases Option.some.inj h
      exact kJ_istore hdg hj (kk rfl)
    · cases h
  | astore_n j =>
    obtain ⟨e, hj⟩ := of_decide_eq_true (show decide (len = 1 ∧ j.val < nL) = true from hk)
    subst e
    replace h : (match (generalizing := false) st with
      | .inr (.inl (some r)) :: st => some ((none, zl_set lv j.val (some (.inr (.inl (some r)))), st, w) : kR)
      | _ => none) = some o := h
    split at h
    · cases Option.some.inj h
      exact kJ_astore_n hdg hj (kk rfl)
    · cases h
  | astore j =>
    obtain ⟨e, hj⟩ := of_decide_eq_true (show decide (len = 2 ∧ j < nL) = true from hk)
    subst e
    replace h : (match (generalizing := false) st with
      | .inr (.inl (some r)) :: st => some ((none, zl_set lv j (some (.inr (.inl (some r)))), st, w) : kR)
      | _ => none) = some o := h
    split at h
    · cases Option.some.inj h
      exact kJ_astore hdg hj (kk rfl)
    · cases h
  | iinc j n =>
    obtain ⟨e, hj, hn⟩ := of_decide_eq_true (show decide (len = 3 ∧ j < nL ∧ Int32.ofInt n = k) = true from hk)
    subst e
    replace h : (match (generalizing := false) zl_get lv j with
      | some (.inl x) => some ((none, zl_set lv j (some (zi (x + k))), st, w) : kR)
      | _ => none) = some o := h
    split at h
    · rename_i x hx
      cases Option.some.inj h
      exact kJ_iinc hdg hj hn hx (kk rfl)
    · cases h
  | iconst n =>
    obtain ⟨e, hn⟩ := of_decide_eq_true (show decide (len = 1 ∧ Int32.ofInt n = k) = true from hk)
    subst e
    replace h : some ((none, lv, zi k :: st, w) : kR) = some o := h
    cases Option.some.inj h
    exact kJ_iconst hdg hn (kk rfl)
  | bipush n =>
    obtain ⟨e, hn⟩ := of_decide_eq_true (show decide (len = 2 ∧ (Int8.ofInt n).toInt32 = k) = true from hk)
    subst e
    replace h : some ((none, lv, zi k :: st, w) : kR) = some o := h
    cases Option.some.inj h
    exact kJ_bipush hdg hn (kk rfl)
  | sipush n =>
    obtain ⟨e, hn⟩ := of_decide_eq_true (show decide (len = 3 ∧ (Int16.ofInt n).toInt32 = k) = true from hk)
    subst e
    replace h : some ((none, lv, zi k :: st, w) : kR) = some o := h
    cases Option.some.inj h
    exact kJ_sipush hdg hn (kk rfl)
  | ldc ix =>
    cases a with
    | zero =>
      obtain ⟨e, hn⟩ := of_decide_eq_true (show decide (len = 2 ∧ lw_tbl[q]? = some (.constant own ix k)) = true from hk)
      subst e
      replace h : some ((none, lv, zi k :: st, w) : kR) = some o := h
      cases Option.some.inj h
      exact kJ_ldc hdg hn (kk rfl)
    | succ a =>
      exact nomatch (show false = true from hk)
  | dup =>
    have e := of_decide_eq_true (show decide (len = 1) = true from hk)
    subst e
    replace h : (match (generalizing := false) st with
      | .inr (.inl (some r)) :: st => some ((none, lv, .inr (.inl (some r)) :: .inr (.inl (some r)) :: st, w) : kR)
      | _ => none) = some o := h
    split at h
    · cases Option.some.inj h
      exact kJ_dup hdg (kk rfl)
    · cases h
  | imul =>
    have e := of_decide_eq_true (show decide (len = 1) = true from hk)
    subst e
    replace h : (match (generalizing := false) st with
      | .inl y :: .inl x :: st => some ((none, lv, zi (x * y) :: st, w) : kR)
      | _ => none) = some o := h
    split at h
    · cases Option.some.inj h
      exact kJ_imul hdg (kk rfl)
    · cases h
  | if_icmp cmp off =>
    obtain ⟨e, ht⟩ := of_decide_eq_true (show decide (len = 3 ∧ (pc : Int) + off = (a : Int)) = true from hk)
    subst e
    replace h : (match (generalizing := false) cmp, st with
      | .ge, .inl y :: .inl x :: st => if y ≤ x then some ((some a, lv, st, w) : kR) else some (none, lv, st, w)
      | _, _ => none) = some o := h
    split at h
    · split at h
      · rename_i hyx
        cases Option.some.inj h
        exact kJ_icmp_ge hdg ht (fun _ => kj a rfl) (fun z => absurd hyx z)
      · rename_i hyx
        cases Option.some.inj h
        exact kJ_icmp_ge hdg ht (fun z => absurd z hyx) (fun _ => kk rfl)
    · cases h
  | goto off =>
    obtain ⟨e, ht⟩ := of_decide_eq_true (show decide (len = 3 ∧ (pc : Int) + off = (a : Int)) = true from hk)
    subst e
    replace h : some ((some a, lv, st, w) : kR) = some o := h
    cases Option.some.inj h
    exact kJ_goto hdg ht (kj a rfl)
  | new ix =>
    replace hk : (match (generalizing := false) vwCl[a]? with
      | some Cl => decide (len = 3 ∧ lw_tbl[q]? = some (.classLink own ix Cl.1) ∧ lw_tbl[b]? = some (.instantiable Cl.1 Cl.2.2) ∧ lw_tbl[c1]? = some (.initialized Cl.1) ∧ (kt_nf.getD a []).length = Cl.2.2 ∧ a < 11)
      | none => false) = true := hk
    split at hk
    · rename_i Cl hc
      obtain ⟨e, h1, h2, h3, h4, h5⟩ := of_decide_eq_true hk
      subst e
      replace h : some ((none, lv, .inr (.inl (some (zr w.length))) :: st, w ++ [.inl (a, (kt_nf.getD a []).map kt_def)]) : kR) = some o := h
      cases Option.some.inj h
      exact kJ_new h5 hR hdg hc h1 h2 h3 h4 (kk rfl)
    · cases hk
  | newarray t =>
    replace h : (match (generalizing := false) st with
      | .inl n :: st => if n < 0 then none else if 1000000 < n.toNatClampNeg then none else match (generalizing := false) a with
        | 0 => some ((none, lv, .inr (.inl (some (zr w.length))) :: st, w ++ [.inr (.inl (List.replicate n.toNatClampNeg 0))]) : kR)
        | _ => none
      | _ => none) = some o := h
    replace hk : (match (generalizing := false) t, a with
      | .int, 0 => decide (len = 2)
      | _, _ => false) = true := hk
    split at h
    · split at h
      · cases h
      · rename_i hn
        split at h
        · cases h
        · rename_i hb
          split at hk
          · have e := of_decide_eq_true hk
            subst e
            cases Option.some.inj h
            exact kJ_newI hR hdg hn (by omega) (kk rfl)
          · cases hk
    · cases h
  | anewarray ix =>
    obtain ⟨e, ht⟩ := of_decide_eq_true (show decide (len = 3 ∧ a = 1 ∧ lw_tbl[q]? = some (.classLink own ix "BathBoats$Bath")) = true from hk)
    subst e
    replace h : (match (generalizing := false) st with
      | .inl n :: st => if n < 0 then none else if 1000000 < n.toNatClampNeg then none else some ((none, lv, .inr (.inl (some (zr w.length))) :: st, w ++ [.inr (.inr (a, List.replicate n.toNatClampNeg none))]) : kR)
      | _ => none) = some o := h
    split at h
    · split at h
      · cases h
      · rename_i hn
        split at h
        · cases h
        · rename_i hb
          cases Option.some.inj h
          obtain ⟨ha, hq⟩ := ht
          exact kJ_newA ⟨ha, rfl⟩ hR hdg hq hn (by omega) (kk rfl)
    · cases h
  | putfield ix =>
    replace hk : (match (generalizing := false) vwCl[a]? with
      | some Cl => (match (generalizing := false) parseFieldDescriptor (Cl.2.1 b).2.2.1 with
        | some ty => decide (len = 3 ∧ b < Cl.2.2 ∧ lw_tbl[q]? = some (.fieldLink own ix (Cl.2.1 b).1 (Cl.2.1 b).2.1 (Cl.2.1 b).2.2.1) ∧ kt_fits ((kt_nf.getD a []).getD b 9) ty = true ∧ ((Cl.2.1 b).2.2.2 = false ∨ ((Cl.2.1 b).2.2.2 = true ∧ nm = "<init>" ∧ (Cl.2.1 b).1 = own)))
        | none => false)
      | none => false) = true := hk
    replace h : (match (generalizing := false) st with
      | v :: .inr (.inl (some (8, q, 0))) :: st => match (generalizing := false) zx_nth w q with
        | some (.inl (ci, fs)) => if ci = a ∧ b < fs.length ∧ kv_fit ((kt_nf.getD a []).getD b 9) v = true then some ((none, lv, st, w.set q (.inl (ci, fs.set b v))) : kR) else none
        | _ => none
      | _ => none) = some o := h
    split at hk
    · rename_i Cl hc
      split at hk
      · rename_i ty hty
        obtain ⟨e, h1, h2, h3, h4⟩ := of_decide_eq_true hk
        subst e
        split at h
        · split at h
          · rename_i ci fs hw
            split at h
            · rename_i hc2
              obtain ⟨f1, f2, f3⟩ := hc2
              subst f1
              rw [zx_nth_get] at hw
              cases Option.some.inj h
              exact kJ_putfield hdg hc h1 h2 hty h3 h4 hw f2 f3 (kk rfl)
            · cases h
          · cases h
        · cases h
      · cases hk
    · cases hk
  | getfield ix =>
    replace hk : (match (generalizing := false) vwCl[a]? with
      | some Cl => decide (len = 3 ∧ b < Cl.2.2 ∧ lw_tbl[q]? = some (.fieldLink own ix (Cl.2.1 b).1 (Cl.2.1 b).2.1 (Cl.2.1 b).2.2.1))
      | none => false) = true := hk
    replace h : (match (generalizing := false) st with
      | .inr (.inl (some (8, q, 0))) :: st => match (generalizing := false) zx_nth w q with
        | some (.inl (ci, fs)) => if ci = a then (match (generalizing := false) zx_nth fs b with
          | some v => some ((none, lv, v :: st, w) : kR)
          | none => none) else none
        | _ => none
      | _ => none) = some o := h
    split at hk
    · rename_i Cl hc
      obtain ⟨e, h1, h2⟩ := of_decide_eq_true hk
      subst e
      split at h
      · split at h
        · rename_i ci fs hw
          split at h
          · rename_i f1
            subst f1
            split at h
            · rename_i v hv
              rw [zx_nth_get] at hw hv
              cases Option.some.inj h
              exact kJ_getfield hdg hc h1 h2 hw hv (kk rfl)
            · cases h
          · cases h
        · cases h
      · cases h
    · cases hk
  | arraylength =>
    have e := of_decide_eq_true (show decide (len = 1) = true from hk)
    subst e
    replace h : (match (generalizing := false) st with
      | .inr (.inl (some (8, q, 0))) :: st => match (generalizing := false) zx_nth w q with
        | some (.inr (.inl xs)) => some ((none, lv, zi (Int32.ofNat xs.length) :: st, w) : kR)
        | some (.inr (.inr (1, xs))) => some (none, lv, zi (Int32.ofNat xs.length) :: st, w)
        | _ => none
      | _ => none) = some o := h
    split at h
    · split at h
      · rename_i xs hw
        rw [zx_nth_get] at hw
        cases Option.some.inj h
        exact kJ_alenI hdg hw (kk rfl)
      · rename_i xs hw
        rw [zx_nth_get] at hw
        cases Option.some.inj h
        exact kJ_alenR hdg hw (kk rfl)
      · cases h
    · cases h
  | iastore =>
    have e := of_decide_eq_true (show decide (len = 1) = true from hk)
    subst e
    replace h : (match (generalizing := false) st with
      | .inl x :: .inl j :: .inr (.inl (some (8, q, 0))) :: st => match (generalizing := false) zx_nth w q with
        | some (.inr (.inl xs)) => if j < 0 then none else if xs.length ≤ j.toNatClampNeg then none else some ((none, lv, st, w.set q (.inr (.inl (xs.set j.toNatClampNeg x)))) : kR)
        | _ => none
      | _ => none) = some o := h
    split at h
    · split at h
      · rename_i xs hw
        rw [zx_nth_get] at hw
        split at h
        · cases h
        · rename_i h0
          split at h
          · cases h
          · rename_i h1
            cases Option.some.inj h
            exact kJ_iastore hdg hw h0 h1 (kk rfl)
      · cases h
    · cases h
  | aastore =>
    have e := of_decide_eq_true (show decide (len = 1) = true from hk)
    subst e
    replace h : (match (generalizing := false) st with
      | .inr (.inl (some r)) :: .inl j :: .inr (.inl (some (8, q, 0))) :: st => match (generalizing := false) zx_nth w q with
        | some (.inr (.inr (t, xs))) => if j < 0 then none else if xs.length ≤ j.toNatClampNeg then none else (match (generalizing := false) t, r with
          | 1, (8, q2, 0) => (match (generalizing := false) zx_nth w q2 with
            | some (.inl (0, _)) => some ((none, lv, st, w.set q (.inr (.inr (1, xs.set j.toNatClampNeg (some (8, q2, 0)))))) : kR)
            | _ => none)
          | _, _ => none)
        | _ => none
      | _ => none) = some o := h
    split at h
    · split at h
      · rename_i t xs hw
        rw [zx_nth_get] at hw
        split at h
        · cases h
        · rename_i h0
          split at h
          · cases h
          · rename_i h1
            split at h
            · split at h
              · rename_i fs hq2
                rw [zx_nth_get] at hq2
                cases Option.some.inj h
                exact kJ_aastB hdg hw hq2 h0 h1 (kk rfl)
              · cases h
            · cases h
      · cases h
    · cases h
  | invokestatic ix =>
    obtain ⟨e, hq⟩ := of_decide_eq_true (show decide (len = 3 ∧ lw_tbl[q]? = some (.methodLink own ix Lib.Math.max.name)) = true from hk)
    subst e
    replace h : (match (generalizing := false) st with
      | .inl y :: .inl x :: st => match (generalizing := false) Nat.ble (zx_wd st) 100 with
        | true => some ((none, lv, zi (if x < y then y else x) :: st, w) : kR)
        | false => none
      | _ => none) = some o := h
    split at h
    · split at h
      · rename_i hwd
        cases Option.some.inj h
        exact kJ_max ⟨by omega, by omega, hR⟩ (Nat.le_of_ble_eq_true hwd) hdg hq (kk rfl)
      · cases h
    · cases h
  | invokespecial ix =>
    replace hk : (match (generalizing := false) Nat.beq c1 97 with
      | true => decide (len = 3 ∧ lw_tbl[q]? = some (.methodLink own ix Lib.objectInit))
      | false => match (generalizing := false) zx_nth kt_mi a with
        | some M => decide (len = 3 ∧ (lw_tbl[q]? = some (.methodLink own ix M.1) ∨ lw_tbl[q]? = some (.methodLinkNest own ix M.1 "BathBoats")) ∧ M.1.name = "<init>" ∧ M.2.2.2.2.2.1 = b)
        | none => false) = true := hk
    split at hk
    · rename_i hc
      have hc := Nat.eq_of_beq_eq_true hc
      subst hc
      obtain ⟨e, hq⟩ := of_decide_eq_true hk
      subst e
      replace h : (match (generalizing := false) st with
        | .inr (.inl (some _)) :: st => match (generalizing := false) Nat.ble (zx_wd st) 100 with
          | true => some ((none, lv, st, w) : kR)
          | false => none
        | _ => none) = some o := h
      split at h
      · split at h
        · rename_i hwd
          cases Option.some.inj h
          exact kJ_objInit ⟨by omega, by omega⟩ (Nat.le_of_ble_eq_true hwd) hdg hq (kk rfl)
        · cases h
      · cases h
    · rename_i hc
      split at hk
      · rename_i M hM
        obtain ⟨e, h1, h2, h3⟩ := of_decide_eq_true hk
        subst e
        replace h : (match (generalizing := false) c1 with
          | 97 => (match (generalizing := false) st with
            | .inr (.inl (some _)) :: st => match (generalizing := false) Nat.ble (zx_wd st) 100 with
              | true => some ((none, lv, st, w) : kR)
              | false => none
            | _ => none)
          | _ => kn_call Γ false a b lv st w) = some o := h
        have h : kn_call Γ false a b lv st w = some o := by
          split at h
          · exact nomatch (show true = false from hc)
          · exact h
        exact kn_call_ok (vir := false) hΓ hR hd hdg (h1.imp_right (fun h => ⟨rfl, h⟩)) hM h3 (fun _ => h2) (fun hv => nomatch hv) h kk kj
      · cases hk
  | invokevirtual ix =>
    replace hk : (match (generalizing := false) zx_nth kt_mi a with
      | some M => decide (len = 3 ∧ lw_tbl[q]? = some (.methodLink own ix M.1) ∧ lw_tbl[M.2.2.2.2.2.2.2.2.2]? = some (.selects M.1.cls M.1 M.1) ∧ M.2.2.2.2.2.1 = b)
      | none => false) = true := hk
    split at hk
    · rename_i M hM
      obtain ⟨e, h1, h2, h3⟩ := of_decide_eq_true hk
      subst e
      exact kn_call_ok (vir := true) hΓ hR hd hdg (Or.inl h1) hM h3 (fun hv => nomatch hv) (fun _ => h2) h kk kj
    · cases hk
  | _ => exact nomatch (show (none : Option kR) = some o from h)
end KD

/-! THE LAW'S LEVEL 14: one step is sound (tools/gensq.py) -/
/-- a call of a method of the law's level, by its way: 1 of a text, 3 overridden, else of a text builder -/
def qk_virt (own : String) (ix a b c p : Nat) : Bool := match qt_mi a with
  | some M => decide (b = M.2.2.2.2.2.1 + 1 ∧ M.2.2.2.2.2.1 + 1 ≤ M.2.2.1) && (match c with
    | 3 => decide (lw_tbl[M.2.2.2.2.2.2.2.2.1]? = some (.instanceMethod M.1) ∧ ((lw_tbl[p]? = some (.methodLink own ix yJ5_append_cf1ce) ∧ M.1 = yJ4_append_cf1ce) ∨ (lw_tbl[p]? = some (.methodLink own ix yJ5_length_8abf5) ∧ M.1 = yJ4_length_8abf5)))
    | 1 => decide (lw_tbl[p]? = some (.methodLink own ix M.1) ∧ lw_tbl[M.2.2.2.2.2.2.2.2.1]? = some (.instanceMethod M.1) ∧ lw_tbl[M.2.2.2.2.2.2.2.2.2]? = some (.selects RJ0 M.1 M.1))
    | _ => decide (lw_tbl[p]? = some (.methodLink own ix M.1) ∧ lw_tbl[M.2.2.2.2.2.2.2.2.1]? = some (.instanceMethod M.1) ∧ lw_tbl[M.2.2.2.2.2.2.2.2.2]? = some (.selects RJ4 M.1 M.1)))
  | none => false
def qk_spec (own : String) (ix a b c p : Nat) : Bool := match qt_mi a with
  | some M => decide (b = M.2.2.2.2.2.1 + 1 ∧ M.2.2.2.2.2.1 + 1 ≤ M.2.2.1 ∧ lw_tbl[p]? = some (.methodLink own ix M.1) ∧ lw_tbl[M.2.2.2.2.2.2.2.2.1]? = some (.instanceMethod M.1)) && (match c with
    | 5 => decide (M.1.name = "<init>" ∧ M.2.2.2.1 = none)
    | _ => decide (c ≠ 1 ∧ own = RJ4 ∧ M.1.cls = RJ5 ∧ M.1.name ≠ "<init>" ∧ lw_tbl[M.2.2.2.2.2.2.2.2.2]? = some (.sameMethod M.1.cls M.1.cls M.1.name M.1.desc)))
  | none => false
def qk_class (own : String) (ix a b p : Nat) : Bool := match zt_mi a with
  | some M => decide (b = M.2.2.2.2.2.1 + 1 ∧ a < 297 ∧ lw_tbl[p]? = some (.methodLink own ix M.1) ∧ M.1.cls = RX10 ∧ M.2.2.2.2.1 = [] ∧ lw_tbl[M.2.2.2.2.2.2.2.2.1]? = some (.instanceMethod M.1))
  | none => false
/-- does it go on behind? -/
def qt_falls (i : Instr) (a c : Nat) : Bool := match i with
  | .goto _ => false
  | .ifnonnull _ => false
  | .athrow => false
  | .ireturn => false
  | .areturn => false
  | .return_ => false
  | .new _ => Nat.beq a 11 || Nat.beq a 12
  | .invokevirtual _ => !Nat.beq c 98
  | .invokespecial _ => !Nat.beq c 98
  | .invokestatic _ => !Nat.beq c 98
  | _ => true
def qk_i (own nm : String) (nL : Nat) (ret : Option FieldType) (rk pc : Nat) (i : Instr) (len a b c p rt : Nat) (k : Int32) : Bool := match i with
  | .iload_n _ => decide (len = 1)
  | .aload_n _ => decide (len = 1)
  | .iload _ => decide (len = 2)
  | .aload _ => decide (len = 2)
  | .istore_n j => decide (len = 1 ∧ j.val < nL)
  | .astore_n j => decide (len = 1 ∧ j.val < nL)
  | .istore j => decide (len = 2 ∧ j < nL)
  | .astore j => decide (len = 2 ∧ j < nL)
  | .iinc j n => decide (len = 3 ∧ j < nL ∧ Int32.ofInt n = k)
  | .iconst n => decide (len = 1 ∧ Int32.ofInt n = k)
  | .bipush n => decide (len = 2 ∧ (Int8.ofInt n).toInt32 = k)
  | .sipush n => decide (len = 3 ∧ (Int16.ofInt n).toInt32 = k)
  | .ldc ix => decide (len = 2) && (match a with
    | 0 => decide (lw_tbl[p]? = some (.constant own ix k))
    | _ => decide (zt_srs[p]? = some (own, ix, b) ∧ b < zt_strs.length ∧ b ∈ zt_av))
  | .ifCond _ off => decide (len = 3 ∧ (pc : Int) + off = (a : Int))
  | .if_icmp _ off => decide (len = 3 ∧ (pc : Int) + off = (a : Int))
  | .ifnonnull off => decide (len = 3 ∧ (pc : Int) + off = (a : Int))
  | .goto off => decide (len = 3 ∧ (pc : Int) + off = (a : Int))
  | .getfield ix => decide (len = 3) && (match vwCl[a]? with
    | some Cl => decide (b < Cl.2.2 ∧ lw_tbl[p]? = some (.fieldLink own ix (Cl.2.1 b).1 (Cl.2.1 b).2.1 (Cl.2.1 b).2.2.1))
    | none => false)
  | .putfield ix => decide (len = 3) && (match vwCl[a]? with
    | some Cl => decide (b < Cl.2.2 ∧ lw_tbl[p]? = some (.fieldLink own ix (Cl.2.1 b).1 (Cl.2.1 b).2.1 (Cl.2.1 b).2.2.1) ∧ ((Cl.2.1 b).2.2.2 = false ∨ ((Cl.2.1 b).2.2.2 = true ∧ nm = "<init>" ∧ (Cl.2.1 b).1 = own))) && (match parseFieldDescriptor (Cl.2.1 b).2.2.1 with
      | some ty => q_fits ((qd_nf a).getD b 9) ty
      | none => false)
    | none => false)
  | .getstatic ix => decide (len = 3) && (match a with
    | 0 => decide (lw_tbl[p]? = some (.fieldLink own ix "java/lang/String" "COMPACT_STRINGS" "Z"))
    | 1 => decide (lw_tbl[p]? = some (.fieldLink own ix "java/lang/Integer" "DigitOnes" "[B"))
    | 2 => decide (lw_tbl[p]? = some (.fieldLink own ix "java/lang/Integer" "DigitTens" "[B"))
    | _ => true)
  | .newarray at9 => decide (len = 2 ∧ ((a = 0 ∧ at9 = .int) ∨ (a = 5 ∧ at9 = .byte) ∨ (a = 6 ∧ at9 = .boolean)) ∧ lw_tbl[p]? = some (.arrayClass (newarray.typeOf at9)))
  | .multianewarray ix dims => decide (len = 4 ∧ dims = 2 ∧ lw_tbl[p]? = some (.classLink own ix ("[" ++ (FieldType.array .int).toString)))
  | .new ix => decide (len = 3) && (match a with
    | 11 => decide (lw_tbl[p]? = some (.classLink own ix RJ4) ∧ lw_tbl[b]? = some (.instantiable RJ4 4) ∧ lw_tbl[c]? = some (.initialized RJ4))
    | 12 => decide (lw_tbl[p]? = some (.classLink own ix RJ0) ∧ lw_tbl[b]? = some (.instantiable RJ0 4) ∧ lw_tbl[c]? = some (.initialized RJ0))
    | _ => true)
  | .checkcast ix => decide (len = 3 ∧ lw_tbl[p]? = some (.classLink own ix "[B"))
  | .invokevirtual ix => decide (len = 3) && (match c with
    | 10 => qk_class own ix a b p
    | 97 => decide (a = 7 ∧ lw_tbl[p]? = some (.methodLink own ix ⟨"[B", "clone", "()Ljava/lang/Object;"⟩))
    | 98 => true
    | c => qk_virt own ix a b c p)
  | .invokespecial ix => decide (len = 3) && (match c with
    | 97 => decide (a = 8 ∧ lw_tbl[p]? = some (.methodLink own ix Lib.objectInit))
    | 98 => true
    | c => qk_spec own ix a b c p)
  | .invokestatic ix => decide (len = 3) && (match c with
    | 97 => (match a with
      | 0 => decide (lw_tbl[p]? = some (.methodLink own ix Lib.Math.min.name))
      | 1 => decide (lw_tbl[p]? = some (.methodLink own ix Lib.Math.max.name))
      | 3 => decide (lw_tbl[p]? = some (.methodLink own ix arraycopyName))
      | 6 => decide (lw_tbl[p]? = some (.methodLink own ix yJ0_checkIndex_df160))
      | _ => false)
    | 98 => true
    | _ => (match qt_mi a with
      | some M => decide (b = M.2.2.2.2.2.1 ∧ M.2.2.2.2.2.1 ≤ M.2.2.1 ∧ lw_tbl[p]? = some (.methodLink own ix M.1) ∧ lw_tbl[M.2.2.2.2.2.2.2.2.1]? = some (.static M.1))
      | none => false))
  | .ireturn => decide (len = 1) && (match rk with
    | 1 => decide (ret = some .int)
    | 2 => decide (ret = some .boolean)
    | 6 => decide (ret = some .byte)
    | 7 => decide (ret = some .char)
    | _ => false)
  | .areturn => decide (len = 1) && (match ret with
    | some (.object _) => true
    | some (.array _) => true
    | _ => false)
  | .return_ => decide (len = 1 ∧ ret = none)
  | _ => decide (len = 1)
/-- what is known of the methods that a body calls -/
def qGam (l : Launch) (d : Nat) (Γ : Nat → List zV → qS → Option qO) : Prop := ∀ (mi : Nat) (av : List zV) (T : qS) (o : qO), Γ mi av T = some o → ∀ M, qt_mi mi = some M → av.length ≤ M.2.2.1 → qCtr l d M av T o
def qGh (Z : Nat → List zV → zS → Option zO) : Prop := ∀ (mi : Nat) (av : List zV) (S S' : zS) (v : Option zV), Z mi av S = some (.inl v, S') → mi < 297 → S'.2.2.2 ≤ S.2.2.2
theorem q_pop0 {b : Nat} {st : List zV} {q : List zV × List zV} (h : zx_pop b [] st = some q) : st = q.1.reverse ++ q.2 ∧ q.1.length = b ∧ ∀ w, w ∈ q.1 → zl_wide (some w) = false := by
  obtain ⟨as, hst, hlen, hq1, hnw⟩ := zx_pop_ok _ _ _ _ _ (show zx_pop b [] st = some (q.1, q.2) from h)
  rw [List.append_nil] at hq1
  exact ⟨by rw [hq1, List.reverse_reverse]; exact hst, by rw [hq1, List.length_reverse]; exact hlen, fun w hw => hnw w (by rw [hq1] at hw; exact List.mem_reverse.mp hw)⟩
theorem q_pop1 {b : Nat} {st as : List zV} {v : zV} {q : List zV × List zV} (h : zx_pop b [] st = some q) (e : q.1 = v :: as) : st = as.reverse ++ v :: q.2 ∧ as.length + 1 = b ∧ ∀ w, w ∈ as → zl_wide (some w) = false := by
  obtain ⟨h1, h2, h3⟩ := q_pop0 h
  rw [e] at h1 h2 h3
  exact ⟨by rw [h1, List.reverse_cons, List.append_assoc]; rfl, by rw [← h2]; rfl, fun w hw => h3 w (List.mem_cons_of_mem _ hw)⟩
theorem qx_ret_ok {t : Nat} {r : Option qO} {st : List zV} {nx : List zV → qS → Option qO} {out : qO} (h : qx_ret t r st nx = some out) : ∃ o, r = some o ∧ nx (o.1.toList ++ st) o.2 = some out := by
  unfold qx_ret at h
  split at h
  · split at h
    · exact ⟨_, rfl, h⟩
    · exact nomatch h
  · split at h
    · exact ⟨_, rfl, h⟩
    · exact nomatch h
  · split at h
    · exact ⟨_, rfl, h⟩
    · exact nomatch h
  · exact nomatch h
theorem qz_ret_ok {t : Nat} {r : Option zO} {w : qW} {st : List zV} {nx : List zV → qS → Option qO} {out : qO} (h : qz_ret t r w st nx = some out) : ∃ v S', r = some (.inl v, S') ∧ nx (v.toList ++ st) (S', w) = some out ∧ ∀ u, v = some u → ∃ x, u = zi x := by
  unfold qz_ret at h
  split at h
  · split at h
    · exact ⟨_, _, rfl, h, fun u e => nomatch e⟩
    · exact nomatch h
  · split at h
    · exact ⟨_, _, rfl, h, fun u e => ⟨_, (Option.some.inj e).symm⟩⟩
    · exact nomatch h
  · exact nomatch h
def qk_w : List zM → Prop
  | [] => True
  | M :: l => lw_tbl[M.2.2.2.2.2.2.1]? = some (zM_word M) ∧ qk_w l
theorem qk_w_ok : ∀ (ms : List zM), qk_w ms → ∀ M, M ∈ ms → lw_tbl[M.2.2.2.2.2.2.1]? = some (zM_word M) := by
  intro ms
  induction ms with
  | nil => exact fun _ M h => absurd h List.not_mem_nil
  | cons a ms ih =>
    intro h M hM
    rcases List.mem_cons.mp hM with e | e
    · rw [e]; exact h.1
    · exact ih h.2 M e
set_option maxRecDepth 100000 in
theorem qt_w : qk_w qt_mis := ⟨rfl, rfl, rfl, rfl, rfl, rfl, rfl, rfl, rfl, rfl, rfl, rfl, rfl, rfl, rfl, rfl, rfl, rfl, rfl, rfl, rfl, rfl, rfl, rfl, rfl, rfl, rfl, rfl, rfl, rfl, rfl, rfl, rfl, rfl, rfl, rfl, rfl, rfl, rfl, rfl, rfl, rfl, rfl, rfl, rfl, rfl, rfl, trivial⟩
theorem qt_mi_ok : qt_mis.all (fun M => decide (lw_tbl[M.2.2.2.2.2.2.2.1]? = some (.initialized M.1.cls) ∧ M.1.cls ≠ "java/lang/invoke/MethodHandle" ∧ M.1.cls ≠ "java/lang/invoke/VarHandle" ∧ (parseMethodDescriptor M.1.desc).map (fun d => d.parameters.length) = some M.2.2.2.2.2.1 ∧ M.2.2.1 ≤ 17) && plainName M.1.cls) = true := by decide +kernel
theorem q_m_ok {mi : Nat} {M : zM} (hM : qt_mi mi = some M) : zM_ok M M.2.2.2.2.2.1 ∧ plainName M.1.cls = true := by
  unfold qt_mi at hM
  rw [zx_nth_get] at hM
  have hm := List.mem_of_getElem? hM
  have h := List.all_eq_true.mp qt_mi_ok M hm
  rw [Bool.and_eq_true] at h
  obtain ⟨h2, h3⟩ := h
  obtain ⟨g2, g3, g4, g5, g6⟩ := of_decide_eq_true h2
  exact ⟨⟨qk_w_ok _ qt_w M hm, g2, g3, g4, g5, g6⟩, h3⟩
theorem q_ov1 {M : zM} (hM1 : M.1 = yJ4_append_cf1ce) (hinst : lw_tbl[M.2.2.2.2.2.2.2.2.1]? = some (.instanceMethod M.1)) : qM_ovr yJ5_append_cf1ce M :=
  ⟨by decide, by decide, by rw [hM1]; rfl, hinst, 798, 797, 808, 799, cJ5_append_cf1ce, 3, some (.object RJ5), by decide +kernel, by decide +kernel, by decide +kernel, by rw [hM1]; decide +kernel⟩
theorem q_ov2 {M : zM} (hM1 : M.1 = yJ4_length_8abf5) (hinst : lw_tbl[M.2.2.2.2.2.2.2.2.1]? = some (.instanceMethod M.1)) : qM_ovr yJ5_length_8abf5 M :=
  ⟨by decide, by decide, by rw [hM1]; rfl, hinst, 974, 973, 979, 975, cJ5_length_8abf5, 1, some .int, by decide +kernel, by decide +kernel, by decide +kernel, by rw [hM1]; decide +kernel⟩
section QS
variable {p : Program} {l : Launch} {e : Env} {R : Room} {s : State} {m : MethodId} {args : Array Value} {below : List Frame} {meth : Method} {c : Code} {Q : State → Prop} {G : zG} {T0 : qS} {A : Nat → Prop} {aq0 : Nat → Nat} {own nm : String} {cc : ByteArray} {nL : Nat} {ret : Option FieldType} {cF sF o1 o2 : Nat} {T : qS} {pc : Nat} {lv : zL} {st : List zV}
variable {d : Nat} {out : qO} {Γ : Nat → List zV → qS → Option qO} {Z : Nat → List zV → zS → Option zO}
theorem qJ_lib (X : qX p s m meth c G T0 A own nm cc nL ret) (hR : qRm R T0 cF sF o1 o2) (hd0 : d + 4 ≤ R.frames ∧ 36 * d + 136 ≤ R.locals) {ix a p9 : Nat} (hd : decode cc pc = .ok (.invokestatic ix, 3)) {nx : List zV → qS → Option qO}
    (hk : (match (generalizing := false) a with
      | 0 => decide (lw_tbl[p9]? = some (.methodLink own ix Lib.Math.min.name))
      | 1 => decide (lw_tbl[p9]? = some (.methodLink own ix Lib.Math.max.name))
      | 3 => decide (lw_tbl[p9]? = some (.methodLink own ix arraycopyName))
      | 6 => decide (lw_tbl[p9]? = some (.methodLink own ix yJ0_checkIndex_df160))
      | _ => false) = true) (h : qx_lib a st T nx = some out) (kn : ∀ st T', nx st T' = some out → qJ2 p l e R s m args below meth c Q G T0 A aq0 nL cF sF o1 o2 T' (pc + 3) lv st) : qJ2 p l e R s m args below meth c Q G T0 A aq0 nL cF sF o1 o2 T pc lv st := by
  unfold qx_lib at h
  obtain ⟨hw, h⟩ := zx_if_ok h
  have hw := Nat.le_of_ble_eq_true hw
  split at h
  · exact qJ_min X hR (Nat.le_trans (Nat.le_trans zx_wd_tl2 hw) (by decide)) hd (of_decide_eq_true hk) (kn _ _ h)
  · exact qJ_max X hR (Nat.le_trans (Nat.le_trans zx_wd_tl2 hw) (by decide)) hd (of_decide_eq_true hk) (kn _ _ h)
  · exact qJ_copy X hR hw hd (of_decide_eq_true hk) h (fun S' h => kn _ _ h)
  · rename_i n i st2 _ _
    obtain ⟨h8, h⟩ := zx_if_ok h
    obtain ⟨h0, h1, h⟩ := qa_in_ok h
    exact qJ_callS (as := [zi i, zi n]) (rest := st2) (M := zM_chk) (n := 2) X hR hd0 hd (of_decide_eq_true hk) zM_chk_ok.1 zM_chk_ok.2 (qCtr_chk d i n T h0 (Int32.not_le.mp h1)) (Nat.le_of_ble_eq_true h8) (fun v hv => by
        rcases List.mem_cons.mp hv with e | e
        · rw [e]; rfl
        · rw [List.mem_singleton.mp e]; rfl) rfl (kn _ _ h)
  · exact nomatch hk
  · exact nomatch hk
  · exact nomatch h
theorem qJ_clone9 (X : qX p s m meth c G T0 A own nm cc nL ret) (hR : qRm R T0 cF sF o1 o2) {ix a p9 : Nat} (hd : decode cc pc = .ok (.invokevirtual ix, 3)) {nx : List zV → qS → Option qO} (hk : a = 7 ∧ lw_tbl[p9]? = some (.methodLink own ix ⟨"[B", "clone", "()Ljava/lang/Object;"⟩)) (h : qx_lib a st T nx = some out) (kn : ∀ st T', nx st T' = some out → qJ2 p l e R s m args below meth c Q G T0 A aq0 nL cF sF o1 o2 T' (pc + 3) lv st) : qJ2 p l e R s m args below meth c Q G T0 A aq0 nL cF sF o1 o2 T pc lv st := by
  obtain ⟨ha, hq⟩ := hk
  unfold qx_lib at h
  obtain ⟨hw, h⟩ := zx_if_ok h
  have hw := Nat.le_of_ble_eq_true hw
  split at h
  · exact absurd ha (by decide)
  · exact absurd ha (by decide)
  · exact absurd ha (by decide)
  · exact absurd ha (by decide)
  · split at h
    · rename_i xs hb
      exact qJ_clone X hR (Nat.le_trans (Nat.le_trans zx_wd_tl hw) (by decide)) hd hq hb (kn _ _ h)
    · exact nomatch h
  · exact absurd ha (by decide)
  · exact nomatch h
theorem qJ_oinit9 (X : qX p s m meth c G T0 A own nm cc nL ret) (hR : qRm R T0 cF sF o1 o2) {ix a p9 : Nat} (hd : decode cc pc = .ok (.invokespecial ix, 3)) {nx : List zV → qS → Option qO} (hk : a = 8 ∧ lw_tbl[p9]? = some (.methodLink own ix Lib.objectInit)) (h : qx_lib a st T nx = some out) (kn : ∀ st T', nx st T' = some out → qJ2 p l e R s m args below meth c Q G T0 A aq0 nL cF sF o1 o2 T' (pc + 3) lv st) : qJ2 p l e R s m args below meth c Q G T0 A aq0 nL cF sF o1 o2 T pc lv st := by
  obtain ⟨ha, hq⟩ := hk
  unfold qx_lib at h
  obtain ⟨hw, h⟩ := zx_if_ok h
  have hw := Nat.le_of_ble_eq_true hw
  split at h
  · exact absurd ha (by decide)
  · exact absurd ha (by decide)
  · exact absurd ha (by decide)
  · exact absurd ha (by decide)
  · exact absurd ha (by decide)
  · exact qJ_objInit X hR (Nat.le_trans (Nat.le_trans zx_wd_tl hw) (by decide)) hd hq (kn _ _ h)
  · exact nomatch h
theorem qJ_invokevirtual (X : qX p s m meth c G T0 A own nm cc nL ret) (hR : qRm R T0 cF sF o1 o2) (hd0 : d + 4 ≤ R.frames ∧ 36 * d + 136 ≤ R.locals) (hΓ : qGam l d Γ) (hZ : zGam l d Z) (hZ2 : qGh Z) {ix len a b c9 p9 rt : Nat} (hd : decode cc pc = .ok (.invokevirtual ix, len)) {nx : zL → List zV → qS → Option qO} (hk : (decide (len = 3) && (match (generalizing := false) c9 with
    | 10 => qk_class own ix a b p9
    | 97 => decide (a = 7 ∧ lw_tbl[p9]? = some (.methodLink own ix ⟨"[B", "clone", "()Ljava/lang/Object;"⟩))
    | 98 => true
    | c => qk_virt own ix a b c p9)) = true) (h : (match (generalizing := false) c9 with
    | 10 => (zx_pop b [] st).bind (fun q => zx_if (Nat.ble (zx_wd q.2) 8) (match (generalizing := false) q.1 with
      | .inr (.inl (some (1, 0, 0))) :: as => zx_if (qx_ints as) (qz_ret rt (Z a q.1 T.1) T.2 q.2 (fun st T => nx lv st T))
      | _ => none))
    | 97 => qx_lib a st T (fun st T => nx lv st T)
    | 98 => none
    | c => (zx_pop b [] st).bind (fun q => zx_if (Nat.ble (zx_wd q.2) 8) (match (generalizing := false) q.1 with
      | .inr (.inl (some r)) :: _ => zx_if (qx_rc r (qx_cls c) T) (qx_ret rt (Γ a q.1 T) q.2 (fun st T => nx lv st T))
      | _ => none)) : Option qO) = some out) (kn : (!Nat.beq c9 98) = true → ∀ lv st T', nx lv st T' = some out → qJ2 p l e R s m args below meth c Q G T0 A aq0 nL cF sF o1 o2 T' (pc + len) lv st) : qJ2 p l e R s m args below meth c Q G T0 A aq0 nL cF sF o1 o2 T pc lv st := by
  rw [Bool.and_eq_true] at hk
  obtain ⟨hk1, hk2⟩ := hk
  have e1 : len = 3 := of_decide_eq_true hk1
  subst e1
  split at h
  · obtain ⟨q, hq, h⟩ := Option.bind_eq_some_iff.mp h
    obtain ⟨hw, h⟩ := zx_if_ok h
    have hw : zx_wd q.2 ≤ 8 := Nat.le_of_ble_eq_true hw
    split at h
    · rename_i as has
      obtain ⟨hints, h⟩ := zx_if_ok h
      obtain ⟨v, S', ho, h, hvi⟩ := qz_ret_ok h
      have hk2 : qk_class own ix a b p9 = true := hk2
      unfold qk_class at hk2
      split at hk2
      · rename_i M hM
        obtain ⟨hbn, ha297, hlink, hcls, hnoh, hinst⟩ := of_decide_eq_true hk2
        obtain ⟨hst, hlen, hnw⟩ := q_pop1 hq has
        obtain ⟨hok, -, -, hv⟩ := zk_m_ok hM
        obtain ⟨hV, hle⟩ := hv hinst hnoh
        have hl2 : as.length = M.2.2.2.2.2.1 := by omega
        have hC := hZ _ _ _ _ ho M hM (by rw [has, List.length_cons, hl2]; exact hle)
        rw [has] at hC
        rw [hst]
        exact qJ_callC X hR hd0 hd hlink hok hV hcls hC (hZ2 _ _ _ _ _ ho ha297) hints hvi hw hl2 (kn rfl _ _ _ h)
      · exact nomatch hk2
    · exact nomatch h
  · exact qJ_clone9 X hR hd (of_decide_eq_true hk2) h (fun _ _ h => kn rfl _ _ _ h)
  · exact nomatch h
  · rename_i h10 h97 h98
    have kn9 := kn (by
      cases hb : Nat.beq c9 98 with
      | true => exact absurd (Nat.eq_of_beq_eq_true hb) h98
      | false => rfl)
    obtain ⟨q, hq, h⟩ := Option.bind_eq_some_iff.mp h
    obtain ⟨hw, h⟩ := zx_if_ok h
    have hw : zx_wd q.2 ≤ 8 := Nat.le_of_ble_eq_true hw
    split at h
    · rename_i r as has
      obtain ⟨hrc, h⟩ := zx_if_ok h
      obtain ⟨o, ho, hnx⟩ := qx_ret_ok h
      have hk2 : qk_virt own ix a b c9 p9 = true := by
        split at hk2
        · exact absurd rfl h10
        · exact absurd rfl h97
        · exact absurd rfl h98
        · exact hk2
      unfold qk_virt at hk2
      split at hk2
      · rename_i M hM
        rw [Bool.and_eq_true] at hk2
        obtain ⟨hk3, hk4⟩ := hk2
        obtain ⟨hbn, hle⟩ := of_decide_eq_true hk3
        obtain ⟨hst, hlen, hnw⟩ := q_pop1 hq has
        have hok := (q_m_ok hM).1
        have hl2 : as.length = M.2.2.2.2.2.1 := by omega
        have hC := hΓ _ _ _ _ ho M hM (by rw [has, List.length_cons, hl2]; exact hle)
        rw [has] at hC
        rw [hst]
        split at hk4
        · obtain ⟨hinst, hlk⟩ := of_decide_eq_true hk4
          rcases hlk with ⟨hlink, hM1⟩ | ⟨hlink, hM1⟩
          · exact qJ_callU X hR hd0 hd hlink hok (q_ov1 hM1 hinst) hrc hC hw hnw hl2 (kn9 _ _ _ hnx)
          · exact qJ_callU X hR hd0 hd hlink hok (q_ov2 hM1 hinst) hrc hC hw hnw hl2 (kn9 _ _ _ hnx)
        · obtain ⟨hlink, hsel⟩ := of_decide_eq_true hk4
          exact qJ_callV (Cl := (RJ0, TJ0, 4)) (ci := 12) X hR hd0 hd hlink hok rfl hsel hrc hC hw hnw hl2 (kn9 _ _ _ hnx)
        · rename_i h3 h1
          obtain ⟨hlink, hsel⟩ := of_decide_eq_true hk4
          have hcl : qx_cls c9 = 11 := by
            unfold qx_cls
            split
            · exact absurd rfl h1
            · rfl
          rw [hcl] at hrc
          exact qJ_callV (Cl := (RJ4, TJ4, 4)) (ci := 11) X hR hd0 hd hlink hok rfl hsel hrc hC hw hnw hl2 (kn9 _ _ _ hnx)
      · exact nomatch hk2
    · exact nomatch h
theorem qJ_invokespecial (X : qX p s m meth c G T0 A own nm cc nL ret) (hR : qRm R T0 cF sF o1 o2) (hd0 : d + 4 ≤ R.frames ∧ 36 * d + 136 ≤ R.locals) (hΓ : qGam l d Γ) (hZ : zGam l d Z) (hZ2 : qGh Z) {ix len a b c9 p9 rt : Nat} (hd : decode cc pc = .ok (.invokespecial ix, len)) {nx : zL → List zV → qS → Option qO} (hk : (decide (len = 3) && (match (generalizing := false) c9 with
    | 97 => decide (a = 8 ∧ lw_tbl[p9]? = some (.methodLink own ix Lib.objectInit))
    | 98 => true
    | c => qk_spec own ix a b c p9)) = true) (h : (match (generalizing := false) c9 with
    | 97 => qx_lib a st T (fun st T => nx lv st T)
    | 98 => none
    | 5 => (zx_pop b [] st).bind (fun q => zx_if (Nat.ble (zx_wd q.2) 8) (match (generalizing := false) q.1 with
      | .inr (.inl (some _)) :: _ => qx_ret rt (Γ a q.1 T) q.2 (fun st T => nx lv st T)
      | _ => none))
    | c => (zx_pop b [] st).bind (fun q => zx_if (Nat.ble (zx_wd q.2) 8) (match (generalizing := false) q.1 with
      | .inr (.inl (some r)) :: _ => zx_if (qx_rc r (qx_cls c) T) (qx_ret rt (Γ a q.1 T) q.2 (fun st T => nx lv st T))
      | _ => none)) : Option qO) = some out) (kn : (!Nat.beq c9 98) = true → ∀ lv st T', nx lv st T' = some out → qJ2 p l e R s m args below meth c Q G T0 A aq0 nL cF sF o1 o2 T' (pc + len) lv st) : qJ2 p l e R s m args below meth c Q G T0 A aq0 nL cF sF o1 o2 T pc lv st := by
  rw [Bool.and_eq_true] at hk
  obtain ⟨hk1, hk2⟩ := hk
  have e1 : len = 3 := of_decide_eq_true hk1
  subst e1
  split at h
  · exact qJ_oinit9 X hR hd (of_decide_eq_true hk2) h (fun _ _ h => kn rfl _ _ _ h)
  · exact nomatch h
  · obtain ⟨q, hq, h⟩ := Option.bind_eq_some_iff.mp h
    obtain ⟨hw, h⟩ := zx_if_ok h
    have hw : zx_wd q.2 ≤ 8 := Nat.le_of_ble_eq_true hw
    split at h
    · rename_i r as has
      obtain ⟨o, ho, hnx⟩ := qx_ret_ok h
      have hk2 : qk_spec own ix a b 5 p9 = true := hk2
      unfold qk_spec at hk2
      split at hk2
      · rename_i M hM
        rw [Bool.and_eq_true] at hk2
        obtain ⟨hk3, hk4⟩ := hk2
        obtain ⟨hbn, hle, hlink, hinst⟩ := of_decide_eq_true hk3
        obtain ⟨hst, hlen, hnw⟩ := q_pop1 hq has
        have hok := (q_m_ok hM).1
        have hl2 : as.length = M.2.2.2.2.2.1 := by omega
        have hC := hΓ _ _ _ _ ho M hM (by rw [has, List.length_cons, hl2]; exact hle)
        rw [has] at hC
        rw [hst]
        obtain ⟨g1, g2⟩ := of_decide_eq_true hk4
        exact qJ_callI X hR hd0 hd hlink hok ⟨g1, g2, hinst⟩ hC hw hnw hl2 (kn rfl _ _ _ hnx)
      · exact nomatch hk2
    · exact nomatch h
  · rename_i h97 h98 h5
    have kn9 := kn (by
      cases hb : Nat.beq c9 98 with
      | true => exact absurd (Nat.eq_of_beq_eq_true hb) h98
      | false => rfl)
    obtain ⟨q, hq, h⟩ := Option.bind_eq_some_iff.mp h
    obtain ⟨hw, h⟩ := zx_if_ok h
    have hw : zx_wd q.2 ≤ 8 := Nat.le_of_ble_eq_true hw
    split at h
    · rename_i r as has
      obtain ⟨hrc, h⟩ := zx_if_ok h
      obtain ⟨o, ho, hnx⟩ := qx_ret_ok h
      have hk2 : qk_spec own ix a b c9 p9 = true := by
        split at hk2
        · exact absurd rfl h97
        · exact absurd rfl h98
        · exact hk2
      unfold qk_spec at hk2
      split at hk2
      · rename_i M hM
        rw [Bool.and_eq_true] at hk2
        obtain ⟨hk3, hk4⟩ := hk2
        obtain ⟨hbn, hle, hlink, hinst⟩ := of_decide_eq_true hk3
        obtain ⟨hst, hlen, hnw⟩ := q_pop1 hq has
        have hok := (q_m_ok hM).1
        have hl2 : as.length = M.2.2.2.2.2.1 := by omega
        have hC := hΓ _ _ _ _ ho M hM (by rw [has, List.length_cons, hl2]; exact hle)
        rw [has] at hC
        rw [hst]
        split at hk4
        · exact absurd rfl h5
        · obtain ⟨g0, g1, g2, g3, g4⟩ := of_decide_eq_true hk4
          have hcl : qx_cls c9 = 11 := by
            unfold qx_cls
            split
            · exact absurd rfl g0
            · rfl
          rw [hcl] at hrc
          exact qJ_callSU X hR hd0 g1 hd hlink hok ⟨g2, g3, hinst, _, g4⟩ hrc hC hw hnw hl2 (kn9 _ _ _ hnx)
      · exact nomatch hk2
    · exact nomatch h
theorem qJ_invokestatic (X : qX p s m meth c G T0 A own nm cc nL ret) (hR : qRm R T0 cF sF o1 o2) (hd0 : d + 4 ≤ R.frames ∧ 36 * d + 136 ≤ R.locals) (hΓ : qGam l d Γ) (hZ : zGam l d Z) (hZ2 : qGh Z) {ix len a b c9 p9 rt : Nat} (hd : decode cc pc = .ok (.invokestatic ix, len)) {nx : zL → List zV → qS → Option qO} (hk : (decide (len = 3) && (match (generalizing := false) c9 with
    | 97 => (match (generalizing := false) a with
      | 0 => decide (lw_tbl[p9]? = some (.methodLink own ix Lib.Math.min.name))
      | 1 => decide (lw_tbl[p9]? = some (.methodLink own ix Lib.Math.max.name))
      | 3 => decide (lw_tbl[p9]? = some (.methodLink own ix arraycopyName))
      | 6 => decide (lw_tbl[p9]? = some (.methodLink own ix yJ0_checkIndex_df160))
      | _ => false)
    | 98 => true
    | _ => (match (generalizing := false) qt_mi a with
      | some M => decide (b = M.2.2.2.2.2.1 ∧ M.2.2.2.2.2.1 ≤ M.2.2.1 ∧ lw_tbl[p9]? = some (.methodLink own ix M.1) ∧ lw_tbl[M.2.2.2.2.2.2.2.2.1]? = some (.static M.1))
      | none => false))) = true) (h : (match (generalizing := false) c9 with
    | 97 => qx_lib a st T (fun st T => nx lv st T)
    | 98 => none
    | _ => (zx_pop b [] st).bind (fun q => zx_if (Nat.ble (zx_wd q.2) 8) (qx_ret rt (Γ a q.1 T) q.2 (fun st T => nx lv st T))) : Option qO) = some out) (kn : (!Nat.beq c9 98) = true → ∀ lv st T', nx lv st T' = some out → qJ2 p l e R s m args below meth c Q G T0 A aq0 nL cF sF o1 o2 T' (pc + len) lv st) : qJ2 p l e R s m args below meth c Q G T0 A aq0 nL cF sF o1 o2 T pc lv st := by
  rw [Bool.and_eq_true] at hk
  obtain ⟨hk1, hk2⟩ := hk
  have e1 : len = 3 := of_decide_eq_true hk1
  subst e1
  split at h
  · exact qJ_lib X hR hd0 hd hk2 h (fun _ _ h => kn rfl _ _ _ h)
  · exact nomatch h
  · rename_i h97 h98
    have kn9 := kn (by
      cases hb : Nat.beq c9 98 with
      | true => exact absurd (Nat.eq_of_beq_eq_true hb) h98
      | false => rfl)
    obtain ⟨q, hq, h⟩ := Option.bind_eq_some_iff.mp h
    obtain ⟨hw, h⟩ := zx_if_ok h
    have hw : zx_wd q.2 ≤ 8 := Nat.le_of_ble_eq_true hw
    obtain ⟨o, ho, hnx⟩ := qx_ret_ok h
    split at hk2
    · exact absurd rfl h97
    · exact absurd rfl h98
    · split at hk2
      · rename_i M hM
        obtain ⟨hbn, hle, hlink, hsta⟩ := of_decide_eq_true hk2
        obtain ⟨hst, hlen, hnw⟩ := q_pop0 hq
        have hok := (q_m_ok hM).1
        have hl2 : q.1.length = M.2.2.2.2.2.1 := by omega
        have hC := hΓ _ _ _ _ ho M hM (by rw [hl2]; exact hle)
        rw [hst]
        exact qJ_callS X hR hd0 hd hlink hok hsta hC hw hnw hl2 (kn9 _ _ _ hnx)
      · exact nomatch hk2
theorem qx_step_ok (X : qX p s m meth c G T0 A own nm cc nL ret) (hR : qRm R T0 cF sF o1 o2) (hd0 : d + 4 ≤ R.frames ∧ 36 * d + 136 ≤ R.locals) (hΓ : qGam l d Γ) (hZ : zGam l d Z) (hZ2 : qGh Z) {i : Instr} {len a b c9 p9 rt rk : Nat} {k : Int32} (hi : zt_isret i = false) (hd : decode cc pc = .ok (i, len)) (hk : qk_i own nm nL ret rk pc i len a b c9 p9 rt k = true)
    {nx : zL → List zV → qS → Option qO} {jp : Nat → zL → List zV → qS → Option qO} (h : qx_step Γ Z rk nx jp i a b c9 rt k lv st T = some out) (kn : qt_falls i a c9 = true → ∀ lv st T', nx lv st T' = some out → qJ2 p l e R s m args below meth c Q G T0 A aq0 nL cF sF o1 o2 T' (pc + len) lv st) (kj : ∀ t lv st T', jp t lv st T' = some out → qJ2 p l e R s m args below meth c Q G T0 A aq0 nL cF sF o1 o2 T' t lv st) : qJ2 p l e R s m args below meth c Q G T0 A aq0 nL cF sF o1 o2 T pc lv st := by
  cases i with
  | iload_n j =>
    have hk : (decide (len = 1)) = true := hk
    have h : (match (generalizing := false) zl_get lv j.val with
      | some (.inl x) => nx lv (zi x :: st) T
      | _ => none : Option qO) = some out := h
    have kn9 := kn rfl
    have e1 : len = 1 := of_decide_eq_true hk
    subst e1
    split at h
    · rename_i hl
      exact qJ_iload_n X hd hl (kn9 _ _ _ h)
    · exact nomatch h
  | iload j =>
    have hk : (decide (len = 2)) = true := hk
    have h : (match (generalizing := false) zl_get lv j with
      | some (.inl x) => nx lv (zi x :: st) T
      | _ => none : Option qO) = some out := h
    have kn9 := kn rfl
    have e1 : len = 2 := of_decide_eq_true hk
    subst e1
    split at h
    · rename_i hl
      exact qJ_iload X hd hl (kn9 _ _ _ h)
    · exact nomatch h
  | aload_n j =>
    have hk : (decide (len = 1)) = true := hk
    have h : (match (generalizing := false) zl_get lv j.val with
      | some (.inr (.inl (some r))) => nx lv (.inr (.inl (some r)) :: st) T
      | _ => none : Option qO) = some out := h
    have kn9 := kn rfl
    have e1 : len = 1 := of_decide_eq_true hk
    subst e1
    split at h
    · rename_i hl
      exact qJ_aload_n X hd hl (kn9 _ _ _ h)
    · exact nomatch h
  | aload j =>
    have hk : (decide (len = 2)) = true := hk
    have h : (match (generalizing := false) zl_get lv j with
      | some (.inr (.inl (some r))) => nx lv (.inr (.inl (some r)) :: st) T
      | _ => none : Option qO) = some out := h
    have kn9 := kn rfl
    have e1 : len = 2 := of_decide_eq_true hk
    subst e1
    split at h
    · rename_i hl
      exact qJ_aload X hd hl (kn9 _ _ _ h)
    · exact nomatch h
  | istore_n j =>
    have hk : (decide (len = 1 ∧ j.val < nL)) = true := hk
    have h : (match (generalizing := false) st with
      | .inl x :: st => nx (zl_set lv j.val (some (zi x))) st T
      | _ => none : Option qO) = some out := h
    have kn9 := kn rfl
    obtain ⟨e1, hn⟩ : len = 1 ∧ j.val < nL := of_decide_eq_true hk
    subst e1
    split at h
    · exact qJ_istore_n X hd hn (kn9 _ _ _ h)
    · exact nomatch h
  | istore j =>
    have hk : (decide (len = 2 ∧ j < nL)) = true := hk
    have h : (match (generalizing := false) st with
      | .inl x :: st => nx (zl_set lv j (some (zi x))) st T
      | _ => none : Option qO) = some out := h
    have kn9 := kn rfl
    obtain ⟨e1, hn⟩ : len = 2 ∧ j < nL := of_decide_eq_true hk
    subst e1
    split at h
    · exact qJ_istore X hd hn (kn9 _ _ _ h)
    · exact nomatch h
  | astore_n j =>
    have hk : (decide (len = 1 ∧ j.val < nL)) = true := hk
    have h : (match (generalizing := false) st with
      | .inr (.inl (some r)) :: st => nx (zl_set lv j.val (some (.inr (.inl (some r))))) st T
      | _ => none : Option qO) = some out := h
    have kn9 := kn rfl
    obtain ⟨e1, hn⟩ : len = 1 ∧ j.val < nL := of_decide_eq_true hk
    subst e1
    split at h
    · exact qJ_astore_n X hd hn (kn9 _ _ _ h)
    · exact nomatch h
  | astore j =>
    have hk : (decide (len = 2 ∧ j < nL)) = true := hk
    have h : (match (generalizing := false) st with
      | .inr (.inl (some r)) :: st => nx (zl_set lv j (some (.inr (.inl (some r))))) st T
      | _ => none : Option qO) = some out := h
    have kn9 := kn rfl
    obtain ⟨e1, hn⟩ : len = 2 ∧ j < nL := of_decide_eq_true hk
    subst e1
    split at h
    · exact qJ_astore X hd hn (kn9 _ _ _ h)
    · exact nomatch h
  | iinc j n =>
    have hk : (decide (len = 3 ∧ j < nL ∧ Int32.ofInt n = k)) = true := hk
    have h : (match (generalizing := false) zl_get lv j with
      | some (.inl x) => nx (zl_set lv j (some (zi (x + k)))) st T
      | _ => none : Option qO) = some out := h
    have kn9 := kn rfl
    obtain ⟨e1, hn, hk9⟩ : len = 3 ∧ j < nL ∧ Int32.ofInt n = k := of_decide_eq_true hk
    subst e1
    split at h
    · rename_i hl
      exact qJ_iinc X hd hn hk9 hl (kn9 _ _ _ h)
    · exact nomatch h
  | iconst n =>
    have hk : (decide (len = 1 ∧ Int32.ofInt n = k)) = true := hk
    have h : (nx lv (zi k :: st) T : Option qO) = some out := h
    have kn9 := kn rfl
    obtain ⟨e1, hk9⟩ : len = 1 ∧ Int32.ofInt n = k := of_decide_eq_true hk
    subst e1
    exact qJ_iconst X hd hk9 (kn9 _ _ _ h)
  | bipush n =>
    have hk : (decide (len = 2 ∧ (Int8.ofInt n).toInt32 = k)) = true := hk
    have h : (nx lv (zi k :: st) T : Option qO) = some out := h
    have kn9 := kn rfl
    obtain ⟨e1, hk9⟩ : len = 2 ∧ (Int8.ofInt n).toInt32 = k := of_decide_eq_true hk
    subst e1
    exact qJ_bipush X hd hk9 (kn9 _ _ _ h)
  | sipush n =>
    have hk : (decide (len = 3 ∧ (Int16.ofInt n).toInt32 = k)) = true := hk
    have h : (nx lv (zi k :: st) T : Option qO) = some out := h
    have kn9 := kn rfl
    obtain ⟨e1, hk9⟩ : len = 3 ∧ (Int16.ofInt n).toInt32 = k := of_decide_eq_true hk
    subst e1
    exact qJ_sipush X hd hk9 (kn9 _ _ _ h)
  | ldc ix =>
    have hk : (decide (len = 2) && (match (generalizing := false) a with
      | 0 => decide (lw_tbl[p9]? = some (.constant own ix k))
      | _ => decide (zt_srs[p9]? = some (own, ix, b) ∧ b < zt_strs.length ∧ b ∈ zt_av))) = true := hk
    have h : (match (generalizing := false) a with
      | 0 => nx lv (zi k :: st) T
      | _ => nx lv (za 6 b 0 :: st) T : Option qO) = some out := h
    have kn9 := kn rfl
    rw [Bool.and_eq_true] at hk
    obtain ⟨hk1, hk2⟩ := hk
    have e1 : len = 2 := of_decide_eq_true hk1
    subst e1
    cases a with
    | zero =>
      have hk2 : lw_tbl[p9]? = some (.constant own ix k) := of_decide_eq_true hk2
      exact qJ_ldc X hd hk2 (kn9 _ _ _ h)
    | succ a =>
      obtain ⟨h1, h2, h3⟩ : zt_srs[p9]? = some (own, ix, b) ∧ b < zt_strs.length ∧ b ∈ zt_av := of_decide_eq_true hk2
      exact qJ_ldcS X hd h1 (List.getElem?_eq_getElem h2) h3 (kn9 _ _ _ h)
  | aconst_null =>
    have hk : (decide (len = 1)) = true := hk
    have h : (nx lv (zn :: st) T : Option qO) = some out := h
    have kn9 := kn rfl
    have e1 : len = 1 := of_decide_eq_true hk
    subst e1
    exact qJ_null X hd (kn9 _ _ _ h)
  | dup =>
    have hk : (decide (len = 1)) = true := hk
    have h : (match (generalizing := false) st with
      | .inr (.inl (some r)) :: st => nx lv (.inr (.inl (some r)) :: .inr (.inl (some r)) :: st) T
      | _ => none : Option qO) = some out := h
    have kn9 := kn rfl
    have e1 : len = 1 := of_decide_eq_true hk
    subst e1
    split at h
    · exact qJ_dup X hd (kn9 _ _ _ h)
    · exact nomatch h
  | dup2 =>
    have hk : (decide (len = 1)) = true := hk
    have h : (match (generalizing := false) st with
      | .inl x :: .inr (.inl (some r)) :: st => nx lv (zi x :: .inr (.inl (some r)) :: zi x :: .inr (.inl (some r)) :: st) T
      | _ => none : Option qO) = some out := h
    have kn9 := kn rfl
    have e1 : len = 1 := of_decide_eq_true hk
    subst e1
    split at h
    · exact qJ_dup2 X hd (kn9 _ _ _ h)
    · exact nomatch h
  | dup_x1 =>
    have hk : (decide (len = 1)) = true := hk
    have h : (match (generalizing := false) st with
      | .inl x :: .inr (.inl (some r)) :: st => nx lv (zi x :: .inr (.inl (some r)) :: zi x :: st) T
      | _ => none : Option qO) = some out := h
    have kn9 := kn rfl
    have e1 : len = 1 := of_decide_eq_true hk
    subst e1
    split at h
    · exact qJ_dup_x1 X hd (kn9 _ _ _ h)
    · exact nomatch h
  | pop =>
    have hk : (decide (len = 1)) = true := hk
    have h : (match (generalizing := false) st with
      | .inl _ :: st => nx lv st T
      | .inr (.inl (some _)) :: st => nx lv st T
      | _ => none : Option qO) = some out := h
    have kn9 := kn rfl
    have e1 : len = 1 := of_decide_eq_true hk
    subst e1
    split at h
    · exact qJ_pop X rfl hd (kn9 _ _ _ h)
    · exact qJ_pop X rfl hd (kn9 _ _ _ h)
    · exact nomatch h
  | iadd =>
    have hk : (decide (len = 1)) = true := hk
    have h : (match (generalizing := false) st with
      | .inl y :: .inl x :: st => nx lv (zi (x + y) :: st) T
      | _ => none : Option qO) = some out := h
    have kn9 := kn rfl
    have e1 : len = 1 := of_decide_eq_true hk
    subst e1
    split at h
    · exact qJ_iadd X hd (kn9 _ _ _ h)
    · exact nomatch h
  | isub =>
    have hk : (decide (len = 1)) = true := hk
    have h : (match (generalizing := false) st with
      | .inl y :: .inl x :: st => nx lv (zi (x - y) :: st) T
      | _ => none : Option qO) = some out := h
    have kn9 := kn rfl
    have e1 : len = 1 := of_decide_eq_true hk
    subst e1
    split at h
    · exact qJ_isub X hd (kn9 _ _ _ h)
    · exact nomatch h
  | imul =>
    have hk : (decide (len = 1)) = true := hk
    have h : (match (generalizing := false) st with
      | .inl y :: .inl x :: st => nx lv (zi (x * y) :: st) T
      | _ => none : Option qO) = some out := h
    have kn9 := kn rfl
    have e1 : len = 1 := of_decide_eq_true hk
    subst e1
    split at h
    · exact qJ_imul X hd (kn9 _ _ _ h)
    · exact nomatch h
  | idiv =>
    have hk : (decide (len = 1)) = true := hk
    have h : (match (generalizing := false) st with
      | .inl y :: .inl x :: st => if y = 0 then none else nx lv (zi (x / y) :: st) T
      | _ => none : Option qO) = some out := h
    have kn9 := kn rfl
    have e1 : len = 1 := of_decide_eq_true hk
    subst e1
    split at h
    · split at h
      · exact nomatch h
      · rename_i hne
        exact qJ_idiv X hd hne (kn9 _ _ _ h)
    · exact nomatch h
  | irem =>
    have hk : (decide (len = 1)) = true := hk
    have h : (match (generalizing := false) st with
      | .inl y :: .inl x :: st => if y = 0 then none else nx lv (zi (x - x / y * y) :: st) T
      | _ => none : Option qO) = some out := h
    have kn9 := kn rfl
    have e1 : len = 1 := of_decide_eq_true hk
    subst e1
    split at h
    · split at h
      · exact nomatch h
      · rename_i hne
        exact qJ_irem X hd hne (kn9 _ _ _ h)
    · exact nomatch h
  | ineg =>
    have hk : (decide (len = 1)) = true := hk
    have h : (match (generalizing := false) st with
      | .inl x :: st => nx lv (zi (-x) :: st) T
      | _ => none : Option qO) = some out := h
    have kn9 := kn rfl
    have e1 : len = 1 := of_decide_eq_true hk
    subst e1
    split at h
    · exact qJ_ineg X hd (kn9 _ _ _ h)
    · exact nomatch h
  | iand =>
    have hk : (decide (len = 1)) = true := hk
    have h : (match (generalizing := false) st with
      | .inl y :: .inl x :: st => nx lv (zi (x &&& y) :: st) T
      | _ => none : Option qO) = some out := h
    have kn9 := kn rfl
    have e1 : len = 1 := of_decide_eq_true hk
    subst e1
    split at h
    · exact qJ_iand X hd (kn9 _ _ _ h)
    · exact nomatch h
  | ior =>
    have hk : (decide (len = 1)) = true := hk
    have h : (match (generalizing := false) st with
      | .inl y :: .inl x :: st => nx lv (zi (x ||| y) :: st) T
      | _ => none : Option qO) = some out := h
    have kn9 := kn rfl
    have e1 : len = 1 := of_decide_eq_true hk
    subst e1
    split at h
    · exact qJ_ior X hd (kn9 _ _ _ h)
    · exact nomatch h
  | ishl =>
    have hk : (decide (len = 1)) = true := hk
    have h : (match (generalizing := false) st with
      | .inl y :: .inl x :: st => nx lv (zi (x <<< (y &&& 31)) :: st) T
      | _ => none : Option qO) = some out := h
    have kn9 := kn rfl
    have e1 : len = 1 := of_decide_eq_true hk
    subst e1
    split at h
    · exact qJ_ishl X hd (kn9 _ _ _ h)
    · exact nomatch h
  | ishr =>
    have hk : (decide (len = 1)) = true := hk
    have h : (match (generalizing := false) st with
      | .inl y :: .inl x :: st => nx lv (zi (x >>> (y &&& 31)) :: st) T
      | _ => none : Option qO) = some out := h
    have kn9 := kn rfl
    have e1 : len = 1 := of_decide_eq_true hk
    subst e1
    split at h
    · exact qJ_ishr X hd (kn9 _ _ _ h)
    · exact nomatch h
  | i2b =>
    have hk : (decide (len = 1)) = true := hk
    have h : (match (generalizing := false) st with
      | .inl x :: st => nx lv (zi x.toInt8.toInt32 :: st) T
      | _ => none : Option qO) = some out := h
    have kn9 := kn rfl
    have e1 : len = 1 := of_decide_eq_true hk
    subst e1
    split at h
    · exact qJ_i2b X hd (kn9 _ _ _ h)
    · exact nomatch h
  | i2c =>
    have hk : (decide (len = 1)) = true := hk
    have h : (match (generalizing := false) st with
      | .inl x :: st => nx lv (zi (x.toUInt32 % 65536).toInt32 :: st) T
      | _ => none : Option qO) = some out := h
    have kn9 := kn rfl
    have e1 : len = 1 := of_decide_eq_true hk
    subst e1
    split at h
    · exact qJ_i2c X hd (kn9 _ _ _ h)
    · exact nomatch h
  | ifCond cc0 off =>
    have hk : (decide (len = 3 ∧ (pc : Int) + off = (a : Int))) = true := hk
    have h : (match (generalizing := false) st with
      | .inl x :: st => qx_cond cc0 x 0 (jp a lv st T) (nx lv st T)
      | _ => none : Option qO) = some out := h
    have kn9 := kn rfl
    obtain ⟨e1, ht⟩ : len = 3 ∧ (pc : Int) + off = (a : Int) := of_decide_eq_true hk
    subst e1
    split at h
    · exact qJ_if X hd ht h (fun h => kj _ _ _ _ h) (fun h => kn9 _ _ _ h)
    · exact nomatch h
  | if_icmp cc0 off =>
    have hk : (decide (len = 3 ∧ (pc : Int) + off = (a : Int))) = true := hk
    have h : (match (generalizing := false) st with
      | .inl y :: .inl x :: st => qx_cond cc0 x y (jp a lv st T) (nx lv st T)
      | _ => none : Option qO) = some out := h
    have kn9 := kn rfl
    obtain ⟨e1, ht⟩ : len = 3 ∧ (pc : Int) + off = (a : Int) := of_decide_eq_true hk
    subst e1
    split at h
    · exact qJ_icmp X hd ht h (fun h => kj _ _ _ _ h) (fun h => kn9 _ _ _ h)
    · exact nomatch h
  | ifnonnull off =>
    have hk : (decide (len = 3 ∧ (pc : Int) + off = (a : Int))) = true := hk
    have h : (match (generalizing := false) st with
      | .inr (.inl (some _)) :: st => jp a lv st T
      | _ => none : Option qO) = some out := h
    obtain ⟨e1, ht⟩ : len = 3 ∧ (pc : Int) + off = (a : Int) := of_decide_eq_true hk
    subst e1
    split at h
    · exact qJ_ifnn X hd ht (kj _ _ _ _ h)
    · exact nomatch h
  | goto off =>
    have hk : (decide (len = 3 ∧ (pc : Int) + off = (a : Int))) = true := hk
    have h : (jp a lv st T : Option qO) = some out := h
    obtain ⟨e1, ht⟩ : len = 3 ∧ (pc : Int) + off = (a : Int) := of_decide_eq_true hk
    subst e1
    exact qJ_goto X hd ht (kj _ _ _ _ h)
  | getfield ix =>
    have hk : (decide (len = 3) && (match (generalizing := false) vwCl[a]? with
      | some Cl => decide (b < Cl.2.2 ∧ lw_tbl[p9]? = some (.fieldLink own ix (Cl.2.1 b).1 (Cl.2.1 b).2.1 (Cl.2.1 b).2.2.1))
      | none => false)) = true := hk
    have h : (match (generalizing := false) st with
      | .inr (.inl (some r)) :: st => qf_get a b r T (fun v => nx lv (v :: st) T)
      | _ => none : Option qO) = some out := h
    have kn9 := kn rfl
    rw [Bool.and_eq_true] at hk
    obtain ⟨hk1, hk2⟩ := hk
    have e1 : len = 3 := of_decide_eq_true hk1
    subst e1
    split at hk2
    · rename_i Cl hCl
      obtain ⟨hb, hq⟩ := of_decide_eq_true hk2
      split at h
      · exact qJ_getfield X hd hCl hb hq h (fun _ h => kn9 _ _ _ h)
      · exact nomatch h
    · exact nomatch hk2
  | putfield ix =>
    have hk : (decide (len = 3) && (match (generalizing := false) vwCl[a]? with
      | some Cl => decide (b < Cl.2.2 ∧ lw_tbl[p9]? = some (.fieldLink own ix (Cl.2.1 b).1 (Cl.2.1 b).2.1 (Cl.2.1 b).2.2.1) ∧ ((Cl.2.1 b).2.2.2 = false ∨ ((Cl.2.1 b).2.2.2 = true ∧ nm = "<init>" ∧ (Cl.2.1 b).1 = own))) && (match (generalizing := false) parseFieldDescriptor (Cl.2.1 b).2.2.1 with
        | some ty => q_fits ((qd_nf a).getD b 9) ty
        | none => false)
      | none => false)) = true := hk
    have h : (match (generalizing := false) st with
      | v :: .inr (.inl (some r)) :: st => qf_put a b r v T (fun T => nx lv st T)
      | _ => none : Option qO) = some out := h
    have kn9 := kn rfl
    rw [Bool.and_eq_true] at hk
    obtain ⟨hk1, hk2⟩ := hk
    have e1 : len = 3 := of_decide_eq_true hk1
    subst e1
    split at hk2
    · rename_i Cl hCl
      rw [Bool.and_eq_true] at hk2
      obtain ⟨hk3, hk4⟩ := hk2
      obtain ⟨hb, hq, hfin⟩ := of_decide_eq_true hk3
      split at hk4
      · rename_i ty hty
        split at h
        · exact qJ_putfield X hd hCl hb hq hty hk4 hfin h (fun _ h => kn9 _ _ _ h)
        · exact nomatch h
      · exact nomatch hk4
    · exact nomatch hk2
  | getstatic ix =>
    have hk : (decide (len = 3) && (match (generalizing := false) a with
      | 0 => decide (lw_tbl[p9]? = some (.fieldLink own ix "java/lang/String" "COMPACT_STRINGS" "Z"))
      | 1 => decide (lw_tbl[p9]? = some (.fieldLink own ix "java/lang/Integer" "DigitOnes" "[B"))
      | 2 => decide (lw_tbl[p9]? = some (.fieldLink own ix "java/lang/Integer" "DigitTens" "[B"))
      | _ => true)) = true := hk
    have h : (match (generalizing := false) a with
      | 0 => nx lv (zi 1 :: st) T
      | 1 => nx lv (za 9 0 0 :: st) T
      | 2 => nx lv (za 9 1 0 :: st) T
      | _ => none : Option qO) = some out := h
    have kn9 := kn rfl
    rw [Bool.and_eq_true] at hk
    obtain ⟨hk1, hk2⟩ := hk
    have e1 : len = 3 := of_decide_eq_true hk1
    subst e1
    split at h
    · exact qJ_compact X hd (of_decide_eq_true hk2) (kn9 _ _ _ h)
    · exact qJ_ones X hd (of_decide_eq_true hk2) (kn9 _ _ _ h)
    · exact qJ_tens X hd (of_decide_eq_true hk2) (kn9 _ _ _ h)
    · exact nomatch h
  | arraylength =>
    have hk : (decide (len = 1)) = true := hk
    have h : (match (generalizing := false) st with
      | .inr (.inl (some r)) :: st => qa_len r T (fun x => nx lv (zi x :: st) T)
      | _ => none : Option qO) = some out := h
    have kn9 := kn rfl
    have e1 : len = 1 := of_decide_eq_true hk
    subst e1
    split at h
    · exact qJ_len X hd h (fun _ h => kn9 _ _ _ h)
    · exact nomatch h
  | iaload =>
    have hk : (decide (len = 1)) = true := hk
    have h : (match (generalizing := false) st with
      | .inl j :: .inr (.inl (some r)) :: st => qa_ld r j T (fun x => nx lv (zi x :: st) T)
      | _ => none : Option qO) = some out := h
    have kn9 := kn rfl
    have e1 : len = 1 := of_decide_eq_true hk
    subst e1
    split at h
    · exact qJ_iaload X hd h (fun _ h => kn9 _ _ _ h)
    · exact nomatch h
  | iastore =>
    have hk : (decide (len = 1)) = true := hk
    have h : (match (generalizing := false) st with
      | .inl x :: .inl j :: .inr (.inl (some r)) :: st => qa_st r j x T (fun T => nx lv st T)
      | _ => none : Option qO) = some out := h
    have kn9 := kn rfl
    have e1 : len = 1 := of_decide_eq_true hk
    subst e1
    split at h
    · exact qJ_iastore X hd h (fun _ h => kn9 _ _ _ h)
    · exact nomatch h
  | baload =>
    have hk : (decide (len = 1)) = true := hk
    have h : (match (generalizing := false) st with
      | .inl j :: .inr (.inl (some r)) :: st => qa_bld r j T (fun x => nx lv (zi x :: st) T)
      | _ => none : Option qO) = some out := h
    have kn9 := kn rfl
    have e1 : len = 1 := of_decide_eq_true hk
    subst e1
    split at h
    · exact qJ_baload X hd h (fun _ h => kn9 _ _ _ h)
    · exact nomatch h
  | bastore =>
    have hk : (decide (len = 1)) = true := hk
    have h : (match (generalizing := false) st with
      | .inl x :: .inl j :: .inr (.inl (some r)) :: st => qa_bst r j x T (fun T => nx lv st T)
      | _ => none : Option qO) = some out := h
    have kn9 := kn rfl
    have e1 : len = 1 := of_decide_eq_true hk
    subst e1
    split at h
    · exact qJ_bastore X hd h (fun _ h => kn9 _ _ _ h)
    · exact nomatch h
  | aaload =>
    have hk : (decide (len = 1)) = true := hk
    have h : (match (generalizing := false) st with
      | .inl j :: .inr (.inl (some r)) :: st => qa_ldr r j T (fun v => nx lv (v :: st) T)
      | _ => none : Option qO) = some out := h
    have kn9 := kn rfl
    have e1 : len = 1 := of_decide_eq_true hk
    subst e1
    split at h
    · exact qJ_aaload X hd h (fun _ h => kn9 _ _ _ h)
    · exact nomatch h
  | newarray at9 =>
    have hk : (decide (len = 2 ∧ ((a = 0 ∧ at9 = .int) ∨ (a = 5 ∧ at9 = .byte) ∨ (a = 6 ∧ at9 = .boolean)) ∧ lw_tbl[p9]? = some (.arrayClass (newarray.typeOf at9)))) = true := hk
    have h : (match (generalizing := false) st with
      | .inl n :: st => qa_new n a T (fun v T => nx lv (v :: st) T)
      | _ => none : Option qO) = some out := h
    have kn9 := kn rfl
    obtain ⟨e1, hk1, hk2⟩ : len = 2 ∧ ((a = 0 ∧ at9 = .int) ∨ (a = 5 ∧ at9 = .byte) ∨ (a = 6 ∧ at9 = .boolean)) ∧ lw_tbl[p9]? = some (.arrayClass (newarray.typeOf at9)) := of_decide_eq_true hk
    subst e1
    split at h
    · exact qJ_newA X hR hk1 hd hk2 h (fun _ _ h => kn9 _ _ _ h)
    · exact nomatch h
  | multianewarray ix dims =>
    have hk : (decide (len = 4 ∧ dims = 2 ∧ lw_tbl[p9]? = some (.classLink own ix ("[" ++ (FieldType.array .int).toString)))) = true := hk
    have h : (match (generalizing := false) st with
      | .inl m :: .inl n :: st => qa_new2 n m T (fun v T => nx lv (v :: st) T)
      | _ => none : Option qO) = some out := h
    have kn9 := kn rfl
    have hm := h
    obtain ⟨e1, e2, hk2⟩ : len = 4 ∧ dims = 2 ∧ lw_tbl[p9]? = some (.classLink own ix ("[" ++ (FieldType.array .int).toString)) := of_decide_eq_true hk
    subst e1
    subst e2
    split at hm
    · exact qJ_new2 X hR hd hk2 hm (fun _ _ h => kn9 _ _ _ h)
    · exact nomatch hm
  | new ix =>
    have hk : (decide (len = 3) && (match (generalizing := false) a with
      | 11 => decide (lw_tbl[p9]? = some (.classLink own ix RJ4) ∧ lw_tbl[b]? = some (.instantiable RJ4 4) ∧ lw_tbl[c9]? = some (.initialized RJ4))
      | 12 => decide (lw_tbl[p9]? = some (.classLink own ix RJ0) ∧ lw_tbl[b]? = some (.instantiable RJ0 4) ∧ lw_tbl[c9]? = some (.initialized RJ0))
      | _ => true)) = true := hk
    have h : (match (generalizing := false) a with
      | 11 => nx lv (za 8 T.2.length 0 :: st) (T.1, T.2 ++ [.inl (11, qd_obj 11)])
      | 12 => nx lv (za 8 T.2.length 0 :: st) (T.1, T.2 ++ [.inl (12, qd_obj 12)])
      | _ => none : Option qO) = some out := h
    rw [Bool.and_eq_true] at hk
    obtain ⟨hk1, hk2⟩ := hk
    have e1 : len = 3 := of_decide_eq_true hk1
    subst e1
    split at h
    · obtain ⟨h1, h2, h3⟩ := of_decide_eq_true hk2
      exact qJ_new (Cl := (RJ4, TJ4, 4)) X (Or.inl rfl) hR hd rfl rfl h1 h2 h3 (kn rfl _ _ _ h)
    · obtain ⟨h1, h2, h3⟩ := of_decide_eq_true hk2
      exact qJ_new (Cl := (RJ0, TJ0, 4)) X (Or.inr rfl) hR hd rfl rfl h1 h2 h3 (kn rfl _ _ _ h)
    · exact nomatch h
  | checkcast ix =>
    have hk : (decide (len = 3 ∧ lw_tbl[p9]? = some (.classLink own ix "[B"))) = true := hk
    have h : (match (generalizing := false) st with
      | .inr (.inl (some (8, q, 0))) :: st => (match (generalizing := false) zx_nth T.2 q with
        | some (.inr (.inl (5, _))) => nx lv (za 8 q 0 :: st) T
        | _ => none)
      | _ => none : Option qO) = some out := h
    have kn9 := kn rfl
    obtain ⟨e1, hk2⟩ : len = 3 ∧ lw_tbl[p9]? = some (.classLink own ix "[B") := of_decide_eq_true hk
    subst e1
    split at h
    · split at h
      · rename_i hb
        exact qJ_cast X hd hk2 hb (kn9 _ _ _ h)
      · exact nomatch h
    · exact nomatch h
  | invokevirtual ix =>
    have hk : (decide (len = 3) && (match (generalizing := false) c9 with
      | 10 => qk_class own ix a b p9
      | 97 => decide (a = 7 ∧ lw_tbl[p9]? = some (.methodLink own ix ⟨"[B", "clone", "()Ljava/lang/Object;"⟩))
      | 98 => true
      | c => qk_virt own ix a b c p9)) = true := hk
    have h : (match (generalizing := false) c9 with
      | 10 => (zx_pop b [] st).bind (fun q => zx_if (Nat.ble (zx_wd q.2) 8) (match (generalizing := false) q.1 with
        | .inr (.inl (some (1, 0, 0))) :: as => zx_if (qx_ints as) (qz_ret rt (Z a q.1 T.1) T.2 q.2 (fun st T => nx lv st T))
        | _ => none))
      | 97 => qx_lib a st T (fun st T => nx lv st T)
      | 98 => none
      | c => (zx_pop b [] st).bind (fun q => zx_if (Nat.ble (zx_wd q.2) 8) (match (generalizing := false) q.1 with
        | .inr (.inl (some r)) :: _ => zx_if (qx_rc r (qx_cls c) T) (qx_ret rt (Γ a q.1 T) q.2 (fun st T => nx lv st T))
        | _ => none)) : Option qO) = some out := h
    exact qJ_invokevirtual X hR hd0 hΓ hZ hZ2 hd hk h kn
  | invokespecial ix =>
    have hk : (decide (len = 3) && (match (generalizing := false) c9 with
      | 97 => decide (a = 8 ∧ lw_tbl[p9]? = some (.methodLink own ix Lib.objectInit))
      | 98 => true
      | c => qk_spec own ix a b c p9)) = true := hk
    have h : (match (generalizing := false) c9 with
      | 97 => qx_lib a st T (fun st T => nx lv st T)
      | 98 => none
      | 5 => (zx_pop b [] st).bind (fun q => zx_if (Nat.ble (zx_wd q.2) 8) (match (generalizing := false) q.1 with
        | .inr (.inl (some _)) :: _ => qx_ret rt (Γ a q.1 T) q.2 (fun st T => nx lv st T)
        | _ => none))
      | c => (zx_pop b [] st).bind (fun q => zx_if (Nat.ble (zx_wd q.2) 8) (match (generalizing := false) q.1 with
        | .inr (.inl (some r)) :: _ => zx_if (qx_rc r (qx_cls c) T) (qx_ret rt (Γ a q.1 T) q.2 (fun st T => nx lv st T))
        | _ => none)) : Option qO) = some out := h
    exact qJ_invokespecial X hR hd0 hΓ hZ hZ2 hd hk h kn
  | invokestatic ix =>
    have hk : (decide (len = 3) && (match (generalizing := false) c9 with
      | 97 => (match (generalizing := false) a with
        | 0 => decide (lw_tbl[p9]? = some (.methodLink own ix Lib.Math.min.name))
        | 1 => decide (lw_tbl[p9]? = some (.methodLink own ix Lib.Math.max.name))
        | 3 => decide (lw_tbl[p9]? = some (.methodLink own ix arraycopyName))
        | 6 => decide (lw_tbl[p9]? = some (.methodLink own ix yJ0_checkIndex_df160))
        | _ => false)
      | 98 => true
      | _ => (match (generalizing := false) qt_mi a with
        | some M => decide (b = M.2.2.2.2.2.1 ∧ M.2.2.2.2.2.1 ≤ M.2.2.1 ∧ lw_tbl[p9]? = some (.methodLink own ix M.1) ∧ lw_tbl[M.2.2.2.2.2.2.2.2.1]? = some (.static M.1))
        | none => false))) = true := hk
    have h : (match (generalizing := false) c9 with
      | 97 => qx_lib a st T (fun st T => nx lv st T)
      | 98 => none
      | _ => (zx_pop b [] st).bind (fun q => zx_if (Nat.ble (zx_wd q.2) 8) (qx_ret rt (Γ a q.1 T) q.2 (fun st T => nx lv st T))) : Option qO) = some out := h
    exact qJ_invokestatic X hR hd0 hΓ hZ hZ2 hd hk h kn
  | ireturn => exact nomatch (show true = false from hi)
  | areturn => exact nomatch (show true = false from hi)
  | return_ => exact nomatch (show true = false from hi)
  | _ => exact nomatch h
end QS

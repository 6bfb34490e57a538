/-! THE LAW'S LEVEL 8: calls -/
def qm (T T' : qS) : Prop := T.2.length ≤ T'.2.length ∧ q_sl T.2 ≤ q_sl T'.2
def qrm (d nc ns : Nat) : Room := { frames := d + 3, cells := nc, slots := ns, locals := 36 * d + 100 }
def qPc (G : zG) (A : Nat → Prop) (aq : Nat → Nat) (T : qS) (U : State) : Prop :=
  va_P G.1 vwCl (q_all G aq T.1 T.2) U.heap ∧ va_D A (q_all G aq T.1 T.2) ∧ va_K G.1 vwCl (zt_tys G) U ∧ zw_F G T.1 A U U.heap ∧ zI G ∧ (∀ q : Nat, U.heap.size ≤ q → A q) ∧ va_AOA .int U
def qQc (G : zG) (A : Nat → Prop) (aq : Nat → Nat) (T : qS) (out : qO) : Array Value → State → Outcome → State → Prop := fun _ s oc t => ∃ aq' : Nat → Nat, (∀ k, k < T.2.length → aq' k = aq k) ∧ oc = .returned (out.1.map (zc (qad G aq'))) ∧ va_P G.1 vwCl (q_all G aq' out.2.1 out.2.2) t.heap ∧ va_D A (q_all G aq' out.2.1 out.2.2) ∧ out.2.1.1 5 = T.1.1 5 ∧ qWf out.2 ∧ (∀ v, out.1 = some v → qv_ok out.2.2.length v) ∧ va_F A s t
/-- a method's contract -/
def qCtr (l : Launch) (d : Nat) (M : zM) (av : List zV) (T : qS) (out : qO) : Prop :=
  qm T out.2 ∧ ((∀ v, v ∈ av → qv_ok T.2.length v ∧ zl_wide (some v) = false) → qWf T → ∀ (G : zG) (A : Nat → Prop) (aq : Nat → Nat), Met l M.1 [zM_word M] (qrm d (out.2.2.length - T.2.length) (q_sl out.2.2 - q_sl T.2)) (va_Pc (av.map (zc (qad G aq))) (qPc G A aq T)) (qQc G A aq T out) (out.2.2.length - T.2.length) (q_sl out.2.2 - q_sl T.2) A)
theorem qC_pc {G : zG} {A : Nat → Prop} {aq : Nat → Nat} {T : qS} {av : List Value} : FrameBlind (va_Pc av (qPc G A aq T)) := fun a U g mk q =>
  ⟨q.1, q.2.1, q.2.2.1, va_K.moved (u := U) (U := U.calling g mk a) (Vm.Alike.refl U.vm) q.2.2.2.1, zw_F.warm (s := U) (U := U.calling g mk a) (State.WarmedH.refl U) q.2.2.2.2.1, q.2.2.2.2.2.1, q.2.2.2.2.2.2.1, va_AOA.moved (u := U) (U := U.calling g mk a) (Vm.Alike.refl U.vm) q.2.2.2.2.2.2.2⟩
/-- a private method, called on an object of a class below -/
theorem q_selp {C : String} {y z : MethodName} {s : State} {args : Array Value} {cc : ClassId} (hy : y.cls ≠ "java/lang/invoke/MethodHandle" ∧ y.cls ≠ "java/lang/invoke/VarHandle") (hC : s.vm.findClass C = some cc)
    (hz : (Cond.selects C z z).before args s = true) (hzy : z.cls = y.cls) (hpriv : (Cond.privateMethod y).before args s = true) (hinst : (Cond.instanceMethod y).before args s = true) : (Cond.selects C y y).before args s = true := by
  obtain ⟨c0, r0, m0, h1, h2, h3, h4, k0, hk0, hni⟩ := Cond.selects_spec hz
  obtain ⟨mk, methM, hnamed, hmethM, -, -⟩ := Cond.instanceMethod_spec hinst
  have hfound : s.methodFound? y.cls y.name y.desc = some mk := State.methodFound?_of_named hnamed hy
  have hcls : mk.cls = m0.cls := Option.some.inj ((findClass_of_methodNamed hnamed).symm.trans ((congrArg s.vm.findClass hzy.symm).trans (findClass_of_methodNamed h3)))
  have hsel : selectMethod {} s.vm cc mk = .method mk := selectMethod_private hmethM (Cond.privateMethod_at hpriv mk methM hnamed hmethM)
  simp only [Cond.before, Cond.holds, Cond.value, hC, hfound, hnamed, hsel, hcls, hk0]
  simp; exact hni
theorem qx_ints_ok : ∀ (as : List zV), qx_ints as = true → ∀ v, v ∈ as → ∃ x, v = zi x := by
  intro as
  induction as with
  | nil => exact fun _ v h => absurd h List.not_mem_nil
  | cons w as ih =>
    intro h v hv
    match w, h with
    | .inl x, h => exact (List.mem_cons.mp hv).elim (fun e => ⟨x, e⟩) (ih h v)
section QH
variable {p : Program} {l : Launch} {e : Env} {R : Room} {s : State} {m : MethodId} {args : Array Value} {below : List Frame} {meth : Method} {c : Code} {Q : State → Prop} {G : zG} {T0 : qS} {A : Nat → Prop} {aq0 : Nat → Nat} {own nm : String} {cc : ByteArray} {nL : Nat} {ret : Option FieldType} {cF sF o1 o2 : Nat} {T : qS} {pc : Nat} {lv : zL} {st : List zV}
/-- behind a call -/
theorem qJ_back {o : qO} {rest : List zV} {ls : Array Slot} {H : Heap} {locs : List Loc} {aq : Nat → Nat} (hm : qm T o.2) (ha : ∀ k, k < T0.2.length → aq k = aq0 k) (hl : lv_has ls nL (zl_pairs (qad G aq) 0 lv)) (hS : va_S A s.heap H locs) (h5 : T.1.1 5 = T0.1.1 5 ∧ T0.2.length ≤ T.2.length ∧ q_sl T0.2 ≤ q_sl T.2 ∧ qWf T) (hs : ∀ v, v ∈ rest → qv_ok T.2.length v) (hv : ∀ (j : Nat) (v : zV), zl_get lv j = some v → qv_ok T.2.length v)
    {av : Array Value} (hrun : va_Run p l e R s m args below meth c H locs (T.2.length - T0.2.length + o1) (q_sl T.2 - q_sl T0.2 + o2) (o.2.2.length - T.2.length) (q_sl o.2.2 - q_sl T.2) (F0 m pc ls (st.map (zc (qad G aq)))) (rest.map (zc (qad G aq))) (qQc G A aq T o av) A)
    (kn : qJ2 p l e R s m args below meth c Q G T0 A aq0 nL cF sF o1 o2 o.2 (pc + 3) lv (o.1.toList ++ rest)) : W p l e R s m args below meth c H locs (T.2.length - T0.2.length + o1) (q_sl T.2 - q_sl T0.2 + o2) Q (F0 m pc ls (st.map (zc (qad G aq)))) := by
  intro T9 hT XT
  obtain ⟨hm1, hm2⟩ := hm
  obtain ⟨h51, h52, h53, h54⟩ := h5
  have ec : (T.2.length - T0.2.length + o1) + (o.2.2.length - T.2.length) = o.2.2.length - T0.2.length + o1 := by omega
  have es : (q_sl T.2 - q_sl T0.2 + o2) + (q_sl o.2.2 - q_sl T.2) = q_sl o.2.2 - q_sl T0.2 + o2 := by omega
  obtain ⟨v, st₀, t, T', L, h0, X', hL, e1, e2, ⟨aq', hag, hvv, hPt, hDt, h5t, hwf, hok, hF⟩, sg⟩ := hrun T9 hT XT
  have hz : H.size ≤ T'.heap.size := by rw [e1, ← h0]; exact hF.1
  have hk : ∀ q : Nat, q < H.size → ¬ A q → T'.heap[q]? = H[q]? := fun q h1 h2 => by rw [e1, ← h0]; exact hF.2 q (by rw [h0]; exact h1) h2
  have k3 : va_S A s.heap T'.heap (locs ++ L) := ⟨Nat.le_trans hS.1 hz, fun q h1 h2 => (hk q (Nat.lt_of_lt_of_le h1 hS.1) h2).trans (hS.2.1 q h1 h2), fun x hx => (List.mem_append.mp hx).elim (hS.2.2 x) (fun h => hL x h)⟩
  rw [ec, es] at X'
  cases hvv
  have hstk : (o.1.map (zc (qad G aq'))).toList ++ rest.map (zc (qad G aq)) = (o.1.toList ++ rest).map (zc (qad G aq')) := by
    rw [List.map_append, qzc_l hag hs]
    cases o.1 <;> rfl
  obtain ⟨t2, a1, b1⟩ := kn.2 aq' ls T'.heap (locs ++ L) (fun k hk => (hag k (by omega)).trans (ha k hk)) (qzc_p hag hv hl) (by rw [e1]; exact hPt) hDt k3 ⟨h5t.trans h51, by omega, by omega, hwf⟩ (fun w hw => by
    rcases List.mem_append.mp hw with h | h
    · cases ho : o.1 with
      | none => rw [ho] at h; cases h
      | some y =>
        rw [ho] at h
        rw [List.mem_singleton.mp h]
        exact hok y ho
    · exact qv_up hm1 (hs w h)) (fun j v h => qv_up hm1 (hv j v h)) T' rfl X'
  refine ⟨t2, sg t2 ?_, b1⟩
  rw [← hstk] at a1
  exact a1
theorem qC_B {M : zM} {n d ix q mc ms : Nat} (hW : zw_words s) (hM : zM_ok M n) (hd : d + 4 ≤ R.frames ∧ 36 * d + 136 ≤ R.locals) (hlink : lw_tbl[q]? = some (.methodLink own ix M.1)) : CallB R s args own ix M.1 M.2.1 M.2.2.1 M.2.2.2.1 [zM_word M] (qrm d mc ms) mc ms n := by
  obtain ⟨g1, g2, g3, g4, g5, g6⟩ := hM
  have hw : zM_word M = .code M.1 M.2.1 M.2.2.1 M.2.2.2.1 := rfl
  have hcode : ∀ (a' : Array Value) (U : State), s.WarmedH U.vm → (zM_word M).before a' U = true := fun a' U hW9 => zt_keep_warm (zM_word_keep M) hW9 (zw_use hW g1 (zM_word_keep M) (args := args))
  refine ⟨rfl, rfl, by show d + 3 + 1 ≤ R.frames; omega, by show 8 + (M.2.2.1 + 11) + (36 * d + 100) ≤ R.locals; omega, fun w hw2 a' U hW => by rw [List.mem_singleton.mp hw2]; exact hcode a' U hW, by rw [hw]; exact List.mem_singleton.mpr rfl, by rw [← hw]; exact hcode args s (State.WarmedH.refl s), zw_use hW g2 rfl, ⟨g3, g4⟩, fun sig h => ?_, zw_use hW hlink rfl⟩
  rw [h] at g5
  exact (Option.some.inj g5).symm
theorem qC_pre (X : qX p s m meth c G T0 A own nm cc nL ret) {H : Heap} {locs : List Loc} {aq : Nat → Nat} {av : List zV} (h5 : T.1.1 5 = T0.1.1 5) (hP : va_P G.1 vwCl (q_all G aq T.1 T.2) H) (hD : va_D A (q_all G aq T.1 T.2)) (hS : va_S A s.heap H locs) : PreS s H (va_Pc (av.map (zc (qad G aq))) (qPc G A aq T)) (av.map (zc (qad G aq))) :=
  ⟨qC_pc, fun U hU hW => ⟨rfl, by rw [hU]; exact hP, hD, va_K.moved hW.alike X.2.2.2.2.1, by rw [hU]; exact (((X.2.2.2.2.2.1.kept hS.1 hS.2.1).warm hW).store h5), X.2.2.2.2.2.2.1, fun q hq => X.2.2.2.2.2.2.2.2.2.1 q (by rw [hU] at hq; exact Nat.le_trans hS.1 hq), va_AOA.moved hW.alike X.2.2.2.2.2.2.2.2.2.2.1⟩⟩
theorem qJ_callS (X : qX p s m meth c G T0 A own nm cc nL ret) {d ix q n : Nat} {M : zM} {as rest : List zV} {o : qO} (hR : qRm R T0 cF sF o1 o2) (hd : d + 4 ≤ R.frames ∧ 36 * d + 136 ≤ R.locals) (hdg : decode cc pc = .ok (.invokestatic ix, 3)) (hlink : lw_tbl[q]? = some (.methodLink own ix M.1)) (hM : zM_ok M n) (hV : zM_static M)
    (hC : qCtr l d M as T o) (hw : zx_wd rest ≤ 8) (hnw : ∀ v, v ∈ as → zl_wide (some v) = false) (hlen : as.length = n) (kn : qJ2 p l e R s m args below meth c Q G T0 A aq0 nL cF sF o1 o2 o.2 (pc + 3) lv (o.1.toList ++ rest)) : qJ2 p l e R s m args below meth c Q G T0 A aq0 nL cF sF o1 o2 T pc lv (as.reverse ++ rest) := by
  obtain ⟨hm, hC⟩ := hC
  obtain ⟨hm1, hm2⟩ := hm
  have k1 := kn.1
  obtain ⟨⟨r1, r2⟩, r3, r4⟩ := hR
  refine ⟨⟨by omega, by omega⟩, fun aq ls H locs ha hl hP hD hS h5 hs hv => ?_⟩
  have hmet := hC (fun v hv2 => ⟨hs v (List.mem_append_left _ (List.mem_reverse.mpr hv2)), hnw v hv2⟩) h5.2.2.2 G A aq
  have h52 := h5.2.1
  have h53 := h5.2.2.1
  refine qJ_back ⟨hm1, hm2⟩ ha hl hS h5 (fun v h => hs v (List.mem_append_right _ h)) hv (va_runS (As := as.map (zc (qad G aq))) (Ts := []) (nL := nL) (index := ix) (n := n) ⟨X.1, X.2.1, X.2.2.1, X.2.2.2.1, fun _ h => absurd h List.not_mem_nil⟩ hmet ⟨qC_B X.2.2.2.2.2.1.1 hM hd hlink, zw_use X.2.2.2.2.2.1.1 hV rfl⟩ (qC_pre X h5.1 hP hD hS) rfl (by rw [List.length_map]; exact hlen) hl.1 (zl_rev _ _) (lv_room (by rw [zx_wd_sum]; exact hw)) hdg ⟨by omega, by omega⟩) kn
end QH

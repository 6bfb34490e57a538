/-! THE LAW'S LEVEL 9: calls on an object -/
abbrev qp_lat : Nat := 844
abbrev qp_sup : Nat := 807
/-- a virtual call's target is the method named -/
def qM_sel (C : String) (M : zM) : Prop := lw_tbl[M.2.2.2.2.2.2.2.2.1]? = some (.instanceMethod M.1) ∧ lw_tbl[M.2.2.2.2.2.2.2.2.2]? = some (.selects C M.1 M.1)
/-- a virtual call's target overrides the method named -/
def qM_ovr (x : MethodName) (M : zM) : Prop := x.cls ≠ "java/lang/invoke/MethodHandle" ∧ x.cls ≠ "java/lang/invoke/VarHandle" ∧ x.desc = M.1.desc ∧ lw_tbl[M.2.2.2.2.2.2.2.2.1]? = some (.instanceMethod M.1) ∧ ∃ a b c0 d : Nat, ∃ (bytes : ByteArray) (ml : Nat) (rt : Option FieldType), lw_tbl[a]? = some (.sameMethod x.cls x.cls x.name x.desc) ∧ lw_tbl[b]? = some (.instanceMethod x) ∧ lw_tbl[c0]? = some (.code x bytes ml rt) ∧ lw_tbl[d]? = some (.selects RJ4 x M.1)
/-- a call of the class above -/
def qM_sup (M : zM) : Prop := M.1.cls = RJ5 ∧ M.1.name ≠ "<init>" ∧ lw_tbl[M.2.2.2.2.2.2.2.2.1]? = some (.instanceMethod M.1) ∧ ∃ a : Nat, lw_tbl[a]? = some (.sameMethod M.1.cls M.1.cls M.1.name M.1.desc)
section QI
variable {p : Program} {l : Launch} {e : Env} {R : Room} {s : State} {m : MethodId} {args : Array Value} {below : List Frame} {meth : Method} {c : Code} {Q : State → Prop} {G : zG} {T0 : qS} {A : Nat → Prop} {aq0 : Nat → Nat} {own nm : String} {cc : ByteArray} {nL : Nat} {ret : Option FieldType} {cF sF o1 o2 : Nat} {T : qS} {pc : Nat} {lv : zL} {st : List zV}
theorem qC_rec (X : qX p s m meth c G T0 A own nm cc nL ret) {r : zR} {ci : Nat} {Cl : vw_C} {H : Heap} {locs : List Loc} {aq : Nat → Nat} (hr : qr_ok T.2.length r) (h : qx_rc r ci T = true) (hc : vwCl[ci]? = some Cl) (hP : va_P G.1 vwCl (q_all G aq T.1 T.2) H) (hS : va_S A s.heap H locs) : ∃ cell : Cell, H[qad G aq r]? = some cell ∧ cell.vm.isStatics = false ∧ s.vm.findClass Cl.1 = some cell.cls := by
  unfold qx_rc at h
  split at h
  · rename_i h6
    have hci : ci = 12 := Nat.eq_of_beq_eq_true h
    subst hci
    cases hc
    obtain ⟨a, b, c0⟩ := r
    have h6a : a = 6 := h6
    subst h6a
    obtain ⟨rfl, hb⟩ := qr_67 hr (Or.inl rfl)
    exact vk_recv (X.2.2.2.2.2.1.2.2.1 b hb) (i := 0) (by decide) hS
  · rename_i h8
    split at h
    · rename_i c1 fs hx
      have hci : c1 = ci := Nat.eq_of_beq_eq_true h
      subst hci
      rw [zx_nth_get] at hx
      have he := q_all_at (G := G) (aq := aq) (S := T.1) hx
      obtain ⟨hrr, -⟩ := qr_8 hr h8
      obtain ⟨a, b, c0⟩ := r
      cases hrr
      exact va_recv X.2.2.2.2.1 hP hc he
    · exact nomatch h
  · exact nomatch h
theorem qC_av {r : zR} {as rest : List zV} (hs : ∀ v, v ∈ as.reverse ++ .inr (.inl (some r)) :: rest → qv_ok T.2.length v) (hnw : ∀ v, v ∈ as → zl_wide (some v) = false) : ∀ v, v ∈ (.inr (.inl (some r)) :: as : List zV) → qv_ok T.2.length v ∧ zl_wide (some v) = false := fun v hv2 => by
  rcases List.mem_cons.mp hv2 with h | h
  · rw [h]; exact ⟨hs _ (List.mem_append_right _ List.mem_cons_self), rfl⟩
  · exact ⟨hs v (List.mem_append_left _ (List.mem_reverse.mpr h)), hnw v h⟩
theorem qJ_callV (X : qX p s m meth c G T0 A own nm cc nL ret) {d ix q n ci : Nat} {M : zM} {r : zR} {as rest : List zV} {o : qO} {Cl : vw_C} (hR : qRm R T0 cF sF o1 o2) (hd : d + 4 ≤ R.frames ∧ 36 * d + 136 ≤ R.locals) (hdg : decode cc pc = .ok (.invokevirtual ix, 3)) (hlink : lw_tbl[q]? = some (.methodLink own ix M.1)) (hM : zM_ok M n) (hc : vwCl[ci]? = some Cl) (hV : qM_sel Cl.1 M) (hi : qx_rc r ci T = true)
    (hC : qCtr l d M (.inr (.inl (some r)) :: as) T o) (hw : zx_wd rest ≤ 8) (hnw : ∀ v, v ∈ as → zl_wide (some v) = false) (hlen : as.length = n) (kn : qJ2 p l e R s m args below meth c Q G T0 A aq0 nL cF sF o1 o2 o.2 (pc + 3) lv (o.1.toList ++ rest)) : qJ2 p l e R s m args below meth c Q G T0 A aq0 nL cF sF o1 o2 T pc lv (as.reverse ++ .inr (.inl (some r)) :: rest) := by
  obtain ⟨hm, hC⟩ := hC
  obtain ⟨hm1, hm2⟩ := hm
  have k1 := kn.1
  obtain ⟨⟨r1, r2⟩, r3, r4⟩ := hR
  refine ⟨⟨by omega, by omega⟩, fun aq ls H locs ha hl hP hD hS h5 hs hv => ?_⟩
  have hmet := hC (qC_av hs hnw) h5.2.2.2 G A aq
  have h52 := h5.2.1
  have h53 := h5.2.2.1
  have hpre := qC_pre X (av := .inr (.inl (some r)) :: as) h5.1 hP hD hS
  have hrec := qC_rec X (aq := aq) (hs _ (List.mem_append_right _ List.mem_cons_self)) hi hc hP hS
  have hinst : (Cond.instanceMethod M.1).before args s = true := zw_use X.2.2.2.2.2.1.1 hV.1 rfl
  have hsel : (Cond.selects Cl.1 M.1 M.1).before args s = true := zw_use X.2.2.2.2.2.1.1 hV.2 rfl
  exact qJ_back ⟨hm1, hm2⟩ ha hl hS h5 (fun v h => hs v (List.mem_append_right _ (List.mem_cons_of_mem _ h))) hv (va_runV (C := Cl.1) (As := as.map (zc (qad G aq))) (Ts := []) (nL := nL) (index := ix) (n := n) ⟨X.1, X.2.1, X.2.2.1, X.2.2.2.1, fun _ h => absurd h List.not_mem_nil⟩ hmet ⟨qC_B X.2.2.2.2.2.1.1 hM hd hlink, hinst, hsel⟩ ⟨hpre.1, hrec, hpre.2⟩ rfl (by rw [List.length_map]; exact hlen) hl.1 (zl_rev _ _) (lv_room (by rw [zx_wd_sum]; exact hw)) hdg ⟨by omega, by omega⟩) kn
theorem qJ_callI (X : qX p s m meth c G T0 A own nm cc nL ret) {d ix q n : Nat} {M : zM} {r : zR} {as rest : List zV} {o : qO} (hR : qRm R T0 cF sF o1 o2) (hd : d + 4 ≤ R.frames ∧ 36 * d + 136 ≤ R.locals) (hdg : decode cc pc = .ok (.invokespecial ix, 3)) (hlink : lw_tbl[q]? = some (.methodLink own ix M.1)) (hM : zM_ok M n) (hV : M.1.name = "<init>" ∧ M.2.2.2.1 = none ∧ lw_tbl[M.2.2.2.2.2.2.2.2.1]? = some (.instanceMethod M.1))
    (hC : qCtr l d M (.inr (.inl (some r)) :: as) T o) (hw : zx_wd rest ≤ 8) (hnw : ∀ v, v ∈ as → zl_wide (some v) = false) (hlen : as.length = n) (kn : qJ2 p l e R s m args below meth c Q G T0 A aq0 nL cF sF o1 o2 o.2 (pc + 3) lv (o.1.toList ++ rest)) : qJ2 p l e R s m args below meth c Q G T0 A aq0 nL cF sF o1 o2 T pc lv (as.reverse ++ .inr (.inl (some r)) :: rest) := by
  obtain ⟨hm, hC⟩ := hC
  obtain ⟨hm1, hm2⟩ := hm
  have k1 := kn.1
  obtain ⟨⟨r1, r2⟩, r3, r4⟩ := hR
  refine ⟨⟨by omega, by omega⟩, fun aq ls H locs ha hl hP hD hS h5 hs hv => ?_⟩
  have hmet := hC (qC_av hs hnw) h5.2.2.2 G A aq
  have h52 := h5.2.1
  have h53 := h5.2.2.1
  have hpre := qC_pre X (av := .inr (.inl (some r)) :: as) h5.1 hP hD hS
  have hB := qC_B (d := d) (mc := o.2.2.length - T.2.length) (ms := q_sl o.2.2 - q_sl T.2) (own := own) (R := R) (args := args) X.2.2.2.2.2.1.1 hM hd hlink
  rw [hV.2.1] at hB
  exact qJ_back ⟨hm1, hm2⟩ ha hl hS h5 (fun v h => hs v (List.mem_append_right _ (List.mem_cons_of_mem _ h))) hv (va_runI (As := as.map (zc (qad G aq))) (Ts := []) (nL := nL) (index := ix) (n := n) ⟨X.1, X.2.1, X.2.2.1, X.2.2.2.1, fun _ h => absurd h List.not_mem_nil⟩ hmet ⟨hB, hV.1, zw_use X.2.2.2.2.2.1.1 hV.2.2 rfl⟩ hpre rfl (by rw [List.length_map]; exact hlen) hl.1 (zl_rev _ _) (lv_room (by rw [zx_wd_sum]; exact hw)) hdg ⟨by omega, by omega⟩) kn
theorem qJ_callSU (X : qX p s m meth c G T0 A own nm cc nL ret) {d ix q n : Nat} {M : zM} {r : zR} {as rest : List zV} {o : qO} (hR : qRm R T0 cF sF o1 o2) (hd : d + 4 ≤ R.frames ∧ 36 * d + 136 ≤ R.locals) (hown : own = RJ4) (hdg : decode cc pc = .ok (.invokespecial ix, 3)) (hlink : lw_tbl[q]? = some (.methodLink own ix M.1)) (hM : zM_ok M n) (hV : qM_sup M) (hi : qx_rc r 11 T = true)
    (hC : qCtr l d M (.inr (.inl (some r)) :: as) T o) (hw : zx_wd rest ≤ 8) (hnw : ∀ v, v ∈ as → zl_wide (some v) = false) (hlen : as.length = n) (kn : qJ2 p l e R s m args below meth c Q G T0 A aq0 nL cF sF o1 o2 o.2 (pc + 3) lv (o.1.toList ++ rest)) : qJ2 p l e R s m args below meth c Q G T0 A aq0 nL cF sF o1 o2 T pc lv (as.reverse ++ .inr (.inl (some r)) :: rest) := by
  obtain ⟨hm, hC⟩ := hC
  obtain ⟨hm1, hm2⟩ := hm
  have k1 := kn.1
  obtain ⟨⟨r1, r2⟩, r3, r4⟩ := hR
  refine ⟨⟨by omega, by omega⟩, fun aq ls H locs ha hl hP hD hS h5 hs hv => ?_⟩
  have hmet := hC (qC_av hs hnw) h5.2.2.2 G A aq
  have h52 := h5.2.1
  have h53 := h5.2.2.1
  have hpre := qC_pre X (av := .inr (.inl (some r)) :: as) h5.1 hP hD hS
  have hrec := qC_rec X (aq := aq) (Cl := (RJ4, TJ4, 4)) (hs _ (List.mem_append_right _ List.mem_cons_self)) hi rfl hP hS
  obtain ⟨e1, e2, e3, a, e4⟩ := hV
  obtain ⟨⟨b1, b2, b3, b4, b5, b6⟩, hl2⟩ : (_ ∧ True) := ⟨by exact (qC_B (d := d) (mc := o.2.2.length - T.2.length) (ms := q_sl o.2.2 - q_sl T.2) (own := own) (R := R) (args := args) X.2.2.2.2.2.1.1 hM hd hlink), trivial⟩
  have hsup : (Cond.superclass own M.1.cls).before args s = true := by
    rw [hown, e1]
    exact zw_use X.2.2.2.2.2.1.1 (p := qp_sup) (w := .superclass RJ4 RJ5) (by decide +kernel) rfl
  exact qJ_back ⟨hm1, hm2⟩ ha hl hS h5 (fun v h => hs v (List.mem_append_right _ (List.mem_cons_of_mem _ h))) hv (va_runSU (C := RJ4) (X.2.2.2.2.1.1 11 _ rfl).2 (As := as.map (zc (qad G aq))) (Ts := []) (nL := nL) (index := ix) (n := n) ⟨X.1, X.2.1, X.2.2.1, X.2.2.2.1, fun _ h => absurd h List.not_mem_nil⟩ hmet ⟨⟨b1, b2, b3, b4, b5, b6.1⟩, zw_use X.2.2.2.2.2.1.1 hlink rfl, zw_use X.2.2.2.2.2.1.1 e4 rfl, hsup, zw_use X.2.2.2.2.2.1.1 e3 rfl, b6.2.2.1, b6.2.1, e2, b6.2.2.2.2.1⟩ ⟨hpre.1, hrec, hpre.2⟩ rfl (by rw [List.length_map]; exact hlen) hl.1 (zl_rev _ _) (lv_room (by rw [zx_wd_sum]; exact hw)) hdg ⟨by omega, by omega⟩) kn
theorem qJ_callU (X : qX p s m meth c G T0 A own nm cc nL ret) {d ix q n : Nat} {M : zM} {x : MethodName} {r : zR} {as rest : List zV} {o : qO} (hR : qRm R T0 cF sF o1 o2) (hd : d + 4 ≤ R.frames ∧ 36 * d + 136 ≤ R.locals) (hdg : decode cc pc = .ok (.invokevirtual ix, 3)) (hlink : lw_tbl[q]? = some (.methodLink own ix x)) (hM : zM_ok M n) (hV : qM_ovr x M) (hi : qx_rc r 11 T = true)
    (hC : qCtr l d M (.inr (.inl (some r)) :: as) T o) (hw : zx_wd rest ≤ 8) (hnw : ∀ v, v ∈ as → zl_wide (some v) = false) (hlen : as.length = n) (kn : qJ2 p l e R s m args below meth c Q G T0 A aq0 nL cF sF o1 o2 o.2 (pc + 3) lv (o.1.toList ++ rest)) : qJ2 p l e R s m args below meth c Q G T0 A aq0 nL cF sF o1 o2 T pc lv (as.reverse ++ .inr (.inl (some r)) :: rest) := by
  obtain ⟨hm, hC⟩ := hC
  obtain ⟨hm1, hm2⟩ := hm
  have k1 := kn.1
  obtain ⟨⟨r1, r2⟩, r3, r4⟩ := hR
  refine ⟨⟨by omega, by omega⟩, fun aq ls H locs ha hl hP hD hS h5 hs hv => ?_⟩
  have hmet := hC (qC_av hs hnw) h5.2.2.2 G A aq
  have h52 := h5.2.1
  have h53 := h5.2.2.1
  have hpre := qC_pre X (av := .inr (.inl (some r)) :: as) h5.1 hP hD hS
  have hrec := qC_rec X (aq := aq) (Cl := (RJ4, TJ4, 4)) (hs _ (List.mem_append_right _ List.mem_cons_self)) hi rfl hP hS
  obtain ⟨e1, e2, e3, e4, a, b, c0, d0, bytes, ml, rt, e5, e6, e7, e8⟩ := hV
  obtain ⟨g1, g2, g3, g4, g5, g6⟩ := hM
  have hcode : ∀ (a' : Array Value) (U : State), s.WarmedH U.vm → (zM_word M).before a' U = true := fun a' U hW9 => zt_keep_warm (zM_word_keep M) hW9 (zw_use X.2.2.2.2.2.1.1 g1 (zM_word_keep M) (args := args))
  have hCU : va_CU R s args own RJ4 x.cls ix x M.1 M.2.1 M.2.2.1 M.2.2.2.1 [zM_word M] (qrm d (o.2.2.length - T.2.length) (q_sl o.2.2 - q_sl T.2)) (o.2.2.length - T.2.length) (q_sl o.2.2 - q_sl T.2) n := by
    refine ⟨⟨rfl, rfl, by show d + 3 + 1 ≤ R.frames; omega, by show 8 + (M.2.2.1 + 11) + (36 * d + 100) ≤ R.locals; omega, fun w hw2 a' U hW => by rw [List.mem_singleton.mp hw2]; exact hcode a' U hW, by show _ ∈ [zM_word M]; exact List.mem_singleton.mpr rfl⟩, hcode args s (State.WarmedH.refl s), zw_use X.2.2.2.2.2.1.1 g2 rfl, ⟨e1, e2⟩, fun sig h => ?_, zw_use X.2.2.2.2.2.1.1 hlink rfl, zw_use X.2.2.2.2.2.1.1 e5 rfl, va_Decl.of (args := args) (zw_use X.2.2.2.2.2.1.1 e6 rfl) (zw_use X.2.2.2.2.2.1.1 e7 rfl), zw_use X.2.2.2.2.2.1.1 e8 rfl, zw_use X.2.2.2.2.2.1.1 e4 rfl⟩
    rw [e3] at h
    rw [h] at g5
    exact (Option.some.inj g5).symm
  exact qJ_back ⟨hm1, hm2⟩ ha hl hS h5 (fun v h => hs v (List.mem_append_right _ (List.mem_cons_of_mem _ h))) hv (va_runU (C := RJ4) (owner := x.cls) (As := as.map (zc (qad G aq))) (Ts := []) (nL := nL) (index := ix) (n := n) ⟨X.1, X.2.1, X.2.2.1, X.2.2.2.1, fun _ h => absurd h List.not_mem_nil⟩ hmet hCU ⟨hpre.1, hrec, hpre.2⟩ rfl (by rw [List.length_map]; exact hlen) hl.1 (zl_rev _ _) (lv_room (by rw [zx_wd_sum]; exact hw)) hdg ⟨by omega, by omega⟩) kn
end QI

/-! THE LAW'S LEVEL 12: how a body starts and ends; String.checkIndex -/
abbrev qQ (below : List Frame) (args : Array Value) (s : State) (G : zG) (A : Nat → Prop) (aq : Nat → Nat) (T : qS) (out : qO) : State → Prop := MQ below (qQc G A aq T out) args s (out.2.2.length - T.2.length) (q_sl out.2.2 - q_sl T.2) A
theorem qCtr_of {l : Launch} {d : Nat} {M : zM} {av : List zV} {T : qS} {out : qO} (hpn : plainName M.1.cls = true) (hm : qm T out.2) (hlen : av.length ≤ M.2.2.1)
    (body : ∀ (G : zG) (A : Nat → Prop) (aq : Nat → Nat) (p : Program) (e : Env) (s : State) (m : MethodId) (args : Array Value) (below : List Frame) (meth : Method) (c : Code), qX p s m meth c G T A M.1.cls M.1.name M.2.1 M.2.2.1 M.2.2.2.1 → qJ2 p l e (qrm d (out.2.2.length - T.2.length) (q_sl out.2.2 - q_sl T.2)) s m args below meth c (qQ below args s G A aq T out) G T A aq M.2.2.1 out.2.2.length (q_sl out.2.2) 0 0 T 0 (zl_init av M.2.2.1) []) : qCtr l d M av T out := by
  refine ⟨hm, fun hav hwf G A aq => ?_⟩
  have hnw : ∀ v, v ∈ av → zl_wide (some v) = false := fun v h => (hav v h).2
  refine Met.ofW (cc := M.2.1) (maxL := M.2.2.1) (ret := M.2.2.2.1) hpn rfl ?_
  intro p e s m args below meth c s₁ B hml hPc
  obtain ⟨ha, hP, hD, hK, hF, hI, hA, hO⟩ := hPc
  have X : qX p s m meth c G T A M.1.cls M.1.name M.2.1 M.2.2.1 M.2.2.2.1 := ⟨B.exec, B.bytes, hml, findClass_of_methodNamed B.named, hK, hF, hI, B.returns, B.notSynchronized, hA, hO, (name_of_methodNamed B.named B.method).1⟩
  have hb := (body G A aq p e s m args below meth c X).2
  rw [ha, lg_entry_eq]
  have hle := lv_entry (av.map (zc (qad G aq))) (n := M.2.2.1) (by rw [zl_sllen av hnw]; exact hlen)
  generalize (lg_sl (av.map (zc (qad G aq))) ++ List.replicate (M.2.2.1 - (lg_sl (av.map (zc (qad G aq)))).length) Slot.unset).toArray = ls at hle ⊢
  have h1 := hb aq ls s.heap [] (fun _ _ => rfl) (lv_mono hle (fun q hq => zl_args av 0 _ hnw q hq)) hP hD va_S.rf ⟨rfl, Nat.le_refl _, Nat.le_refl _, hwf⟩ (fun v h => absurd h List.not_mem_nil) (fun j v h => (hav v (zl_initmem av _ j v h)).1)
  rw [Nat.sub_self, Nat.sub_self] at h1
  rw [ha] at h1
  exact h1
section QR
variable {p : Program} {l : Launch} {e : Env} {R : Room} {s : State} {m : MethodId} {args : Array Value} {below : List Frame} {meth : Method} {c : Code} {Q : State → Prop} {G : zG} {T0 : qS} {A : Nat → Prop} {aq0 : Nat → Nat} {own nm : String} {cc : ByteArray} {nL : Nat} {ret : Option FieldType} {cF sF o1 o2 : Nat} {T : qS} {pc : Nat} {lv : zL} {st : List zV}
theorem qJ_iret (X : qX p s m meth c G T0 A own nm cc nL ret) {x : Int32} (hr : ret = some .int) (hcF : T.2.length ≤ cF ∧ q_sl T.2 ≤ sF) (hdg : decode cc pc = .ok (.ireturn, 1)) : qJ2 p l e R s m args below meth c (qQ below args s G A aq0 T0 (some (zi x), T)) G T0 A aq0 nL cF sF 0 0 T pc lv [zi x] :=
  ⟨hcF, fun aq ls H locs ha hl hP hD hS h5 hs hv => W.iret X.1 X.2.1 (X.2.2.2.2.2.2.2.1.trans hr) (fun t ht hW => ⟨aq, ha, rfl, by rw [ht]; exact hP, hD, h5.1, h5.2.2.2, fun w e => by cases e; trivial, hS.F ht⟩) hS.2.2 hdg X.2.2.2.2.2.2.2.2.1⟩
theorem qJ_zret (X : qX p s m meth c G T0 A own nm cc nL ret) {x : Int32} (hr : ret = some .boolean) (hx : x &&& 1 = x) (hcF : T.2.length ≤ cF ∧ q_sl T.2 ≤ sF) (hdg : decode cc pc = .ok (.ireturn, 1)) : qJ2 p l e R s m args below meth c (qQ below args s G A aq0 T0 (some (zi x), T)) G T0 A aq0 nL cF sF 0 0 T pc lv [zi x] :=
  ⟨hcF, fun aq ls H locs ha hl hP hD hS h5 hs hv => W.zret X.1 X.2.1 (X.2.2.2.2.2.2.2.1.trans hr) (by show Value.int (x &&& 1) = Value.int x; rw [hx]) (fun t ht hW => ⟨aq, ha, rfl, by rw [ht]; exact hP, hD, h5.1, h5.2.2.2, fun w e => by cases e; trivial, hS.F ht⟩) hS.2.2 hdg X.2.2.2.2.2.2.2.2.1⟩
theorem qJ_bret (X : qX p s m meth c G T0 A own nm cc nL ret) {x : Int32} (hr : ret = some .byte) (hx : x.toInt8.toInt32 = x) (hcF : T.2.length ≤ cF ∧ q_sl T.2 ≤ sF) (hdg : decode cc pc = .ok (.ireturn, 1)) : qJ2 p l e R s m args below meth c (qQ below args s G A aq0 T0 (some (zi x), T)) G T0 A aq0 nL cF sF 0 0 T pc lv [zi x] :=
  ⟨hcF, fun aq ls H locs ha hl hP hD hS h5 hs hv => W.zret X.1 X.2.1 (X.2.2.2.2.2.2.2.1.trans hr) (by show Value.int _ = Value.int x; rw [hx]) (fun t ht hW => ⟨aq, ha, rfl, by rw [ht]; exact hP, hD, h5.1, h5.2.2.2, fun w e => by cases e; trivial, hS.F ht⟩) hS.2.2 hdg X.2.2.2.2.2.2.2.2.1⟩
theorem qJ_cret (X : qX p s m meth c G T0 A own nm cc nL ret) {x : Int32} (hr : ret = some .char) (hx : x.toUInt32.toUInt16.toUInt32.toInt32 = x) (hcF : T.2.length ≤ cF ∧ q_sl T.2 ≤ sF) (hdg : decode cc pc = .ok (.ireturn, 1)) : qJ2 p l e R s m args below meth c (qQ below args s G A aq0 T0 (some (zi x), T)) G T0 A aq0 nL cF sF 0 0 T pc lv [zi x] :=
  ⟨hcF, fun aq ls H locs ha hl hP hD hS h5 hs hv => W.zret X.1 X.2.1 (X.2.2.2.2.2.2.2.1.trans hr) (by show Value.int _ = Value.int x; rw [hx]) (fun t ht hW => ⟨aq, ha, rfl, by rw [ht]; exact hP, hD, h5.1, h5.2.2.2, fun w e => by cases e; trivial, hS.F ht⟩) hS.2.2 hdg X.2.2.2.2.2.2.2.2.1⟩
theorem qJ_vret (X : qX p s m meth c G T0 A own nm cc nL ret) (hr : ret = none) (hcF : T.2.length ≤ cF ∧ q_sl T.2 ≤ sF) (hdg : decode cc pc = .ok (.return_, 1)) : qJ2 p l e R s m args below meth c (qQ below args s G A aq0 T0 (none, T)) G T0 A aq0 nL cF sF 0 0 T pc lv [] :=
  ⟨hcF, fun aq ls H locs ha hl hP hD hS h5 hs hv => W.vret X.1 X.2.1 (X.2.2.2.2.2.2.2.1.trans hr) (fun t ht hW => ⟨aq, ha, rfl, by rw [ht]; exact hP, hD, h5.1, h5.2.2.2, (fun w e => nomatch e), hS.F ht⟩) hS.2.2 hdg X.2.2.2.2.2.2.2.2.1⟩
theorem qJ_aret (X : qX p s m meth c G T0 A own nm cc nL ret) {r : zR} (hr : (∃ n, ret = some (.object n)) ∨ ∃ t, ret = some (.array t)) (hcF : T.2.length ≤ cF ∧ q_sl T.2 ≤ sF) (hdg : decode cc pc = .ok (.areturn, 1)) : qJ2 p l e R s m args below meth c (qQ below args s G A aq0 T0 (some (.inr (.inl (some r))), T)) G T0 A aq0 nL cF sF 0 0 T pc lv [.inr (.inl (some r))] := by
  obtain ⟨rt, h1, h2⟩ : ∃ rt, ret = some rt ∧ ((∃ n, rt = .object n) ∨ ∃ t, rt = .array t) := by
    rcases hr with ⟨n, h⟩ | ⟨t, h⟩
    · exact ⟨_, h, Or.inl ⟨n, rfl⟩⟩
    · exact ⟨_, h, Or.inr ⟨t, rfl⟩⟩
  exact ⟨hcF, fun aq ls H locs ha hl hP hD hS h5 hs hv => W.aret (rt := rt) X.1 X.2.1 (X.2.2.2.2.2.2.2.1.trans h1) h2 (Or.inr ⟨_, rfl⟩) (fun t ht hW => ⟨aq, ha, rfl, by rw [ht]; exact hP, hD, h5.1, h5.2.2.2, fun w e => by cases e; exact qv_hd hs, hS.F ht⟩) hS.2.2 hdg X.2.2.2.2.2.2.2.2.1⟩
end QR
theorem qCtr_chk {l : Launch} (d : Nat) (i n : Int32) (T : qS) (h0 : ¬ i < 0) (h1 : i < n) : qCtr l d zM_chk [zi i, zi n] T (none, T) := by
  refine qCtr_of (by decide) (qm_rf T) (by show 2 ≤ 2; decide) ?_
  intro G A aq0 p e s m args below meth c X
  refine ⟨⟨Nat.le_refl _, Nat.le_refl _⟩, fun aq ls H locs ha hl hP hD hS h5 hs hv => ?_⟩
  obtain ⟨d0, d1, d2, d5, d8, d9⟩ := dq_chk
  refine lv_iload_n X.1 X.2.1 d0 rfl (zl_at hl (j := 0) (v := zi i) rfl) ?_
  refine lv_iload_n X.1 X.2.1 d1 rfl (zl_at hl (j := 1) (v := zi n) rfl) ?_
  have key : ∀ v : Value, v.category = 1 → va_Z "jdk/internal/util/Preconditions" "SIOOBE_FORMATTER" "Ljava/util/function/BiFunction;" v A s s.heap → W p l e (qrm d (T.2.length - T.2.length) (q_sl T.2 - q_sl T.2)) s m args below meth c H locs (T.2.length - T.2.length) (q_sl T.2 - q_sl T.2) (qQ below args s G A aq0 T (none, T)) (F0 m 2 ls [.int n, .int i]) := by
    intro v hvc hZ
    refine va_gets X.1 X.2.1 hZ hS X.2.2.2.1 (zw_use X.2.2.2.2.2.1.1 (p := zp_pre_field) (by decide +kernel) rfl) (fun _ h => h) d2 ?_
    refine va_calli (A1 := fun _ => False) (free := fun _ => False) (post := fun (x : Int32) (_ : Unit) => x = i) (B := fun _ _ => True) (a := ([.int i, .int n, v] : List Value).toArray) (mc := 0) (ms := 0) (rest := []) (va_runS (As := [.int i, .int n, v]) (rest := []) (Ts := []) (nL := 2) (n := 3) ⟨X.1, X.2.1, X.2.2.1, X.2.2.2.1, fun _ h => absurd h List.not_mem_nil⟩ (zq_pre l i n v hvc h0 h1)
      ⟨⟨rfl, rfl, by show 0 + 1 ≤ d + 3; omega, by show 8 + (3 + 11) + 0 ≤ 36 * d + 100; omega, fun w hw a' U hW => by rw [List.mem_singleton.mp hw]; exact zt_keep_warm (args := args) rfl hW (zw_use X.2.2.2.2.2.1.1 (p := zp_pre_code) (by decide +kernel) rfl), List.mem_singleton.mpr rfl, zw_use X.2.2.2.2.2.1.1 (p := zp_pre_code) (by decide +kernel) rfl, zw_use X.2.2.2.2.2.1.1 (p := zp_pre_init) (by decide +kernel) rfl, ⟨by decide, by decide⟩, fun sig h => ?_, zw_use X.2.2.2.2.2.1.1 (p := zp_pre_link) (by decide +kernel) rfl⟩, zw_use X.2.2.2.2.2.1.1 (p := zp_pre_static) (by decide +kernel) rfl⟩
      ⟨fun _ _ _ _ q => q, fun U hU hW => ⟨rfl, trivial⟩⟩ rfl rfl hl.1 rfl (lv_room (by decide)) d5 ⟨Nat.le_refl _, Nat.le_refl _⟩) hS (fun q _ h => h.elim) (fun q h => h.elim) (fun r u t H1 locs1 ht hvm hw hB hz1 hk1 hS1 => ?_)
    · have h9 : (parseMethodDescriptor yJ3_checkIndex_8e157.desc).map (fun d => d.parameters.length) = some 3 := by decide +kernel
      rw [h] at h9
      exact (Option.some.inj h9).symm
    · refine lv_pop X.1 X.2.1 d8 rfl ?_
      have hP1 : va_P G.1 vwCl (q_all G aq T.1 T.2) H1 := hP.kept (fun k q hk => hk1 q.1 (hP k q hk).lt (fun z => z))
      exact (W.vret X.1 X.2.1 X.2.2.2.2.2.2.2.1 (fun t ht hW => ⟨aq, ha, rfl, by rw [ht]; exact hP1, hD, rfl, h5.2.2.2, (fun w e => nomatch e), hS1.F ht⟩) hS1.2.2 d9 X.2.2.2.2.2.2.2.2.1)
  rcases X.2.2.2.2.2.1.2.2.2.2.2.2 with hZ | ⟨t, hZ⟩
  · exact key .null rfl hZ
  · exact key (.ref t) rfl hZ

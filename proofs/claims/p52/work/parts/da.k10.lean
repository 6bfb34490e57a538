/-! THE CLAIM OUT OF ONE WALK OF THE LAW'S BODY. Your part is whole_start (and what it stands on); all else here is the same for every law, but numbers. -/
def R_law : String := "BathBoatsLaw"
def lw_P (b : Addr) (xs : List Int32) (args : Array Value) (s : State) : Prop := args = #[.ref b] ∧ s.IntsAt b xs ∧ xs.length ≤ 260 ∧ (Jvm.Cond.and given_1 narrow_1).before args s = true
/-- what a walk over the start with the record d0 says of its end, said of the start itself -/
theorem lw_closed {s t : State} {o : Outcome} {d0 : Drawn} {L : List Loc} {k n : Nat} (hd0 : s.drawn.sameBut d0 lw_cs) (hv : ∃ v, o = .returned v) (hW : (s.setDrawn d0).WarmedH t.vm) (hs : (s.setDrawn d0).sameButNew ({ t with vm := s.vm } : State) L k n) : State.butDraws s t lw_cs (fun t1 => Framed s o t1 L k n) := by
  have h2 : t.drawn = d0 := congrArg State.drawn hs.1
  refine ⟨⟨hv, hW, State.sameButNew.setDrawn hs s.drawn⟩, ?_, by decide⟩
  rw [h2]
  exact hd0
def lw_Q (_ : Array Value) (s : State) (o : Outcome) (t : State) : Prop := o = .returned (some (.int 1)) ∧ State.butDraws s t lw_cs (fun t1 => Framed s o t1 [] 600086 7301442)
def lw_Z (below : List Frame) (a : Array Value) (s : State) : State → Prop := fun t => ∃ o, t.status = .running ∧ Ended t below o ∧ lw_Q a s o t
/-- the law's own end, with 1 on the stack, nothing written that was there before, its room as the claim has it; d0: the record of draws at this point (at the entry s.drawn: begin with 'refine W.base ?_' and 'have hd0 := Drawn.sameBut.refl s.drawn lw_cs') -/
theorem lw_ret {p : Program} {l : Launch} {e : Env} {s : State} {m : MethodId} {below : List Frame} {meth : Method} {c : Code} {b : Nat} {d0 : Drawn} (hd0 : s.drawn.sameBut d0 lw_cs) (hx : p.tables.exec = Jvm.exec) (hb : c.code = code) (hr : meth.sig.returnType = ret) (hlocks : meth.locks = false) {pc : Nat} {H : Heap} {ls : Array Slot} (hdg : decode code pc = .ok (.ireturn, 1)) : W p l e room_1 (s.setDrawn d0) m #[Value.ref b] below meth c H [] 600086 7301442 (lw_Z below #[Value.ref b] s) (F0 m pc ls [.int 1]) := by
  intro T hT X
  obtain ⟨fs, hret, hrun, hended, hW, hframe⟩ := X.leave (v := some (.int 1)) (hlocks := hlocks) (fun h => by rw [hr] at h; cases h)
  have hmeth' : T.vm.method? m = some meth := X.method'
  refine ⟨T.setFrames fs, ?_, .returned (some (.int 1)), hrun, hended, rfl, lw_closed hd0 ⟨_, rfl⟩ hW hframe⟩
  jvm_step X.here [X.here.top, hx, hb, hdg, hmeth', hr, ret, narrow_b1]
  (try refine ⟨rfl, ?_⟩); (try refine ⟨rfl, ?_⟩)
  first | (intro acts; rw [hret _ acts rfl rfl rfl]) | rw [hret _ _ rfl rfl rfl]
  exact Steps.refl _
/-- what holds at the law's entry: the machine, the code, the tables' words (any of lw_tbl by 'hts w (by decide +kernel)'), the script of L ints xs at the cell b, what the Statement gives of the start (any of its parts by flat_of_before) -/
def lw_At (p : Program) (s : State) (m : MethodId) (meth : Method) (c : Code) (b L : Nat) (xs : Nat → Int32) : Prop :=
  p.tables.exec = Jvm.exec ∧ c.code = code ∧ meth.sig.returnType = ret ∧ c.maxLocals = 9 ∧ s.vm.findClass R_law = some m.cls ∧ (∀ w ∈ lw_tbl, w.before #[Value.ref b] s = true) ∧ va_X b L xs s s.heap ∧ b < s.heap.size ∧ meth.locks = false ∧ (Jvm.Cond.and given_1 narrow_1).before #[Value.ref b] s = true
/-- the words of the private members of the class above -/
theorem q_hts {s : State} {args : Array Value} (h : ∀ w ∈ k2_sels lw_privs ++ tables_1, w.before args s = true) : ∀ w ∈ lw_tbl, w.before args s = true := by
  have tb : ∀ {q : Nat} {c : Cond}, (k2_sels lw_privs ++ tables_1)[q]? = some c → c.before args s = true := fun e => h _ (List.mem_of_getElem? e)
  have hz : (Cond.selects RJ4 yJ5_isLatin1_aae02 yJ5_isLatin1_aae02).before args s = true := tb (q := 844) (by decide +kernel)
  obtain ⟨c0, r0, m0, hC, -⟩ := Cond.selects_spec hz
  have key : ∀ (y : MethodName) (a b : Nat), y.cls = RJ5 → (k2_sels lw_privs ++ tables_1)[a]? = some (.privateMethod y) → (k2_sels lw_privs ++ tables_1)[b]? = some (.instanceMethod y) → (Cond.selects RJ4 y y).before args s = true := fun y a b e h1 h2 => q_selp ⟨by rw [e]; decide, by rw [e]; decide⟩ hC hz e.symm (tb h1) (tb h2)
  intro w hw
  rcases List.mem_append.mp (show w ∈ (k2_sels lw_privs ++ tables_1) ++ lw_sbs from hw) with hw | hw
  · exact h w hw
  · have hw : w ∈ lw_sbs := hw
    unfold lw_sbs at hw
    simp only [List.mem_cons, List.not_mem_nil, or_false] at hw
    rcases hw with rfl | rfl | rfl | rfl | rfl | rfl
    · exact key ⟨"java/lang/AbstractStringBuilder", "ensureCapacityInternal", "(I)V"⟩ 814 815 rfl (by decide +kernel) (by decide +kernel)
    · exact key ⟨"java/lang/AbstractStringBuilder", "newCapacity", "(I)I"⟩ 818 819 rfl (by decide +kernel) (by decide +kernel)
    · exact key ⟨"java/lang/AbstractStringBuilder", "putStringAt", "(ILjava/lang/String;)V"⟩ 863 864 rfl (by decide +kernel) (by decide +kernel)
    · exact key ⟨"java/lang/AbstractStringBuilder", "inflateIfNeededFor", "(Ljava/lang/String;)V"⟩ 867 868 rfl (by decide +kernel) (by decide +kernel)
    · exact key ⟨"java/lang/AbstractStringBuilder", "appendNull", "()Ljava/lang/AbstractStringBuilder;"⟩ 810 811 rfl (by decide +kernel) (by decide +kernel)
    · exact key ⟨"java/lang/AbstractStringBuilder", "inflate", "()V"⟩ 871 872 rfl (by decide +kernel) (by decide +kernel)
theorem kn_i_nm {own nm nm2 : String} {nL pc len a b c q : Nat} {i : Instr} {k : Int32} (h : ∀ ix, i ≠ .putfield ix) : kn_i own nm nL pc i len a b c q k = kn_i own nm2 nL pc i len a b c q k := by
  cases i <;> first
    | rfl
    | exact absurd rfl (h _)
theorem kt_15 : zn_15.all (fun x => kn_row "BathBoatsLaw" "law" code 9 x && (match x.2.2.1 with
    | .putfield _ => false
    | .return_ => false
    | _ => true)) = true := by decide +kernel
theorem kt_15r {x : zE} (hx : x ∈ zn_15) (nm : String) : kn_row "BathBoatsLaw" nm code 9 x = true ∧ x.2.2.1 ≠ .return_ := by
  have h := List.all_eq_true.mp kt_15 x hx
  rw [Bool.and_eq_true] at h
  obtain ⟨h1, h2⟩ := h
  refine ⟨?_, fun e => ?_⟩
  · unfold kn_row at h1 ⊢
    rw [kn_i_nm (nm2 := "law")]
    · exact h1
    · intro ix e
      rw [e] at h2
      cases h2
  · rw [e] at h2
    cases h2
theorem kt_15s : kn_seq zn_15 = true ∧ kn_last zn_15 = 8 ∧ (kW.length = 203 ∧ n_sl kW ≤ 9000) := by decide +kernel
theorem kG_hi {D : va_G} {cA : Nat → ClassId} {ad adT : zR → Nat} (ha : ∀ r : zR, r.1 ≠ 8 → ad r = adT r) {r : zR} (h5 : ¬ r.1 < 5) (h8 : r.1 ≠ 8) : (kG D cA ad).2.2.1 r = adT r := (if_neg h5).trans (ha r h8)
theorem kG_F {D : va_G} {cA : Nat → ClassId} {ad adT : zR → Nat} {S0 : zS} {A : Nat → Prop} {s : State} (ha : ∀ r : zR, r.1 ≠ 8 → ad r = adT r) (h : zw_F (kT D cA adT) S0 A s s.heap) : zw_F (kG D cA ad) S0 A s s.heap := by
  obtain ⟨h1, h2, h3, h4, h5, h6⟩ := h
  have e6 : ∀ t, (kG D cA ad).2.2.1 (6, t, 0) = (kT D cA adT).2.2.1 (6, t, 0) := fun t => kG_hi ha (by show ¬ (6 : Nat) < 5; decide) (by show (6 : Nat) ≠ 8; decide)
  have e7 : ∀ t, (kG D cA ad).2.2.1 (7, t, 0) = (kT D cA adT).2.2.1 (7, t, 0) := fun t => kG_hi ha (by show ¬ (7 : Nat) < 5; decide) (by show (7 : Nat) ≠ 8; decide)
  have e5 : (kG D cA ad).2.2.1 (5, 0, 0) = (kT D cA adT).2.2.1 (5, 0, 0) := kG_hi ha (by show ¬ (5 : Nat) < 5; decide) (by show (5 : Nat) ≠ 8; decide)
  have e9 : ∀ t, (kG D cA ad).2.2.1 (9, t, 0) = (kT D cA adT).2.2.1 (9, t, 0) := fun t => kG_hi ha (by show ¬ (9 : Nat) < 5; decide) (by show (9 : Nat) ≠ 8; decide)
  refine ⟨h1, fun i own k t tx a b => ?_, fun t ht => ?_, ?_, ?_, h6⟩
  · rw [e6 t]
    exact h2 i own k t tx a b
  · have h9 := h3 t ht
    show vk_S 1 _ _ (fun _ => (kG D cA ad).2.2.1 (6, t, 0)) (fun _ => (kG D cA ad).2.2.1 (7, t, 0)) A s s.heap
    rw [e6 t, e7 t]
    exact h9
  · rw [e5]; exact h4
  · unfold zw_dg at h5 ⊢
    rw [e9 0, e9 1]
    exact h5
theorem k_nil_P {D : va_G} {cA : Nat → ClassId} {ad : zR → Nat} {H : Heap} : va_P D vwCl (k_ws cA ad []) H := fun k q h => (nomatch h)
theorem k_nil_D {cA : Nat → ClassId} {ad : zR → Nat} {A : Nat → Prop} : va_D A (k_ws cA ad []) := ⟨fun i j p q h => (nomatch h), fun k q h => (nomatch h)⟩
theorem kS_5 (S0 : zS) : (kS S0).1 5 = S0.1 5 := by
  funext n o j
  show (if 5 < 5 then (match kW[kp (5, n, o)]? with
    | some c => kn_num c j
    | none => 0) else S0.1 5 n o j) = S0.1 5 n o j
  exact if_neg (by decide)
/-- the law's start: where the world of its rows is wF, the machine comes behind its constructor with it -/
theorem k_go {p : Program} {l : Launch} {e : Env} {s : State} {m : MethodId} {below : List Frame} {meth : Method} {c : Code} {b : Nat} {D : va_G} {cA : Nat → ClassId} {adT : zR → Nat} {S0 : zS} {wF : nS} (e5 : adT (5, 0, 0) = b) (hlaw : kn_law 3000 5 = some wF) (hlen : wF.length ≤ 3000 ∧ n_sl wF ≤ 18000) (X : kX p s m meth c D cA adT S0 (fun q => s.heap.size ≤ q) "BathBoatsLaw" meth.name code 9)
    (loop : ∀ (ad : zR → Nat) (ls : Array Slot) (H : Heap) (locs : List Loc), (∀ r : zR, r.1 ≠ 8 → ad r = adT r) → lv_has ls 9 (zl_pairs ad 0 kLV) → va_P D vwCl (k_ws cA ad wF) H → va_D (fun q => s.heap.size ≤ q) (k_ws cA ad wF) → va_S (fun q => s.heap.size ≤ q) s.heap H locs → W p l e room_1 s m #[Value.ref b] below meth c H locs wF.length (n_sl wF) (lw_Z below #[Value.ref b] s) (F0 m 8 ls [])) : W p l e room_1 s m #[Value.ref b] below meth c s.heap [] 0 0 (lw_Z below #[Value.ref b] s) (entryFrame m ([Value.ref b] : List Value).toArray 9) := by
  have J := kn_go_ok (p := p) (l := l) (e := e) (R := room_1) (s := s) (m := m) (args := #[Value.ref b]) (below := below) (meth := meth) (c := c) (Q := lw_Z below #[Value.ref b] s) (ad0 := adT) (w0 := []) (wF := wF) (own := "BathBoatsLaw") (nm := meth.name) (cc := code) (nL := 9) (fin := kn_fin) (cd := zn_15) (kn_sem_ok (l := l) (D := D) (cA := cA) (adT := adT) (S0 := S0) (A := fun q => s.heap.size ≤ q) p e s m meth c 3000 5) ⟨Nat.le_trans (Nat.sub_le _ _) (Nat.le_trans hlen.1 (Nat.le_of_ble_eq_true rfl)), Nat.le_trans (Nat.sub_le _ _) (Nat.le_trans hlen.2 (Nat.le_of_ble_eq_true rfl))⟩ ⟨by decide, by decide⟩ (fun x hx => (kt_15r hx _).1) kt_15s.1 (fun x hx hr => absurd hr (kt_15r hx "").2) (fun lv st w hfin => by
    obtain ⟨rfl, rfl, rfl⟩ := kn_fin_ok hfin
    rw [kt_15s.2.1]
    exact ⟨⟨Nat.le_refl _, Nat.le_refl _⟩, fun hwf => ⟨hwf.2.2.1, fun _ ad ls H locs ha _ hl hP hD hS => by
      have w9 := loop ad ls H locs ha hl hP hD hS
      rw [show w.length - ([] : nS).length = w.length from Nat.sub_zero _, show n_sl w - n_sl [] = n_sl w from Nat.sub_zero _]
      exact w9⟩⟩) 3000 zn_15 [] 0 (zl_init [.inr (.inl (some (5, 0, 0)))] 9) [] [] rfl (fun h => nomatch h) (fun y es h => by cases h; rfl) hlaw
  have hk5 : ∀ v, v ∈ ([.inr (.inl (some (5, 0, 0)))] : List zV) → kv_ok ([] : nS).length v := fun v hv => by rw [List.mem_singleton.mp hv]; exact Or.inr (Or.inr rfl)
  have J2 := (J.2 ⟨Nat.le_refl _, Nat.le_refl _, fun x h => absurd h List.not_mem_nil, fun v h => absurd h List.not_mem_nil, kv_initmem hk5⟩).2 X adT
  have hnw : ∀ v, v ∈ ([.inr (.inl (some (5, 0, 0)))] : List zV) → zl_wide (some v) = false := fun v hv => by rw [List.mem_singleton.mp hv]; rfl
  rw [show entryFrame m ([Value.ref b] : List Value).toArray 9 = entryFrame m (([.inr (.inl (some (5, 0, 0)))] : List zV).map (zc adT)).toArray 9 from congrArg (fun q => entryFrame m ([Value.ref q] : List Value).toArray 9) e5.symm, lg_entry_eq]
  have hle := lv_entry (([.inr (.inl (some (5, 0, 0)))] : List zV).map (zc adT)) (n := 9) (by rw [zl_sllen _ hnw]; decide)
  generalize (lg_sl (([.inr (.inl (some (5, 0, 0)))] : List zV).map (zc adT)) ++ List.replicate (9 - (lg_sl (([.inr (.inl (some (5, 0, 0)))] : List zV).map (zc adT))).length) Slot.unset).toArray = ls at hle ⊢
  exact J2 ls s.heap [] (fun r _ => rfl) (fun r _ => rfl) (lv_mono hle (fun q hq => zl_args _ 0 _ hnw q hq)) k_nil_P k_nil_D va_S.rf
theorem qk_i_nm {own nm nm2 : String} {nL pc len a b c q rt rk : Nat} {ret : Option FieldType} {i : Instr} {k : Int32} (h : ∀ ix, i ≠ .putfield ix) : qk_i own nm nL ret rk pc i len a b c q rt k = qk_i own nm2 nL ret rk pc i len a b c q rt k := by
  cases i <;> first
    | rfl
    | exact absurd rfl (h _)
theorem qt_lawp : qm_47.all (fun x => match x.2.2.1 with
    | .putfield _ => false
    | _ => true) = true := by decide +kernel
theorem qk_e_nm {x : zE} {nm : String} (hx : x ∈ qm_47) (h : qk_e "BathBoatsLaw" "law" code 9 (some .boolean) 2 x = true) : qk_e "BathBoatsLaw" nm code 9 ret 2 x = true := by
  unfold qk_e at h ⊢
  rw [qk_i_nm (nm2 := "law")]
  · exact h
  · intro ix e
    have h2 := List.all_eq_true.mp qt_lawp x hx
    rw [e] at h2
    cases h2
/-- the locals behind the law's constructor, as the law's level has them -/
def qLV : zL := [some (za 5 0 0), some (za 1 0 0), none, none, none, none, none, none, none]
/-- the script's store -/
def qS0 (L : Nat) (xs : Nat → Int32) : zS := (fun _ _ o j => if o = 1 then Int32.ofNat L else xs j, (0, (0, 0)))
theorem qLV_ok (n : Nat) : ∀ (j : Nat) (v : zV), zl_get qLV j = some v → qv_ok n v := by
  intro j v h
  match j, h with
  | 0, h => rw [← Option.some.inj h]; exact Or.inr (Or.inl (Or.inr (Or.inl rfl)))
  | 1, h => rw [← Option.some.inj h]; exact Or.inr (Or.inl (Or.inl (by decide +kernel)))
  | 2, h => exact nomatch h
  | 3, h => exact nomatch h
  | 4, h => exact nomatch h
  | 5, h => exact nomatch h
  | 6, h => exact nomatch h
  | 7, h => exact nomatch h
  | 8, h => exact nomatch h
  | j + 9, h => exact nomatch (show (none : Option zV) = some v from h)
/-- THE MACHINE'S SIDE OF THE WHOLE: where the law's level answers 1 for the script, within the room, the machine does -/
theorem q_machine {p : Program} {e : Env} {s : State} {m : MethodId} {below : List Frame} {meth : Method} {c : Code} (l : Launch) {b L : Nat} {xs : Nat → Int32} (hL : L ≤ 260) (C0 : lw_At p s m meth c b L xs) {F N : Nat} {T' : qS} (hz : qx_run (fun mi av T => q_sem F 12 mi av T) (fun mi av S => zr_sem F 12 mi av S) qm_47 2 F N 8 qLV [] (kS (qS0 L xs), []) = some (some (zi 1), T')) (hroom : T'.2.length ≤ 599000 ∧ q_sl T'.2 ≤ 7290000) : W p l e room_1 s m #[Value.ref b] below meth c s.heap [] 0 0 (lw_Z below #[Value.ref b] s) (entryFrame m ([Value.ref b] : List Value).toArray 9) := by
  obtain ⟨hx, hb, hr, hml, hown, hts, hX, hbl, hlocks, hgv⟩ := C0
  have hf : ∀ z, z ∈ kFl → z.before #[Value.ref b] s = true := flat_of_before _ hgv
  obtain ⟨D, cA, hK⟩ := k_K hts
  obtain ⟨adT, e5, hF⟩ := k_F (D := D) (cA := cA) hf hts (show L < 2 ^ 31 by omega) hX hbl
  have hF : zw_F (kT D cA adT) (qS0 L xs) (fun q => s.heap.size ≤ q) s s.heap := hF
  obtain ⟨b1, b2, b3, b4, b5⟩ := kp_arr
  obtain ⟨t1, t2, t3, t4⟩ := kt_15s
  have X : kX p s m meth c D cA adT (qS0 L xs) (fun q => s.heap.size ≤ q) "BathBoatsLaw" meth.name code 9 := ⟨hx, hb, hml, hown, hK adT, hF, fun q h => h, rfl, va_AO.of (hts _ (List.mem_of_getElem? b4)), hts _ (List.mem_of_getElem? b5)⟩
  refine k_go e5 kn_law_eq ⟨by omega, by omega⟩ X (fun ad ls H locs ha hl hP hD hS => ?_)
  have hD2 : va_D (fun q => s.heap.size ≤ q) (q_all (kG D cA ad) (fun _ => 0) (kS (qS0 L xs)) []) := by
    have e0 : q_all (kG D cA ad) (fun _ => 0) (kS (qS0 L xs)) [] = zt_ws (kG D cA ad) (kS (qS0 L xs)) := List.append_nil _
    rw [e0]
    have hI : zI (kG D cA ad) := kW_I hD
    have hz := zD hI (kS (qS0 L xs)) 0
    refine ⟨hz.1, fun k x hk => ?_⟩
    obtain ⟨r, hr9, rfl⟩ := List.mem_map.mp (List.mem_of_getElem? hk)
    obtain ⟨c9, hc9, -⟩ := k_all_c hr9
    show s.heap.size ≤ (kG D cA ad).2.2.1 r
    rw [show (kG D cA ad).2.2.1 r = ad (zr (kp r)) from if_pos (zt_all_cd r hr9).2]
    exact hD.2 _ _ (k_ws_at (cA := cA) (ad := ad) hc9)
  have XQ : qX p s m meth c (kG D cA ad) (kS (qS0 L xs), []) (fun q => s.heap.size ≤ q) "BathBoatsLaw" meth.name code 9 ret := ⟨hx, hb, hml, hown, hK adT, (kG_F ha hF).store (kS_5 _), kW_I hD, hr, hlocks, fun q h => h, hts _ (List.mem_of_getElem? b5), rfl⟩
  have hlaw := qt_law
  rw [Bool.and_eq_true] at hlaw
  have h2 : ∀ x, x ∈ qm_47 → qk_e "BathBoatsLaw" meth.name code 9 ret 2 x = true := fun x hx9 => qk_e_nm hx9 (List.all_eq_true.mp hlaw.1 x hx9)
  have J := qx_run_ok (p := p) (l := l) (e := e) (R := room_1) (args := #[Value.ref b]) (below := below) (Q := lw_Z below #[Value.ref b] s) (aq0 := fun _ => 0) (cF := T'.2.length) (sF := q_sl T'.2) (o1 := kW.length) (o2 := n_sl kW) (d := 12) (out := (some (zi 1), T')) XQ ⟨⟨by show T'.2.length - 0 + kW.length ≤ 600086; omega, by show q_sl T'.2 - 0 + n_sl kW ≤ 7301442; omega⟩, by decide, by decide⟩ ⟨by decide, by decide⟩ (q_sem_ok F 12) (zr_sem_ok F 12) (q_gh F 12) (rk := 2) h2 hlaw.2 (fun x hx9 hi nx jp lv st T h => ?_) F N 8 qLV [] (kS (qS0 L xs), []) hz
  · have hlv : lv_has ls 9 (zl_pairs (qad (kG D cA ad) (fun _ => 0)) 0 qLV) := lv_mono hl (fun q hq => by
      obtain ⟨j, v, e4, e6⟩ := zl_mem0.mp hq
      rw [e4]
      match j, e6 with
      | 0, e6 =>
        have e7 := Option.some.inj e6
        rw [← e7]
        refine zl_mem0.mpr ⟨0, za 5 0 0, ?_, rfl⟩
        show ((0 : Nat), Value.ref (qad (kG D cA ad) (fun _ => 0) (5, 0, 0))) = (0, Value.ref (ad (5, 0, 0)))
        rw [qad_ne _ _ (show (5 : Nat) ≠ 8 by decide), show (kG D cA ad).2.2.1 (5, 0, 0) = ad (5, 0, 0) from kG_hi (ad := ad) (adT := ad) (fun _ _ => rfl) (by show ¬ (5 : Nat) < 5; decide) (by show (5 : Nat) ≠ 8; decide)]
      | 1, e6 =>
        have e7 := Option.some.inj e6
        rw [← e7]
        refine zl_mem0.mpr ⟨1, za 8 0 0, ?_, rfl⟩
        show ((1 : Nat), Value.ref (qad (kG D cA ad) (fun _ => 0) (1, 0, 0))) = (1, Value.ref (ad (8, 0, 0)))
        rw [qad_ne _ _ (show (1 : Nat) ≠ 8 by decide), show (kG D cA ad).2.2.1 (1, 0, 0) = ad (8, 0, 0) from (if_pos (show (1 : Nat) < 5 by decide) : (if (1 : Nat) < 5 then ad (zr (kp (1, 0, 0))) else ad (1, 0, 0)) = ad (zr (kp (1, 0, 0))))]
      | 2, e6 => exact nomatch e6
      | 3, e6 => exact nomatch e6
      | 4, e6 => exact nomatch e6
      | 5, e6 => exact nomatch e6
      | 6, e6 => exact nomatch e6
      | 7, e6 => exact nomatch e6
      | 8, e6 => exact nomatch e6
      | j + 9, e6 => exact nomatch (show (none : Option zV) = some v from e6))
    have hPq : va_P (kG D cA ad).1 vwCl (q_all (kG D cA ad) (fun _ => 0) (kS (qS0 L xs)) []) H := by
      have e0 : q_all (kG D cA ad) (fun _ => 0) (kS (qS0 L xs)) [] = zt_ws (kG D cA ad) (kS (qS0 L xs)) := List.append_nil _
      rw [e0]
      exact kW_P hP
    have w := J.2 (fun _ => 0) ls H locs (fun _ _ => rfl) hlv hPq hD2 hS ⟨rfl, Nat.le_refl _, Nat.le_refl _, fun x h => absurd h List.not_mem_nil⟩ (fun v h => absurd h List.not_mem_nil) (qLV_ok _)
    have e1 : (([] : qW).length - ([] : qW).length + kW.length) = kW.length := by rw [Nat.sub_self, Nat.zero_add]
    have e2 : (q_sl [] - q_sl [] + n_sl kW) = n_sl kW := by rw [Nat.sub_self, Nat.zero_add]
    have w : W p l e room_1 s m #[Value.ref b] below meth c H locs (([] : qW).length - ([] : qW).length + kW.length) (q_sl [] - q_sl [] + n_sl kW) (lw_Z below #[Value.ref b] s) (F0 m 8 ls []) := w
    rw [e1, e2] at w
    exact w
  · have hz9 := h2 x hx9
    unfold qk_e at hz9
    rw [Bool.and_eq_true] at hz9
    have hdec := of_decide_eq_true hz9.1
    have hk := hz9.2
    obtain ⟨x1, pc, i, len, ⟨a, b9, c9, q, rt⟩, k, tb⟩ := x
    have hi : zt_isret i = true := hi
    have hdec : decode code pc = .ok (i, len) := hdec
    have hk : qk_i "BathBoatsLaw" meth.name 9 (some .boolean) 2 pc i len a b9 c9 q rt k = true := hk
    have h : qx_step (fun mi av T => q_sem F 12 mi av T) (fun mi av S => zr_sem F 12 mi av S) 2 nx jp i a b9 c9 rt k lv st T = some (some (zi 1), T') := h
    show qJ2 _ _ _ _ _ _ _ _ _ _ _ _ _ _ _ _ _ _ _ _ T pc lv st
    cases i with
    | ireturn =>
      have hl1 : len = 1 := by
        have hk : (decide (len = 1) && decide ((some .boolean : Option FieldType) = some .boolean)) = true := hk
        rw [Bool.and_eq_true] at hk
        exact of_decide_eq_true hk.1
      subst hl1
      have h : (match (generalizing := false) st with
        | .inl x :: [] => (if x &&& 1 = x then some (some (zi x), T) else none)
        | _ => none : Option qO) = some (some (zi 1), T') := h
      split at h
      · split at h
        · have h := Option.some.inj h
          cases h
          refine ⟨⟨Nat.le_refl _, Nat.le_refl _⟩, fun aq ls2 H2 locs2 ha2 hl2 hP2 hD3 hS2 h5 hs2 hv2 => ?_⟩
          refine va_forget (fun q hq => hS2.2.2 q hq) ?_
          refine W.widen (k := 600086) (n := 7301442) (by show T'.2.length - 0 + kW.length ≤ _; omega) (by show q_sl T'.2 - 0 + n_sl kW ≤ _; omega) ?_
          exact W.base (lw_ret (Drawn.sameBut.refl s.drawn lw_cs) hx hb hr hlocks hdec)
        · cases h
      · cases h
    | areturn =>
      have hk : (decide (len = 1) && false) = true := hk
      rw [Bool.and_false] at hk
      cases hk
    | return_ =>
      have hk := (of_decide_eq_true (show decide (len = 1 ∧ (some .boolean : Option FieldType) = none) = true from hk)).2
      cases hk
    | freturn => exact nomatch h
    | dreturn => exact nomatch h
    | _ => exact nomatch (show false = true from hi)

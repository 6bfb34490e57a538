/-! THE CLAIM OUT OF ONE WALK OF THE LAW'S BODY. Your part is whole_start (and what it stands on); all else here is the same for every law, but numbers. -/
def R_law : String := "BathBoatsLaw"
def lw_P (b : Addr) (xs : List Int32) (args : Array Value) (s : State) : Prop := args = #[.ref b] ∧ s.IntsAt b xs ∧ xs.length ≤ 3072 ∧ (Jvm.Cond.and given_1 narrow_1).before args s = true
/-- what a walk over the start with the record d0 says of its end, said of the start itself -/
theorem lw_closed {s t : State} {o : Outcome} {d0 : Drawn} {L : List Loc} {k n : Nat} (hd0 : s.drawn.sameBut d0 lw_cs) (hv : ∃ v, o = .returned v) (hW : (s.setDrawn d0).WarmedH t.vm) (hs : (s.setDrawn d0).sameButNew ({ t with vm := s.vm } : State) L k n) : State.butDraws s t lw_cs (fun t1 => Framed s o t1 L k n) := by
  have h2 : t.drawn = d0 := congrArg State.drawn hs.1
  refine ⟨⟨hv, hW, State.sameButNew.setDrawn hs s.drawn⟩, ?_, by decide⟩
  rw [h2]
  exact hd0
def lw_Q (_ : Array Value) (s : State) (o : Outcome) (t : State) : Prop := o = .returned (some (.int 1)) ∧ State.butDraws s t lw_cs (fun t1 => Framed s o t1 [] 601024 7293034)
def lw_Z (below : List Frame) (a : Array Value) (s : State) : State → Prop := fun t => ∃ o, t.status = .running ∧ Ended t below o ∧ lw_Q a s o t
/-- the law's own end, with 1 on the stack, nothing written that was there before, its room as the claim has it; d0: the record of draws at this point (at the entry s.drawn: begin with 'refine W.base ?_' and 'have hd0 := Drawn.sameBut.refl s.drawn lw_cs') -/
theorem lw_ret {p : Program} {l : Launch} {e : Env} {s : State} {m : MethodId} {below : List Frame} {meth : Method} {c : Code} {b : Nat} {d0 : Drawn} (hd0 : s.drawn.sameBut d0 lw_cs) (hx : p.tables.exec = Jvm.exec) (hb : c.code = code) (hr : meth.sig.returnType = ret) (hlocks : meth.locks = false) {pc : Nat} {H : Heap} {ls : Array Slot} (hdg : decode code pc = .ok (.ireturn, 1)) : W p l e room_1 (s.setDrawn d0) m #[Value.ref b] below meth c H [] 601024 7293034 (lw_Z below #[Value.ref b] s) (F0 m pc ls [.int 1]) := by
  intro T hT X
  obtain ⟨fs, hret, hrun, hended, hW, hframe⟩ := X.leave (v := some (.int 1)) (hlocks := hlocks) (fun h => by rw [hr] at h; cases h)
  have hmeth' : T.vm.method? m = some meth := X.method'
  refine ⟨T.setFrames fs, ?_, .returned (some (.int 1)), hrun, hended, rfl, lw_closed hd0 ⟨_, rfl⟩ hW hframe⟩
  jvm_step X.here [X.here.top, hx, hb, hdg, hmeth', hr, ret, narrow_b1]
  (try refine ⟨rfl, ?_⟩); (try refine ⟨rfl, ?_⟩)
  first | (intro acts; rw [hret _ acts rfl rfl rfl]) | rw [hret _ _ rfl rfl rfl]
  exact Steps.refl _
/-- what holds at the law's entry: the machine, the code, the tables' words (any of lw_tbl by 'hts w (by decide +kernel)'), the script of L ints xs at the cell b, what the Statement gives of the start (any of its parts by flat_of_before) -/
def lw_At (p : Program) (s : State) (m : MethodId) (meth : Method) (c : Code) (b L : Nat) (xs : Nat → Int32) : Prop :=
  p.tables.exec = Jvm.exec ∧ c.code = code ∧ meth.sig.returnType = ret ∧ c.maxLocals = 10 ∧ s.vm.findClass R_law = some m.cls ∧ (∀ w ∈ lw_tbl, w.before #[Value.ref b] s = true) ∧ va_X b L xs s s.heap ∧ b < s.heap.size ∧ meth.locks = false ∧ (Jvm.Cond.and given_1 narrow_1).before #[Value.ref b] s = true ∧ c.exceptionTable.toList = []
-- ===== YOUR PART BEGINS =====
theorem kn_i_nm {own nm nm2 : String} {nL pc len a b c q : Nat} {i : Instr} {k : Int32} (h : ∀ ix, i ≠ .putfield ix) : kn_i own nm nL pc i len a b c q k = kn_i own nm2 nL pc i len a b c q k := by
  cases i <;> first
    | rfl
    | exact absurd rfl (h _)
theorem kt_15 : zn_15.all (fun x => kn_row "BathBoatsLaw" "law" code 10 x && (match x.2.2.1 with
    | .putfield _ => false
    | .return_ => false
    | _ => true)) = true := by decide +kernel
theorem kt_15r {x : zE} (hx : x ∈ zn_15) (nm : String) : kn_row "BathBoatsLaw" nm code 10 x = true ∧ x.2.2.1 ≠ .return_ := by
  have h := List.all_eq_true.mp kt_15 x hx
  rw [Bool.and_eq_true] at h
  obtain ⟨h1, h2⟩ := h
  refine ⟨?_, fun e => ?_⟩
  · unfold kn_row at h1 ⊢
    rw [kn_i_nm (nm2 := "law")]
    · exact h1
    · intro ix e
      rw [e] at h2
      cases h2
  · rw [e] at h2
    cases h2
theorem kt_15s : kn_seq zn_15 = true ∧ kn_last zn_15 = 28 ∧ (kW.length ≤ 3000 ∧ n_sl kW ≤ 18000) := by decide +kernel
theorem lw_flags {l : Launch} (h : l.flags = flags0) : l.stackTraces = false := by
  unfold Launch.stackTraces
  rw [h]
  decide +kernel
theorem kG_hi {D : va_G} {cA : Nat → ClassId} {ad adT : zR → Nat} (ha : ∀ r : zR, r.1 ≠ 8 → ad r = adT r) {r : zR} (h5 : ¬ r.1 < 5) (h8 : r.1 ≠ 8) : (kG D cA ad).2.2.1 r = adT r := (if_neg h5).trans (ha r h8)
theorem kG_F {D : va_G} {cA : Nat → ClassId} {ad adT : zR → Nat} {S0 : zS} {A B : Nat → Prop} {s : State} (ha : ∀ r : zR, r.1 ≠ 8 → ad r = adT r) (hAB : ∀ q, B q → A q) (h : zw_F (kT D cA adT) S0 A s s.heap) : zw_F (kG D cA ad) S0 B s s.heap := by
  obtain ⟨h1, h2, h3, h4, h5⟩ := zw_F.narrow h hAB
  have e6 : (fun t => (kG D cA ad).2.2.1 (6, t, 0)) = (fun t => (kT D cA adT).2.2.1 (6, t, 0)) := funext fun t => kG_hi ha (by show ¬ (6 : Nat) < 5; decide) (by show (6 : Nat) ≠ 8; decide)
  have e7 : (fun t => (kG D cA ad).2.2.1 (7, t, 0)) = (fun t => (kT D cA adT).2.2.1 (7, t, 0)) := funext fun t => kG_hi ha (by show ¬ (7 : Nat) < 5; decide) (by show (7 : Nat) ≠ 8; decide)
  have e5 : (kG D cA ad).2.2.1 (5, 0, 0) = (kT D cA adT).2.2.1 (5, 0, 0) := kG_hi ha (by show ¬ (5 : Nat) < 5; decide) (by show (5 : Nat) ≠ 8; decide)
  refine ⟨h1, fun i own k t tx a b => ?_, ?_, ?_, h5⟩
  · rw [show (kG D cA ad).2.2.1 (6, t, 0) = (kT D cA adT).2.2.1 (6, t, 0) from congrFun e6 t]
    exact h2 i own k t tx a b
  · rw [e6, e7]; exact h3
  · rw [e5]; exact h4
theorem k_nil_P {D : va_G} {cA : Nat → ClassId} {ad : zR → Nat} {H : Heap} : va_P D vwCl (k_ws cA ad []) H := fun k q h => (nomatch h)
theorem k_nil_D {cA : Nat → ClassId} {ad : zR → Nat} {A : Nat → Prop} : va_D A (k_ws cA ad []) := ⟨fun i j p q h => (nomatch h), fun k q h => (nomatch h)⟩
theorem kS_5 (S0 : zS) : (kS S0).1 5 = S0.1 5 := by
  funext n o j
  show (if 5 < 5 then (match kW[kp (5, n, o)]? with
    | some c => kn_num c j
    | none => 0) else S0.1 5 n o j) = S0.1 5 n o j
  exact if_neg (by decide)
theorem zLV_ok : ∀ (j : Nat) (v : zV), zl_get (zLV (zo ((0 : Nat) : Int))) j = some v → zv_ok v := by
  intro j v h
  have k1 : zr_ok (5, 0, 0) := Or.inr (Or.inl rfl)
  have k2 : ∀ k n o, k < 5 → n < zt_counts.getD k 0 → o < (zt_cells.getD k []).length → zr_ok (k, n, o) := fun k n o a b c => Or.inl ((zt_mem k n o).mpr ⟨a, b, c⟩)
  match j, h with
  | 0, h => rw [← Option.some.inj h]; exact k1
  | 1, h => rw [← Option.some.inj h]; exact k2 _ _ _ (by decide) (by decide) (by decide)
  | 2, h => rw [← Option.some.inj h]; exact k2 _ _ _ (by decide) (by decide) (by decide)
  | 3, h => rw [← Option.some.inj h]; exact k2 _ _ _ (by decide) (by decide) (by decide)
  | 4, h => rw [← Option.some.inj h]; exact k2 _ _ _ (by decide) (by decide) (by decide)
  | 5, h => rw [← Option.some.inj h]; trivial
  | 6, h => exact nomatch h
  | 7, h => exact nomatch h
  | 8, h => exact nomatch h
  | 9, h => exact nomatch h
  | j + 10, h => exact nomatch (show (none : Option zV) = some v from h)
/-- the law's start: where the world of its rows is wF, the machine comes to the loop's head with it -/
theorem k_go {p : Program} {l : Launch} {e : Env} {s : State} {m : MethodId} {below : List Frame} {meth : Method} {c : Code} {b : Nat} {D : va_G} {cA : Nat → ClassId} {adT : zR → Nat} {S0 : zS} {wF : nS} (e5 : adT (5, 0, 0) = b) (hlaw : kn_law 3000 8 = some wF) (hlen : wF.length ≤ 3000 ∧ n_sl wF ≤ 18000) (X : kX p s m meth c D cA adT S0 (fun q => s.heap.size ≤ q) "BathBoatsLaw" meth.name code 10)
    (loop : ∀ (ad : zR → Nat) (ls : Array Slot) (H : Heap) (locs : List Loc), (∀ r : zR, r.1 ≠ 8 → ad r = adT r) → lv_has ls 10 (zl_pairs ad 0 kLV) → va_P D vwCl (k_ws cA ad wF) H → va_D (fun q => s.heap.size ≤ q) (k_ws cA ad wF) → va_S (fun q => s.heap.size ≤ q) s.heap H locs → W p l e room_1 s m #[Value.ref b] below meth c H locs wF.length (n_sl wF) (lw_Z below #[Value.ref b] s) (F0 m 28 ls [])) : W p l e room_1 s m #[Value.ref b] below meth c s.heap [] 0 0 (lw_Z below #[Value.ref b] s) (entryFrame m ([Value.ref b] : List Value).toArray 10) := by
  have J := kn_go_ok (p := p) (l := l) (e := e) (R := room_1) (s := s) (m := m) (args := #[Value.ref b]) (below := below) (meth := meth) (c := c) (Q := lw_Z below #[Value.ref b] s) (ad0 := adT) (w0 := []) (wF := wF) (own := "BathBoatsLaw") (nm := meth.name) (cc := code) (nL := 10) (fin := kn_fin) (cd := zn_15) (kn_sem_ok (l := l) (D := D) (cA := cA) (adT := adT) (S0 := S0) (A := fun q => s.heap.size ≤ q) p e s m meth c 3000 8) ⟨Nat.le_trans (Nat.sub_le _ _) (Nat.le_trans hlen.1 (Nat.le_of_ble_eq_true rfl)), Nat.le_trans (Nat.sub_le _ _) (Nat.le_trans hlen.2 (Nat.le_of_ble_eq_true rfl))⟩ ⟨Nat.le_of_ble_eq_true rfl, Nat.le_of_ble_eq_true rfl⟩ (fun x hx => (kt_15r hx _).1) kt_15s.1 (fun x hx hr => absurd hr (kt_15r hx "").2) (fun lv st w hfin => by
    obtain ⟨rfl, rfl, rfl⟩ := kn_fin_ok hfin
    rw [kt_15s.2.1]
    exact ⟨⟨Nat.le_refl _, Nat.le_refl _⟩, fun hwf => ⟨hwf.2.2.1, fun _ ad ls H locs ha _ hl hP hD hS => by
      have w9 := loop ad ls H locs ha hl hP hD hS
      rw [show w.length - ([] : nS).length = w.length from Nat.sub_zero _, show n_sl w - n_sl [] = n_sl w from Nat.sub_zero _]
      exact w9⟩⟩) 3000 zn_15 [] 0 (zl_init [.inr (.inl (some (5, 0, 0)))] 10) [] [] rfl (fun h => nomatch h) (fun y es h => by cases h; rfl) hlaw
  have hk5 : ∀ v, v ∈ ([.inr (.inl (some (5, 0, 0)))] : List zV) → kv_ok ([] : nS).length v := fun v hv => by rw [List.mem_singleton.mp hv]; exact Or.inr (Or.inr rfl)
  have J2 := (J.2 ⟨Nat.le_refl _, Nat.le_refl _, fun x h => absurd h List.not_mem_nil, fun v h => absurd h List.not_mem_nil, kv_initmem hk5⟩).2 X adT
  have hnw : ∀ v, v ∈ ([.inr (.inl (some (5, 0, 0)))] : List zV) → zl_wide (some v) = false := fun v hv => by rw [List.mem_singleton.mp hv]; rfl
  rw [show entryFrame m ([Value.ref b] : List Value).toArray 10 = entryFrame m (([.inr (.inl (some (5, 0, 0)))] : List zV).map (zc adT)).toArray 10 from congrArg (fun q => entryFrame m ([Value.ref q] : List Value).toArray 10) e5.symm, lg_entry_eq]
  have hle := lv_entry (([.inr (.inl (some (5, 0, 0)))] : List zV).map (zc adT)) (n := 10) (by rw [zl_sllen _ hnw]; decide)
  generalize (lg_sl (([.inr (.inl (some (5, 0, 0)))] : List zV).map (zc adT)) ++ List.replicate (10 - (lg_sl (([.inr (.inl (some (5, 0, 0)))] : List zV).map (zc adT))).length) Slot.unset).toArray = ls at hle ⊢
  exact J2 ls s.heap [] (fun r _ => rfl) (fun r _ => rfl) (lv_mono hle (fun q hq => zl_args _ 0 _ hnw q hq)) k_nil_P k_nil_D va_S.rf
/-- from the entry, for every script of at most 3072 ints, the law comes to its end with true -/
theorem whole_start {p : Program} {e : Env} {s : State} {m : MethodId} {below : List Frame} {meth : Method} {c : Code} (l : Launch) (hflags : l.flags = flags0) {b L : Nat} {xs : Nat → Int32} (hL : L ≤ 3072) (C0 : lw_At p s m meth c b L xs) : W p l e room_1 s m #[Value.ref b] below meth c s.heap [] 0 0 (lw_Z below #[Value.ref b] s) (entryFrame m ([Value.ref b] : List Value).toArray 10) := by
  obtain ⟨hx, hb, hr, hml, hown, hts, hX, hbl, hlocks, hgv, hext⟩ := C0
  have hl0 := lw_flags hflags
  have hf : ∀ z, z ∈ kFl → z.before #[Value.ref b] s = true := flat_of_before _ hgv
  obtain ⟨D, cA, hK⟩ := k_K hts
  obtain ⟨adT, e5, hF⟩ := k_F (D := D) (cA := cA) hf hts (show L < 2 ^ 31 by omega) hX hbl
  generalize hS0 : ((fun _ _ o j => if o = 1 then Int32.ofNat L else xs j, (0, (0, 0))) : zS) = S0 at hF
  have hSL : S0.1 5 0 1 0 = zo (L : Int) := by rw [← hS0]; exact zo_ofNat L
  have hS2 : S0.2.2.2 = 0 := by rw [← hS0]
  obtain ⟨b1, b2, b3, b4, b5⟩ := kp_arr
  obtain ⟨t1, t2, t3, t4⟩ := kt_15s
  have X : kX p s m meth c D cA adT S0 (fun q => s.heap.size ≤ q) "BathBoatsLaw" meth.name code 10 := ⟨hx, hb, hml, hown, hK adT, hF, fun q h => h, rfl, va_AO.of (hts _ (List.mem_of_getElem? b4)), va_AO.of (hts _ (List.mem_of_getElem? b5))⟩
  refine k_go e5 kn_law_eq ⟨t3, t4⟩ X (?_ : ∀ (ad : zR → Nat) (ls : Array Slot) (H : Heap) (locs : List Loc), (∀ r : zR, r.1 ≠ 8 → ad r = adT r) → lv_has ls 10 (zl_pairs ad 0 kLV) → va_P D vwCl (k_ws cA ad kW) H → va_D (fun q => s.heap.size ≤ q) (k_ws cA ad kW) → va_S (fun q => s.heap.size ≤ q) s.heap H locs → W p l e room_1 s m #[Value.ref b] below meth c H locs kW.length (n_sl kW) (lw_Z below #[Value.ref b] s) (F0 m 28 ls []))
  · intro ad ls H locs ha hl hP hD hS
    have hAB : ∀ q, zA (kG D cA ad) s.heap.size q → s.heap.size ≤ q := by
      intro q hq
      rcases hq with ⟨r, hr9, rfl⟩ | hq
      · obtain ⟨c9, hc9, -⟩ := k_all_c hr9
        rw [show (kG D cA ad).2.2.1 r = ad (zr (kp r)) from if_pos (zt_all_cd r hr9).2]
        exact hD.2 _ _ (k_ws_at (cA := cA) (ad := ad) hc9)
      · exact hq
    have Z : zX p l s m meth c (kG D cA ad) S0 "BathBoatsLaw" code 10 ret [] := ⟨hx, hb, hml, hown, hK adT, kG_F ha hAB hF, kW_I hD, hr, hlocks, hl0, hext⟩
    obtain ⟨S', hz, hg⟩ := zL_all (len := L) 512 0 10260 (kS S0) 0 (begR 5 5) 0 (fun _ => begR 5 5) false (begR 5 5) 0 (fun _ => 0) 0 (fun _ => 0) (-1) (kS_Iv S0) (by decide) hSL (by omega) (by decide) hL (by decide)
    have hg : S'.2.2.2 ≤ 3512 := hg
    have hz : zx_run (fun mi av S => zr_sem zF 41 mi av S) zm_333 2 3000 10260 28 (zLV (zo ((0 : Nat) : Int))) [] (kS S0) = some (.inl (some (zi 1)), S') := by
      rw [show (zi 1 : zV) = zi (zo 1) by decide +kernel]
      exact hz
    have J := zr_main (p := p) (l := l) (e := e) (R := room_1) (s := s) (m := m) (args := #[Value.ref b]) (below := below) (meth := meth) (c := c) (Q := lw_Z below #[Value.ref b] s) Z hl0 ⟨by decide, by decide, by rw [hS2]; show S'.2.2.2 - 0 ≤ 601024; omega, by rw [hS2]; show 6 * (S'.2.2.2 - 0) ≤ 7293034; omega⟩ ⟨by decide, by decide⟩ hz (fun pc lv hdec ls2 H2 locs2 hl2 hP2 hS2' h52 hg2 hs2 hv2 => by
      refine va_forget (fun q hq => hAB _ (hS2'.2.2 q hq)) ?_
      refine W.widen (k := 601024) (n := 7293034) (by omega) (by omega) ?_
      exact W.base (lw_ret (Drawn.sameBut.refl s.drawn lw_cs) hx hb hr hlocks hdec))
    have w := J ls H locs hl (kW_P hP) ⟨hS.1, fun q h1 h2 => hS.2.1 q h1 (fun h3 => absurd (Nat.lt_of_lt_of_le h1 h3) (Nat.lt_irrefl _)), fun q hq => Or.inr (hS.2.2 q hq)⟩ (kS_5 S0) (by rw [hS2]; exact Nat.zero_le _) (fun v h => absurd h List.not_mem_nil) zLV_ok
    rw [hS2] at w
    exact W.widen (k := 3000 - 0) (n := 6 * (3000 - 0)) (Nat.le_trans t3 (Nat.le_of_ble_eq_true rfl)) (Nat.le_trans t4 (Nat.le_of_ble_eq_true rfl)) w
-- ===== YOUR PART ENDS =====
set_option maxHeartbeats 4000000 in
theorem lw_walk (l : Launch) (hflags : l.flags = flags0) (b : Addr) (xs : List Int32) : MetFree l x (headSpec (Jvm.Cond.code x code maxLocals ret :: tables_1) room_1) (lw_P b xs) (fun _ _ _ _ _ => True) lw_Q := by
  refine MetFree.of_bodyS (code := code) (maxLocals := maxLocals) (ret := ret) (by decide) ?_ ?_
  · intro args s m h hn
    obtain ⟨meth, c, h1, h2, h3, h4, h5, h6, -, -⟩ := Cond.code_spec hn (atoms_spec (ws := Jvm.Cond.code x code maxLocals ret :: tables_1) h _ List.mem_cons_self)
    exact ⟨meth, c, h1, h2, h3, h4, h5, h6⟩
  · intro p e s m args below meth c s₁ B hml0 hP _
    obtain ⟨rfl, hx, hbd, hgv⟩ := hP
    obtain ⟨scr, harrAt, hlist, hof, hsmall⟩ := hx
    obtain ⟨hcb, hkn, -, -⟩ := State.arrayAt?_spec harrAt
    have hown : s.vm.findClass R_law = some m.cls := findClass_of_methodNamed B.named
    have hts0 : ∀ c ∈ (Jvm.Cond.code x code maxLocals ret :: tables_1), c.before #[Value.ref b] s = true := atoms_spec (ws := Jvm.Cond.code x code maxLocals ret :: tables_1) B.pre
    have hts : ∀ w ∈ lw_tbl, w.before #[Value.ref b] s = true := k2_hts_sels lw_privs (fun w hw => hts0 w (List.mem_cons_of_mem _ hw)) lw_privs_ok
    have hml : c.maxLocals = 10 := B.maxLocals_eq (hts0 _ List.mem_cons_self)
    have hext : c.exceptionTable.toList = [] := by
      obtain ⟨meth9, c9, h1, h2, -, -, -, -, h7, -⟩ := Cond.code_spec B.named (hts0 _ List.mem_cons_self)
      cases Option.some.inj (h1.symm.trans B.method)
      cases Option.some.inj (h2.symm.trans (Stand.of_body B).code)
      rw [Array.isEmpty_iff.mp h7]
    have X₀ : Stand p l e room_1 s m #[Value.ref b] below meth c s₁ [] 0 0 := Stand.of_body B
    have hh0 : s₁.heap = s.heap := by rw [B.state]; rfl
    have hsz : scr.slots.size = xs.length := by rw [← Array.length_toList, hlist, List.length_map]
    have hval : ∀ j : Nat, j < xs.length → scr.slots[j]? = some (.int (xs.getD j 0)) := fun j hj => by
      rw [← Array.getElem?_toList, hlist]
      simp [hj]
    have hbl : b < s.heap.size := (Array.getElem?_eq_some_iff.mp hcb).1
    have hX : va_X b xs.length (fun j => xs.getD j 0) s s.heap := ⟨scr, hcb, hof, hkn, hsz, hval⟩
    have K : W p l e room_1 s m #[Value.ref b] below meth c s₁.heap [] 0 0 (lw_Z below #[Value.ref b] s) (entryFrame m ([Value.ref b] : List Value).toArray 10) := by
      rw [hh0]
      exact whole_start l hflags hbd ⟨B.exec, B.bytes, B.returns, hml, hown, hts, hX, hbl, B.notSynchronized, hgv, hext⟩
    obtain ⟨t, a1, o, b1, b2, b3⟩ := K s₁ rfl X₀
    exact ⟨t, o, a1, b1, b2, b3⟩
theorem lw_pre_spec {args : Array Value} {s : State} (h : (Jvm.Cond.and given_1 narrow_1).before args s = true) (hr : rest_1_c.before args s = true) : ∃ (b : Addr) (xs : List Int32), lw_P b xs args s := by
  have hs := flat_of_before _ h
  have hq := flat_of_before _ hr
  have hc : (Cond.count 1).before args s = true := hs _ (by decide +kernel)
  have harr : (Cond.arrayOf (.arg 0) .int).before args s = true := hs _ (by decide +kernel)
  have hle : (Cond.le (.length (.arg 0)) (.int 3072)).before args s = true := hs _ (by decide +kernel)
  have hlen : (Cond.isInt (.length (.arg 0))).before args s = true := hq _ (by decide +kernel)
  have hall : (Cond.all (.arg 0) (.isInt (.elem (.arg 0) (.index 0)))).before args s = true := hq _ (by decide +kernel)
  obtain ⟨b, xs, hb, hx⟩ := State.ints_of_pre rfl harr hlen hall
  have hsm : xs.length < 2 ^ 31 := hx.choose_spec.2.2.2
  have hev : (Term.length (.arg 0)).eval args s none [] s = some (.int xs.length.toInt32) := hx.length_eval hb
  have hv := Cond.le_ints hev (show (Term.int 3072).eval args s none [] s = some (.int 3072) from rfl)
  have hd : xs.length.toInt32 ≤ 3072 := by
    simpa [Cond.before, Cond.holds, hv] using hle
  have hN : xs.length ≤ 3072 := (Int32.ofNat_le_ofNat hsm (by decide)).mp (show Int32.ofNat xs.length ≤ Int32.ofNat 3072 from hd)
  exact ⟨b, xs, Cond.one_arg hc (show args[0]? = some (.ref b) from hb), hx, hN, h⟩
theorem lw_comes (l : Launch) (hflags : l.flags = flags0) : Comes l x (Jvm.Cond.code x code maxLocals ret :: tables_1) room_1 (fun tb e args s => Calls_1 tb e args s ∧ rest_1 tb e args s ∧ Pre_1 tb e args s)
    (fun _ _ args s o t => lw_Q args s o t) := by
  intro p e ha hc hk s m args below hf hfit hheap happ hpre
  obtain ⟨b, xs, hP⟩ := lw_pre_spec hpre.2.2 hpre.2.1
  obtain ⟨k, o, h1, h2, h3, hQ⟩ := lw_walk l hflags b xs p e ha hc hk s m args below hf ((Spec.applies_iff_loose hf).mp happ).1 hP trivial
  exact ⟨k, o, h1, h2, h3, hQ⟩
theorem lw_frame {s t : State} {o : Outcome} {args : Array Value} (h : State.butDraws s t lw_cs (fun t1 => Framed s o t1 [] 601024 7293034)) :
    State.butDraws s t [Jvm.Choice.named "NaN.bits"] (fun t1 => Framed s o t1 (fieldLocs frame_1_writes args s ++ arrayLocs frame_1_arrays args s ++ staticLocs frame_1_statics s) 601024 7293034) := h
theorem lw_limb (L : Cond) (hL : ∀ (args : Array Value) (s t : State), L.after args s (.returned (some (.int 1))) t = true) :
    ArmFor flags0 classFile x code maxLocals ret World_1 tables_1 room_1 Calls_1 rest_1 Pre_1
      (fun tb e a s o t => postC L tb e a s o t ∧ State.butDraws s t [Jvm.Choice.named "NaN.bits"] (fun t1 => Framed s o t1 (fieldLocs frame_1_writes a s ++ arrayLocs frame_1_arrays a s ++ staticLocs frame_1_statics s) 601024 7293034)) := by
  intro l hflags _ _ p e ha hc hk s m args below hf hfit hheap happ hpre
  obtain ⟨k, o, h1, h2, h3, rfl, hF⟩ := lw_comes l hflags p e ha hc hk s m args below hf hfit hheap happ hpre
  exact ⟨k, _, h1, h2, h3, hL args s _, lw_frame hF⟩
theorem i_vc : Claimed_1_1 ∧ Claimed_1_2 := ⟨lw_limb limb_1_1 (fun args s t => by simp [limb_1_1, Cond.after, Cond.holds, Cond.value]), lw_limb limb_1_2 (fun args s t => Cond.after_iff.mpr (by
  first | (rw [show limb_1_2 = Cond.eq .result (.int 1) from rfl, Cond.eq_ints (x := 1) (y := 1) rfl rfl]; simp; done) | (simp [limb_1_2, Cond.value, Term.eval]; done)))⟩

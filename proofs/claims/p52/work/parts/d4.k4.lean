/-! THE CONSTRUCTION 7: calls -/
def kPc (D : va_G) (cA : Nat → ClassId) (adT : zR → Nat) (S0 : zS) (A : Nat → Prop) (ad : zR → Nat) (w : nS) (U : State) : Prop :=
  va_P D vwCl (k_ws cA ad w) U.heap ∧ va_D A (k_ws cA ad w) ∧ va_K D vwCl (zt_tys (kT D cA adT)) U ∧ zw_F (kT D cA adT) S0 A U U.heap ∧ (∀ q : Nat, U.heap.size ≤ q → A q) ∧ va_AO "BathBoats$Bath" U ∧ va_AOA .int U
def kQc (D : va_G) (cA : Nat → ClassId) (adT : zR → Nat) (A : Nat → Prop) (ad : zR → Nat) (w w' : nS) : Array Value → State → Outcome → State → Prop :=
  va_Qv (S := zR → Nat) (fun ad' => (∀ r : zR, r.1 ≠ 8 → ad' r = adT r) ∧ ∀ r, kr_ok w.length r → ad' r = ad r) (fun ad' t => va_P D vwCl (k_ws cA ad' w') t.heap ∧ va_D A (k_ws cA ad' w')) A
def krm (d nc ns : Nat) : Room := { frames := d + 6, cells := nc, slots := ns, locals := 64 * d + 200 }
/-- a method's contract -/
def kCtr (l : Launch) (d : Nat) (D : va_G) (cA : Nat → ClassId) (adT : zR → Nat) (S0 : zS) (A : Nat → Prop) (M : zM) (av : List zV) (w w' : nS) : Prop :=
  (w.length ≤ w'.length ∧ n_sl w ≤ n_sl w') ∧ ((∀ x, x ∈ w → kc_ok w.length x) → (∀ v, v ∈ av → kv_ok w.length v ∧ zl_wide (some v) = false) → (∀ x, x ∈ w' → kc_ok w'.length x) ∧ ∀ ad : zR → Nat, (∀ r : zR, r.1 ≠ 8 → ad r = adT r) → Met l M.1 [zM_word M] (krm d (w'.length - w.length) (n_sl w' - n_sl w)) (va_Pc (av.map (zc ad)) (kPc D cA adT S0 A ad w)) (kQc D cA adT A ad w w') (w'.length - w.length) (n_sl w' - n_sl w) A)
theorem kC_pc {D : va_G} {cA : Nat → ClassId} {adT : zR → Nat} {S0 : zS} {A : Nat → Prop} {ad : zR → Nat} {w : nS} {av : List Value} : FrameBlind (va_Pc av (kPc D cA adT S0 A ad w)) := fun a U g mk q =>
  ⟨q.1, q.2.1, q.2.2.1, va_K.moved (u := U) (U := U.calling g mk a) (Vm.Alike.refl U.vm) q.2.2.2.1, zw_F.warm (s := U) (U := U.calling g mk a) (State.WarmedH.refl U) q.2.2.2.2.1, q.2.2.2.2.2.1, va_AO.moved (u := U) (U := U.calling g mk a) (Vm.Alike.refl U.vm) q.2.2.2.2.2.2.1, va_AOA.moved (u := U) (U := U.calling g mk a) (Vm.Alike.refl U.vm) q.2.2.2.2.2.2.2⟩
/-- what the tables say of a method of the construction -/
def kM_ok (M : zM) : Prop := zM_ok M M.2.2.2.2.2.1 ∧ M.2.2.2.2.1 = [] ∧ M.2.2.2.1 = none ∧ lw_tbl[M.2.2.2.2.2.2.2.2.1]? = some (.instanceMethod M.1) ∧ (M.1.name = "<init>" ∨ lw_tbl[M.2.2.2.2.2.2.2.2.2]? = some (.selects M.1.cls M.1 M.1)) ∧ plainName M.1.cls = true
section KC
variable {p : Program} {l : Launch} {e : Env} {R : Room} {s : State} {m : MethodId} {args : Array Value} {below : List Frame} {meth : Method} {c : Code} {Q : State → Prop} {D : va_G} {cA : Nat → ClassId} {adT : zR → Nat} {S0 : zS} {A : Nat → Prop} {ad0 : zR → Nat} {w0 wF w : nS} {own nm : String} {cc : ByteArray} {nL pc : Nat} {lv : zL} {st : List zV}
theorem kC_B {M : zM} {d ix q mc ms : Nat} (hW : zw_words s) (hM : kM_ok M) (hd : d + 7 ≤ R.frames ∧ 64 * d + 264 ≤ R.locals) (hlink : lw_tbl[q]? = some (.methodLink own ix M.1)) : CallB R s args own ix M.1 M.2.1 M.2.2.1 none [zM_word M] (krm d mc ms) mc ms M.2.2.2.2.2.1 := by
  obtain ⟨⟨g1, g2, g3, g4, g5, g6⟩, h0, hr, -⟩ := hM
  have hw : zM_word M = .code M.1 M.2.1 M.2.2.1 none := by unfold zM_word; rw [hr]
  have hcode : ∀ (a' : Array Value) (U : State), s.WarmedH U.vm → (zM_word M).before a' U = true := fun a' U hW9 => zt_keep_warm (zM_word_keep M) hW9 (zw_use hW g1 (zM_word_keep M) (args := args))
  refine ⟨rfl, rfl, by show d + 6 + 1 ≤ R.frames; omega, by show 8 + (M.2.2.1 + 11) + (64 * d + 200) ≤ R.locals; omega, fun w hw2 a' U hW => by rw [List.mem_singleton.mp hw2]; exact hcode a' U hW, by rw [hw]; exact List.mem_singleton.mpr rfl, by rw [← hw]; exact hcode args s (State.WarmedH.refl s), zw_use hW g2 rfl, ⟨g3, g4⟩, fun sig h => ?_, zw_use hW hlink rfl⟩
  rw [h] at g5
  exact (Option.some.inj g5).symm
theorem kC_N {M : zM} {d ix q mc ms : Nat} (hW : zw_words s) (hM : kM_ok M) (hd : d + 7 ≤ R.frames ∧ 64 * d + 264 ≤ R.locals) (hlink : lw_tbl[q]? = some (.methodLinkNest own ix M.1 "BathBoats")) : va_CN R s args own ix M.1 "BathBoats" M.2.1 M.2.2.1 none [zM_word M] (krm d mc ms) mc ms M.2.2.2.2.2.1 := by
  obtain ⟨⟨g1, g2, g3, g4, g5, g6⟩, h0, hr, -⟩ := hM
  have hw : zM_word M = .code M.1 M.2.1 M.2.2.1 none := by unfold zM_word; rw [hr]
  have hcode : ∀ (a' : Array Value) (U : State), s.WarmedH U.vm → (zM_word M).before a' U = true := fun a' U hW9 => zt_keep_warm (zM_word_keep M) hW9 (zw_use hW g1 (zM_word_keep M) (args := args))
  refine ⟨⟨rfl, rfl, by show d + 6 + 1 ≤ R.frames; omega, by show 8 + (M.2.2.1 + 11) + (64 * d + 200) ≤ R.locals; omega, fun w hw2 a' U hW => by rw [List.mem_singleton.mp hw2]; exact hcode a' U hW, by rw [hw]; exact List.mem_singleton.mpr rfl⟩, by rw [← hw]; exact hcode args s (State.WarmedH.refl s), zw_use hW g2 rfl, ⟨g3, g4⟩, fun sig h => ?_, zw_use hW hlink rfl⟩
  rw [h] at g5
  exact (Option.some.inj g5).symm
theorem kJ_call {d ix q : Nat} {vir : Bool} {M : zM} {r : zR} {as rest : List zV} {w' : nS} (hR : wF.length - w0.length ≤ R.cells ∧ n_sl wF - n_sl w0 ≤ R.slots) (hd : d + 7 ≤ R.frames ∧ 64 * d + 264 ≤ R.locals) (hdg : decode cc pc = .ok (match vir with | true => .invokevirtual ix | false => .invokespecial ix, 3)) (hlink : lw_tbl[q]? = some (.methodLink own ix M.1) ∨ (vir = false ∧ lw_tbl[q]? = some (.methodLinkNest own ix M.1 "BathBoats"))) (hM : kM_ok M)
    (hini : vir = false → M.1.name = "<init>") (hvir : vir = true → lw_tbl[M.2.2.2.2.2.2.2.2.2]? = some (.selects M.1.cls M.1 M.1) ∧ ∃ (k ci : Nat) (fs : List zV) (Cl : vw_C), r = zr k ∧ w[k]? = some (.inl (ci, fs)) ∧ vwCl[ci]? = some Cl ∧ Cl.1 = M.1.cls)
    (hC : kCtr l d D cA adT S0 A M (.inr (.inl (some r)) :: as) w w') (hwd : zx_wd rest ≤ 8) (hnw : ∀ v, v ∈ as → zl_wide (some v) = false) (hlen : as.length = M.2.2.2.2.2.1) (kk : kJ2 p l e R s m args below meth c Q D cA adT S0 A own nm cc nL ad0 w0 wF w' (pc + 3) lv rest) : kJ2 p l e R s m args below meth c Q D cA adT S0 A own nm cc nL ad0 w0 wF w pc lv (as.reverse ++ .inr (.inl (some r)) :: rest) := by
  obtain ⟨⟨c1, c2⟩, hC⟩ := hC
  obtain ⟨⟨k1, k2⟩, kk⟩ := kk
  refine ⟨⟨by omega, by omega⟩, fun hwf => ?_⟩
  obtain ⟨h1, h2, h3, h4, h5⟩ := hwf
  obtain ⟨cwf, hmet⟩ := hC h3 (fun v hv => by
    rcases List.mem_cons.mp hv with h | h
    · rw [h]; exact ⟨h4 _ (List.mem_append_right _ List.mem_cons_self), rfl⟩
    · exact ⟨h4 v (List.mem_append_left _ (List.mem_reverse.mpr h)), hnw v h⟩)
  obtain ⟨g1, g2⟩ := kk ⟨by omega, by omega, cwf, fun v hv => kv_up c1 (h4 v (List.mem_append_right _ (List.mem_cons_of_mem _ hv))), fun j v hj => kv_up c1 (h5 j v hj)⟩
  refine ⟨g1, fun X ad ls H locs ha h0 hl hP hD hS => ?_⟩
  have hpre : PreS s H (va_Pc ((.inr (.inl (some r)) :: as : List zV).map (zc ad)) (kPc D cA adT S0 A ad w)) (Value.ref (ad r) :: as.map (zc ad)) := ⟨kC_pc, fun U hU hW => ⟨rfl, by rw [hU]; exact hP, hD, va_K.moved hW.alike X.2.2.2.2.1, by rw [hU]; exact (X.2.2.2.2.2.1.kept hS.1 hS.2.1).warm hW, fun q hq => X.2.2.2.2.2.2.1 q (by rw [hU] at hq; exact Nat.le_trans hS.1 hq), va_AO.moved hW.alike X.2.2.2.2.2.2.2.2.1, va_AOA.moved hW.alike X.2.2.2.2.2.2.2.2.2⟩⟩
  have hstk : (F0 m pc ls ((as.reverse ++ .inr (.inl (some r)) :: rest).map (zc ad))).stack = (as.map (zc ad)).reverse ++ Value.ref (ad r) :: rest.map (zc ad) := zl_rev _ _
  have hfix : CallFix p m c cc nL s args [] own := ⟨X.1, X.2.1, X.2.2.1, X.2.2.2.1, fun _ h => absurd h List.not_mem_nil⟩
  have hrun : va_Run p l e R s m args below meth c H locs (w.length - w0.length) (n_sl w - n_sl w0) (w'.length - w.length) (n_sl w' - n_sl w) (F0 m pc ls ((as.reverse ++ .inr (.inl (some r)) :: rest).map (zc ad))) (rest.map (zc ad)) (kQc D cA adT A ad w w' (Value.ref (ad r) :: as.map (zc ad)).toArray) A := by
    cases hv : vir with
    | false =>
      rw [hv] at hdg
      rcases hlink with hlink | ⟨-, hlink⟩
      rotate_left
      · exact va_runIN (As := as.map (zc ad)) (Ts := []) (nL := nL) (index := ix) hfix (hmet ad ha) ⟨kC_N X.2.2.2.2.2.1.1 hM hd hlink, hini hv, zw_use X.2.2.2.2.2.1.1 hM.2.2.2.1 rfl⟩ hpre rfl (by rw [List.length_map]; exact hlen) hl.1 hstk (lv_room (by rw [zx_wd_sum]; exact hwd)) hdg ⟨by omega, by omega⟩
      exact va_runI (As := as.map (zc ad)) (Ts := []) (nL := nL) (index := ix) hfix (hmet ad ha) ⟨kC_B X.2.2.2.2.2.1.1 hM hd hlink, hini hv, zw_use X.2.2.2.2.2.1.1 hM.2.2.2.1 rfl⟩ hpre rfl (by rw [List.length_map]; exact hlen) hl.1 hstk (lv_room (by rw [zx_wd_sum]; exact hwd)) hdg ⟨by omega, by omega⟩
    | true =>
      rw [hv] at hdg
      obtain ⟨hs, k, ci, fs, Cl, rfl, e2, e3, e4⟩ := hvir hv
      have hlink : lw_tbl[q]? = some (.methodLink own ix M.1) := hlink.elim (fun h => h) (fun h => nomatch hv.symm.trans h.1)
      have hrec := va_recv X.2.2.2.2.1 hP e3 (k_ws_at (cA := cA) (ad := ad) e2)
      rw [e4] at hrec
      exact va_runV (C := M.1.cls) (As := as.map (zc ad)) (Ts := []) (nL := nL) (index := ix) hfix (hmet ad ha) ⟨kC_B X.2.2.2.2.2.1.1 hM hd hlink, zw_use X.2.2.2.2.2.1.1 hM.2.2.2.1 rfl, zw_use X.2.2.2.2.2.1.1 hs rfl⟩ ⟨hpre.1, hrec, hpre.2⟩ rfl (by rw [List.length_map]; exact hlen) hl.1 hstk (lv_room (by rw [zx_wd_sum]; exact hwd)) hdg ⟨by omega, by omega⟩
  refine va_callv hrun hS (fun _ _ h => h) (fun _ h => h) (fun ad2 t H1 locs1 ht hvm hpost hB hz hkeep hS1 => ?_)
  subst ht
  obtain ⟨p1, p2⟩ := hpost
  have res := g2 X ad2 ls t.heap locs1 p1 (fun r hr => (p2 r (kr_up h1 hr)).trans (h0 r hr)) (lv_mono hl (fun x hx => by
      obtain ⟨j, v, e4, e5⟩ := zl_mem0.mp hx
      rw [e4, kzc p2 (h5 j v e5)]
      exact zl_mem0.mpr ⟨j, v, rfl, e5⟩)) hB.1 hB.2 hS1
  rw [show rest.map (zc ad2) = rest.map (zc ad) from List.map_congr_left (fun v hv => kzc p2 (h4 v (List.mem_append_right _ (List.mem_cons_of_mem _ hv))))] at res
  rw [show w.length - w0.length + (w'.length - w.length) = w'.length - w0.length by omega, show n_sl w - n_sl w0 + (n_sl w' - n_sl w) = n_sl w' - n_sl w0 by omega]
  exact res
end KC

/-! THE LAW'S LEVEL 10: calls of the class -/
theorem q_P1 {D : va_G} {cl : List vw_C} {a b : va_W} {H : Heap} (hP : va_P D cl (a ++ b) H) : va_P D cl a H := fun k q hk => hP k q (by
  rw [List.getElem?_append_left (List.getElem?_eq_some_iff.mp hk).1]
  exact hk)
theorem q_P2 {D : va_G} {cl : List vw_C} {a b : va_W} {H : Heap} (hP : va_P D cl (a ++ b) H) : va_P D cl b H := fun k q hk => hP (a.length + k) q (by
  rw [List.getElem?_append_right (by omega), Nat.add_sub_cancel_left]
  exact hk)
theorem q_P3 {D : va_G} {cl : List vw_C} {a b : va_W} {H : Heap} (h1 : va_P D cl a H) (h2 : va_P D cl b H) : va_P D cl (a ++ b) H := fun k q hk => by
  by_cases h : k < a.length
  · rw [List.getElem?_append_left h] at hk
    exact h1 k q hk
  · rw [List.getElem?_append_right (by omega)] at hk
    exact h2 _ q hk
theorem q_fst {ws : va_W} {k : Nat} {x : Nat × va_E} (h : ws[k]? = some x) : (ws.map Prod.fst)[k]? = some x.1 := by rw [List.getElem?_map, h]; rfl
theorem q_fst2 {ws ws' : va_W} (e : ws'.map Prod.fst = ws.map Prod.fst) {k : Nat} {x : Nat × va_E} (h : ws'[k]? = some x) : ∃ y, ws[k]? = some y ∧ y.1 = x.1 := by
  have h1 := q_fst h
  rw [e, List.getElem?_map] at h1
  obtain ⟨y, h2, h3⟩ := Option.map_eq_some_iff.mp h1
  exact ⟨y, h2, h3⟩
theorem q_Dfst {A : Nat → Prop} {ws ws' : va_W} (e : ws'.map Prod.fst = ws.map Prod.fst) (h : va_D A ws) : va_D A ws' := by
  refine ⟨fun i j x y hi hj hxy => ?_, fun k x hx => ?_⟩
  · obtain ⟨x', h1, e1⟩ := q_fst2 e hi
    obtain ⟨y', h2, e2⟩ := q_fst2 e hj
    exact h.1 i j x' y' h1 h2 (by rw [e1, e2]; exact hxy)
  · obtain ⟨x', h1, e1⟩ := q_fst2 e hx
    rw [← e1]
    exact h.2 k x' h1
theorem q_all_fst (G : zG) (aq : Nat → Nat) (S S' : zS) (w : qW) : (q_all G aq S' w).map Prod.fst = (q_all G aq S w).map Prod.fst := by
  unfold q_all zt_ws
  rw [List.map_append, List.map_append, List.map_map, List.map_map]
  rfl
section QJ
variable {p : Program} {l : Launch} {e : Env} {R : Room} {s : State} {m : MethodId} {args : Array Value} {below : List Frame} {meth : Method} {c : Code} {Q : State → Prop} {G : zG} {T0 : qS} {A : Nat → Prop} {aq0 : Nat → Nat} {own nm : String} {cc : ByteArray} {nL : Nat} {ret : Option FieldType} {cF sF o1 o2 : Nat} {T : qS} {pc : Nat} {lv : zL} {st : List zV}
theorem q_A (X : qX p s m meth c G T0 A own nm cc nL ret) {H : Heap} {locs : List Loc} {aq : Nat → Nat} (hD : va_D A (q_all G aq T.1 T.2)) (hS : va_S A s.heap H locs) : ∀ q, zA G H.size q → A q := by
  intro q hq
  rcases hq with ⟨r, hr, rfl⟩ | hq
  · obtain ⟨q0, hq0⟩ := zt_at hr
    have he := zt_wsat G T.1 hq0
    have h2 : (q_all G aq T.1 T.2)[q0]? = some (G.2.2.1 r, zt_el G T.1 r) := by
      unfold q_all
      rw [List.getElem?_append_left (List.getElem?_eq_some_iff.mp he).1]
      exact he
    exact hD.2 q0 _ h2
  · exact X.2.2.2.2.2.2.2.2.2.1 q (Nat.le_trans hS.1 hq)
theorem qJ_callC (X : qX p s m meth c G T0 A own nm cc nL ret) {d ix q n : Nat} {M : zM} {as rest : List zV} {S' : zS} {v : Option zV} (hR : qRm R T0 cF sF o1 o2) (hd : d + 4 ≤ R.frames ∧ 36 * d + 136 ≤ R.locals) (hdg : decode cc pc = .ok (.invokevirtual ix, 3)) (hlink : lw_tbl[q]? = some (.methodLink own ix M.1)) (hM : zM_ok M n) (hV : zM_virtual M) (hcls : M.1.cls = RX10)
    (hC : zCtr l d M (za 1 0 0 :: as) T.1 (.inl v, S')) (hgh : S'.2.2.2 ≤ T.1.2.2.2) (hints : qx_ints as = true) (hvi : ∀ w, v = some w → ∃ x, w = zi x) (hw : zx_wd rest ≤ 8) (hlen : as.length = n) (kn : qJ2 p l e R s m args below meth c Q G T0 A aq0 nL cF sF o1 o2 (S', T.2) (pc + 3) lv (v.toList ++ rest)) : qJ2 p l e R s m args below meth c Q G T0 A aq0 nL cF sF o1 o2 T pc lv (as.reverse ++ za 1 0 0 :: rest) := by
  obtain ⟨hSo, hC⟩ := hC
  have hSo : T.1.2.2.2 ≤ S'.2.2.2 := hSo
  have e0 : S'.2.2.2 - T.1.2.2.2 = 0 := by omega
  have k1 := kn.1
  have k1 : T.2.length ≤ cF ∧ q_sl T.2 ≤ sF := k1
  obtain ⟨⟨r1, r2⟩, r3, r4⟩ := hR
  refine ⟨k1, fun aq ls H locs ha hl hP hD hS h5 hs hv => ?_⟩
  have h52 := h5.2.1
  have h53 := h5.2.2.1
  have hI := qx_ints_ok as hints
  have hav : ∀ v, v ∈ (za 1 0 0 :: as : List zV) → zv_ok v ∧ zl_wide (some v) = false := fun v hv2 => by
    rcases List.mem_cons.mp hv2 with h | h
    · rw [h]; exact ⟨Or.inl (by decide +kernel), rfl⟩
    · obtain ⟨x, rfl⟩ := hI v h
      exact ⟨trivial, rfl⟩
  have eas : as.map (zc (qad G aq)) = as.map (zc G.2.2.1) := List.map_congr_left (fun v hv2 => by obtain ⟨x, rfl⟩ := hI v hv2; rfl)
  have hmet := hC ⟨v, rfl⟩ hav G H.size
  have hsub := q_A X (aq := aq) hD hS
  have hrec : ∃ cell : Cell, H[G.2.2.1 (1, 0, 0)]? = some cell ∧ cell.vm.isStatics = false ∧ s.vm.findClass M.1.cls = some cell.cls := by
    obtain ⟨x, hcd⟩ := zx_is_cd (r := (1, 0, 0)) (ci := 10) rfl
    obtain ⟨q0, hq0⟩ := zt_at (r := (1, 0, 0)) (by decide +kernel)
    have he := zt_wsat G T.1 hq0
    rw [zt_el_obj hcd] at he
    rw [hcls]
    exact va_recv (q := (RX10, TX10, 13)) X.2.2.2.2.1 (q_P1 hP) rfl he
  obtain ⟨h0, hV1, hV2⟩ := hV
  have hpre : FrameBlind (va_Pc ((za 1 0 0 :: as : List zV).map (zc G.2.2.1)) (fun U => U.heap.size = H.size ∧ zw_W G T.1 U)) := fun _ _ _ _ q => ⟨q.1, q.2.1, zw_blind _ _ _ q.2.2⟩
  have hrun := va_runV (args := args) (l := l) (e := e) (R := R) (below := below) (meth := meth) (locs := locs) (cells := T.2.length - T0.2.length + o1) (slots := q_sl T.2 - q_sl T0.2 + o2) (H := H) (C := M.1.cls) (b := G.2.2.1 (1, 0, 0)) (As := as.map (zc G.2.2.1)) (rest := rest.map (zc (qad G aq))) (Ts := []) (g := F0 m pc ls ((as.reverse ++ za 1 0 0 :: rest).map (zc (qad G aq)))) (nL := nL) (index := ix) (n := n)
    ⟨X.1, X.2.1, X.2.2.1, X.2.2.2.1, fun _ h => absurd h List.not_mem_nil⟩ hmet ⟨qC_B (mc := S'.2.2.2 - T.1.2.2.2) (ms := 6 * (S'.2.2.2 - T.1.2.2.2)) X.2.2.2.2.2.1.1 hM hd hlink, zw_use X.2.2.2.2.2.1.1 hV1 rfl, zw_use X.2.2.2.2.2.1.1 hV2 rfl⟩
    ⟨hpre, hrec, fun U hU hW => ⟨by rw [List.map_cons]; rfl, by rw [hU], by rw [hU]; exact q_P1 hP, va_K.moved hW.alike X.2.2.2.2.1, by rw [hU]; exact ((((X.2.2.2.2.2.1.kept hS.1 hS.2.1).warm hW).narrow hsub).store h5.1), X.2.2.2.2.2.2.1⟩⟩
    rfl (by rw [List.length_map]; exact hlen) hl.1 (by rw [← eas]; exact zl_rev _ _) (lv_room (by rw [zx_wd_sum]; exact hw)) hdg ⟨by show _ + (S'.2.2.2 - T.1.2.2.2) ≤ _; omega, by show _ + 6 * (S'.2.2.2 - T.1.2.2.2) ≤ _; omega⟩
  intro T9 hT XT
  obtain ⟨vv, st₀, t, T', L, hh0, X', hL, e1, e2, ⟨v', hv', hvv, hPt, h5t, hok, hF⟩, sg⟩ := hrun T9 hT XT
  have hv' := Sum.inl.inj hv'
  subst hv'
  have hz : H.size ≤ T'.heap.size := by rw [e1, ← hh0]; exact hF.1
  have hk : ∀ q : Nat, q < H.size → ¬ zA G H.size q → T'.heap[q]? = H[q]? := fun q h1 h2 => by rw [e1, ← hh0]; exact hF.2 q (by rw [hh0]; exact h1) h2
  have k3 : va_S A s.heap T'.heap (locs ++ L) := ⟨Nat.le_trans hS.1 hz, fun q h1 h2 => (hk q (Nat.lt_of_lt_of_le h1 hS.1) (fun z => h2 (hsub q z))).trans (hS.2.1 q h1 h2), fun x hx => (List.mem_append.mp hx).elim (hS.2.2 x) (fun h => hsub _ (hL x h))⟩
  have hP' : va_P G.1 vwCl (q_all G aq S' T.2) T'.heap := by
    refine q_P3 (by rw [e1]; exact hPt) (va_P.kept (q_P2 hP) (fun k x hx => hk x.1 ((q_P2 hP) k x hx).lt (fun hz2 => ?_)))
    have hlt := ((q_P2 hP) k x hx).lt
    rcases hz2 with ⟨r, hr, hxr⟩ | hz2
    · obtain ⟨q0, hq0⟩ := zt_at hr
      have he := zt_wsat G T.1 hq0
      have hl0 := (List.getElem?_eq_some_iff.mp he).1
      have i1 : (q_all G aq T.1 T.2)[q0]? = some (G.2.2.1 r, zt_el G T.1 r) := by
        unfold q_all
        rw [List.getElem?_append_left hl0]
        exact he
      have i2 : (q_all G aq T.1 T.2)[(zt_ws G T.1).length + k]? = some x := by
        unfold q_all
        rw [List.getElem?_append_right (by omega), Nat.add_sub_cancel_left]
        exact hx
      have := hD.1 _ _ _ _ i1 i2 hxr.symm
      omega
    · omega
  have hD' : va_D A (q_all G aq S' T.2) := q_Dfst (q_all_fst G aq T.1 S' T.2) hD
  rw [e0] at X'
  cases hvv
  have hstk : (v.map (zc G.2.2.1)).toList ++ rest.map (zc (qad G aq)) = (v.toList ++ rest).map (zc (qad G aq)) := by
    rw [List.map_append]
    cases v with
    | none => rfl
    | some w =>
      obtain ⟨x, rfl⟩ := hvi w rfl
      rfl
  obtain ⟨t2, a1, b1⟩ := kn.2 aq ls T'.heap (locs ++ L) ha hl hP' hD' k3 ⟨h5t.trans h5.1, h52, h53, h5.2.2.2⟩ (fun w hw => by
    rcases List.mem_append.mp hw with h | h
    · cases v with
      | none => cases h
      | some y =>
        rw [List.mem_singleton.mp h]
        obtain ⟨x, rfl⟩ := hvi y rfl
        trivial
    · exact hs w (List.mem_append_right _ (List.mem_cons_of_mem _ h))) hv T' rfl X'
  refine ⟨t2, sg t2 ?_, b1⟩
  rw [← hstk] at a1
  exact a1
end QJ

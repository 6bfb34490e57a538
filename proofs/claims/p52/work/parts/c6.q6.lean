/-! THE LAW'S LEVEL 6: the library -/
section QF
variable {p : Program} {l : Launch} {e : Env} {R : Room} {s : State} {m : MethodId} {args : Array Value} {below : List Frame} {meth : Method} {c : Code} {Q : State → Prop} {G : zG} {T0 : qS} {A : Nat → Prop} {aq0 : Nat → Nat} {own nm : String} {cc : ByteArray} {nL : Nat} {ret : Option FieldType} {cF sF o1 o2 : Nat} {T : qS} {pc : Nat} {lv : zL} {st : List zV}
theorem qJ_cast (X : qX p s m meth c G T0 A own nm cc nL ret) {ix q9 b : Nat} {xs : List Int32} (hdg : decode cc pc = .ok (.checkcast ix, 3)) (hq : lw_tbl[q9]? = some (.classLink own ix "[B")) (hb : zx_nth T.2 b = some (.inr (.inl (5, xs)))) (kk : qJ2 p l e R s m args below meth c Q G T0 A aq0 nL cF sF o1 o2 T (pc + 3) lv (za 8 b 0 :: st)) : qJ2 p l e R s m args below meth c Q G T0 A aq0 nL cF sF o1 o2 T pc lv (za 8 b 0 :: st) := by
  obtain ⟨k1, k2⟩ := kk
  refine ⟨k1, fun aq ls H locs ha hl hP hD hS h5 hs hv => ?_⟩
  rw [zx_nth_get] at hb
  exact va_castA X.1 X.2.1 X.2.2.2.1 (zw_use X.2.2.2.2.2.1.1 hq rfl) hP _ (q_all_at (G := G) (aq := aq) (S := T.1) hb) (X.2.2.2.2.1.2 2 _ rfl).2 hdg (k2 aq ls H locs ha hl hP hD hS h5 hs hv)
theorem qJ_objInit (X : qX p s m meth c G T0 A own nm cc nL ret) {ix q9 : Nat} {r : zR} (hR : qRm R T0 cF sF o1 o2) (hwd : zx_wd st ≤ 100) (hdg : decode cc pc = .ok (.invokespecial ix, 3)) (hq : lw_tbl[q9]? = some (.methodLink own ix Lib.objectInit)) (kk : qJ2 p l e R s m args below meth c Q G T0 A aq0 nL cF sF o1 o2 T (pc + 3) lv st) : qJ2 p l e R s m args below meth c Q G T0 A aq0 nL cF sF o1 o2 T pc lv (.inr (.inl (some r)) :: st) := by
  obtain ⟨-, r3, r4⟩ := hR
  exact qJ_st kk (fun a b => ⟨qv_tl a, b⟩) (fun aq ls H locs hl hP hD hS h5 hs k2 =>
    W.objInit (g := F0 m pc ls (.ref (qad G aq r) :: st.map (zc (qad G aq)))) X.1 X.2.1 X.2.2.2.1 (zw_use X.2.2.2.2.2.1.1 hq rfl) (zw_use X.2.2.2.2.2.1.1 qp_ob.1 rfl) (zw_use X.2.2.2.2.2.1.1 qp_ob.2 rfl) rfl (by show ls.size = _; rw [X.2.2.1, hl.1]) rfl hdg (by omega) (by rw [zx_wd_sum]; show 2 * 0 + zx_wd st + 12 ≤ _; omega) (k2 ls hl))
theorem qJ_max (X : qX p s m meth c G T0 A own nm cc nL ret) {ix q9 : Nat} {x y : Int32} (hR : qRm R T0 cF sF o1 o2) (hwd : zx_wd st ≤ 100) (hdg : decode cc pc = .ok (.invokestatic ix, 3)) (hq : lw_tbl[q9]? = some (.methodLink own ix Lib.Math.max.name)) (kk : qJ2 p l e R s m args below meth c Q G T0 A aq0 nL cF sF o1 o2 T (pc + 3) lv (zi (if x < y then y else x) :: st)) : qJ2 p l e R s m args below meth c Q G T0 A aq0 nL cF sF o1 o2 T pc lv (zi y :: zi x :: st) := by
  obtain ⟨⟨r1, r2⟩, r3, r4⟩ := hR
  have hx := kk.1
  exact qJ_st kk (fun a b => ⟨qv_cons trivial (qv_tl (qv_tl a)), b⟩) (fun aq ls H locs hl hP hD hS h5 hs k2 =>
    va_mmax X.1 X.2.1 (by rw [X.2.2.1, hl.1]) X.2.2.2.1 (zw_use X.2.2.2.2.2.1.1 hq rfl) (zw_use X.2.2.2.2.2.1.1 (p := zp_max_static) (by decide +kernel) rfl) (zw_use X.2.2.2.2.2.1.1 (p := zp_math_init) (by decide +kernel) rfl) (zw_use X.2.2.2.2.2.1.1 (p := zp_max_code) (by decide +kernel) rfl) (by omega) (by rw [zx_wd_sum]; omega) (by omega) (by omega) hdg (k2 ls hl))
theorem qJ_min (X : qX p s m meth c G T0 A own nm cc nL ret) {ix q9 : Nat} {x y : Int32} (hR : qRm R T0 cF sF o1 o2) (hwd : zx_wd st ≤ 100) (hdg : decode cc pc = .ok (.invokestatic ix, 3)) (hq : lw_tbl[q9]? = some (.methodLink own ix Lib.Math.min.name)) (kk : qJ2 p l e R s m args below meth c Q G T0 A aq0 nL cF sF o1 o2 T (pc + 3) lv (zi (if y < x then y else x) :: st)) : qJ2 p l e R s m args below meth c Q G T0 A aq0 nL cF sF o1 o2 T pc lv (zi y :: zi x :: st) := by
  obtain ⟨⟨r1, r2⟩, r3, r4⟩ := hR
  have hx := kk.1
  exact qJ_st kk (fun a b => ⟨qv_cons trivial (qv_tl (qv_tl a)), b⟩) (fun aq ls H locs hl hP hD hS h5 hs k2 =>
    va_mmin X.1 X.2.1 (by rw [X.2.2.1, hl.1]) X.2.2.2.1 (zw_use X.2.2.2.2.2.1.1 hq rfl) (zw_use X.2.2.2.2.2.1.1 (p := zp_min_static) (by decide +kernel) rfl) (zw_use X.2.2.2.2.2.1.1 (p := zp_math_init) (by decide +kernel) rfl) (zw_use X.2.2.2.2.2.1.1 (p := zp_min_code) (by decide +kernel) rfl) (by omega) (by rw [zx_wd_sum]; omega) (by omega) (by omega) hdg (k2 ls hl))
theorem qJ_clone (X : qX p s m meth c G T0 A own nm cc nL ret) {ix q9 b : Nat} {xs : List Int32} (hR : qRm R T0 cF sF o1 o2) (hwd : zx_wd st ≤ 100) (hdg : decode cc pc = .ok (.invokevirtual ix, 3)) (hq : lw_tbl[q9]? = some (.methodLink own ix ⟨"[B", "clone", "()Ljava/lang/Object;"⟩)) (hb : zx_nth T.2 b = some (.inr (.inl (5, xs)))) (kk : qJ2 p l e R s m args below meth c Q G T0 A aq0 nL cF sF o1 o2 (T.1, T.2 ++ [.inr (.inl (5, xs))]) (pc + 3) lv (za 8 T.2.length 0 :: st)) : qJ2 p l e R s m args below meth c Q G T0 A aq0 nL cF sF o1 o2 T pc lv (za 8 b 0 :: st) := by
  rw [zx_nth_get] at hb
  refine ⟨?_, fun aq ls H locs ha hl hP hD hS h5 hs hv => ?_⟩
  · have h1 := kk.1.1
    have h2 := kk.1.2
    have h1 : (T.2 ++ [(.inr (.inl (5, xs)) : qC)]).length ≤ cF := h1
    have h2 : q_sl (T.2 ++ [(.inr (.inl (5, xs)) : qC)]) ≤ sF := h2
    rw [List.length_append] at h1
    rw [q_sl_app] at h2
    exact ⟨by omega, by omega⟩
  have hc5 := h5.2.2.2 _ (List.mem_of_getElem? hb)
  refine (qJ_push1 (c9 := .inr (.inl (5, xs))) (fun n _ => hc5) (fun _ _ => rfl) kk (fun v h => List.mem_cons_of_mem _ h) hR (fun aq ls H locs hl hP hD hS hwf hs hcl hsl K => ?_)).2 aq ls H locs ha hl hP hD hS h5 hs hv
  obtain ⟨-, r3, r4⟩ := hR
  refine va_clone X.1 X.2.1 (by rw [X.2.2.1, hl.1]) X.2.2.2.1 (zw_use X.2.2.2.2.2.1.1 hq rfl) (zw_use X.2.2.2.2.2.1.1 (p := qp_cSame) (by decide +kernel) rfl) (zw_use X.2.2.2.2.2.1.1 (p := qp_cNat) (by decide +kernel) rfl) (zw_use X.2.2.2.2.2.1.1 (p := qp_cInst) (by decide +kernel) rfl) (zw_use X.2.2.2.2.2.1.1 (p := qp_cSel) (by decide +kernel) rfl) (zw_use X.2.2.2.2.2.1.1 (p := qp_cCast) (by decide +kernel) rfl) X.2.2.2.2.1 hP hD hS X.2.2.2.2.2.2.2.2.2.1 _ 2 (q_all_at (G := G) (aq := aq) (S := T.1) hb) rfl (X.2.2.2.2.1.2 2 _ rfl).2 (fun i v hv2 => ?_) (by omega) (by rw [zx_wd_sum]; omega) hcl hsl hdg (fun q H1 _ hP1 hD1 hS1 => K q H1 hP1 hD1 hS1)
  by_cases hi : i < xs.length
  · have e : (vp_cell (G.2.1 5) (xs.length, .inl (fun i => xs.getD i 0))).slots[i]? = some (.int (xs.getD i 0)) := arrV_read (G.2.1 5) (fun j => Value.int (xs.getD j 0)) hi
    have hv2 : (vp_cell (G.2.1 5) (xs.length, .inl (fun i => xs.getD i 0))).slots[i]? = some v := hv2
    rw [e] at hv2
    have hv2 := Option.some.inj hv2
    rw [← hv2]
    have hm : xs.getD i 0 ∈ xs := by
      rw [List.getD_eq_getElem?_getD, List.getElem?_eq_getElem hi]
      exact List.getElem_mem hi
    rw [← hc5.2.2 rfl _ hm]
    exact pk_fb _
  · have e : (vp_cell (G.2.1 5) (xs.length, .inl (fun i => xs.getD i 0))).slots[i]? = none := Array.getElem?_eq_none (by
      have : (vp_cell (G.2.1 5) (xs.length, .inl (fun i => xs.getD i 0))).slots.size = xs.length := arrV_size _ _ _
      omega)
    have hv2 : (vp_cell (G.2.1 5) (xs.length, .inl (fun i => xs.getD i 0))).slots[i]? = some v := hv2
    rw [e] at hv2
    cases hv2
end QF

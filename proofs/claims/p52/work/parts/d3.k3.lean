/-! THE CONSTRUCTION 6: new cells, writes -/
theorem n_sl_app (w : nS) (c : nC) : n_sl (w ++ [c]) = n_sl w + nc_sl c := by
  unfold n_sl
  rw [List.map_append, List.sum_append]
  simp
theorem n_sl_set : ∀ (w : nS) (k : Nat) (c c0 : nC), w[k]? = some c0 → nc_sl c = nc_sl c0 → n_sl (w.set k c) = n_sl w := by
  intro w
  induction w with
  | nil => intro k c c0 h; cases h
  | cons x w ih =>
    intro k c c0 h e
    cases k with
    | zero =>
      have h : x = c0 := Option.some.inj h
      subst h
      show n_sl (c :: w) = n_sl (x :: w)
      unfold n_sl
      rw [List.map_cons, List.map_cons, List.sum_cons, List.sum_cons, e]
    | succ k =>
      have := ih k c c0 h e
      unfold n_sl at this ⊢
      simp only [List.set_cons_succ, List.map_cons, List.sum_cons, this]
theorem kt_dv_ok : (List.range 11).all (fun a => match vwCl[a]? with
    | some Cl => (List.range Cl.2.2).all (fun j => decide ((parseFieldDescriptor (Cl.2.1 j).2.2.1).map defaultValue = some (vp_V (((kt_nf.getD a []).map kt_def).map (zc (fun _ => 0))) j)))
    | none => false) = true := by decide +kernel
def kt_fits : Nat → FieldType → Bool
  | 0, .int => true
  | 1, .boolean => true
  | 3, .object _ => true
  | 3, .array _ => true
  | _, _ => false
theorem kv_fit_ok {k : Nat} {v : zV} {ty : FieldType} {ad : zR → Nat} (h : kv_fit k v = true) (ht : kt_fits k ty = true) : narrow ty (zc ad v) = zc ad v ∧ fits ty (zc ad v) = true := by
  match k, v with
  | 0, .inl x =>
    cases ty <;> first
      | exact ⟨rfl, rfl⟩
      | exact nomatch ht
  | 0, .inr x => exact nomatch h
  | 1, .inl x =>
    have h := of_decide_eq_true h
    have ht : ty = .boolean := by
      cases ty <;> first
        | rfl
        | exact nomatch ht
    subst ht
    refine ⟨?_, ?_⟩
    · show Value.int (x &&& 1) = Value.int x
      rw [h]
    · rcases zb_01 h with rfl | rfl <;> rfl
  | 1, .inr x => exact nomatch h
  | 2, .inl x => exact nomatch h
  | 2, .inr x => exact nomatch h
  | 3, .inl x => exact nomatch h
  | 3, .inr (.inl (some r)) =>
    cases ty <;> first
      | exact ⟨rfl, rfl⟩
      | exact nomatch ht
  | 3, .inr (.inl none) => exact nomatch h
  | 3, .inr (.inr x) => exact nomatch h
  | k + 4, v => cases ty <;> exact nomatch ht
theorem kc_def (l : List Nat) (a n : Nat) : kc_ok n (.inl (a, l.map kt_def)) := by
  intro v hv
  obtain ⟨k, -, rfl⟩ := List.mem_map.mp hv
  match k with
  | 0 => trivial
  | 1 => trivial
  | 2 => trivial
  | k + 3 => trivial
theorem kz_def (ad ad' : zR → Nat) (l : List Nat) : (l.map kt_def).map (zc ad) = (l.map kt_def).map (zc ad') := by
  rw [List.map_map, List.map_map]
  refine List.map_congr_left (fun k _ => ?_)
  match k with
  | 0 => rfl
  | 1 => rfl
  | 2 => rfl
  | k + 3 => rfl
section KB
variable {p : Program} {l : Launch} {e : Env} {R : Room} {s : State} {m : MethodId} {args : Array Value} {below : List Frame} {meth : Method} {c : Code} {Q : State → Prop} {D : va_G} {cA : Nat → ClassId} {adT : zR → Nat} {S0 : zS} {A : Nat → Prop} {ad0 : zR → Nat} {w0 wF w : nS} {own nm : String} {cc : ByteArray} {nL pc : Nat} {lv : zL} {st : List zV}
theorem kJ_push {c9 : nC} {pc2 : Nat} {st2 : List zV} (hc : ∀ n, kc_ok n c9) (kk : kJ2 p l e R s m args below meth c Q D cA adT S0 A own nm cc nL ad0 w0 wF (w ++ [c9]) pc2 lv (.inr (.inl (some (zr w.length))) :: st2)) (hs : ∀ v, v ∈ st2 → v ∈ st) (hR : wF.length - w0.length ≤ R.cells ∧ n_sl wF - n_sl w0 ≤ R.slots)
    (hW : kX p s m meth c D cA adT S0 A own nm cc nL → ∀ (ad : zR → Nat) (ls : Array Slot) (H : Heap) (locs : List Loc), va_P D vwCl (k_ws cA ad w) H → va_D A (k_ws cA ad w) → va_S A s.heap H locs → w.length - w0.length + 1 ≤ R.cells → n_sl w - n_sl w0 + nc_sl c9 ≤ R.slots → (∀ (q : Nat) (H1 : Heap), va_P D vwCl (k_ws cA ad w ++ [(q, k_el cA ad c9)]) H1 → va_D A (k_ws cA ad w ++ [(q, k_el cA ad c9)]) → va_S A s.heap H1 locs → W p l e R s m args below meth c H1 locs (w.length - w0.length + 1) (n_sl w - n_sl w0 + nc_sl c9) Q (F0 m pc2 ls (.ref q :: st2.map (zc ad)))) → W p l e R s m args below meth c H locs (w.length - w0.length) (n_sl w - n_sl w0) Q (F0 m pc ls (st.map (zc ad)))) : kJ2 p l e R s m args below meth c Q D cA adT S0 A own nm cc nL ad0 w0 wF w pc lv st := by
  obtain ⟨⟨k1, k2⟩, kk⟩ := kk
  rw [List.length_append] at k1
  rw [n_sl_app] at k2
  have k1 : w.length + 1 ≤ wF.length := k1
  refine ⟨⟨by omega, by omega⟩, fun hwf => ?_⟩
  obtain ⟨h1, h2, h3, h4, h5⟩ := hwf
  have hlen : (w ++ [c9]).length = w.length + 1 := by rw [List.length_append]; rfl
  have up : w.length ≤ (w ++ [c9]).length := by rw [hlen]; omega
  obtain ⟨g1, g2⟩ := kk ⟨by omega, by rw [n_sl_app]; omega, fun x hx => by
      rcases List.mem_append.mp hx with h | h
      · exact kc_up up (h3 x h)
      · rw [List.mem_singleton.mp h]; exact hc _, kv_cons (Or.inl ⟨rfl, by show w.length < _; omega, rfl⟩) (fun v hv => kv_up up (h4 v (hs v hv))), fun j v hj => kv_up up (h5 j v hj)⟩
  refine ⟨g1, fun X ad ls H locs ha h0 hl hP hD hS => hW X ad ls H locs hP hD hS (by omega) (by omega) (fun q H1 hP1 hD1 hS1 => ?_)⟩
  have hne : ∀ r, kr_ok w.length r → ¬ r = zr w.length := by
    intro r hr e
    rw [e] at hr
    rcases hr with ⟨-, h, -⟩ | ⟨h, -⟩ | h
    · exact Nat.lt_irrefl _ h
    · exact absurd (show (8 : Nat) = 6 from h) (by decide)
    · cases h
  obtain ⟨ad', hd1, hd2⟩ : ∃ ad' : zR → Nat, ad' (zr w.length) = q ∧ ∀ r, ¬ r = zr w.length → ad' r = ad r := ⟨fun r => if r = zr w.length then q else ad r, if_pos rfl, fun r h => if_neg h⟩
  have hag : ∀ r, kr_ok w.length r → ad' r = ad r := fun r hr => hd2 r (hne r hr)
  have e1 := k_ws_push (cA := cA) (c := c9) h3 hag
  have e2 : k_el cA ad' c9 = k_el cA ad c9 := k_el_eq hag (hc _)
  rw [e2, hd1] at e1
  have hst : st2.map (zc ad') = st2.map (zc ad) := List.map_congr_left (fun v hv => kzc hag (h4 v (hs v hv)))
  have res := g2 X ad' ls H1 locs (fun r hr => by
      refine Eq.trans (hd2 r ?_) (ha r hr)
      intro e
      rw [e] at hr
      exact hr rfl) (fun r hr => (hag r (kr_up h1 hr)).trans (h0 r hr)) (lv_mono hl (fun x hx => by
      obtain ⟨j, v, e4, e5⟩ := zl_mem0.mp hx
      rw [e4, kzc hag (h5 j v e5)]
      exact zl_mem0.mpr ⟨j, v, rfl, e5⟩)) (by rw [e1]; exact hP1) (by rw [e1]; exact hD1) hS1
  rw [hlen, n_sl_app, List.map_cons, hst, show w.length + 1 - w0.length = w.length - w0.length + 1 by omega, show n_sl w + nc_sl c9 - n_sl w0 = n_sl w - n_sl w0 + nc_sl c9 by omega] at res
  rw [show zc ad' (.inr (.inl (some (zr w.length)))) = .ref q from congrArg Value.ref hd1] at res
  exact res
theorem kJ_set {c0 c9 : nC} {k pc2 : Nat} {st2 : List zV} (hw : w[k]? = some c0) (hc : (∀ v, v ∈ st → kv_ok w.length v) → kc_ok w.length c0 → kc_ok w.length c9) (hsl : nc_sl c9 = nc_sl c0) (kk : kJ2 p l e R s m args below meth c Q D cA adT S0 A own nm cc nL ad0 w0 wF (w.set k c9) pc2 lv st2) (hs : ∀ v, v ∈ st2 → v ∈ st)
    (hW : kX p s m meth c D cA adT S0 A own nm cc nL → ∀ (ad : zR → Nat) (ls : Array Slot) (H : Heap) (locs : List Loc), (∀ r : zR, r.1 ≠ 8 → ad r = adT r) → (∀ v, v ∈ st → kv_ok w.length v) → va_P D vwCl (k_ws cA ad w) H → va_D A (k_ws cA ad w) → va_S A s.heap H locs → (∀ (H1 : Heap) (locs1 : List Loc), va_P D vwCl ((k_ws cA ad w).set k (ad (zr k), k_el cA ad c9)) H1 → va_D A ((k_ws cA ad w).set k (ad (zr k), k_el cA ad c9)) → va_S A s.heap H1 locs1 → W p l e R s m args below meth c H1 locs1 (w.length - w0.length) (n_sl w - n_sl w0) Q (F0 m pc2 ls (st2.map (zc ad)))) → W p l e R s m args below meth c H locs (w.length - w0.length) (n_sl w - n_sl w0) Q (F0 m pc ls (st.map (zc ad)))) : kJ2 p l e R s m args below meth c Q D cA adT S0 A own nm cc nL ad0 w0 wF w pc lv st := by
  obtain ⟨⟨k1, k2⟩, kk⟩ := kk
  have hlen : (w.set k c9).length = w.length := List.length_set
  have hnsl := n_sl_set w k c9 c0 hw hsl
  rw [hlen] at k1
  rw [hnsl] at k2
  refine ⟨⟨k1, k2⟩, fun hwf => ?_⟩
  obtain ⟨h1, h2, h3, h4, h5⟩ := hwf
  obtain ⟨g1, g2⟩ := kk ⟨by rw [hlen]; exact h1, by rw [hnsl]; exact h2, fun x hx => by
      rw [hlen]
      rcases List.mem_or_eq_of_mem_set hx with h | h
      · exact h3 x h
      · rw [h]; exact hc h4 (h3 _ (List.mem_of_getElem? hw)), fun v hv => by rw [hlen]; exact h4 v (hs v hv), fun j v hj => by rw [hlen]; exact h5 j v hj⟩
  refine ⟨g1, fun X ad ls H locs ha h0 hl hP hD hS => hW X ad ls H locs ha h4 hP hD hS (fun H1 locs1 hP1 hD1 hS1 => ?_)⟩
  rw [k_ws_set] at hP1 hD1
  have res := g2 X ad ls H1 locs1 ha h0 hl hP1 hD1 hS1
  rw [hlen, hnsl] at res
  exact res
theorem kX_lays (X : kX p s m meth c D cA adT S0 A own nm cc nL) {a : Nat} {Cl : vw_C} (hc : vwCl[a]? = some Cl) : ∀ z ∈ u_ws Cl.1 Cl.2.1 Cl.2.2, z.before args s = true := fun z hz =>
  have h := zt_lays Cl (List.mem_of_getElem? hc) z hz
  zt_keep_warm h.2 (State.WarmedH.refl s) (X.2.2.2.2.2.1.1 z h.1 h.2)
theorem kJ_new {ix a b c1 q : Nat} {Cl : vw_C} (ha : a < 11) (hR : wF.length - w0.length ≤ R.cells ∧ n_sl wF - n_sl w0 ≤ R.slots) (hdg : decode cc pc = .ok (.new ix, 3)) (hc : vwCl[a]? = some Cl) (h1 : lw_tbl[q]? = some (.classLink own ix Cl.1)) (h2 : lw_tbl[b]? = some (.instantiable Cl.1 Cl.2.2)) (h3 : lw_tbl[c1]? = some (.initialized Cl.1)) (hlen : (kt_nf.getD a []).length = Cl.2.2) (kk : kJ2 p l e R s m args below meth c Q D cA adT S0 A own nm cc nL ad0 w0 wF (w ++ [.inl (a, (kt_nf.getD a []).map kt_def)]) (pc + 3) lv (.inr (.inl (some (zr w.length))) :: st)) : kJ2 p l e R s m args below meth c Q D cA adT S0 A own nm cc nL ad0 w0 wF w pc lv st := by
  refine kJ_push (fun n => kc_def _ _ _) kk (fun v h => h) hR (fun X ad ls H locs hP hD hS hcl hsl K => ?_)
  obtain ⟨ty0, ht0, -⟩ := zt_ty a Cl hc
  have hsl' : nc_sl (.inl (a, (kt_nf.getD a []).map kt_def)) = Cl.2.2 := by show ((kt_nf.getD a []).map kt_def).length = _; rw [List.length_map, hlen]
  have hdv := List.all_eq_true.mp kt_dv_ok a (List.mem_range.mpr ha)
  rw [hc] at hdv
  rw [hsl'] at hsl K
  refine va_new X.1 X.2.1 (kX_lays X hc) (fun _ h => h) ty0 ht0 X.2.2.2.1 (zw_use X.2.2.2.2.2.1.1 h1 rfl) (zw_use X.2.2.2.2.2.1.1 h2 rfl) (zw_use X.2.2.2.2.2.1.1 h3 rfl) X.2.2.2.2.1 hP hD hS X.2.2.2.2.2.2.1 hc (fs := ((kt_nf.getD a []).map kt_def).map (zc ad)) (fun j hj => ?_) hcl hsl hdg K
  have h9 := of_decide_eq_true (List.all_eq_true.mp hdv j (List.mem_range.mpr hj))
  rw [ht0 j hj] at h9
  rw [kz_def ad (fun _ => 0)]
  exact Option.some.inj h9
theorem kc_ints (n : Nat) (xs : List Int32) : kc_ok n (.inr (.inl xs)) := trivial
theorem kc_rep (t k n : Nat) : kc_ok n (.inr (.inr (t, List.replicate k none))) := by
  intro r hr
  have := List.eq_of_mem_replicate hr
  cases this
theorem k_getrep {α : Type} (n i : Nat) (x : α) : (List.replicate n x).getD i x = x := by
  rw [List.getD_eq_getElem?_getD, List.getElem?_replicate]
  split <;> rfl
theorem kJ_newI {n : Int32} (hR : wF.length - w0.length ≤ R.cells ∧ n_sl wF - n_sl w0 ≤ R.slots) (hdg : decode cc pc = .ok (.newarray .int, 2)) (hn : ¬ n < 0) (hb : n.toNatClampNeg ≤ 1000000) (kk : kJ2 p l e R s m args below meth c Q D cA adT S0 A own nm cc nL ad0 w0 wF (w ++ [.inr (.inl (List.replicate n.toNatClampNeg 0))]) (pc + 2) lv (.inr (.inl (some (zr w.length))) :: st)) : kJ2 p l e R s m args below meth c Q D cA adT S0 A own nm cc nL ad0 w0 wF w pc lv (zi n :: st) := by
  refine kJ_push (fun n => kc_ints n _) kk (fun v h => List.mem_cons_of_mem _ h) hR (fun X ad ls H locs hP hD hS hcl hsl K => ?_)
  have hsl' : nc_sl (.inr (.inl (List.replicate n.toNatClampNeg 0))) = n.toNatClampNeg := List.length_replicate
  rw [hsl'] at hsl K
  have hcb : componentBytes FieldType.int = 4 := rfl
  refine va_newa (ty := .int) (N' := n.toNatClampNeg) (a0 := (n.toNatClampNeg, .inl (fun _ => 0))) X.1 X.2.1 (zw_use X.2.2.2.2.2.1.1 (p := kp_aInt) (by decide +kernel) rfl) rfl X.2.2.2.2.1 hP hD hS X.2.2.2.2.2.2.1 (fun _ => rfl) hn rfl (by rw [hcb]; omega) hcl hsl hdg (fun q cA2 H1 hK2 hP1 hD1 hS1 => ?_)
  have f1 : s.vm.findClass ("[" ++ FieldType.int.toString) = some cA2 := (hK2.2 5 _ rfl).2
  have f2 : s.vm.findClass ("[" ++ FieldType.int.toString) = some (cA 0) := (X.2.2.2.2.1.2 0 _ rfl).2
  have e1 : cA2 = cA 0 := Option.some.inj (f1.symm.trans f2)
  subst e1
  have e2 : k_el cA ad (.inr (.inl (List.replicate n.toNatClampNeg 0))) = .inl (cA 0, (n.toNatClampNeg, .inl (fun _ => 0))) := by
    show Sum.inl (cA 0, (List.replicate n.toNatClampNeg (0 : Int32)).length, Sum.inl (fun i => (List.replicate n.toNatClampNeg (0 : Int32)).getD i 0)) = _
    rw [List.length_replicate, show (fun i => (List.replicate n.toNatClampNeg (0 : Int32)).getD i 0) = (fun _ => 0) from funext (fun i => k_getrep _ i 0)]
  exact K q H1 (by rw [e2]; exact hP1) (by rw [e2]; exact hD1) hS1
/-- a new array of references: t = 1 of baths, t = 2 of texts -/
theorem kJ_newA {n : Int32} {t ix q : Nat} {C : String} (ht : t = 1 ∧ C = "BathBoats$Bath") (hR : wF.length - w0.length ≤ R.cells ∧ n_sl wF - n_sl w0 ≤ R.slots) (hdg : decode cc pc = .ok (.anewarray ix, 3)) (hq : lw_tbl[q]? = some (.classLink own ix C)) (hn : ¬ n < 0) (hb : n.toNatClampNeg ≤ 1000000) (kk : kJ2 p l e R s m args below meth c Q D cA adT S0 A own nm cc nL ad0 w0 wF (w ++ [.inr (.inr (t, List.replicate n.toNatClampNeg none))]) (pc + 3) lv (.inr (.inl (some (zr w.length))) :: st)) : kJ2 p l e R s m args below meth c Q D cA adT S0 A own nm cc nL ad0 w0 wF w pc lv (zi n :: st) := by
  refine kJ_push (fun k => kc_rep _ _ _) kk (fun v h => List.mem_cons_of_mem _ h) hR (fun X ad ls H locs hP hD hS hcl hsl K => ?_)
  have hsl' : nc_sl (.inr (.inr (t, List.replicate n.toNatClampNeg none))) = n.toNatClampNeg := List.length_replicate
  rw [hsl'] at hsl K
  refine W.anew X.1 X.2.1 X.2.2.2.1 (zw_use X.2.2.2.2.2.1.1 hq rfl) (va_AO.use (show va_AO C s from ht.2 ▸ X.2.2.2.2.2.2.2.2.1)) rfl hdg rfl hn (by omega) hcl hsl (fun cA2 kA comp g1 g2 g3 g4 => ?_)
  have e1 : cA2 = cA t := by
    obtain ⟨rfl, rfl⟩ := ht
    obtain ⟨kA', comp', -, -, -, f2⟩ := (X.2.2.2.2.1.2 1 _ rfl).2
    exact Option.some.inj (g1.symm.trans f2)
  subst e1
  have e2 : k_el cA ad (.inr (.inr (t, List.replicate n.toNatClampNeg none))) = .inl (cA t, (n.toNatClampNeg, .inr (.inr (.inr (.inr (fun _ => none)))))) := by
    have h9 : (Sum.inl (cA t, (List.replicate n.toNatClampNeg (none : Option zR)).length, Sum.inr (Sum.inr (Sum.inr (Sum.inr (fun i => ((List.replicate n.toNatClampNeg (none : Option zR)).getD i none).map ad))))) : va_E) = .inl (cA t, (n.toNatClampNeg, .inr (.inr (.inr (.inr (fun _ => none)))))) := by
      rw [List.length_replicate, show (fun i => ((List.replicate n.toNatClampNeg (none : Option zR)).getD i none).map ad) = (fun _ => none) from funext (fun i => by rw [k_getrep]; rfl)]
    exact h9
  have hk : ∀ (k : Nat) (x : Nat × va_E), (k_ws cA ad w)[k]? = some x → (H.push { cls := cA t, slots := Array.replicate n.toNatClampNeg Value.null })[x.1]? = H[x.1]? := fun k x hx => by
    rw [Array.getElem?_push, if_neg (Nat.ne_of_lt (hP k x hx).lt)]
  refine K H.size _ (by
    rw [e2]
    refine (hP.kept hk).app (fun k x hx => ?_)
    have hz : k < 1 := (List.getElem?_eq_some_iff.mp hx).1
    rw [show k = 0 by omega] at hx
    cases hx
    show (H.push _)[H.size]? = some (arrV _ _ (fun _ => Value.null))
    rw [← arrV_new]
    simp) (by rw [e2]; exact hD.push hP rfl (X.2.2.2.2.2.2.1 _ hS.1)) ⟨by rw [Array.size_push]; exact Nat.le_succ_of_le hS.1, fun x h1 h2 => ?_, hS.2.2⟩
  rw [Array.getElem?_push, if_neg (Nat.ne_of_lt (Nat.lt_of_lt_of_le h1 hS.1))]
  exact hS.2.1 x h1 h2
theorem kJ_putfield {ix a b q k : Nat} {Cl : vw_C} {fs : List zV} {v : zV} {ty : FieldType} (hdg : decode cc pc = .ok (.putfield ix, 3)) (hc : vwCl[a]? = some Cl) (hk : b < Cl.2.2) (hq : lw_tbl[q]? = some (.fieldLink own ix (Cl.2.1 b).1 (Cl.2.1 b).2.1 (Cl.2.1 b).2.2.1)) (hty : parseFieldDescriptor (Cl.2.1 b).2.2.1 = some ty) (hft : kt_fits ((kt_nf.getD a []).getD b 9) ty = true) (hfin : (Cl.2.1 b).2.2.2 = false ∨ ((Cl.2.1 b).2.2.2 = true ∧ nm = "<init>" ∧ (Cl.2.1 b).1 = own)) (hw : w[k]? = some (.inl (a, fs))) (hbl : b < fs.length) (hfit : kv_fit ((kt_nf.getD a []).getD b 9) v = true) (kk : kJ2 p l e R s m args below meth c Q D cA adT S0 A own nm cc nL ad0 w0 wF (w.set k (.inl (a, fs.set b v))) (pc + 3) lv st) : kJ2 p l e R s m args below meth c Q D cA adT S0 A own nm cc nL ad0 w0 wF w pc lv (v :: .inr (.inl (some (zr k))) :: st) := by
  refine kJ_set hw (fun hst h0 => ?_) (by show (fs.set b v).length = fs.length; exact List.length_set) kk (fun v h => List.mem_cons_of_mem _ (List.mem_cons_of_mem _ h)) (fun X ad ls H locs ha hst hP hD hS K => ?_)
  · intro x hx
    rcases List.mem_or_eq_of_mem_set hx with h | h
    · exact h0 x h
    · rw [h]; exact hst v List.mem_cons_self
  · obtain ⟨ty0, ht0, hnm⟩ := zt_ty a Cl hc
    obtain ⟨n1, n2⟩ := kv_fit_ok (ad := ad) hfit hft
    have he := k_ws_at (cA := cA) (ad := ad) hw
    have e2 : k_el cA ad (.inl (a, fs.set b v)) = .inr (a, (fs.map (zc ad)).set b (zc ad v)) := by
      show Sum.inr (a, (fs.set b v).map (zc ad)) = _
      rw [List.map_set]
    rw [e2] at K
    rcases hfin with hfin | ⟨hfin, hnm1, hcl⟩
    · exact va_put X.1 X.2.1 (kX_lays X hc) (fun _ h => h) ty0 ht0 hnm X.2.2.2.1 X.2.2.2.2.1 hP hD hS k he hc b hk (zw_use X.2.2.2.2.2.1.1 hq rfl) (fun _ h => h) hfin hty n1 n2 (by rw [List.length_map]; exact hbl) hdg K
    · exact va_putF X.1 X.2.1 (kX_lays X hc) (fun _ h => h) ty0 ht0 hnm X.2.2.2.1 X.2.2.2.2.1 hP hD hS k he hc b hk (zw_use X.2.2.2.2.2.1.1 hq rfl) (fun _ h => h) hfin (X.2.2.2.2.2.2.2.1.trans hnm1) hcl hty n1 n2 (by rw [List.length_map]; exact hbl) hdg K
theorem k_in {j : Int32} {n : Nat} (h0 : ¬ j < 0) (h1 : ¬ n ≤ j.toNatClampNeg) : vp_in j n := fun h => h.elim h0 h1
theorem kJ_iastore {k : Nat} {j x : Int32} {xs : List Int32} (hdg : decode cc pc = .ok (.iastore, 1)) (hw : w[k]? = some (.inr (.inl xs))) (h0 : ¬ j < 0) (h1 : ¬ xs.length ≤ j.toNatClampNeg) (kk : kJ2 p l e R s m args below meth c Q D cA adT S0 A own nm cc nL ad0 w0 wF (w.set k (.inr (.inl (xs.set j.toNatClampNeg x)))) (pc + 1) lv st) : kJ2 p l e R s m args below meth c Q D cA adT S0 A own nm cc nL ad0 w0 wF w pc lv (zi x :: zi j :: .inr (.inl (some (zr k))) :: st) := by
  refine kJ_set hw (fun _ _ => kc_ints _ _) (by show (xs.set _ _).length = xs.length; exact List.length_set) kk (fun v h => List.mem_cons_of_mem _ (List.mem_cons_of_mem _ (List.mem_cons_of_mem _ h))) (fun X ad ls H locs ha hst hP hD hS K => ?_)
  have he := k_ws_at (cA := cA) (ad := ad) hw
  have e2 : k_el cA ad (.inr (.inl (xs.set j.toNatClampNeg x))) = .inl (cA 0, xs.length, .inl (upd (fun i => xs.getD i 0) j.toNatClampNeg x)) := by
    show Sum.inl (cA 0, (xs.set _ _).length, Sum.inl (fun i => (xs.set _ _).getD i 0)) = _
    rw [List.length_set]
    congr 4
    funext i
    rw [List.getD_eq_getElem?_getD, List.getElem?_set]
    unfold upd
    by_cases e : j.toNatClampNeg = i
    · rw [if_pos e, if_pos (by omega), if_pos e.symm]; rfl
    · rw [if_neg e, if_neg (fun h => e h.symm)]; rw [← List.getD_eq_getElem?_getD]
  rw [e2] at K
  exact va_iast X.1 X.2.1 X.2.2.2.2.1 hP hD hS k 0 he rfl (k_in h0 h1) hdg K
theorem k_elR {cA : Nat → ClassId} {ad : zR → Nat} {t : Nat} (ht : t = 1) (xs : List (Option zR)) (j : Nat) (r : zR) (h1 : ¬ xs.length ≤ j) : k_el cA ad (.inr (.inr (t, xs.set j (some r)))) = .inl (cA t, xs.length, .inr (.inr (.inr (.inr (va_up (fun i => (xs.getD i none).map ad) j (some (ad r))))))) := by
  have key : (Sum.inl (cA t, (xs.set j (some r)).length, Sum.inr (Sum.inr (Sum.inr (Sum.inr (fun i => ((xs.set j (some r)).getD i none).map ad))))) : va_E) = .inl (cA t, xs.length, .inr (.inr (.inr (.inr (va_up (fun i => (xs.getD i none).map ad) j (some (ad r))))))) := by
    rw [List.length_set]
    congr 7
    funext i
    rw [List.getD_eq_getElem?_getD, List.getElem?_set]
    unfold va_up
    by_cases e : j = i
    · rw [if_pos e, if_pos (by omega), if_pos e.symm]; rfl
    · rw [if_neg e, if_neg (fun h => e h.symm)]; rw [← List.getD_eq_getElem?_getD]
  exact key
theorem kJ_aastB {k q2 : Nat} {j : Int32} {xs : List (Option zR)} {fs : List zV} (hdg : decode cc pc = .ok (.aastore, 1)) (hw : w[k]? = some (.inr (.inr (1, xs)))) (hq : w[q2]? = some (.inl (0, fs))) (h0 : ¬ j < 0) (h1 : ¬ xs.length ≤ j.toNatClampNeg) (kk : kJ2 p l e R s m args below meth c Q D cA adT S0 A own nm cc nL ad0 w0 wF (w.set k (.inr (.inr (1, xs.set j.toNatClampNeg (some (zr q2)))))) (pc + 1) lv st) : kJ2 p l e R s m args below meth c Q D cA adT S0 A own nm cc nL ad0 w0 wF w pc lv (.inr (.inl (some (zr q2))) :: zi j :: .inr (.inl (some (zr k))) :: st) := by
  refine kJ_set hw (fun hst h0 => ?_) (by show (xs.set _ _).length = xs.length; exact List.length_set) kk (fun v h => List.mem_cons_of_mem _ (List.mem_cons_of_mem _ (List.mem_cons_of_mem _ h))) (fun X ad ls H locs ha hst hP hD hS K => ?_)
  · intro r hr
    rcases List.mem_or_eq_of_mem_set hr with h | h
    · exact h0 r h
    · rw [Option.some.inj h]; exact hst _ List.mem_cons_self
  · rw [k_elR rfl xs _ _ h1] at K
    exact va_astq X.1 X.2.1 X.2.2.2.2.1 hP hD hS k 1 q2 0 (r := (RX0, TX0, 17)) (k_ws_at (cA := cA) (ad := ad) hw) rfl (k_ws_at (cA := cA) (ad := ad) hq) rfl (k_in h0 h1) hdg K
end KB

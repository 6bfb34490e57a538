/-! THE LAW'S LEVEL 4: what is made; the library -/
/-- room for a body -/
def qRm (R : Room) (T0 : qS) (cF sF o1 o2 : Nat) : Prop := (cF - T0.2.length + o1 ≤ R.cells ∧ sF - q_sl T0.2 + o2 ≤ R.slots) ∧ 1 ≤ R.frames ∧ 130 ≤ R.locals
theorem qc_new (t n : Nat) (h : t = 0 ∨ t = 5 ∨ t = 6) (hn : n ≤ 1000000) (N : Nat) : qc_ok N (.inr (.inl (t, List.replicate n 0))) :=
  ⟨h, by rw [List.length_replicate]; exact hn, fun _ x hx => by rw [List.eq_of_mem_replicate hx]; rfl⟩
theorem q_getrep {α : Type} (n i : Nat) (x : α) : (List.replicate n x).getD i x = x := by
  rw [List.getD_eq_getElem?_getD, List.getElem?_replicate]
  split <;> rfl
section QD
variable {p : Program} {l : Launch} {e : Env} {R : Room} {s : State} {m : MethodId} {args : Array Value} {below : List Frame} {meth : Method} {c : Code} {Q : State → Prop} {G : zG} {T0 : qS} {A : Nat → Prop} {aq0 : Nat → Nat} {own nm : String} {cc : ByteArray} {nL : Nat} {ret : Option FieldType} {cF sF o1 o2 : Nat} {T : qS} {pc : Nat} {lv : zL} {st : List zV}
theorem qJ_push {vs : qW} {pc2 : Nat} {st2 : List zV} (hvs : 0 < vs.length) (hc : ∀ n, T.2.length + vs.length ≤ n → ∀ x, x ∈ vs → qc_ok n x) (kk : qJ2 p l e R s m args below meth c Q G T0 A aq0 nL cF sF o1 o2 (T.1, T.2 ++ vs) pc2 lv (za 8 T.2.length 0 :: st2)) (hs2 : ∀ v, v ∈ st2 → v ∈ st) (hR : qRm R T0 cF sF o1 o2)
    (hW : ∀ (aq : Nat → Nat) (ls : Array Slot) (H : Heap) (locs : List Loc), lv_has ls nL (zl_pairs (qad G aq) 0 lv) → va_P G.1 vwCl (q_all G aq T.1 T.2) H → va_D A (q_all G aq T.1 T.2) → va_S A s.heap H locs → qWf T → (∀ v, v ∈ st → qv_ok T.2.length v) → (T.2.length - T0.2.length + o1) + vs.length ≤ R.cells → (q_sl T.2 - q_sl T0.2 + o2) + q_sl vs ≤ R.slots →
      (∀ (aq' : Nat → Nat) (H1 : Heap), (∀ k, k < T.2.length → aq' k = aq k) → va_P G.1 vwCl (q_all G aq T.1 T.2 ++ vs.mapIdx (fun i c => (aq' (T.2.length + i), q_el G (qad G aq') c))) H1 → va_D A (q_all G aq T.1 T.2 ++ vs.mapIdx (fun i c => (aq' (T.2.length + i), q_el G (qad G aq') c))) → va_S A s.heap H1 locs →
        W p l e R s m args below meth c H1 locs ((T.2.length - T0.2.length + o1) + vs.length) ((q_sl T.2 - q_sl T0.2 + o2) + q_sl vs) Q (F0 m pc2 ls (.ref (aq' T.2.length) :: st2.map (zc (qad G aq))))) → W p l e R s m args below meth c H locs (T.2.length - T0.2.length + o1) (q_sl T.2 - q_sl T0.2 + o2) Q (F0 m pc ls (st.map (zc (qad G aq))))) : qJ2 p l e R s m args below meth c Q G T0 A aq0 nL cF sF o1 o2 T pc lv st := by
  obtain ⟨⟨k1, k2⟩, kk⟩ := kk
  have hlen : (T.2 ++ vs).length = T.2.length + vs.length := List.length_append
  have k1 : (T.2 ++ vs).length ≤ cF := k1
  have k2 : q_sl (T.2 ++ vs) ≤ sF := k2
  rw [hlen] at k1
  rw [q_sl_app] at k2
  obtain ⟨⟨r1, r2⟩, r3⟩ := hR
  refine ⟨⟨by omega, by omega⟩, fun aq ls H locs ha hl hP hD hS h5 hs hv => ?_⟩
  obtain ⟨e1, e2, e3, e4⟩ := h5
  refine hW aq ls H locs hl hP hD hS e4 hs (by omega) (by omega) (fun aq' H1 hag hP1 hD1 hS1 => ?_)
  have eall : q_all G aq' T.1 (T.2 ++ vs) = q_all G aq T.1 T.2 ++ vs.mapIdx (fun i c => (aq' (T.2.length + i), q_el G (qad G aq') c)) := by
    unfold q_all
    rw [q_ws_push e4 hag, List.append_assoc]
  have up : T.2.length ≤ (T.2 ++ vs).length := by rw [hlen]; omega
  have res := kk aq' ls H1 locs (fun k hk => (hag k (by omega)).trans (ha k hk)) (qzc_p hag hv hl) (by rw [eall]; exact hP1) (by rw [eall]; exact hD1) hS1 ⟨e1, by show _ ≤ (T.2 ++ vs).length; rw [hlen]; omega, by show _ ≤ q_sl (T.2 ++ vs); rw [q_sl_app]; omega, fun x hx => by
    show qc_ok (T.2 ++ vs).length x
    rcases List.mem_append.mp hx with h | h
    · exact qc_up up (e4 x h)
    · exact hc _ (by rw [hlen]; exact Nat.le_refl _) x h⟩ (qv_cons (Or.inl ⟨rfl, by show T.2.length < (T.2 ++ vs).length; rw [hlen]; omega, rfl⟩) (fun v h => qv_up up (hs v (hs2 v h)))) (fun j v h => qv_up up (hv j v h))
  rw [show (T.1, T.2 ++ vs).2.length - T0.2.length + o1 = (T.2.length - T0.2.length + o1) + vs.length by show (T.2 ++ vs).length - _ + _ = _; rw [hlen]; omega, show q_sl (T.1, T.2 ++ vs).2 - q_sl T0.2 + o2 = (q_sl T.2 - q_sl T0.2 + o2) + q_sl vs by show q_sl (T.2 ++ vs) - _ + _ = _; rw [q_sl_app]; omega, List.map_cons, qzc_l hag (fun v h => hs v (hs2 v h))] at res
  exact res
/-- one cell -/
theorem qJ_push1 {c9 : qC} {pc2 : Nat} {st2 : List zV} (hc : ∀ n, T.2.length < n → qc_ok n c9) (hel : ∀ ad ad' : zR → Nat, q_el G ad c9 = q_el G ad' c9) (kk : qJ2 p l e R s m args below meth c Q G T0 A aq0 nL cF sF o1 o2 (T.1, T.2 ++ [c9]) pc2 lv (za 8 T.2.length 0 :: st2)) (hs2 : ∀ v, v ∈ st2 → v ∈ st) (hR : qRm R T0 cF sF o1 o2)
    (hW : ∀ (aq : Nat → Nat) (ls : Array Slot) (H : Heap) (locs : List Loc), lv_has ls nL (zl_pairs (qad G aq) 0 lv) → va_P G.1 vwCl (q_all G aq T.1 T.2) H → va_D A (q_all G aq T.1 T.2) → va_S A s.heap H locs → qWf T → (∀ v, v ∈ st → qv_ok T.2.length v) → (T.2.length - T0.2.length + o1) + 1 ≤ R.cells → (q_sl T.2 - q_sl T0.2 + o2) + qc_sl c9 ≤ R.slots →
      (∀ (q : Nat) (H1 : Heap), va_P G.1 vwCl (q_all G aq T.1 T.2 ++ [(q, q_el G (qad G aq) c9)]) H1 → va_D A (q_all G aq T.1 T.2 ++ [(q, q_el G (qad G aq) c9)]) → va_S A s.heap H1 locs →
        W p l e R s m args below meth c H1 locs ((T.2.length - T0.2.length + o1) + 1) ((q_sl T.2 - q_sl T0.2 + o2) + qc_sl c9) Q (F0 m pc2 ls (.ref q :: st2.map (zc (qad G aq))))) → W p l e R s m args below meth c H locs (T.2.length - T0.2.length + o1) (q_sl T.2 - q_sl T0.2 + o2) Q (F0 m pc ls (st.map (zc (qad G aq))))) : qJ2 p l e R s m args below meth c Q G T0 A aq0 nL cF sF o1 o2 T pc lv st := by
  refine qJ_push (vs := [c9]) (Nat.lt_succ_self 0) (fun n hn x hx => ?_) kk hs2 hR (fun aq ls H locs hl hP hD hS hwf hs hcl hsl K => ?_)
  · rw [List.mem_singleton.mp hx]
    exact hc n (by have : T.2.length + 1 ≤ n := hn; omega)
  · rw [q_sl_one] at hsl
    refine hW aq ls H locs hl hP hD hS hwf hs hcl hsl (fun q H1 hP1 hD1 hS1 => ?_)
    have hag : ∀ k, k < T.2.length → (fun k => if k = T.2.length then q else aq k) k = aq k := fun k hk => if_neg (by omega)
    have e0 : (fun k => if k = T.2.length then q else aq k) T.2.length = q := if_pos rfl
    have res := K (fun k => if k = T.2.length then q else aq k) H1 hag
    have e1 : ([c9] : qW).mapIdx (fun i c => ((fun k => if k = T.2.length then q else aq k) (T.2.length + i), q_el G (qad G (fun k => if k = T.2.length then q else aq k)) c)) = [(q, q_el G (qad G aq) c9)] := by
      show [((fun k => if k = T.2.length then q else aq k) (T.2.length + 0), q_el G (qad G (fun k => if k = T.2.length then q else aq k)) c9)] = _
      rw [Nat.add_zero, e0, hel _ (qad G aq)]
    rw [e1, q_sl_one] at res
    have res2 := res hP1 hD1 hS1
    simp only [if_true] at res2
    exact res2
theorem qJ_new (X : qX p s m meth c G T0 A own nm cc nL ret) {ix a b c1 q : Nat} {Cl : vw_C} (ha : a = 11 ∨ a = 12) (hR : qRm R T0 cF sF o1 o2) (hdg : decode cc pc = .ok (.new ix, 3)) (hc : vwCl[a]? = some Cl) (hN : Cl.2.2 = 4) (h1 : lw_tbl[q]? = some (.classLink own ix Cl.1)) (h2 : lw_tbl[b]? = some (.instantiable Cl.1 Cl.2.2)) (h3 : lw_tbl[c1]? = some (.initialized Cl.1)) (kk : qJ2 p l e R s m args below meth c Q G T0 A aq0 nL cF sF o1 o2 (T.1, T.2 ++ [.inl (a, qd_obj a)]) (pc + 3) lv (za 8 T.2.length 0 :: st)) : qJ2 p l e R s m args below meth c Q G T0 A aq0 nL cF sF o1 o2 T pc lv st := by
  refine qJ_push1 (c9 := .inl (a, qd_obj a)) (fun n _ => qd_ok a n) (fun ad ad' => congrArg (fun x => (Sum.inr (a, x) : va_E)) (qd_z a ad ad')) kk (fun v h => h) hR (fun aq ls H locs hl hP hD hS hwf hs hcl hsl K => ?_)
  obtain ⟨ty0, ht0, -⟩ := zt_ty a Cl hc
  have hsl' : qc_sl (.inl (a, qd_obj a)) = Cl.2.2 := by show (qd_obj a).length = _; rw [qd_len, hN]
  rw [hsl'] at hsl K
  have hdv := List.all_eq_true.mp q_dv_ok a (by rcases ha with rfl | rfl <;> decide)
  rw [hc] at hdv
  refine va_new X.1 X.2.1 (qX_lays X hc) (fun _ h => h) ty0 ht0 X.2.2.2.1 (zw_use X.2.2.2.2.2.1.1 h1 rfl) (zw_use X.2.2.2.2.2.1.1 h2 rfl) (zw_use X.2.2.2.2.2.1.1 h3 rfl) X.2.2.2.2.1 hP hD hS X.2.2.2.2.2.2.2.2.2.1 hc (fs := (qd_obj a).map (zc (qad G aq))) (fun j hj => ?_) hcl hsl hdg K
  have h9 := of_decide_eq_true (List.all_eq_true.mp hdv j (List.mem_range.mpr hj))
  rw [ht0 j hj] at h9
  rw [qd_z a (qad G aq) (fun _ => 0)]
  exact Option.some.inj h9
theorem qJ_newA (X : qX p s m meth c G T0 A own nm cc nL ret) {n : Int32} {k p9 : Nat} {at9 : ArrayType} {nx : zV → qS → Option qO} {out : qO} (hR : qRm R T0 cF sF o1 o2) (hk : (k = 0 ∧ at9 = .int) ∨ (k = 5 ∧ at9 = .byte) ∨ (k = 6 ∧ at9 = .boolean)) (hdg : decode cc pc = .ok (.newarray at9, 2)) (hq : lw_tbl[p9]? = some (.arrayClass (newarray.typeOf at9))) (h : qa_new n k T nx = some out) (kk : ∀ v T', nx v T' = some out → qJ2 p l e R s m args below meth c Q G T0 A aq0 nL cF sF o1 o2 T' (pc + 2) lv (v :: st)) : qJ2 p l e R s m args below meth c Q G T0 A aq0 nL cF sF o1 o2 T pc lv (zi n :: st) := by
  unfold qa_new at h
  split at h
  · exact nomatch h
  · rename_i hn
    split at h
    · exact nomatch h
    · rename_i hb
      have hsl' : qc_sl (.inr (.inl (k, List.replicate n.toNatClampNeg 0))) = n.toNatClampNeg := List.length_replicate
      have ek : (k = 0 ∨ k = 5 ∨ k = 6) := hk.elim (fun h => Or.inl h.1) (fun h => h.elim (fun h => Or.inr (Or.inl h.1)) (fun h => Or.inr (Or.inr h.1)))
      refine qJ_push1 (c9 := .inr (.inl (k, List.replicate n.toNatClampNeg 0))) (fun N _ => qc_new k _ ek (by omega) N) (fun ad ad' => rfl) (kk _ _ h) (fun v h => List.mem_cons_of_mem _ h) hR (fun aq ls H locs hl hP hD hS hwf hs hcl hsl K => ?_)
      rw [hsl'] at hsl K
      have e2 : q_el G (qad G aq) (.inr (.inl (k, List.replicate n.toNatClampNeg 0))) = .inl (G.2.1 k, (n.toNatClampNeg, .inl (fun _ => 0))) := by
        show Sum.inl (G.2.1 k, (List.replicate n.toNatClampNeg (0 : Int32)).length, Sum.inl (fun i => (List.replicate n.toNatClampNeg (0 : Int32)).getD i 0)) = _
        rw [List.length_replicate, show (fun i => (List.replicate n.toNatClampNeg (0 : Int32)).getD i 0) = (fun _ => 0) from funext (fun i => q_getrep _ i 0)]
      have fin : ∀ (q : Nat) (cA2 : ClassId) (H1 : Heap), cA2 = G.2.1 k → va_P G.1 vwCl (q_all G aq T.1 T.2 ++ [(q, .inl (cA2, (n.toNatClampNeg, .inl (fun _ => 0))))]) H1 → va_D A (q_all G aq T.1 T.2 ++ [(q, .inl (cA2, (n.toNatClampNeg, .inl (fun _ => 0))))]) → va_S A s.heap H1 locs → _ := fun q cA2 H1 e hP1 hD1 hS1 => K q H1 (by rw [e2, ← e]; exact hP1) (by rw [e2, ← e]; exact hD1) hS1
      rcases hk with ⟨rfl, rfl⟩ | ⟨rfl, rfl⟩ | ⟨rfl, rfl⟩
      · refine va_newa (ty := .int) (N' := n.toNatClampNeg) (a0 := (n.toNatClampNeg, .inl (fun _ => 0))) X.1 X.2.1 (zw_use X.2.2.2.2.2.1.1 hq rfl) rfl X.2.2.2.2.1 hP hD hS X.2.2.2.2.2.2.2.2.2.1 (fun _ => rfl) hn rfl (by show n.toNatClampNeg * 4 ≤ _; omega) hcl hsl hdg (fun q cA2 H1 hK2 hP1 hD1 hS1 => fin q cA2 H1 ?_ hP1 hD1 hS1)
        exact Option.some.inj ((hK2.2 5 _ rfl).2.symm.trans (X.2.2.2.2.1.2 0 _ rfl).2)
      · refine va_newa (ty := .byte) (N' := n.toNatClampNeg) (a0 := (n.toNatClampNeg, .inl (fun _ => 0))) X.1 X.2.1 (zw_use X.2.2.2.2.2.1.1 hq rfl) rfl X.2.2.2.2.1 hP hD hS X.2.2.2.2.2.2.2.2.2.1 (fun _ => rfl) hn rfl (by show n.toNatClampNeg * 1 ≤ _; omega) hcl hsl hdg (fun q cA2 H1 hK2 hP1 hD1 hS1 => fin q cA2 H1 ?_ hP1 hD1 hS1)
        exact Option.some.inj ((hK2.2 5 _ rfl).2.symm.trans (X.2.2.2.2.1.2 2 _ rfl).2)
      · refine va_newa (ty := .boolean) (N' := n.toNatClampNeg) (a0 := (n.toNatClampNeg, .inl (fun _ => 0))) X.1 X.2.1 (zw_use X.2.2.2.2.2.1.1 hq rfl) rfl X.2.2.2.2.1 hP hD hS X.2.2.2.2.2.2.2.2.2.1 (fun _ => rfl) hn rfl (by show n.toNatClampNeg * 1 ≤ _; omega) hcl hsl hdg (fun q cA2 H1 hK2 hP1 hD1 hS1 => fin q cA2 H1 ?_ hP1 hD1 hS1)
        exact Option.some.inj ((hK2.2 5 _ rfl).2.symm.trans (X.2.2.2.2.1.2 3 _ rfl).2)
end QD

/-! THE LAW'S LEVEL 3: writes, fields, what is made, the library -/
theorem qc_setI {n t : Nat} {xs : List Int32} {j : Nat} {x : Int32} (h : qc_ok n (.inr (.inl (t, xs)))) (hx : t = 5 → x.toInt8.toInt32 = x) : qc_ok n (.inr (.inl (t, xs.set j x))) :=
  ⟨h.1, by rw [List.length_set]; exact h.2.1, fun h5 y hy => (List.mem_or_eq_of_mem_set hy).elim (h.2.2 h5 y) (fun e => by rw [e]; exact hx h5)⟩
theorem qb_idem (x : Int32) : x.toInt8.toInt32.toInt8.toInt32 = x.toInt8.toInt32 := by simp
def q_fits : Nat → FieldType → Bool
  | 0, .int => true
  | 1, .boolean => true
  | 3, .object _ => true
  | 3, .array _ => true
  | 4, .byte => true
  | _, _ => false
theorem qv_fit_ok {k : Nat} {v : zV} {ty : FieldType} {ad : zR → Nat} (h : qv_fit k v = true) (ht : q_fits k ty = true) : narrow ty (zc ad v) = zc ad v ∧ fits ty (zc ad v) = true := by
  match k, v with
  | 0, .inl x =>
    cases ty <;> first
      | exact ⟨rfl, rfl⟩
      | exact nomatch ht
  | 0, .inr x => exact nomatch h
  | 1, .inl x =>
    have h := of_decide_eq_true h
    have ht : ty = .boolean := by
      cases ty <;> first
        | rfl
        | exact nomatch ht
    subst ht
    refine ⟨?_, ?_⟩
    · show Value.int (x &&& 1) = Value.int x
      rw [h]
    · rcases zb_01 h with rfl | rfl <;> rfl
  | 1, .inr x => exact nomatch h
  | 2, .inl x => exact nomatch h
  | 2, .inr x => exact nomatch h
  | 3, .inl x => exact nomatch h
  | 3, .inr (.inl (some r)) =>
    cases ty <;> first
      | exact ⟨rfl, rfl⟩
      | exact nomatch ht
  | 3, .inr (.inl none) => exact nomatch h
  | 3, .inr (.inr x) => exact nomatch h
  | 4, .inl x =>
    have h := of_decide_eq_true h
    have ht : ty = .byte := by
      cases ty <;> first
        | rfl
        | exact nomatch ht
    subst ht
    refine ⟨?_, ?_⟩
    · show Value.int _ = Value.int x
      exact congrArg Value.int h
    · rw [← h]
      exact pk_fb _
  | 4, .inr x => exact nomatch h
  | k + 5, v => exact nomatch h
theorem q_dv_ok : [11, 12].all (fun a => match vwCl[a]? with
    | some Cl => (List.range Cl.2.2).all (fun j => decide ((parseFieldDescriptor (Cl.2.1 j).2.2.1).map defaultValue = some (vp_V ((qd_obj a).map (zc (fun _ => 0))) j)))
    | none => false) = true := by decide +kernel
theorem qd_len (a : Nat) : (qd_obj a).length = 4 := by unfold qd_obj; split <;> rfl
theorem qd_z (a : Nat) (ad ad' : zR → Nat) : (qd_obj a).map (zc ad) = (qd_obj a).map (zc ad') := by unfold qd_obj; split <;> rfl
theorem qd_ok (a n : Nat) : ∀ v, v ∈ qd_obj a → qv_ok n v := by
  intro v hv
  have : v = zn ∨ v = zi 0 := by
    unfold qd_obj at hv
    split at hv <;> simpa using hv
  rcases this with rfl | rfl <;> trivial
section QC
variable {p : Program} {l : Launch} {e : Env} {R : Room} {s : State} {m : MethodId} {args : Array Value} {below : List Frame} {meth : Method} {c : Code} {Q : State → Prop} {G : zG} {T0 : qS} {A : Nat → Prop} {aq0 : Nat → Nat} {own nm : String} {cc : ByteArray} {nL : Nat} {ret : Option FieldType} {cF sF o1 o2 : Nat} {T : qS} {pc : Nat} {lv : zL} {st : List zV}
theorem qJ_set {c0 c9 : qC} {k pc2 : Nat} {st2 : List zV} (hw : T.2[k]? = some c0) (hc : (∀ v, v ∈ st → qv_ok T.2.length v) → qc_ok T.2.length c0 → qc_ok T.2.length c9) (hsl : qc_sl c9 = qc_sl c0) (kk : qJ2 p l e R s m args below meth c Q G T0 A aq0 nL cF sF o1 o2 (T.1, T.2.set k c9) pc2 lv st2) (hs2 : ∀ v, v ∈ st2 → v ∈ st)
    (hW : ∀ (aq : Nat → Nat) (ls : Array Slot) (H : Heap) (locs : List Loc), va_P G.1 vwCl (q_all G aq T.1 T.2) H → va_D A (q_all G aq T.1 T.2) → va_S A s.heap H locs → qWf T → (∀ v, v ∈ st → qv_ok T.2.length v) → (∀ (H1 : Heap) (locs1 : List Loc), va_P G.1 vwCl ((q_all G aq T.1 T.2).set (zt_all.length + k) (aq k, q_el G (qad G aq) c9)) H1 → va_D A ((q_all G aq T.1 T.2).set (zt_all.length + k) (aq k, q_el G (qad G aq) c9)) → va_S A s.heap H1 locs1 → W p l e R s m args below meth c H1 locs1 (T.2.length - T0.2.length + o1) (q_sl T.2 - q_sl T0.2 + o2) Q (F0 m pc2 ls (st2.map (zc (qad G aq))))) → W p l e R s m args below meth c H locs (T.2.length - T0.2.length + o1) (q_sl T.2 - q_sl T0.2 + o2) Q (F0 m pc ls (st.map (zc (qad G aq))))) : qJ2 p l e R s m args below meth c Q G T0 A aq0 nL cF sF o1 o2 T pc lv st := by
  obtain ⟨⟨k1, k2⟩, kk⟩ := kk
  have hlen : (T.2.set k c9).length = T.2.length := List.length_set
  have hnsl := q_sl_set T.2 k c9 c0 hw hsl
  rw [hlen] at k1
  rw [hnsl] at k2
  refine ⟨⟨k1, k2⟩, fun aq ls H locs ha hl hP hD hS h5 hs hv => hW aq ls H locs hP hD hS h5.2.2.2 hs (fun H1 locs1 hP1 hD1 hS1 => ?_)⟩
  rw [q_all_set] at hP1 hD1
  have res := kk aq ls H1 locs1 ha hl hP1 hD1 hS1 ⟨h5.1, by rw [hlen]; exact h5.2.1, by rw [hnsl]; exact h5.2.2.1, fun x hx => by
    show qc_ok (T.2.set k c9).length x
    rw [hlen]
    rcases List.mem_or_eq_of_mem_set hx with h | h
    · exact h5.2.2.2 x h
    · rw [h]; exact hc hs (h5.2.2.2 _ (List.mem_of_getElem? hw))⟩ (fun v h => by rw [hlen]; exact hs v (hs2 v h)) (fun j v h => by rw [hlen]; exact hv j v h)
  rw [hlen, hnsl] at res
  exact res
theorem qJ_iastore (X : qX p s m meth c G T0 A own nm cc nL ret) {r : zR} {i x : Int32} {nx : qS → Option qO} {out : qO} (hdg : decode cc pc = .ok (.iastore, 1)) (h : qa_st r i x T nx = some out) (kk : ∀ T', nx T' = some out → qJ2 p l e R s m args below meth c Q G T0 A aq0 nL cF sF o1 o2 T' (pc + 1) lv st) : qJ2 p l e R s m args below meth c Q G T0 A aq0 nL cF sF o1 o2 T pc lv (zi x :: zi i :: .inr (.inl (some r)) :: st) := by
  unfold qa_st at h
  split at h
  · rename_i h8r
    split at h
    · rename_i xs hx
      obtain ⟨h0, h1, h⟩ := qa_in_ok h
      obtain ⟨a, b, c0⟩ := r
      rw [zx_nth_get] at hx
      refine qJ_set (c9 := .inr (.inl (0, xs.set i.toNatClampNeg x))) hx (fun _ q => qc_setI q (fun z => absurd z (by decide))) (by show (xs.set _ _).length = xs.length; exact List.length_set) (kk _ h) (fun v h => List.mem_cons_of_mem _ (List.mem_cons_of_mem _ (List.mem_cons_of_mem _ h))) (fun aq ls H locs hP hD hS hwf hs K => ?_)
      obtain ⟨hr, hk⟩ := qr_8 (qv_hd (qv_tl (qv_tl hs))) h8r
      cases hr
      have hvp : vp_in i xs.length := za_vp (q_knd (hwf _ (List.mem_of_getElem? hx))) h0 h1
      refine va_iast X.1 X.2.1 X.2.2.2.2.1 hP hD hS _ 0 (q_all_at hx) (q_tys G).1 hvp hdg (fun H1 locs1 hP1 hD1 hS1 => ?_)
      have e2 : q_el G (qad G aq) (.inr (.inl (0, xs.set i.toNatClampNeg x))) = .inl (G.2.1 0, xs.length, .inl (upd (fun i => xs.getD i 0) i.toNatClampNeg x)) := by
        rw [q_upd xs _ _ (q_lt hvp)]
        show Sum.inl (G.2.1 0, (xs.set _ _).length, _) = _
        rw [List.length_set]
      rw [e2] at K
      exact K H1 locs1 hP1 hD1 hS1
    · exact nomatch h
  · exact nomatch h
theorem qJ_bastore (X : qX p s m meth c G T0 A own nm cc nL ret) {r : zR} {i x : Int32} {nx : qS → Option qO} {out : qO} (hdg : decode cc pc = .ok (.bastore, 1)) (h : qa_bst r i x T nx = some out) (kk : ∀ T', nx T' = some out → qJ2 p l e R s m args below meth c Q G T0 A aq0 nL cF sF o1 o2 T' (pc + 1) lv st) : qJ2 p l e R s m args below meth c Q G T0 A aq0 nL cF sF o1 o2 T pc lv (zi x :: zi i :: .inr (.inl (some r)) :: st) := by
  unfold qa_bst at h
  split at h
  · rename_i h8r
    split at h
    · rename_i xs hx
      obtain ⟨h0, h1, h⟩ := qa_in_ok h
      obtain ⟨a, b, c0⟩ := r
      rw [zx_nth_get] at hx
      refine qJ_set (c9 := .inr (.inl (5, xs.set i.toNatClampNeg x.toInt8.toInt32))) hx (fun _ q => qc_setI q (fun z => qb_idem x)) (by show (xs.set _ _).length = xs.length; exact List.length_set) (kk _ h) (fun v h => List.mem_cons_of_mem _ (List.mem_cons_of_mem _ (List.mem_cons_of_mem _ h))) (fun aq ls H locs hP hD hS hwf hs K => ?_)
      obtain ⟨hr, hk⟩ := qr_8 (qv_hd (qv_tl (qv_tl hs))) h8r
      cases hr
      have hvp : vp_in i xs.length := za_vp (q_knd (hwf _ (List.mem_of_getElem? hx))) h0 h1
      refine va_bast X.1 X.2.1 X.2.2.2.2.1 hP hD hS _ 2 (q_all_at hx) (q_tys G).2.1 hvp hdg (fun H1 locs1 hP1 hD1 hS1 => ?_)
      have e2 : q_el G (qad G aq) (.inr (.inl (5, xs.set i.toNatClampNeg x.toInt8.toInt32))) = .inl (G.2.1 5, xs.length, .inl (upd (fun i => xs.getD i 0) i.toNatClampNeg (vp_nar .byte x))) := by
        rw [show vp_nar .byte x = x.toInt8.toInt32 from rfl, q_upd xs _ _ (q_lt hvp)]
        show Sum.inl (G.2.1 5, (xs.set _ _).length, _) = _
        rw [List.length_set]
      rw [e2] at K
      exact K H1 locs1 hP1 hD1 hS1
    · rename_i xs hx
      obtain ⟨h0, h1, h⟩ := qa_in_ok h
      split at h
      · rename_i h01
        obtain ⟨a, b, c0⟩ := r
        rw [zx_nth_get] at hx
        refine qJ_set (c9 := .inr (.inl (6, xs.set i.toNatClampNeg x))) hx (fun _ q => qc_setI q (fun z => absurd z (by decide))) (by show (xs.set _ _).length = xs.length; exact List.length_set) (kk _ h) (fun v h => List.mem_cons_of_mem _ (List.mem_cons_of_mem _ (List.mem_cons_of_mem _ h))) (fun aq ls H locs hP hD hS hwf hs K => ?_)
        obtain ⟨hr, hk⟩ := qr_8 (qv_hd (qv_tl (qv_tl hs))) h8r
        cases hr
        have hvp : vp_in i xs.length := za_vp (q_knd (hwf _ (List.mem_of_getElem? hx))) h0 h1
        refine va_zast X.1 X.2.1 X.2.2.2.2.1 hP hD hS _ 3 (q_all_at hx) (q_tys G).2.2.1 hvp hdg (fun H1 locs1 hP1 hD1 hS1 => ?_)
        have e2 : q_el G (qad G aq) (.inr (.inl (6, xs.set i.toNatClampNeg x))) = .inl (G.2.1 6, xs.length, .inl (upd (fun i => xs.getD i 0) i.toNatClampNeg (vp_nar .boolean x))) := by
          rw [show vp_nar .boolean x = x from h01, q_upd xs _ _ (q_lt hvp)]
          show Sum.inl (G.2.1 6, (xs.set _ _).length, _) = _
          rw [List.length_set]
        rw [e2] at K
        exact K H1 locs1 hP1 hD1 hS1
      · exact nomatch h
    · exact nomatch h
  · exact nomatch h
theorem qX_lays (X : qX p s m meth c G T0 A own nm cc nL ret) {a : Nat} {Cl : vw_C} (hc : vwCl[a]? = some Cl) : ∀ z ∈ u_ws Cl.1 Cl.2.1 Cl.2.2, z.before args s = true := fun z hz =>
  have h := zt_lays Cl (List.mem_of_getElem? hc) z hz
  zt_keep_warm h.2 (State.WarmedH.refl s) (X.2.2.2.2.2.1.1 z h.1 h.2)
theorem qJ_getfield (X : qX p s m meth c G T0 A own nm cc nL ret) {ix a b q : Nat} {Cl : vw_C} {r : zR} {nx : zV → Option qO} {out : qO} (hdg : decode cc pc = .ok (.getfield ix, 3)) (hc : vwCl[a]? = some Cl) (hk : b < Cl.2.2) (hq : lw_tbl[q]? = some (.fieldLink own ix (Cl.2.1 b).1 (Cl.2.1 b).2.1 (Cl.2.1 b).2.2.1)) (h : qf_get a b r T nx = some out) (kk : ∀ v, nx v = some out → qJ2 p l e R s m args below meth c Q G T0 A aq0 nL cF sF o1 o2 T (pc + 3) lv (v :: st)) : qJ2 p l e R s m args below meth c Q G T0 A aq0 nL cF sF o1 o2 T pc lv (.inr (.inl (some r)) :: st) := by
  unfold qf_get at h
  split at h
  · rename_i h6r
    obtain ⟨x, t, z⟩ := r
    have h6 : x = 6 := h6r
    subst h6
    split at h
    · have hq : lw_tbl[q]? = some (.fieldLink own ix "java/lang/String" "value" "[B") := by cases hc; exact hq
      obtain ⟨k1, k2⟩ := kk _ h
      refine ⟨k1, fun aq ls H locs ha hl hP hD hS h5 hs hv => ?_⟩
      obtain ⟨rfl, ht⟩ := qr_67 (qv_hd hs) (Or.inl rfl)
      exact vk_getf X.1 X.2.1 ((X.2.2.2.2.2.1.2.2.1 t ht).1 0 (by decide)).2.2.1 hS X.2.2.2.1 (zw_use X.2.2.2.2.2.1.1 hq rfl) (fun _ h => h) hdg (k2 aq ls H locs ha hl hP hD hS h5 (qv_cons (Or.inr (Or.inl (Or.inr (Or.inr ⟨Or.inr rfl, ht, rfl⟩)))) (qv_tl hs)) hv)
    · have hq : lw_tbl[q]? = some (.fieldLink own ix "java/lang/String" "coder" "B") := by cases hc; exact hq
      obtain ⟨k1, k2⟩ := kk _ h
      refine ⟨k1, fun aq ls H locs ha hl hP hD hS h5 hs hv => ?_⟩
      obtain ⟨rfl, ht⟩ := qr_67 (qv_hd hs) (Or.inl rfl)
      exact vk_getf X.1 X.2.1 ((X.2.2.2.2.2.1.2.2.1 t ht).1 0 (by decide)).2.1 hS X.2.2.2.1 (zw_use X.2.2.2.2.2.1.1 hq rfl) (fun _ h => h) hdg (k2 aq ls H locs ha hl hP hD hS h5 (qv_cons trivial (qv_tl hs)) hv)
    · exact nomatch h
  · rename_i h8r
    split at h
    · rename_i ci fs hx
      split at h
      · rename_i hci
        subst hci
        obtain ⟨v, hf, h⟩ := Option.bind_eq_some_iff.mp h
        obtain ⟨k1, k2⟩ := kk _ h
        refine ⟨k1, fun aq ls H locs ha hl hP hD hS h5 hs hv => ?_⟩
        obtain ⟨hr, hk8⟩ := qr_8 (qv_hd hs) h8r
        rw [zx_nth_get] at hx hf
        have hvk : qv_ok T.2.length v := h5.2.2.2 _ (List.mem_of_getElem? hx) v (List.mem_of_getElem? hf)
        obtain ⟨x, y, z⟩ := r
        cases hr
        exact va_get X.1 X.2.1 (qX_lays X hc) (fun _ h => h) X.2.2.2.1 X.2.2.2.2.1 hP _ (q_all_at hx) hc b hk (zw_use X.2.2.2.2.2.1.1 hq rfl) (fun _ h => h) (show (fs.map (zc (qad G aq)))[b]? = some (zc (qad G aq) v) by rw [List.getElem?_map, hf]; rfl) hdg (k2 aq ls H locs ha hl hP hD hS h5 (qv_cons hvk (qv_tl hs)) hv)
      · exact nomatch h
    · exact nomatch h
  · exact nomatch h
theorem qJ_putfield (X : qX p s m meth c G T0 A own nm cc nL ret) {ix a b q : Nat} {Cl : vw_C} {r : zR} {v : zV} {ty : FieldType} {nx : qS → Option qO} {out : qO} (hdg : decode cc pc = .ok (.putfield ix, 3)) (hc : vwCl[a]? = some Cl) (hk : b < Cl.2.2) (hq : lw_tbl[q]? = some (.fieldLink own ix (Cl.2.1 b).1 (Cl.2.1 b).2.1 (Cl.2.1 b).2.2.1)) (hty : parseFieldDescriptor (Cl.2.1 b).2.2.1 = some ty) (hft : q_fits ((qd_nf a).getD b 9) ty = true) (hfin : (Cl.2.1 b).2.2.2 = false ∨ ((Cl.2.1 b).2.2.2 = true ∧ nm = "<init>" ∧ (Cl.2.1 b).1 = own)) (h : qf_put a b r v T nx = some out) (kk : ∀ T', nx T' = some out → qJ2 p l e R s m args below meth c Q G T0 A aq0 nL cF sF o1 o2 T' (pc + 3) lv st) : qJ2 p l e R s m args below meth c Q G T0 A aq0 nL cF sF o1 o2 T pc lv (v :: .inr (.inl (some r)) :: st) := by
  unfold qf_put at h
  split at h
  · rename_i h8r
    split at h
    · rename_i ci fs hx
      split at h
      · rename_i hcond
        obtain ⟨hci, hbl, hfit⟩ := hcond
        subst hci
        obtain ⟨x, y, z⟩ := r
        rw [zx_nth_get] at hx
        refine qJ_set (c9 := .inl (ci, fs.set b v)) hx (fun hst h0 => fun w hw => ?_) (by show (fs.set b v).length = fs.length; exact List.length_set) (kk _ h) (fun v h => List.mem_cons_of_mem _ (List.mem_cons_of_mem _ h)) (fun aq ls H locs hP hD hS hwf hs K => ?_)
        · rcases List.mem_or_eq_of_mem_set hw with h | h
          · exact h0 w h
          · rw [h]; exact hst v List.mem_cons_self
        · obtain ⟨hr, hk8⟩ := qr_8 (qv_hd (qv_tl hs)) h8r
          cases hr
          obtain ⟨ty0, ht0, hnm⟩ := zt_ty ci Cl hc
          obtain ⟨n1, n2⟩ := qv_fit_ok (ad := qad G aq) hfit hft
          have he := q_all_at (G := G) (aq := aq) (S := T.1) hx
          have e2 : q_el G (qad G aq) (.inl (ci, fs.set b v)) = .inr (ci, (fs.map (zc (qad G aq))).set b (zc (qad G aq) v)) := by
            show Sum.inr (ci, (fs.set b v).map (zc (qad G aq))) = _
            rw [List.map_set]
          rw [e2] at K
          rcases hfin with hfin | ⟨hfin, hnm1, hcl⟩
          · exact va_put X.1 X.2.1 (qX_lays X hc) (fun _ h => h) ty0 ht0 hnm X.2.2.2.1 X.2.2.2.2.1 hP hD hS _ he hc b hk (zw_use X.2.2.2.2.2.1.1 hq rfl) (fun _ h => h) hfin hty n1 n2 (by rw [List.length_map]; exact hbl) hdg K
          · exact va_putF X.1 X.2.1 (qX_lays X hc) (fun _ h => h) ty0 ht0 hnm X.2.2.2.1 X.2.2.2.2.1 hP hD hS _ he hc b hk (zw_use X.2.2.2.2.2.1.1 hq rfl) (fun _ h => h) hfin (X.2.2.2.2.2.2.2.2.2.2.2.trans hnm1) hcl hty n1 n2 (by rw [List.length_map]; exact hbl) hdg K
      · exact nomatch h
    · exact nomatch h
  · exact nomatch h
theorem qJ_compact (X : qX p s m meth c G T0 A own nm cc nL ret) {ix q : Nat} (hdg : decode cc pc = .ok (.getstatic ix, 3)) (hq : lw_tbl[q]? = some (.fieldLink own ix "java/lang/String" "COMPACT_STRINGS" "Z")) (kk : qJ2 p l e R s m args below meth c Q G T0 A aq0 nL cF sF o1 o2 T (pc + 3) lv (zi 1 :: st)) : qJ2 p l e R s m args below meth c Q G T0 A aq0 nL cF sF o1 o2 T pc lv st :=
  qJ_st kk (fun a b => ⟨qv_cons trivial a, b⟩) (fun aq ls H locs hl hP hD hS h5 hs k2 => va_gets X.1 X.2.1 X.2.2.2.2.2.1.2.2.2.2.2.1 hS X.2.2.2.1 (zw_use X.2.2.2.2.2.1.1 hq rfl) (fun _ h => h) hdg (k2 ls hl))
theorem qJ_ones (X : qX p s m meth c G T0 A own nm cc nL ret) {ix q : Nat} (hdg : decode cc pc = .ok (.getstatic ix, 3)) (hq : lw_tbl[q]? = some (.fieldLink own ix "java/lang/Integer" "DigitOnes" "[B")) (kk : qJ2 p l e R s m args below meth c Q G T0 A aq0 nL cF sF o1 o2 T (pc + 3) lv (za 9 0 0 :: st)) : qJ2 p l e R s m args below meth c Q G T0 A aq0 nL cF sF o1 o2 T pc lv st :=
  qJ_st kk (fun a b => ⟨qv_cons (Or.inr (Or.inr ⟨rfl, by decide, rfl⟩)) a, b⟩) (fun aq ls H locs hl hP hD hS h5 hs k2 => va_gets X.1 X.2.1 X.2.2.2.2.2.1.2.2.2.2.1.1.1 hS X.2.2.2.1 (zw_use X.2.2.2.2.2.1.1 hq rfl) (fun _ h => h) hdg (k2 ls hl))
theorem qJ_tens (X : qX p s m meth c G T0 A own nm cc nL ret) {ix q : Nat} (hdg : decode cc pc = .ok (.getstatic ix, 3)) (hq : lw_tbl[q]? = some (.fieldLink own ix "java/lang/Integer" "DigitTens" "[B")) (kk : qJ2 p l e R s m args below meth c Q G T0 A aq0 nL cF sF o1 o2 T (pc + 3) lv (za 9 1 0 :: st)) : qJ2 p l e R s m args below meth c Q G T0 A aq0 nL cF sF o1 o2 T pc lv st :=
  qJ_st kk (fun a b => ⟨qv_cons (Or.inr (Or.inr ⟨rfl, by decide, rfl⟩)) a, b⟩) (fun aq ls H locs hl hP hD hS h5 hs k2 => va_gets X.1 X.2.1 X.2.2.2.2.2.1.2.2.2.2.1.2.1 hS X.2.2.2.1 (zw_use X.2.2.2.2.2.1.1 hq rfl) (fun _ h => h) hdg (k2 ls hl))
end QC

/-! THE LAW'S LEVEL 1: the concrete picture, the judgement, plain rows -/
def qad (G : zG) (aq : Nat → Nat) : zR → Nat := fun r => if r.1 = 8 then aq r.2.1 else G.2.2.1 r
theorem qad_8 (G : zG) (aq : Nat → Nat) (k o : Nat) : qad G aq (8, k, o) = aq k := rfl
theorem qad_ne (G : zG) (aq : Nat → Nat) {r : zR} (h : r.1 ≠ 8) : qad G aq r = G.2.2.1 r := if_neg h
def qr_ok (n : Nat) (r : zR) : Prop := (r.1 = 8 ∧ r.2.1 < n ∧ r.2.2 = 0) ∨ zr_ok r ∨ (r.1 = 9 ∧ r.2.1 < 2 ∧ r.2.2 = 0)
def qv_ok (n : Nat) : zV → Prop
  | .inr (.inl (some r)) => qr_ok n r
  | _ => True
def qc_ok (n : Nat) : qC → Prop
  | .inl (_, fs) => ∀ v, v ∈ fs → qv_ok n v
  | .inr (.inl (t, xs)) => (t = 0 ∨ t = 5 ∨ t = 6) ∧ xs.length ≤ 1000000 ∧ (t = 5 → ∀ x, x ∈ xs → x.toInt8.toInt32 = x)
  | .inr (.inr l) => l.length ≤ 1000 ∧ ∀ r, some r ∈ l → r.1 = 8 ∧ r.2.1 < n ∧ r.2.2 = 0
theorem qr_up {n m : Nat} {r : zR} (h : n ≤ m) (hr : qr_ok n r) : qr_ok m r := hr.elim (fun q => Or.inl ⟨q.1, Nat.lt_of_lt_of_le q.2.1 h, q.2.2⟩) Or.inr
theorem qv_up {n m : Nat} {v : zV} (h : n ≤ m) (hv : qv_ok n v) : qv_ok m v := by
  match v, hv with
  | .inl x, _ => trivial
  | .inr (.inl none), _ => trivial
  | .inr (.inl (some r)), hv => exact qr_up h hv
  | .inr (.inr x), _ => trivial
theorem qc_up {n m : Nat} {c : qC} (h : n ≤ m) (hc : qc_ok n c) : qc_ok m c := by
  match c, hc with
  | .inl (ci, fs), hc => exact fun v hv => qv_up h (hc v hv)
  | .inr (.inl (t, xs)), hc => exact hc
  | .inr (.inr l), hc => exact ⟨hc.1, fun r hr => ⟨(hc.2 r hr).1, Nat.lt_of_lt_of_le (hc.2 r hr).2.1 h, (hc.2 r hr).2.2⟩⟩
def q_el (G : zG) (ad : zR → Nat) : qC → va_E
  | .inl (ci, fs) => .inr (ci, fs.map (zc ad))
  | .inr (.inl (t, xs)) => .inl (G.2.1 t, xs.length, .inl (fun i => xs.getD i 0))
  | .inr (.inr l) => .inl (G.2.1 7, l.length, .inr (.inr (.inr (.inr (fun i => (l.getD i none).map ad)))))
def qc_sl : qC → Nat
  | .inl (_, fs) => fs.length
  | .inr (.inl (_, xs)) => xs.length
  | .inr (.inr l) => l.length
def q_sl (w : qW) : Nat := (w.map qc_sl).sum
def q_ws (G : zG) (aq : Nat → Nat) (w : qW) : va_W := w.mapIdx (fun k c => (aq k, q_el G (qad G aq) c))
def q_all (G : zG) (aq : Nat → Nat) (S : zS) (w : qW) : va_W := zt_ws G S ++ q_ws G aq w
theorem qzc {n : Nat} {G : zG} {aq aq' : Nat → Nat} (h : ∀ k, k < n → aq' k = aq k) {v : zV} (hv : qv_ok n v) : zc (qad G aq') v = zc (qad G aq) v := by
  match v, hv with
  | .inl x, _ => rfl
  | .inr (.inl none), _ => rfl
  | .inr (.inl (some r)), hv =>
    refine congrArg Value.ref ?_
    unfold qad
    by_cases e : r.1 = 8
    · rw [if_pos e, if_pos e]
      rcases hv with q | q | q
      · exact h _ q.2.1
      · rcases q with q | q | q
        · exact absurd (zt_all_cd r q).2 (by omega)
        · rw [q] at e; exact absurd e (by decide)
        · rcases q.1 with z | z <;> omega
      · omega
    · rw [if_neg e, if_neg e]
  | .inr (.inr (.inl x)), _ => rfl
  | .inr (.inr (.inr (.inl x))), _ => rfl
  | .inr (.inr (.inr (.inr x))), _ => rfl
theorem qzc_l {n : Nat} {G : zG} {aq aq' : Nat → Nat} (h : ∀ k, k < n → aq' k = aq k) {st : List zV} (hs : ∀ v, v ∈ st → qv_ok n v) : st.map (zc (qad G aq')) = st.map (zc (qad G aq)) := List.map_congr_left (fun v hv => qzc h (hs v hv))
theorem qzc_p {n : Nat} {G : zG} {aq aq' : Nat → Nat} (h : ∀ k, k < n → aq' k = aq k) {lv : zL} (hv : ∀ (j : Nat) (v : zV), zl_get lv j = some v → qv_ok n v) {ls : Array Slot} {nL : Nat} (hl : lv_has ls nL (zl_pairs (qad G aq) 0 lv)) : lv_has ls nL (zl_pairs (qad G aq') 0 lv) := lv_mono hl (fun x hx => by
  obtain ⟨j, v, e4, e5⟩ := zl_mem0.mp hx
  rw [e4, qzc h (hv j v e5)]
  exact zl_mem0.mpr ⟨j, v, rfl, e5⟩)
theorem q_el_eq {n : Nat} {G : zG} {aq aq' : Nat → Nat} (h : ∀ k, k < n → aq' k = aq k) {c : qC} (hc : qc_ok n c) : q_el G (qad G aq') c = q_el G (qad G aq) c := by
  match c, hc with
  | .inl (ci, fs), hc => exact congrArg (fun x => (Sum.inr (ci, x) : va_E)) (qzc_l h hc)
  | .inr (.inl (t, xs)), _ => rfl
  | .inr (.inr l), hc =>
    have e : (fun i => (l.getD i none).map (qad G aq')) = (fun i => (l.getD i none).map (qad G aq)) := by
      funext i
      cases hg : l.getD i none with
      | none => rfl
      | some r =>
        have : some r ∈ l := by
          rw [List.getD_eq_getElem?_getD] at hg
          cases h2 : l[i]? with
          | none => rw [h2] at hg; exact nomatch hg
          | some x =>
            rw [h2] at hg
            have hg : x = some r := hg
            rw [← hg]
            exact List.mem_of_getElem? h2
        have q := hc.2 r this
        refine congrArg some ?_
        unfold qad
        rw [if_pos q.1, if_pos q.1]
        exact h _ q.2.1
    show (Sum.inl (G.2.1 7, l.length, Sum.inr (Sum.inr (Sum.inr (Sum.inr (fun i => (l.getD i none).map (qad G aq')))))) : va_E) = _
    rw [e]
    rfl
theorem q_ws_at {G : zG} {aq : Nat → Nat} {w : qW} {k : Nat} {c : qC} (h : w[k]? = some c) : (q_ws G aq w)[k]? = some (aq k, q_el G (qad G aq) c) := by
  unfold q_ws
  rw [List.getElem?_mapIdx, h]
  rfl
theorem q_all_at {G : zG} {aq : Nat → Nat} {S : zS} {w : qW} {k : Nat} {c : qC} (h : w[k]? = some c) : (q_all G aq S w)[zt_all.length + k]? = some (aq k, q_el G (qad G aq) c) := by
  unfold q_all
  have e : (zt_ws G S).length = zt_all.length := by unfold zt_ws; rw [List.length_map]
  rw [List.getElem?_append_right (by omega), e, Nat.add_sub_cancel_left]
  exact q_ws_at h
theorem q_all_set {G : zG} {aq : Nat → Nat} {S : zS} {w : qW} {k : Nat} {c : qC} : (q_all G aq S w).set (zt_all.length + k) (aq k, q_el G (qad G aq) c) = q_all G aq S (w.set k c) := by
  unfold q_all
  have e : (zt_ws G S).length = zt_all.length := by unfold zt_ws; rw [List.length_map]
  rw [List.set_append_right _ _ (by omega), e, Nat.add_sub_cancel_left]
  congr 1
  unfold q_ws
  refine List.ext_getElem? (fun i => ?_)
  rw [List.getElem?_set, List.getElem?_mapIdx, List.getElem?_mapIdx, List.getElem?_set, List.length_mapIdx]
  by_cases e : k = i
  · subst e
    rw [if_pos rfl, if_pos rfl]
    split <;> rfl
  · rw [if_neg e, if_neg e]
theorem q_ws_push {G : zG} {aq aq' : Nat → Nat} {w v : qW} (hw : ∀ x, x ∈ w → qc_ok w.length x) (h : ∀ k, k < w.length → aq' k = aq k) : q_ws G aq' (w ++ v) = q_ws G aq w ++ v.mapIdx (fun i c => (aq' (w.length + i), q_el G (qad G aq') c)) := by
  unfold q_ws
  rw [List.mapIdx_append]
  congr 1
  · refine List.ext_getElem? (fun i => ?_)
    rw [List.getElem?_mapIdx, List.getElem?_mapIdx]
    cases hi : w[i]? with
    | none => rfl
    | some x =>
      have hlt : i < w.length := (List.getElem?_eq_some_iff.mp hi).1
      show some (aq' i, q_el G (qad G aq') x) = some (aq i, q_el G (qad G aq) x)
      rw [h i hlt, q_el_eq h (hw x (List.mem_of_getElem? hi))]
  · refine List.ext_getElem? (fun i => ?_)
    rw [List.getElem?_mapIdx, List.getElem?_mapIdx]
    cases hi : v[i]? with
    | none => rfl
    | some x => simp only [Option.map_some, Nat.add_comm]
theorem q_sl_app (w v : qW) : q_sl (w ++ v) = q_sl w + q_sl v := by
  unfold q_sl
  rw [List.map_append, List.sum_append]
theorem q_sl_one (c : qC) : q_sl [c] = qc_sl c := by
  show qc_sl c + 0 = _
  rw [Nat.add_zero]
theorem q_sl_set : ∀ (w : qW) (k : Nat) (c c0 : qC), w[k]? = some c0 → qc_sl c = qc_sl c0 → q_sl (w.set k c) = q_sl w := by
  intro w
  induction w with
  | nil => intro k c c0 h; cases h
  | cons x w ih =>
    intro k c c0 h e
    cases k with
    | zero =>
      have h : x = c0 := Option.some.inj h
      subst h
      show q_sl (c :: w) = q_sl (x :: w)
      unfold q_sl
      rw [List.map_cons, List.map_cons, List.sum_cons, List.sum_cons, e]
    | succ k =>
      have := ih k c c0 h e
      unfold q_sl at this ⊢
      simp only [List.set_cons_succ, List.map_cons, List.sum_cons, this]
/-- an array over arrays of numbers can be made -/
def va_AOA (t : FieldType) (U : State) : Prop := (Cond.arrayOver (.array t)).before #[] U = true
theorem va_AOA.use {t : FieldType} {A : Array Value} {U : State} (h : va_AOA t U) : (Cond.arrayOver (.array t)).before A U = true := h
/-- what a body knows from its start; A: the addresses that the law may write -/
def qX (p : Program) (s : State) (m : MethodId) (meth : Method) (c : Code) (G : zG) (T0 : qS) (A : Nat → Prop) (own nm : String) (cc : ByteArray) (nL : Nat) (ret : Option FieldType) : Prop :=
  p.tables.exec = Jvm.exec ∧ c.code = cc ∧ c.maxLocals = nL ∧ s.vm.findClass own = some m.cls ∧ va_K G.1 vwCl (zt_tys G) s ∧ zw_F G T0.1 A s s.heap ∧ zI G ∧ meth.sig.returnType = ret ∧ meth.locks = false ∧ (∀ q : Nat, s.heap.size ≤ q → A q) ∧ va_AOA .int s ∧ meth.name = nm
/-- what is well formed -/
def qWf (T : qS) : Prop := ∀ x, x ∈ T.2 → qc_ok T.2.length x
def qJ2 (p : Program) (l : Launch) (e : Env) (R : Room) (s : State) (m : MethodId) (args : Array Value) (below : List Frame) (meth : Method) (c : Code) (Q : State → Prop) (G : zG) (T0 : qS) (A : Nat → Prop) (aq0 : Nat → Nat) (nL cF sF o1 o2 : Nat) (T : qS) (pc : Nat) (lv : zL) (st : List zV) : Prop :=
  (T.2.length ≤ cF ∧ q_sl T.2 ≤ sF) ∧ ∀ (aq : Nat → Nat) (ls : Array Slot) (H : Heap) (locs : List Loc), (∀ k, k < T0.2.length → aq k = aq0 k) → lv_has ls nL (zl_pairs (qad G aq) 0 lv) → va_P G.1 vwCl (q_all G aq T.1 T.2) H → va_D A (q_all G aq T.1 T.2) → va_S A s.heap H locs →
    (T.1.1 5 = T0.1.1 5 ∧ T0.2.length ≤ T.2.length ∧ q_sl T0.2 ≤ q_sl T.2 ∧ qWf T) → (∀ v, v ∈ st → qv_ok T.2.length v) → (∀ (j : Nat) (v : zV), zl_get lv j = some v → qv_ok T.2.length v) → W p l e R s m args below meth c H locs (T.2.length - T0.2.length + o1) (q_sl T.2 - q_sl T0.2 + o2) Q (F0 m pc ls (st.map (zc (qad G aq))))
theorem qv_cons {n : Nat} {v : zV} {st : List zV} (h : qv_ok n v) (hs : ∀ w, w ∈ st → qv_ok n w) : ∀ w, w ∈ v :: st → qv_ok n w := fun w hw => (List.mem_cons.mp hw).elim (fun e => by rw [e]; exact h) (hs w)
theorem qv_tl {n : Nat} {v : zV} {st : List zV} (hs : ∀ w, w ∈ v :: st → qv_ok n w) : ∀ w, w ∈ st → qv_ok n w := fun w hw => hs w (List.mem_cons_of_mem _ hw)
theorem qv_hd {n : Nat} {v : zV} {st : List zV} (hs : ∀ w, w ∈ v :: st → qv_ok n w) : qv_ok n v := hs v List.mem_cons_self
theorem qv_set {n : Nat} {lv : zL} {i : Nat} {v : zV} (h : qv_ok n v) (hv : ∀ (j : Nat) (w : zV), zl_get lv j = some w → qv_ok n w) : ∀ (j : Nat) (w : zV), zl_get (zl_set lv i (some v)) j = some w → qv_ok n w := by
  intro j w hw
  rcases zl_getset _ _ _ _ _ hw with ⟨-, e⟩ | ⟨-, e, -⟩
  · rw [← Option.some.inj e]; exact h
  · exact hv j w e
section QA
variable {p : Program} {l : Launch} {e : Env} {R : Room} {s : State} {m : MethodId} {args : Array Value} {below : List Frame} {meth : Method} {c : Code} {Q : State → Prop} {G : zG} {T0 : qS} {A : Nat → Prop} {aq0 : Nat → Nat} {own nm : String} {cc : ByteArray} {nL : Nat} {ret : Option FieldType} {cF sF o1 o2 : Nat} {T : qS} {pc : Nat} {lv : zL} {st : List zV}
/-- an instruction that moves nothing in the world -/
theorem qJ_st {pc2 : Nat} {lv2 : zL} {st2 : List zV} (kk : qJ2 p l e R s m args below meth c Q G T0 A aq0 nL cF sF o1 o2 T pc2 lv2 st2) (hs : (∀ v, v ∈ st → qv_ok T.2.length v) → (∀ (j : Nat) (v : zV), zl_get lv j = some v → qv_ok T.2.length v) → (∀ v, v ∈ st2 → qv_ok T.2.length v) ∧ ∀ (j : Nat) (v : zV), zl_get lv2 j = some v → qv_ok T.2.length v)
    (hW : ∀ (aq : Nat → Nat) (ls : Array Slot) (H : Heap) (locs : List Loc), lv_has ls nL (zl_pairs (qad G aq) 0 lv) → va_P G.1 vwCl (q_all G aq T.1 T.2) H → va_D A (q_all G aq T.1 T.2) → va_S A s.heap H locs → T.1.1 5 = T0.1.1 5 → (∀ v, v ∈ st → qv_ok T.2.length v) → (∀ ls2 : Array Slot, lv_has ls2 nL (zl_pairs (qad G aq) 0 lv2) → W p l e R s m args below meth c H locs (T.2.length - T0.2.length + o1) (q_sl T.2 - q_sl T0.2 + o2) Q (F0 m pc2 ls2 (st2.map (zc (qad G aq))))) → W p l e R s m args below meth c H locs (T.2.length - T0.2.length + o1) (q_sl T.2 - q_sl T0.2 + o2) Q (F0 m pc ls (st.map (zc (qad G aq))))) : qJ2 p l e R s m args below meth c Q G T0 A aq0 nL cF sF o1 o2 T pc lv st :=
  ⟨kk.1, fun aq ls H locs ha hl hP hD hS h5 h4 hv => hW aq ls H locs hl hP hD hS h5.1 h4 (fun ls2 hl2 => kk.2 aq ls2 H locs ha hl2 hP hD hS h5 (hs h4 hv).1 (hs h4 hv).2)⟩
theorem qJ_iload_n (X : qX p s m meth c G T0 A own nm cc nL ret) {k : Fin 4} {x : Int32} (hdg : decode cc pc = .ok (.iload_n k, 1)) (h : zl_get lv k.val = some (zi x)) (kk : qJ2 p l e R s m args below meth c Q G T0 A aq0 nL cF sF o1 o2 T (pc + 1) lv (zi x :: st)) : qJ2 p l e R s m args below meth c Q G T0 A aq0 nL cF sF o1 o2 T pc lv st :=
  qJ_st kk (fun a b => ⟨qv_cons trivial a, b⟩) (fun aq ls H locs hl hP hD hS h5 hs k2 => lv_iload_n X.1 X.2.1 hdg rfl (zl_at hl h) (k2 ls hl))
theorem qJ_iload (X : qX p s m meth c G T0 A own nm cc nL ret) {k : Nat} {x : Int32} (hdg : decode cc pc = .ok (.iload k, 2)) (h : zl_get lv k = some (zi x)) (kk : qJ2 p l e R s m args below meth c Q G T0 A aq0 nL cF sF o1 o2 T (pc + 2) lv (zi x :: st)) : qJ2 p l e R s m args below meth c Q G T0 A aq0 nL cF sF o1 o2 T pc lv st :=
  qJ_st kk (fun a b => ⟨qv_cons trivial a, b⟩) (fun aq ls H locs hl hP hD hS h5 hs k2 => lv_iload X.1 X.2.1 hdg (zl_at hl h) (k2 ls hl))
theorem qJ_aload_n (X : qX p s m meth c G T0 A own nm cc nL ret) {k : Fin 4} {x : zR} (hdg : decode cc pc = .ok (.aload_n k, 1)) (h : zl_get lv k.val = some (.inr (.inl (some x)))) (kk : qJ2 p l e R s m args below meth c Q G T0 A aq0 nL cF sF o1 o2 T (pc + 1) lv (.inr (.inl (some x)) :: st)) : qJ2 p l e R s m args below meth c Q G T0 A aq0 nL cF sF o1 o2 T pc lv st :=
  qJ_st kk (fun a b => ⟨qv_cons (b _ _ h) a, b⟩) (fun aq ls H locs hl hP hD hS h5 hs k2 => lv_aload_n X.1 X.2.1 hdg rfl (zl_at hl h) (k2 ls hl))
theorem qJ_aload (X : qX p s m meth c G T0 A own nm cc nL ret) {k : Nat} {x : zR} (hdg : decode cc pc = .ok (.aload k, 2)) (h : zl_get lv k = some (.inr (.inl (some x)))) (kk : qJ2 p l e R s m args below meth c Q G T0 A aq0 nL cF sF o1 o2 T (pc + 2) lv (.inr (.inl (some x)) :: st)) : qJ2 p l e R s m args below meth c Q G T0 A aq0 nL cF sF o1 o2 T pc lv st :=
  qJ_st kk (fun a b => ⟨qv_cons (b _ _ h) a, b⟩) (fun aq ls H locs hl hP hD hS h5 hs k2 => lv_aload X.1 X.2.1 hdg (zl_at hl h) (k2 ls hl))
theorem qJ_istore_n (X : qX p s m meth c G T0 A own nm cc nL ret) {k : Fin 4} {x : Int32} (hdg : decode cc pc = .ok (.istore_n k, 1)) (hn : k.val < nL) (kk : qJ2 p l e R s m args below meth c Q G T0 A aq0 nL cF sF o1 o2 T (pc + 1) (zl_set lv k.val (some (zi x))) st) : qJ2 p l e R s m args below meth c Q G T0 A aq0 nL cF sF o1 o2 T pc lv (zi x :: st) :=
  qJ_st kk (fun a b => ⟨qv_tl a, qv_set trivial b⟩) (fun aq ls H locs hl hP hD hS h5 hs k2 => lv_istore_n X.1 X.2.1 hdg rfl hl hn rfl (fun ls2 hl2 => k2 ls2 (lv_mono hl2 (fun q hq => zl_stored hq))))
theorem qJ_istore (X : qX p s m meth c G T0 A own nm cc nL ret) {k : Nat} {x : Int32} (hdg : decode cc pc = .ok (.istore k, 2)) (hn : k < nL) (kk : qJ2 p l e R s m args below meth c Q G T0 A aq0 nL cF sF o1 o2 T (pc + 2) (zl_set lv k (some (zi x))) st) : qJ2 p l e R s m args below meth c Q G T0 A aq0 nL cF sF o1 o2 T pc lv (zi x :: st) :=
  qJ_st kk (fun a b => ⟨qv_tl a, qv_set trivial b⟩) (fun aq ls H locs hl hP hD hS h5 hs k2 => lv_istore X.1 X.2.1 hdg hl hn rfl (fun ls2 hl2 => k2 ls2 (lv_mono hl2 (fun q hq => zl_stored hq))))
theorem qJ_astore_n (X : qX p s m meth c G T0 A own nm cc nL ret) {k : Fin 4} {x : zR} (hdg : decode cc pc = .ok (.astore_n k, 1)) (hn : k.val < nL) (kk : qJ2 p l e R s m args below meth c Q G T0 A aq0 nL cF sF o1 o2 T (pc + 1) (zl_set lv k.val (some (.inr (.inl (some x))))) st) : qJ2 p l e R s m args below meth c Q G T0 A aq0 nL cF sF o1 o2 T pc lv (.inr (.inl (some x)) :: st) :=
  qJ_st kk (fun a b => ⟨qv_tl a, qv_set (qv_hd a) b⟩) (fun aq ls H locs hl hP hD hS h5 hs k2 => lv_astore_n X.1 X.2.1 hdg rfl hl hn rfl (fun ls2 hl2 => k2 ls2 (lv_mono hl2 (fun q hq => zl_stored hq))))
theorem qJ_astore (X : qX p s m meth c G T0 A own nm cc nL ret) {k : Nat} {x : zR} (hdg : decode cc pc = .ok (.astore k, 2)) (hn : k < nL) (kk : qJ2 p l e R s m args below meth c Q G T0 A aq0 nL cF sF o1 o2 T (pc + 2) (zl_set lv k (some (.inr (.inl (some x))))) st) : qJ2 p l e R s m args below meth c Q G T0 A aq0 nL cF sF o1 o2 T pc lv (.inr (.inl (some x)) :: st) :=
  qJ_st kk (fun a b => ⟨qv_tl a, qv_set (qv_hd a) b⟩) (fun aq ls H locs hl hP hD hS h5 hs k2 => lv_astore X.1 X.2.1 hdg hl hn rfl (fun ls2 hl2 => k2 ls2 (lv_mono hl2 (fun q hq => zl_stored hq))))
theorem qJ_iinc (X : qX p s m meth c G T0 A own nm cc nL ret) {j : Nat} {n : Int} {x k : Int32} (hdg : decode cc pc = .ok (.iinc j n, 3)) (hn : j < nL) (hk : Int32.ofInt n = k) (h : zl_get lv j = some (zi x)) (kk : qJ2 p l e R s m args below meth c Q G T0 A aq0 nL cF sF o1 o2 T (pc + 3) (zl_set lv j (some (zi (x + k)))) st) : qJ2 p l e R s m args below meth c Q G T0 A aq0 nL cF sF o1 o2 T pc lv st :=
  qJ_st kk (fun a b => ⟨a, qv_set trivial b⟩) (fun aq ls H locs hl hP hD hS h5 hs k2 => by
    obtain ⟨q, hq⟩ := zl_ix (ad := qad G aq) h
    exact lv_iinc X.1 X.2.1 hdg hl hq (by rw [hk]) hn rfl (fun ls2 hl2 => k2 ls2 (lv_mono hl2 (fun q hq => zl_stored hq))))
theorem qJ_iconst (X : qX p s m meth c G T0 A own nm cc nL ret) {n : Int} {k : Int32} (hdg : decode cc pc = .ok (.iconst n, 1)) (hk : Int32.ofInt n = k) (kk : qJ2 p l e R s m args below meth c Q G T0 A aq0 nL cF sF o1 o2 T (pc + 1) lv (zi k :: st)) : qJ2 p l e R s m args below meth c Q G T0 A aq0 nL cF sF o1 o2 T pc lv st :=
  qJ_st kk (fun a b => ⟨qv_cons trivial a, b⟩) (fun aq ls H locs hl hP hD hS h5 hs k2 => lv_iconst X.1 X.2.1 hdg hk (k2 ls hl))
theorem qJ_bipush (X : qX p s m meth c G T0 A own nm cc nL ret) {n : Int} {k : Int32} (hdg : decode cc pc = .ok (.bipush n, 2)) (hk : (Int8.ofInt n).toInt32 = k) (kk : qJ2 p l e R s m args below meth c Q G T0 A aq0 nL cF sF o1 o2 T (pc + 2) lv (zi k :: st)) : qJ2 p l e R s m args below meth c Q G T0 A aq0 nL cF sF o1 o2 T pc lv st :=
  qJ_st kk (fun a b => ⟨qv_cons trivial a, b⟩) (fun aq ls H locs hl hP hD hS h5 hs k2 => lv_bipush X.1 X.2.1 hdg hk (k2 ls hl))
theorem qJ_sipush (X : qX p s m meth c G T0 A own nm cc nL ret) {n : Int} {k : Int32} (hdg : decode cc pc = .ok (.sipush n, 3)) (hk : (Int16.ofInt n).toInt32 = k) (kk : qJ2 p l e R s m args below meth c Q G T0 A aq0 nL cF sF o1 o2 T (pc + 3) lv (zi k :: st)) : qJ2 p l e R s m args below meth c Q G T0 A aq0 nL cF sF o1 o2 T pc lv st :=
  qJ_st kk (fun a b => ⟨qv_cons trivial a, b⟩) (fun aq ls H locs hl hP hD hS h5 hs k2 => lv_sipush X.1 X.2.1 hdg hk (k2 ls hl))
theorem qJ_null (X : qX p s m meth c G T0 A own nm cc nL ret) (hdg : decode cc pc = .ok (.aconst_null, 1)) (kk : qJ2 p l e R s m args below meth c Q G T0 A aq0 nL cF sF o1 o2 T (pc + 1) lv (zn :: st)) : qJ2 p l e R s m args below meth c Q G T0 A aq0 nL cF sF o1 o2 T pc lv st :=
  qJ_st kk (fun a b => ⟨qv_cons trivial a, b⟩) (fun aq ls H locs hl hP hD hS h5 hs k2 => lv_null X.1 X.2.1 hdg (k2 ls hl))
theorem qJ_ldc (X : qX p s m meth c G T0 A own nm cc nL ret) {ix q : Nat} {k : Int32} (hdg : decode cc pc = .ok (.ldc ix, 2)) (hq : lw_tbl[q]? = some (.constant own ix k)) (kk : qJ2 p l e R s m args below meth c Q G T0 A aq0 nL cF sF o1 o2 T (pc + 2) lv (zi k :: st)) : qJ2 p l e R s m args below meth c Q G T0 A aq0 nL cF sF o1 o2 T pc lv st :=
  qJ_st kk (fun a b => ⟨qv_cons trivial a, b⟩) (fun aq ls H locs hl hP hD hS h5 hs k2 => lv_ldc X.1 X.2.1 X.2.2.2.1 (zw_use X.2.2.2.2.2.1.1 hq rfl) hdg (k2 ls hl))
theorem qJ_ldcS (X : qX p s m meth c G T0 A own nm cc nL ret) {ix q t : Nat} {tx : String} (hdg : decode cc pc = .ok (.ldc ix, 2)) (hq : zt_srs[q]? = some (own, ix, t)) (ht : zt_strs[t]? = some tx) (ht2 : t ∈ zt_av) (kk : qJ2 p l e R s m args below meth c Q G T0 A aq0 nL cF sF o1 o2 T (pc + 2) lv (za 6 t 0 :: st)) : qJ2 p l e R s m args below meth c Q G T0 A aq0 nL cF sF o1 o2 T pc lv st :=
  qJ_st kk (fun a b => ⟨qv_cons (Or.inr (Or.inl (Or.inr (Or.inr ⟨Or.inl rfl, ht2, rfl⟩)))) a, b⟩) (fun aq ls H locs hl hP hD hS h5 hs k2 => va_ldcS X.1 X.2.1 X.2.2.2.1 (X.2.2.2.2.2.1.2.1 q own ix t tx hq ht) hdg (k2 ls hl))
theorem qJ_dup (X : qX p s m meth c G T0 A own nm cc nL ret) {r : zR} (hdg : decode cc pc = .ok (.dup, 1)) (kk : qJ2 p l e R s m args below meth c Q G T0 A aq0 nL cF sF o1 o2 T (pc + 1) lv (.inr (.inl (some r)) :: .inr (.inl (some r)) :: st)) : qJ2 p l e R s m args below meth c Q G T0 A aq0 nL cF sF o1 o2 T pc lv (.inr (.inl (some r)) :: st) :=
  qJ_st kk (fun a b => ⟨qv_cons (qv_hd a) a, b⟩) (fun aq ls H locs hl hP hD hS h5 hs k2 => lv_dup X.1 X.2.1 hdg rfl (k2 ls hl))
theorem qJ_dup2 (X : qX p s m meth c G T0 A own nm cc nL ret) {x : Int32} {r : zR} (hdg : decode cc pc = .ok (.dup2, 1)) (kk : qJ2 p l e R s m args below meth c Q G T0 A aq0 nL cF sF o1 o2 T (pc + 1) lv (zi x :: .inr (.inl (some r)) :: zi x :: .inr (.inl (some r)) :: st)) : qJ2 p l e R s m args below meth c Q G T0 A aq0 nL cF sF o1 o2 T pc lv (zi x :: .inr (.inl (some r)) :: st) :=
  qJ_st kk (fun a b => ⟨qv_cons trivial (qv_cons (qv_hd (qv_tl a)) a), b⟩) (fun aq ls H locs hl hP hD hS h5 hs k2 => lv_dup2_11 X.1 X.2.1 hdg rfl rfl (k2 ls hl))
theorem qJ_dup_x1 (X : qX p s m meth c G T0 A own nm cc nL ret) {x : Int32} {r : zR} (hdg : decode cc pc = .ok (.dup_x1, 1)) (kk : qJ2 p l e R s m args below meth c Q G T0 A aq0 nL cF sF o1 o2 T (pc + 1) lv (zi x :: .inr (.inl (some r)) :: zi x :: st)) : qJ2 p l e R s m args below meth c Q G T0 A aq0 nL cF sF o1 o2 T pc lv (zi x :: .inr (.inl (some r)) :: st) :=
  qJ_st kk (fun a b => ⟨qv_cons trivial (qv_cons (qv_hd (qv_tl a)) (qv_cons trivial (qv_tl (qv_tl a)))), b⟩) (fun aq ls H locs hl hP hD hS h5 hs k2 => lv_dup_x1 X.1 X.2.1 hdg rfl rfl (k2 ls hl))
theorem qJ_pop (X : qX p s m meth c G T0 A own nm cc nL ret) {v : zV} (hv : zl_wide (some v) = false) (hdg : decode cc pc = .ok (.pop, 1)) (kk : qJ2 p l e R s m args below meth c Q G T0 A aq0 nL cF sF o1 o2 T (pc + 1) lv st) : qJ2 p l e R s m args below meth c Q G T0 A aq0 nL cF sF o1 o2 T pc lv (v :: st) :=
  qJ_st kk (fun a b => ⟨qv_tl a, b⟩) (fun aq ls H locs hl hP hD hS h5 hs k2 => lv_pop X.1 X.2.1 hdg (zc_cat1 _ v hv) (k2 ls hl))
theorem qJ_goto (X : qX p s m meth c G T0 A own nm cc nL ret) {off : Int} {t : Nat} (hdg : decode cc pc = .ok (.goto off, 3)) (ht : (pc : Int) + off = (t : Int)) (kk : qJ2 p l e R s m args below meth c Q G T0 A aq0 nL cF sF o1 o2 T t lv st) : qJ2 p l e R s m args below meth c Q G T0 A aq0 nL cF sF o1 o2 T pc lv st :=
  qJ_st kk (fun a b => ⟨a, b⟩) (fun aq ls H locs hl hP hD hS h5 hs k2 => lv_goto X.1 X.2.1 hdg ht (k2 ls hl))
theorem qJ_ifnn (X : qX p s m meth c G T0 A own nm cc nL ret) {r : zR} {off : Int} {t : Nat} (hdg : decode cc pc = .ok (.ifnonnull off, 3)) (ht : (pc : Int) + off = (t : Int)) (kk : qJ2 p l e R s m args below meth c Q G T0 A aq0 nL cF sF o1 o2 T t lv st) : qJ2 p l e R s m args below meth c Q G T0 A aq0 nL cF sF o1 o2 T pc lv (.inr (.inl (some r)) :: st) :=
  qJ_st kk (fun a b => ⟨qv_tl a, b⟩) (fun aq ls H locs hl hP hD hS h5 hs k2 => lv_ifnonnull X.1 X.2.1 hdg ht (k2 ls hl))
theorem qJ_iadd (X : qX p s m meth c G T0 A own nm cc nL ret) {x y : Int32} (hdg : decode cc pc = .ok (.iadd, 1)) (kk : qJ2 p l e R s m args below meth c Q G T0 A aq0 nL cF sF o1 o2 T (pc + 1) lv (zi (x + y) :: st)) : qJ2 p l e R s m args below meth c Q G T0 A aq0 nL cF sF o1 o2 T pc lv (zi y :: zi x :: st) :=
  qJ_st kk (fun a b => ⟨qv_cons trivial (qv_tl (qv_tl a)), b⟩) (fun aq ls H locs hl hP hD hS h5 hs k2 => lv_iadd X.1 X.2.1 hdg (k2 ls hl))
theorem qJ_isub (X : qX p s m meth c G T0 A own nm cc nL ret) {x y : Int32} (hdg : decode cc pc = .ok (.isub, 1)) (kk : qJ2 p l e R s m args below meth c Q G T0 A aq0 nL cF sF o1 o2 T (pc + 1) lv (zi (x - y) :: st)) : qJ2 p l e R s m args below meth c Q G T0 A aq0 nL cF sF o1 o2 T pc lv (zi y :: zi x :: st) :=
  qJ_st kk (fun a b => ⟨qv_cons trivial (qv_tl (qv_tl a)), b⟩) (fun aq ls H locs hl hP hD hS h5 hs k2 => lv_isub X.1 X.2.1 hdg (k2 ls hl))
theorem qJ_imul (X : qX p s m meth c G T0 A own nm cc nL ret) {x y : Int32} (hdg : decode cc pc = .ok (.imul, 1)) (kk : qJ2 p l e R s m args below meth c Q G T0 A aq0 nL cF sF o1 o2 T (pc + 1) lv (zi (x * y) :: st)) : qJ2 p l e R s m args below meth c Q G T0 A aq0 nL cF sF o1 o2 T pc lv (zi y :: zi x :: st) :=
  qJ_st kk (fun a b => ⟨qv_cons trivial (qv_tl (qv_tl a)), b⟩) (fun aq ls H locs hl hP hD hS h5 hs k2 => lv_imul X.1 X.2.1 hdg (k2 ls hl))
theorem qJ_iand (X : qX p s m meth c G T0 A own nm cc nL ret) {x y : Int32} (hdg : decode cc pc = .ok (.iand, 1)) (kk : qJ2 p l e R s m args below meth c Q G T0 A aq0 nL cF sF o1 o2 T (pc + 1) lv (zi (x &&& y) :: st)) : qJ2 p l e R s m args below meth c Q G T0 A aq0 nL cF sF o1 o2 T pc lv (zi y :: zi x :: st) :=
  qJ_st kk (fun a b => ⟨qv_cons trivial (qv_tl (qv_tl a)), b⟩) (fun aq ls H locs hl hP hD hS h5 hs k2 => lv_iand X.1 X.2.1 hdg (k2 ls hl))
theorem qJ_ior (X : qX p s m meth c G T0 A own nm cc nL ret) {x y : Int32} (hdg : decode cc pc = .ok (.ior, 1)) (kk : qJ2 p l e R s m args below meth c Q G T0 A aq0 nL cF sF o1 o2 T (pc + 1) lv (zi (x ||| y) :: st)) : qJ2 p l e R s m args below meth c Q G T0 A aq0 nL cF sF o1 o2 T pc lv (zi y :: zi x :: st) :=
  qJ_st kk (fun a b => ⟨qv_cons trivial (qv_tl (qv_tl a)), b⟩) (fun aq ls H locs hl hP hD hS h5 hs k2 => lv_ior X.1 X.2.1 hdg (k2 ls hl))
theorem qJ_ishl (X : qX p s m meth c G T0 A own nm cc nL ret) {x y : Int32} (hdg : decode cc pc = .ok (.ishl, 1)) (kk : qJ2 p l e R s m args below meth c Q G T0 A aq0 nL cF sF o1 o2 T (pc + 1) lv (zi (x <<< (y &&& 31)) :: st)) : qJ2 p l e R s m args below meth c Q G T0 A aq0 nL cF sF o1 o2 T pc lv (zi y :: zi x :: st) :=
  qJ_st kk (fun a b => ⟨qv_cons trivial (qv_tl (qv_tl a)), b⟩) (fun aq ls H locs hl hP hD hS h5 hs k2 => lv_ishl X.1 X.2.1 hdg (k2 ls hl))
theorem qJ_ishr (X : qX p s m meth c G T0 A own nm cc nL ret) {x y : Int32} (hdg : decode cc pc = .ok (.ishr, 1)) (kk : qJ2 p l e R s m args below meth c Q G T0 A aq0 nL cF sF o1 o2 T (pc + 1) lv (zi (x >>> (y &&& 31)) :: st)) : qJ2 p l e R s m args below meth c Q G T0 A aq0 nL cF sF o1 o2 T pc lv (zi y :: zi x :: st) :=
  qJ_st kk (fun a b => ⟨qv_cons trivial (qv_tl (qv_tl a)), b⟩) (fun aq ls H locs hl hP hD hS h5 hs k2 => lv_ishr X.1 X.2.1 hdg (k2 ls hl))
theorem qJ_idiv (X : qX p s m meth c G T0 A own nm cc nL ret) {x y : Int32} (hdg : decode cc pc = .ok (.idiv, 1)) (hne : ¬ y = 0) (kk : qJ2 p l e R s m args below meth c Q G T0 A aq0 nL cF sF o1 o2 T (pc + 1) lv (zi (x / y) :: st)) : qJ2 p l e R s m args below meth c Q G T0 A aq0 nL cF sF o1 o2 T pc lv (zi y :: zi x :: st) :=
  qJ_st kk (fun a b => ⟨qv_cons trivial (qv_tl (qv_tl a)), b⟩) (fun aq ls H locs hl hP hD hS h5 hs k2 => lv_idiv X.1 X.2.1 hdg hne (k2 ls hl))
theorem qJ_irem (X : qX p s m meth c G T0 A own nm cc nL ret) {x y : Int32} (hdg : decode cc pc = .ok (.irem, 1)) (hne : ¬ y = 0) (kk : qJ2 p l e R s m args below meth c Q G T0 A aq0 nL cF sF o1 o2 T (pc + 1) lv (zi (x - x / y * y) :: st)) : qJ2 p l e R s m args below meth c Q G T0 A aq0 nL cF sF o1 o2 T pc lv (zi y :: zi x :: st) :=
  qJ_st kk (fun a b => ⟨qv_cons trivial (qv_tl (qv_tl a)), b⟩) (fun aq ls H locs hl hP hD hS h5 hs k2 => lv_irem X.1 X.2.1 hdg hne (k2 ls hl))
theorem qJ_ineg (X : qX p s m meth c G T0 A own nm cc nL ret) {x : Int32} (hdg : decode cc pc = .ok (.ineg, 1)) (kk : qJ2 p l e R s m args below meth c Q G T0 A aq0 nL cF sF o1 o2 T (pc + 1) lv (zi (-x) :: st)) : qJ2 p l e R s m args below meth c Q G T0 A aq0 nL cF sF o1 o2 T pc lv (zi x :: st) :=
  qJ_st kk (fun a b => ⟨qv_cons trivial (qv_tl a), b⟩) (fun aq ls H locs hl hP hD hS h5 hs k2 => lv_ineg X.1 X.2.1 hdg (k2 ls hl))
theorem qJ_i2b (X : qX p s m meth c G T0 A own nm cc nL ret) {x : Int32} (hdg : decode cc pc = .ok (.i2b, 1)) (kk : qJ2 p l e R s m args below meth c Q G T0 A aq0 nL cF sF o1 o2 T (pc + 1) lv (zi (x.toInt8.toInt32) :: st)) : qJ2 p l e R s m args below meth c Q G T0 A aq0 nL cF sF o1 o2 T pc lv (zi x :: st) :=
  qJ_st kk (fun a b => ⟨qv_cons trivial (qv_tl a), b⟩) (fun aq ls H locs hl hP hD hS h5 hs k2 => lv_i2b X.1 X.2.1 hdg rfl (k2 ls hl))
theorem qJ_i2c (X : qX p s m meth c G T0 A own nm cc nL ret) {x : Int32} (hdg : decode cc pc = .ok (.i2c, 1)) (kk : qJ2 p l e R s m args below meth c Q G T0 A aq0 nL cF sF o1 o2 T (pc + 1) lv (zi ((x.toUInt32 % 65536).toInt32) :: st)) : qJ2 p l e R s m args below meth c Q G T0 A aq0 nL cF sF o1 o2 T pc lv (zi x :: st) :=
  qJ_st kk (fun a b => ⟨qv_cons trivial (qv_tl a), b⟩) (fun aq ls H locs hl hP hD hS h5 hs k2 => lv_i2c X.1 X.2.1 hdg rfl (k2 ls hl))
theorem qJ_if (X : qX p s m meth c G T0 A own nm cc nL ret) {cnd : ClassFile.Cond} {x : Int32} {off : Int} {t : Nat} {out : qO} {tt ee : Option qO} (hdg : decode cc pc = .ok (.ifCond cnd off, 3)) (ht : (pc : Int) + off = (t : Int)) (h : qx_cond cnd x 0 tt ee = some out) (kt : tt = some out → qJ2 p l e R s m args below meth c Q G T0 A aq0 nL cF sF o1 o2 T t lv st) (kf : ee = some out → qJ2 p l e R s m args below meth c Q G T0 A aq0 nL cF sF o1 o2 T (pc + 3) lv st) : qJ2 p l e R s m args below meth c Q G T0 A aq0 nL cF sF o1 o2 T pc lv (zi x :: st) := by
  cases cnd with
  | eq =>
    simp only [qx_cond] at h
    split at h
    · rename_i hx
      exact qJ_st (kt h) (fun a b => ⟨qv_tl a, b⟩) (fun aq ls H locs hl hP hD hS h5 hs k2 => lv_if_eq X.1 X.2.1 hdg ht (fun z => k2 ls hl) (fun z => absurd hx z))
    · rename_i hx
      exact qJ_st (kf h) (fun a b => ⟨qv_tl a, b⟩) (fun aq ls H locs hl hP hD hS h5 hs k2 => lv_if_eq X.1 X.2.1 hdg ht (fun z => absurd z hx) (fun z => k2 ls hl))
  | ne =>
    simp only [qx_cond] at h
    split at h
    · rename_i hx
      exact qJ_st (kf h) (fun a b => ⟨qv_tl a, b⟩) (fun aq ls H locs hl hP hD hS h5 hs k2 => lv_if_ne X.1 X.2.1 hdg ht (fun z => absurd hx z) (fun z => k2 ls hl))
    · rename_i hx
      exact qJ_st (kt h) (fun a b => ⟨qv_tl a, b⟩) (fun aq ls H locs hl hP hD hS h5 hs k2 => lv_if_ne X.1 X.2.1 hdg ht (fun z => k2 ls hl) (fun z => absurd z hx))
  | lt =>
    simp only [qx_cond] at h
    split at h
    · rename_i hx
      exact qJ_st (kt h) (fun a b => ⟨qv_tl a, b⟩) (fun aq ls H locs hl hP hD hS h5 hs k2 => lv_if_lt X.1 X.2.1 hdg ht (fun z => k2 ls hl) (fun z => absurd hx z))
    · rename_i hx
      exact qJ_st (kf h) (fun a b => ⟨qv_tl a, b⟩) (fun aq ls H locs hl hP hD hS h5 hs k2 => lv_if_lt X.1 X.2.1 hdg ht (fun z => absurd z hx) (fun z => k2 ls hl))
  | ge =>
    simp only [qx_cond] at h
    split at h
    · rename_i hx
      exact qJ_st (kt h) (fun a b => ⟨qv_tl a, b⟩) (fun aq ls H locs hl hP hD hS h5 hs k2 => lv_if_ge X.1 X.2.1 hdg ht (fun z => k2 ls hl) (fun z => absurd hx z))
    · rename_i hx
      exact qJ_st (kf h) (fun a b => ⟨qv_tl a, b⟩) (fun aq ls H locs hl hP hD hS h5 hs k2 => lv_if_ge X.1 X.2.1 hdg ht (fun z => absurd z hx) (fun z => k2 ls hl))
  | gt =>
    simp only [qx_cond] at h
    split at h
    · rename_i hx
      exact qJ_st (kt h) (fun a b => ⟨qv_tl a, b⟩) (fun aq ls H locs hl hP hD hS h5 hs k2 => lv_if_gt X.1 X.2.1 hdg ht (fun z => k2 ls hl) (fun z => absurd hx z))
    · rename_i hx
      exact qJ_st (kf h) (fun a b => ⟨qv_tl a, b⟩) (fun aq ls H locs hl hP hD hS h5 hs k2 => lv_if_gt X.1 X.2.1 hdg ht (fun z => absurd z hx) (fun z => k2 ls hl))
  | le =>
    simp only [qx_cond] at h
    split at h
    · rename_i hx
      exact qJ_st (kt h) (fun a b => ⟨qv_tl a, b⟩) (fun aq ls H locs hl hP hD hS h5 hs k2 => lv_if_le X.1 X.2.1 hdg ht (fun z => k2 ls hl) (fun z => absurd hx z))
    · rename_i hx
      exact qJ_st (kf h) (fun a b => ⟨qv_tl a, b⟩) (fun aq ls H locs hl hP hD hS h5 hs k2 => lv_if_le X.1 X.2.1 hdg ht (fun z => absurd z hx) (fun z => k2 ls hl))
theorem qJ_icmp (X : qX p s m meth c G T0 A own nm cc nL ret) {cnd : ClassFile.Cond} {x y : Int32} {off : Int} {t : Nat} {out : qO} {tt ee : Option qO} (hdg : decode cc pc = .ok (.if_icmp cnd off, 3)) (ht : (pc : Int) + off = (t : Int)) (h : qx_cond cnd x y tt ee = some out) (kt : tt = some out → qJ2 p l e R s m args below meth c Q G T0 A aq0 nL cF sF o1 o2 T t lv st) (kf : ee = some out → qJ2 p l e R s m args below meth c Q G T0 A aq0 nL cF sF o1 o2 T (pc + 3) lv st) : qJ2 p l e R s m args below meth c Q G T0 A aq0 nL cF sF o1 o2 T pc lv (zi y :: zi x :: st) := by
  cases cnd with
  | eq =>
    simp only [qx_cond] at h
    split at h
    · rename_i hx
      exact qJ_st (kt h) (fun a b => ⟨qv_tl (qv_tl a), b⟩) (fun aq ls H locs hl hP hD hS h5 hs k2 => lv_icmp_eq X.1 X.2.1 hdg ht (fun z => k2 ls hl) (fun z => absurd hx z))
    · rename_i hx
      exact qJ_st (kf h) (fun a b => ⟨qv_tl (qv_tl a), b⟩) (fun aq ls H locs hl hP hD hS h5 hs k2 => lv_icmp_eq X.1 X.2.1 hdg ht (fun z => absurd z hx) (fun z => k2 ls hl))
  | ne =>
    simp only [qx_cond] at h
    split at h
    · rename_i hx
      exact qJ_st (kf h) (fun a b => ⟨qv_tl (qv_tl a), b⟩) (fun aq ls H locs hl hP hD hS h5 hs k2 => lv_icmp_ne X.1 X.2.1 hdg ht (fun z => absurd hx z) (fun z => k2 ls hl))
    · rename_i hx
      exact qJ_st (kt h) (fun a b => ⟨qv_tl (qv_tl a), b⟩) (fun aq ls H locs hl hP hD hS h5 hs k2 => lv_icmp_ne X.1 X.2.1 hdg ht (fun z => k2 ls hl) (fun z => absurd z hx))
  | lt =>
    simp only [qx_cond] at h
    split at h
    · rename_i hx
      exact qJ_st (kt h) (fun a b => ⟨qv_tl (qv_tl a), b⟩) (fun aq ls H locs hl hP hD hS h5 hs k2 => lv_icmp_lt X.1 X.2.1 hdg ht (fun z => k2 ls hl) (fun z => absurd hx z))
    · rename_i hx
      exact qJ_st (kf h) (fun a b => ⟨qv_tl (qv_tl a), b⟩) (fun aq ls H locs hl hP hD hS h5 hs k2 => lv_icmp_lt X.1 X.2.1 hdg ht (fun z => absurd z hx) (fun z => k2 ls hl))
  | ge =>
    simp only [qx_cond] at h
    split at h
    · rename_i hx
      exact qJ_st (kt h) (fun a b => ⟨qv_tl (qv_tl a), b⟩) (fun aq ls H locs hl hP hD hS h5 hs k2 => lv_icmp_ge X.1 X.2.1 hdg ht (fun z => k2 ls hl) (fun z => absurd hx z))
    · rename_i hx
      exact qJ_st (kf h) (fun a b => ⟨qv_tl (qv_tl a), b⟩) (fun aq ls H locs hl hP hD hS h5 hs k2 => lv_icmp_ge X.1 X.2.1 hdg ht (fun z => absurd z hx) (fun z => k2 ls hl))
  | gt =>
    simp only [qx_cond] at h
    split at h
    · rename_i hx
      exact qJ_st (kt h) (fun a b => ⟨qv_tl (qv_tl a), b⟩) (fun aq ls H locs hl hP hD hS h5 hs k2 => lv_icmp_gt X.1 X.2.1 hdg ht (fun z => k2 ls hl) (fun z => absurd hx z))
    · rename_i hx
      exact qJ_st (kf h) (fun a b => ⟨qv_tl (qv_tl a), b⟩) (fun aq ls H locs hl hP hD hS h5 hs k2 => lv_icmp_gt X.1 X.2.1 hdg ht (fun z => absurd z hx) (fun z => k2 ls hl))
  | le =>
    simp only [qx_cond] at h
    split at h
    · rename_i hx
      exact qJ_st (kt h) (fun a b => ⟨qv_tl (qv_tl a), b⟩) (fun aq ls H locs hl hP hD hS h5 hs k2 => lv_icmp_le X.1 X.2.1 hdg ht (fun z => k2 ls hl) (fun z => absurd hx z))
    · rename_i hx
      exact qJ_st (kf h) (fun a b => ⟨qv_tl (qv_tl a), b⟩) (fun aq ls H locs hl hP hD hS h5 hs k2 => lv_icmp_le X.1 X.2.1 hdg ht (fun z => absurd z hx) (fun z => k2 ls hl))
end QA

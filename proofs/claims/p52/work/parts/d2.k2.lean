/-! THE CONSTRUCTION 5: the judgement, plain rows -/
def k_sl (w : nS) : Nat := n_sl w
def kWf (w0 w : nS) (lv : zL) (st : List zV) : Prop := w0.length ≤ w.length ∧ n_sl w0 ≤ n_sl w ∧ (∀ x, x ∈ w → kc_ok w.length x) ∧ (∀ v, v ∈ st → kv_ok w.length v) ∧ ∀ (j : Nat) (v : zV), zl_get lv j = some v → kv_ok w.length v
/-- the tables of the construction: classes, kinds of arrays -/
abbrev kT (D : va_G) (cA : Nat → ClassId) (adT : zR → Nat) : zG := (D, cA, adT, fun _ => 0)
/-- what a body knows from its start; A: the addresses that the construction may write -/
def kX (p : Program) (s : State) (m : MethodId) (meth : Method) (c : Code) (D : va_G) (cA : Nat → ClassId) (adT : zR → Nat) (S0 : zS) (A : Nat → Prop) (own nm : String) (cc : ByteArray) (nL : Nat) : Prop :=
  p.tables.exec = Jvm.exec ∧ c.code = cc ∧ c.maxLocals = nL ∧ s.vm.findClass own = some m.cls ∧ va_K D vwCl (zt_tys (kT D cA adT)) s ∧ zw_F (kT D cA adT) S0 A s s.heap ∧ (∀ q : Nat, s.heap.size ≤ q → A q) ∧ meth.name = nm ∧ va_AO "BathBoats$Bath" s ∧ va_AOA .int s
def kJ2 (p : Program) (l : Launch) (e : Env) (R : Room) (s : State) (m : MethodId) (args : Array Value) (below : List Frame) (meth : Method) (c : Code) (Q : State → Prop) (D : va_G) (cA : Nat → ClassId) (adT : zR → Nat) (S0 : zS) (A : Nat → Prop) (own nm : String) (cc : ByteArray) (nL : Nat) (ad0 : zR → Nat) (w0 wF w : nS) (pc : Nat) (lv : zL) (st : List zV) : Prop :=
  (w.length ≤ wF.length ∧ n_sl w ≤ n_sl wF) ∧ (kWf w0 w lv st → (∀ x, x ∈ wF → kc_ok wF.length x) ∧ (kX p s m meth c D cA adT S0 A own nm cc nL → ∀ (ad : zR → Nat) (ls : Array Slot) (H : Heap) (locs : List Loc), (∀ r : zR, r.1 ≠ 8 → ad r = adT r) → (∀ r, kr_ok w0.length r → ad r = ad0 r) → lv_has ls nL (zl_pairs ad 0 lv) → va_P D vwCl (k_ws cA ad w) H → va_D A (k_ws cA ad w) → va_S A s.heap H locs →
    W p l e R s m args below meth c H locs (w.length - w0.length) (n_sl w - n_sl w0) Q (F0 m pc ls (st.map (zc ad)))))
theorem kv_cons {n : Nat} {v : zV} {st : List zV} (h : kv_ok n v) (hs : ∀ w, w ∈ st → kv_ok n w) : ∀ w, w ∈ v :: st → kv_ok n w := fun w hw => (List.mem_cons.mp hw).elim (fun e => by rw [e]; exact h) (hs w)
theorem kv_tl {n : Nat} {v : zV} {st : List zV} (hs : ∀ w, w ∈ v :: st → kv_ok n w) : ∀ w, w ∈ st → kv_ok n w := fun w hw => hs w (List.mem_cons_of_mem _ hw)
theorem kv_hd {n : Nat} {v : zV} {st : List zV} (hs : ∀ w, w ∈ v :: st → kv_ok n w) : kv_ok n v := hs v List.mem_cons_self
theorem kv_set {n : Nat} {lv : zL} {i : Nat} {v : zV} (h : kv_ok n v) (hv : ∀ (j : Nat) (w : zV), zl_get lv j = some w → kv_ok n w) : ∀ (j : Nat) (w : zV), zl_get (zl_set lv i (some v)) j = some w → kv_ok n w := by
  intro j w hw
  rcases zl_getset _ _ _ _ _ hw with ⟨-, e⟩ | ⟨-, e, -⟩
  · rw [← Option.some.inj e]; exact h
  · exact hv j w e
section KA
variable {p : Program} {l : Launch} {e : Env} {R : Room} {s : State} {m : MethodId} {args : Array Value} {below : List Frame} {meth : Method} {c : Code} {Q : State → Prop} {D : va_G} {cA : Nat → ClassId} {adT : zR → Nat} {S0 : zS} {A : Nat → Prop} {ad0 : zR → Nat} {w0 wF w : nS} {own nm : String} {cc : ByteArray} {nL pc : Nat} {lv : zL} {st : List zV}
theorem kJ_st {pc2 : Nat} {lv2 : zL} {st2 : List zV} (kk : kJ2 p l e R s m args below meth c Q D cA adT S0 A own nm cc nL ad0 w0 wF w pc2 lv2 st2) (hs : (∀ v, v ∈ st → kv_ok w.length v) → (∀ (j : Nat) (v : zV), zl_get lv j = some v → kv_ok w.length v) → (∀ v, v ∈ st2 → kv_ok w.length v) ∧ ∀ (j : Nat) (v : zV), zl_get lv2 j = some v → kv_ok w.length v)
    (hW : kX p s m meth c D cA adT S0 A own nm cc nL → ∀ (ad : zR → Nat) (ls : Array Slot) (H : Heap) (locs : List Loc), (∀ r : zR, r.1 ≠ 8 → ad r = adT r) → lv_has ls nL (zl_pairs ad 0 lv) → va_P D vwCl (k_ws cA ad w) H → va_D A (k_ws cA ad w) → va_S A s.heap H locs → (∀ ls2 : Array Slot, lv_has ls2 nL (zl_pairs ad 0 lv2) → W p l e R s m args below meth c H locs (w.length - w0.length) (n_sl w - n_sl w0) Q (F0 m pc2 ls2 (st2.map (zc ad)))) → W p l e R s m args below meth c H locs (w.length - w0.length) (n_sl w - n_sl w0) Q (F0 m pc ls (st.map (zc ad)))) : kJ2 p l e R s m args below meth c Q D cA adT S0 A own nm cc nL ad0 w0 wF w pc lv st := by
  refine ⟨kk.1, fun hwf => ?_⟩
  obtain ⟨h1, h2, h3, h4, h5⟩ := hwf
  obtain ⟨g1, g2⟩ := hs h4 h5
  obtain ⟨k1, k2⟩ := kk.2 ⟨h1, h2, h3, g1, g2⟩
  exact ⟨k1, fun X ad ls H locs ha h0 hl hP hD hS => hW X ad ls H locs ha hl hP hD hS (fun ls2 hl2 => k2 X ad ls2 H locs ha h0 hl2 hP hD hS)⟩
theorem kJ_iload_n {k : Fin 4} {x : Int32} (hdg : decode cc pc = .ok (.iload_n k, 1)) (h : zl_get lv k.val = some (zi x)) (kk : kJ2 p l e R s m args below meth c Q D cA adT S0 A own nm cc nL ad0 w0 wF w (pc + 1) lv (zi x :: st)) : kJ2 p l e R s m args below meth c Q D cA adT S0 A own nm cc nL ad0 w0 wF w pc lv st :=
  kJ_st kk (fun a b => ⟨kv_cons trivial a, b⟩) (fun X ad ls H locs ha hl hP hD hS k2 => lv_iload_n X.1 X.2.1 hdg rfl (zl_at hl h) (k2 ls hl))
theorem kJ_aload_n {k : Fin 4} {x : zR} (hdg : decode cc pc = .ok (.aload_n k, 1)) (h : zl_get lv k.val = some (.inr (.inl (some x)))) (kk : kJ2 p l e R s m args below meth c Q D cA adT S0 A own nm cc nL ad0 w0 wF w (pc + 1) lv (.inr (.inl (some x)) :: st)) : kJ2 p l e R s m args below meth c Q D cA adT S0 A own nm cc nL ad0 w0 wF w pc lv st :=
  kJ_st kk (fun a b => ⟨kv_cons (b _ _ h) a, b⟩) (fun X ad ls H locs ha hl hP hD hS k2 => lv_aload_n X.1 X.2.1 hdg rfl (zl_at hl h) (k2 ls hl))
theorem kJ_istore_n {k : Fin 4} {x : Int32} (hdg : decode cc pc = .ok (.istore_n k, 1)) (hn : k.val < nL) (kk : kJ2 p l e R s m args below meth c Q D cA adT S0 A own nm cc nL ad0 w0 wF w (pc + 1) (zl_set lv k.val (some (zi x))) st) : kJ2 p l e R s m args below meth c Q D cA adT S0 A own nm cc nL ad0 w0 wF w pc lv (zi x :: st) :=
  kJ_st kk (fun a b => ⟨kv_tl a, kv_set trivial b⟩) (fun X ad ls H locs ha hl hP hD hS k2 => lv_istore_n X.1 X.2.1 hdg rfl hl hn rfl (fun ls2 hl2 => k2 ls2 (lv_mono hl2 (fun q hq => zl_stored hq))))
theorem kJ_istore {k : Nat} {x : Int32} (hdg : decode cc pc = .ok (.istore k, 2)) (hn : k < nL) (kk : kJ2 p l e R s m args below meth c Q D cA adT S0 A own nm cc nL ad0 w0 wF w (pc + 2) (zl_set lv k (some (zi x))) st) : kJ2 p l e R s m args below meth c Q D cA adT S0 A own nm cc nL ad0 w0 wF w pc lv (zi x :: st) :=
  kJ_st kk (fun a b => ⟨kv_tl a, kv_set trivial b⟩) (fun X ad ls H locs ha hl hP hD hS k2 => lv_istore X.1 X.2.1 hdg hl hn rfl (fun ls2 hl2 => k2 ls2 (lv_mono hl2 (fun q hq => zl_stored hq))))
theorem kJ_astore_n {k : Fin 4} {x : zR} (hdg : decode cc pc = .ok (.astore_n k, 1)) (hn : k.val < nL) (kk : kJ2 p l e R s m args below meth c Q D cA adT S0 A own nm cc nL ad0 w0 wF w (pc + 1) (zl_set lv k.val (some (.inr (.inl (some x))))) st) : kJ2 p l e R s m args below meth c Q D cA adT S0 A own nm cc nL ad0 w0 wF w pc lv (.inr (.inl (some x)) :: st) :=
  kJ_st kk (fun a b => ⟨kv_tl a, kv_set (kv_hd a) b⟩) (fun X ad ls H locs ha hl hP hD hS k2 => lv_astore_n X.1 X.2.1 hdg rfl hl hn rfl (fun ls2 hl2 => k2 ls2 (lv_mono hl2 (fun q hq => zl_stored hq))))
theorem kJ_astore {k : Nat} {x : zR} (hdg : decode cc pc = .ok (.astore k, 2)) (hn : k < nL) (kk : kJ2 p l e R s m args below meth c Q D cA adT S0 A own nm cc nL ad0 w0 wF w (pc + 2) (zl_set lv k (some (.inr (.inl (some x))))) st) : kJ2 p l e R s m args below meth c Q D cA adT S0 A own nm cc nL ad0 w0 wF w pc lv (.inr (.inl (some x)) :: st) :=
  kJ_st kk (fun a b => ⟨kv_tl a, kv_set (kv_hd a) b⟩) (fun X ad ls H locs ha hl hP hD hS k2 => lv_astore X.1 X.2.1 hdg hl hn rfl (fun ls2 hl2 => k2 ls2 (lv_mono hl2 (fun q hq => zl_stored hq))))
theorem kJ_iinc {j : Nat} {n : Int} {x k : Int32} (hdg : decode cc pc = .ok (.iinc j n, 3)) (hn : j < nL) (hk : Int32.ofInt n = k) (h : zl_get lv j = some (zi x)) (kk : kJ2 p l e R s m args below meth c Q D cA adT S0 A own nm cc nL ad0 w0 wF w (pc + 3) (zl_set lv j (some (zi (x + k)))) st) : kJ2 p l e R s m args below meth c Q D cA adT S0 A own nm cc nL ad0 w0 wF w pc lv st :=
  kJ_st kk (fun a b => ⟨a, kv_set trivial b⟩) (fun X ad ls H locs ha hl hP hD hS k2 => by
    obtain ⟨q, hq⟩ := zl_ix (ad := ad) h
    exact lv_iinc X.1 X.2.1 hdg hl hq (by rw [hk]) hn rfl (fun ls2 hl2 => k2 ls2 (lv_mono hl2 (fun q hq => zl_stored hq))))
theorem kJ_iconst {n : Int} {k : Int32} (hdg : decode cc pc = .ok (.iconst n, 1)) (hk : Int32.ofInt n = k) (kk : kJ2 p l e R s m args below meth c Q D cA adT S0 A own nm cc nL ad0 w0 wF w (pc + 1) lv (zi k :: st)) : kJ2 p l e R s m args below meth c Q D cA adT S0 A own nm cc nL ad0 w0 wF w pc lv st :=
  kJ_st kk (fun a b => ⟨kv_cons trivial a, b⟩) (fun X ad ls H locs ha hl hP hD hS k2 => lv_iconst X.1 X.2.1 hdg hk (k2 ls hl))
theorem kJ_bipush {n : Int} {k : Int32} (hdg : decode cc pc = .ok (.bipush n, 2)) (hk : (Int8.ofInt n).toInt32 = k) (kk : kJ2 p l e R s m args below meth c Q D cA adT S0 A own nm cc nL ad0 w0 wF w (pc + 2) lv (zi k :: st)) : kJ2 p l e R s m args below meth c Q D cA adT S0 A own nm cc nL ad0 w0 wF w pc lv st :=
  kJ_st kk (fun a b => ⟨kv_cons trivial a, b⟩) (fun X ad ls H locs ha hl hP hD hS k2 => lv_bipush X.1 X.2.1 hdg hk (k2 ls hl))
theorem kJ_sipush {n : Int} {k : Int32} (hdg : decode cc pc = .ok (.sipush n, 3)) (hk : (Int16.ofInt n).toInt32 = k) (kk : kJ2 p l e R s m args below meth c Q D cA adT S0 A own nm cc nL ad0 w0 wF w (pc + 3) lv (zi k :: st)) : kJ2 p l e R s m args below meth c Q D cA adT S0 A own nm cc nL ad0 w0 wF w pc lv st :=
  kJ_st kk (fun a b => ⟨kv_cons trivial a, b⟩) (fun X ad ls H locs ha hl hP hD hS k2 => lv_sipush X.1 X.2.1 hdg hk (k2 ls hl))
theorem kJ_ldc {ix q : Nat} {k : Int32} (hdg : decode cc pc = .ok (.ldc ix, 2)) (hq : lw_tbl[q]? = some (.constant own ix k)) (kk : kJ2 p l e R s m args below meth c Q D cA adT S0 A own nm cc nL ad0 w0 wF w (pc + 2) lv (zi k :: st)) : kJ2 p l e R s m args below meth c Q D cA adT S0 A own nm cc nL ad0 w0 wF w pc lv st :=
  kJ_st kk (fun a b => ⟨kv_cons trivial a, b⟩) (fun X ad ls H locs ha hl hP hD hS k2 => lv_ldc X.1 X.2.1 X.2.2.2.1 (zw_use X.2.2.2.2.2.1.1 hq rfl) hdg (k2 ls hl))
theorem kJ_imul {x y : Int32} (hdg : decode cc pc = .ok (.imul, 1)) (kk : kJ2 p l e R s m args below meth c Q D cA adT S0 A own nm cc nL ad0 w0 wF w (pc + 1) lv (zi (x * y) :: st)) : kJ2 p l e R s m args below meth c Q D cA adT S0 A own nm cc nL ad0 w0 wF w pc lv (zi y :: zi x :: st) :=
  kJ_st kk (fun a b => ⟨kv_cons trivial (kv_tl (kv_tl a)), b⟩) (fun X ad ls H locs ha hl hP hD hS k2 => lv_imul X.1 X.2.1 hdg (k2 ls hl))
theorem kJ_dup {r : zR} (hdg : decode cc pc = .ok (.dup, 1)) (kk : kJ2 p l e R s m args below meth c Q D cA adT S0 A own nm cc nL ad0 w0 wF w (pc + 1) lv (.inr (.inl (some r)) :: .inr (.inl (some r)) :: st)) : kJ2 p l e R s m args below meth c Q D cA adT S0 A own nm cc nL ad0 w0 wF w pc lv (.inr (.inl (some r)) :: st) :=
  kJ_st kk (fun a b => ⟨kv_cons (kv_hd a) a, b⟩) (fun X ad ls H locs ha hl hP hD hS k2 => lv_dup X.1 X.2.1 hdg rfl (k2 ls hl))
theorem kJ_goto {off : Int} {t : Nat} (hdg : decode cc pc = .ok (.goto off, 3)) (ht : (pc : Int) + off = (t : Int)) (kk : kJ2 p l e R s m args below meth c Q D cA adT S0 A own nm cc nL ad0 w0 wF w t lv st) : kJ2 p l e R s m args below meth c Q D cA adT S0 A own nm cc nL ad0 w0 wF w pc lv st :=
  kJ_st kk (fun a b => ⟨a, b⟩) (fun X ad ls H locs ha hl hP hD hS k2 => lv_goto X.1 X.2.1 hdg ht (k2 ls hl))
theorem kJ_icmp_ge {x y : Int32} {off : Int} {t : Nat} (hdg : decode cc pc = .ok (.if_icmp .ge off, 3)) (ht : (pc : Int) + off = (t : Int)) (kt : y ≤ x → kJ2 p l e R s m args below meth c Q D cA adT S0 A own nm cc nL ad0 w0 wF w t lv st) (kf : ¬ y ≤ x → kJ2 p l e R s m args below meth c Q D cA adT S0 A own nm cc nL ad0 w0 wF w (pc + 3) lv st) : kJ2 p l e R s m args below meth c Q D cA adT S0 A own nm cc nL ad0 w0 wF w pc lv (zi y :: zi x :: st) := by
  by_cases h : y ≤ x
  · exact kJ_st (kt h) (fun a b => ⟨kv_tl (kv_tl a), b⟩) (fun X ad ls H locs ha hl hP hD hS k2 => lv_icmp_ge X.1 X.2.1 hdg ht (fun z => k2 ls hl) (fun z => absurd h z))
  · exact kJ_st (kf h) (fun a b => ⟨kv_tl (kv_tl a), b⟩) (fun X ad ls H locs ha hl hP hD hS k2 => lv_icmp_ge X.1 X.2.1 hdg ht (fun z => absurd z h) (fun z => k2 ls hl))
theorem kJ_getfield {ix a b q k : Nat} {Cl : vw_C} {fs : List zV} {v : zV} (hdg : decode cc pc = .ok (.getfield ix, 3)) (hc : vwCl[a]? = some Cl) (hk : b < Cl.2.2) (hq : lw_tbl[q]? = some (.fieldLink own ix (Cl.2.1 b).1 (Cl.2.1 b).2.1 (Cl.2.1 b).2.2.1)) (hw : w[k]? = some (.inl (a, fs))) (hf : fs[b]? = some v) (kk : kJ2 p l e R s m args below meth c Q D cA adT S0 A own nm cc nL ad0 w0 wF w (pc + 3) lv (v :: st)) : kJ2 p l e R s m args below meth c Q D cA adT S0 A own nm cc nL ad0 w0 wF w pc lv (.inr (.inl (some (zr k))) :: st) := by
  refine ⟨kk.1, fun hwf => ?_⟩
  obtain ⟨h1, h2, h3, h4, h5⟩ := hwf
  have hv : kv_ok w.length v := h3 _ (List.mem_of_getElem? hw) v (List.mem_of_getElem? hf)
  obtain ⟨k1, k2⟩ := kk.2 ⟨h1, h2, h3, kv_cons hv (kv_tl h4), h5⟩
  refine ⟨k1, fun X ad ls H locs ha h0 hl hP hD hS => ?_⟩
  have he := k_ws_at (cA := cA) (ad := ad) hw
  have hlays : ∀ z ∈ u_ws Cl.1 Cl.2.1 Cl.2.2, z.before args s = true := fun z hz =>
    have h := zt_lays Cl (List.mem_of_getElem? hc) z hz
    zt_keep_warm h.2 (State.WarmedH.refl s) (X.2.2.2.2.2.1.1 z h.1 h.2)
  exact va_get X.1 X.2.1 hlays (fun _ h => h) X.2.2.2.1 X.2.2.2.2.1 hP k he hc b hk (zw_use X.2.2.2.2.2.1.1 hq rfl) (fun _ h => h) (show (fs.map (zc ad))[b]? = some (zc ad v) by rw [List.getElem?_map, hf]; rfl) hdg (k2 X ad ls H locs ha h0 hl hP hD hS)
theorem kJ_alenI {k : Nat} {xs : List Int32} (hdg : decode cc pc = .ok (.arraylength, 1)) (hw : w[k]? = some (.inr (.inl xs))) (kk : kJ2 p l e R s m args below meth c Q D cA adT S0 A own nm cc nL ad0 w0 wF w (pc + 1) lv (zi (Int32.ofNat xs.length) :: st)) : kJ2 p l e R s m args below meth c Q D cA adT S0 A own nm cc nL ad0 w0 wF w pc lv (.inr (.inl (some (zr k))) :: st) :=
  kJ_st kk (fun a b => ⟨kv_cons trivial (kv_tl a), b⟩) (fun X ad ls H locs ha hl hP hD hS k2 => va_alen X.1 X.2.1 X.2.2.2.2.1 hP k 0 (k_ws_at (cA := cA) (ad := ad) hw) (ty := .int) rfl rfl hdg (k2 ls hl))
theorem kJ_alenR {k : Nat} {xs : List (Option zR)} (hdg : decode cc pc = .ok (.arraylength, 1)) (hw : w[k]? = some (.inr (.inr (1, xs)))) (kk : kJ2 p l e R s m args below meth c Q D cA adT S0 A own nm cc nL ad0 w0 wF w (pc + 1) lv (zi (Int32.ofNat xs.length) :: st)) : kJ2 p l e R s m args below meth c Q D cA adT S0 A own nm cc nL ad0 w0 wF w pc lv (.inr (.inl (some (zr k))) :: st) :=
  kJ_st kk (fun a b => ⟨kv_cons trivial (kv_tl a), b⟩) (fun X ad ls H locs ha hl hP hD hS k2 => va_alen X.1 X.2.1 X.2.2.2.2.1 hP k 1 (k_ws_at (cA := cA) (ad := ad) hw) (ty := .object "BathBoats$Bath") rfl rfl hdg (k2 ls hl))
theorem kJ_max {ix q : Nat} {x y : Int32} (hR : 1 ≤ R.frames ∧ 113 ≤ R.locals ∧ wF.length - w0.length ≤ R.cells ∧ n_sl wF - n_sl w0 ≤ R.slots) (hwd : zx_wd st ≤ 100) (hdg : decode cc pc = .ok (.invokestatic ix, 3)) (hq : lw_tbl[q]? = some (.methodLink own ix Lib.Math.max.name)) (kk : kJ2 p l e R s m args below meth c Q D cA adT S0 A own nm cc nL ad0 w0 wF w (pc + 3) lv (zi (if x < y then y else x) :: st)) : kJ2 p l e R s m args below meth c Q D cA adT S0 A own nm cc nL ad0 w0 wF w pc lv (zi y :: zi x :: st) :=
  kJ_st kk (fun a b => ⟨kv_cons trivial (kv_tl (kv_tl a)), b⟩) (fun X ad ls H locs ha hl hP hD hS k2 => by
    have hx := kk.1
    exact va_mmax X.1 X.2.1 (by rw [X.2.2.1, hl.1]) X.2.2.2.1 (zw_use X.2.2.2.2.2.1.1 hq rfl) (zw_use X.2.2.2.2.2.1.1 (p := zp_max_static) (by decide +kernel) rfl) (zw_use X.2.2.2.2.2.1.1 (p := zp_math_init) (by decide +kernel) rfl) (zw_use X.2.2.2.2.2.1.1 (p := zp_max_code) (by decide +kernel) rfl) (by omega) (by rw [zx_wd_sum]; omega) (by omega) (by omega) hdg (k2 ls hl))
theorem kJ_objInit {ix q : Nat} {r : zR} (hR : 1 ≤ R.frames ∧ 113 ≤ R.locals) (hwd : zx_wd st ≤ 100) (hdg : decode cc pc = .ok (.invokespecial ix, 3)) (hq : lw_tbl[q]? = some (.methodLink own ix Lib.objectInit)) (kk : kJ2 p l e R s m args below meth c Q D cA adT S0 A own nm cc nL ad0 w0 wF w (pc + 3) lv st) : kJ2 p l e R s m args below meth c Q D cA adT S0 A own nm cc nL ad0 w0 wF w pc lv (.inr (.inl (some r)) :: st) :=
  kJ_st kk (fun a b => ⟨kv_tl a, b⟩) (fun X ad ls H locs ha hl hP hD hS k2 =>
    W.objInit (g := F0 m pc ls (.ref (ad r) :: st.map (zc ad))) X.1 X.2.1 X.2.2.2.1 (zw_use X.2.2.2.2.2.1.1 hq rfl) (zw_use X.2.2.2.2.2.1.1 qp_ob.1 rfl) (zw_use X.2.2.2.2.2.1.1 qp_ob.2 rfl) rfl (by show ls.size = _; rw [X.2.2.1, hl.1]) rfl hdg (by omega) (by rw [zx_wd_sum]; show 2 * 0 + zx_wd st + 12 ≤ _; omega) (k2 ls hl))
end KA

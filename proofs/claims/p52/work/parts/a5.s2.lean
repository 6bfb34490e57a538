/-! SOUNDNESS 2: the plain instructions, by program (wip/whole/tools/gens2.py) -/
theorem zv_cons {v : zV} {st : List zV} (h : zv_ok v) (hs : ∀ w, w ∈ st → zv_ok w) : ∀ w, w ∈ v :: st → zv_ok w := fun w hw => (List.mem_cons.mp hw).elim (fun e => by rw [e]; exact h) (hs w)
theorem zv_tl {v : zV} {st : List zV} (hs : ∀ w, w ∈ v :: st → zv_ok w) : ∀ w, w ∈ st → zv_ok w := fun w hw => hs w (List.mem_cons_of_mem _ hw)
theorem zv_hd {v : zV} {st : List zV} (hs : ∀ w, w ∈ v :: st → zv_ok w) : zv_ok v := hs v List.mem_cons_self
theorem zv_set {lv : zL} {i : Nat} {v : zV} (h : zv_ok v) (hv : ∀ (j : Nat) (w : zV), zl_get lv j = some w → zv_ok w) : ∀ (j : Nat) (w : zV), zl_get (zl_set lv i (some v)) j = some w → zv_ok w := by
  intro j w hw
  rcases zl_getset _ _ _ _ _ hw with ⟨-, e⟩ | ⟨-, e, -⟩
  · cases e
    exact h
  · exact hv j w e
theorem zv_clr {lv : zL} {i : Nat} (hv : ∀ (j : Nat) (w : zV), zl_get lv j = some w → zv_ok w) : ∀ (j : Nat) (w : zV), zl_get (zl_clr lv i) j = some w → zv_ok w := fun j w hw => hv j w (zl_getclr _ _ _ _ hw).2
section ZJ
variable {p : Program} {l : Launch} {e : Env} {R : Room} {s : State} {m : MethodId} {args : Array Value} {below : List Frame} {meth : Method} {c : Code} {Q : State → Prop} {G : zG} {S0 : zS} {own : String} {cc : ByteArray} {nL : Nat} {ret : Option FieldType} {hh : List (Nat × Nat × Nat × Nat)} {S : zS} {pc : Nat} {lv : zL} {st : List zV}
theorem zJ_iload_n (X : zX p l s m meth c G S0 own cc nL ret hh) {k : Fin 4} {x : Int32} (hdg : decode cc pc = .ok (.iload_n k, 1)) (h : zl_get lv k.val = some (zi x)) (kk : zJ p l e R s m args below meth c Q G S0 nL S (pc + 1) lv (zi x :: st)) : zJ p l e R s m args below meth c Q G S0 nL S pc lv st := by
  intro ls H locs hl hP hS h5 hg hs hv
  exact lv_iload_n X.1 X.2.1 hdg rfl (zl_at hl h) (kk ls H locs hl hP hS h5 hg (zv_cons (hv _ _ h) hs) hv)
theorem zJ_iload (X : zX p l s m meth c G S0 own cc nL ret hh) {k : Nat} {x : Int32} (hdg : decode cc pc = .ok (.iload k, 2)) (h : zl_get lv k = some (zi x)) (kk : zJ p l e R s m args below meth c Q G S0 nL S (pc + 2) lv (zi x :: st)) : zJ p l e R s m args below meth c Q G S0 nL S pc lv st := by
  intro ls H locs hl hP hS h5 hg hs hv
  exact lv_iload X.1 X.2.1 hdg (zl_at hl h) (kk ls H locs hl hP hS h5 hg (zv_cons (hv _ _ h) hs) hv)
theorem zJ_aload_n (X : zX p l s m meth c G S0 own cc nL ret hh) {k : Fin 4} {x : zR} (hdg : decode cc pc = .ok (.aload_n k, 1)) (h : zl_get lv k.val = some (.inr (.inl (some x)))) (kk : zJ p l e R s m args below meth c Q G S0 nL S (pc + 1) lv (.inr (.inl (some x)) :: st)) : zJ p l e R s m args below meth c Q G S0 nL S pc lv st := by
  intro ls H locs hl hP hS h5 hg hs hv
  exact lv_aload_n X.1 X.2.1 hdg rfl (zl_at hl h) (kk ls H locs hl hP hS h5 hg (zv_cons (hv _ _ h) hs) hv)
theorem zJ_aload (X : zX p l s m meth c G S0 own cc nL ret hh) {k : Nat} {x : zR} (hdg : decode cc pc = .ok (.aload k, 2)) (h : zl_get lv k = some (.inr (.inl (some x)))) (kk : zJ p l e R s m args below meth c Q G S0 nL S (pc + 2) lv (.inr (.inl (some x)) :: st)) : zJ p l e R s m args below meth c Q G S0 nL S pc lv st := by
  intro ls H locs hl hP hS h5 hg hs hv
  exact lv_aload X.1 X.2.1 hdg (zl_at hl h) (kk ls H locs hl hP hS h5 hg (zv_cons (hv _ _ h) hs) hv)
theorem zJ_fload_n (X : zX p l s m meth c G S0 own cc nL ret hh) {k : Fin 4} {x : UInt32} (hdg : decode cc pc = .ok (.fload_n k, 1)) (h : zl_get lv k.val = some (zf x)) (kk : zJ p l e R s m args below meth c Q G S0 nL S (pc + 1) lv (zf x :: st)) : zJ p l e R s m args below meth c Q G S0 nL S pc lv st := by
  intro ls H locs hl hP hS h5 hg hs hv
  exact lv_fload_n X.1 X.2.1 hdg rfl (zl_at hl h) (kk ls H locs hl hP hS h5 hg (zv_cons (hv _ _ h) hs) hv)
theorem zJ_fload (X : zX p l s m meth c G S0 own cc nL ret hh) {k : Nat} {x : UInt32} (hdg : decode cc pc = .ok (.fload k, 2)) (h : zl_get lv k = some (zf x)) (kk : zJ p l e R s m args below meth c Q G S0 nL S (pc + 2) lv (zf x :: st)) : zJ p l e R s m args below meth c Q G S0 nL S pc lv st := by
  intro ls H locs hl hP hS h5 hg hs hv
  exact lv_fload X.1 X.2.1 hdg (zl_at hl h) (kk ls H locs hl hP hS h5 hg (zv_cons (hv _ _ h) hs) hv)
theorem zJ_dload (X : zX p l s m meth c G S0 own cc nL ret hh) {k : Nat} {x : UInt64} (hdg : decode cc pc = .ok (.dload k, 2)) (h : zl_get lv k = some (zd x)) (kk : zJ p l e R s m args below meth c Q G S0 nL S (pc + 2) lv (zd x :: st)) : zJ p l e R s m args below meth c Q G S0 nL S pc lv st := by
  intro ls H locs hl hP hS h5 hg hs hv
  exact lv_dload X.1 X.2.1 hdg (zl_at hl h) (kk ls H locs hl hP hS h5 hg (zv_cons (hv _ _ h) hs) hv)
theorem zJ_aload_nN (X : zX p l s m meth c G S0 own cc nL ret hh) {k : Fin 4} (hdg : decode cc pc = .ok (.aload_n k, 1)) (h : zl_get lv k.val = some zn) (kk : zJ p l e R s m args below meth c Q G S0 nL S (pc + 1) lv (zn :: st)) : zJ p l e R s m args below meth c Q G S0 nL S pc lv st := by
  intro ls H locs hl hP hS h5 hg hs hv
  exact lv_aload_nN X.1 X.2.1 hdg rfl (zl_at hl h) (kk ls H locs hl hP hS h5 hg (zv_cons (hv _ _ h) hs) hv)
theorem zJ_istore_n (X : zX p l s m meth c G S0 own cc nL ret hh) {k : Fin 4} {x : Int32} (hdg : decode cc pc = .ok (.istore_n k, 1)) (hn : k.val < nL) (kk : zJ p l e R s m args below meth c Q G S0 nL S (pc + 1) (zl_set lv k.val (some (zi x))) st) : zJ p l e R s m args below meth c Q G S0 nL S pc lv (zi x :: st) := by
  intro ls H locs hl hP hS h5 hg hs hv
  exact lv_istore_n X.1 X.2.1 hdg rfl hl hn rfl (fun ls2 hl2 => kk ls2 H locs (lv_mono hl2 (fun q hq => zl_stored hq)) hP hS h5 hg (zv_tl hs) (zv_set (zv_hd hs) hv))
theorem zJ_istore (X : zX p l s m meth c G S0 own cc nL ret hh) {k : Nat} {x : Int32} (hdg : decode cc pc = .ok (.istore k, 2)) (hn : k < nL) (kk : zJ p l e R s m args below meth c Q G S0 nL S (pc + 2) (zl_set lv k (some (zi x))) st) : zJ p l e R s m args below meth c Q G S0 nL S pc lv (zi x :: st) := by
  intro ls H locs hl hP hS h5 hg hs hv
  exact lv_istore X.1 X.2.1 hdg hl hn rfl (fun ls2 hl2 => kk ls2 H locs (lv_mono hl2 (fun q hq => zl_stored hq)) hP hS h5 hg (zv_tl hs) (zv_set (zv_hd hs) hv))
theorem zJ_astore_n (X : zX p l s m meth c G S0 own cc nL ret hh) {k : Fin 4} {x : zR} (hdg : decode cc pc = .ok (.astore_n k, 1)) (hn : k.val < nL) (kk : zJ p l e R s m args below meth c Q G S0 nL S (pc + 1) (zl_set lv k.val (some (.inr (.inl (some x))))) st) : zJ p l e R s m args below meth c Q G S0 nL S pc lv (.inr (.inl (some x)) :: st) := by
  intro ls H locs hl hP hS h5 hg hs hv
  exact lv_astore_n X.1 X.2.1 hdg rfl hl hn rfl (fun ls2 hl2 => kk ls2 H locs (lv_mono hl2 (fun q hq => zl_stored hq)) hP hS h5 hg (zv_tl hs) (zv_set (zv_hd hs) hv))
theorem zJ_astore (X : zX p l s m meth c G S0 own cc nL ret hh) {k : Nat} {x : zR} (hdg : decode cc pc = .ok (.astore k, 2)) (hn : k < nL) (kk : zJ p l e R s m args below meth c Q G S0 nL S (pc + 2) (zl_set lv k (some (.inr (.inl (some x))))) st) : zJ p l e R s m args below meth c Q G S0 nL S pc lv (.inr (.inl (some x)) :: st) := by
  intro ls H locs hl hP hS h5 hg hs hv
  exact lv_astore X.1 X.2.1 hdg hl hn rfl (fun ls2 hl2 => kk ls2 H locs (lv_mono hl2 (fun q hq => zl_stored hq)) hP hS h5 hg (zv_tl hs) (zv_set (zv_hd hs) hv))
theorem zJ_fstore_n (X : zX p l s m meth c G S0 own cc nL ret hh) {k : Fin 4} {x : UInt32} (hdg : decode cc pc = .ok (.fstore_n k, 1)) (hn : k.val < nL) (kk : zJ p l e R s m args below meth c Q G S0 nL S (pc + 1) (zl_set lv k.val (some (zf x))) st) : zJ p l e R s m args below meth c Q G S0 nL S pc lv (zf x :: st) := by
  intro ls H locs hl hP hS h5 hg hs hv
  exact lv_fstore_n X.1 X.2.1 hdg rfl hl hn rfl (fun ls2 hl2 => kk ls2 H locs (lv_mono hl2 (fun q hq => zl_stored hq)) hP hS h5 hg (zv_tl hs) (zv_set (zv_hd hs) hv))
theorem zJ_fstore (X : zX p l s m meth c G S0 own cc nL ret hh) {k : Nat} {x : UInt32} (hdg : decode cc pc = .ok (.fstore k, 2)) (hn : k < nL) (kk : zJ p l e R s m args below meth c Q G S0 nL S (pc + 2) (zl_set lv k (some (zf x))) st) : zJ p l e R s m args below meth c Q G S0 nL S pc lv (zf x :: st) := by
  intro ls H locs hl hP hS h5 hg hs hv
  exact lv_fstore X.1 X.2.1 hdg hl hn rfl (fun ls2 hl2 => kk ls2 H locs (lv_mono hl2 (fun q hq => zl_stored hq)) hP hS h5 hg (zv_tl hs) (zv_set (zv_hd hs) hv))
theorem zJ_astore_nN (X : zX p l s m meth c G S0 own cc nL ret hh) {k : Fin 4} (hdg : decode cc pc = .ok (.astore_n k, 1)) (hn : k.val < nL) (kk : zJ p l e R s m args below meth c Q G S0 nL S (pc + 1) (zl_set lv k.val (some zn)) st) : zJ p l e R s m args below meth c Q G S0 nL S pc lv (zn :: st) := by
  intro ls H locs hl hP hS h5 hg hs hv
  exact lv_astore_nN X.1 X.2.1 hdg rfl hl hn rfl (fun ls2 hl2 => kk ls2 H locs (lv_mono hl2 (fun q hq => zl_stored hq)) hP hS h5 hg (zv_tl hs) (zv_set (zv_hd hs) hv))
theorem zJ_dstore (X : zX p l s m meth c G S0 own cc nL ret hh) {k : Nat} {x : UInt64} (hdg : decode cc pc = .ok (.dstore k, 2)) (hn : k + 1 < nL) (kk : zJ p l e R s m args below meth c Q G S0 nL S (pc + 2) (zl_clr (zl_set lv k (some (zd x))) (k + 1)) st) : zJ p l e R s m args below meth c Q G S0 nL S pc lv (zd x :: st) := by
  intro ls H locs hl hP hS h5 hg hs hv
  exact lv_dstore X.1 X.2.1 hdg hl hn rfl (fun ls2 hl2 => kk ls2 H locs (lv_mono hl2 (fun q hq => zl_stored2 hq)) hP hS h5 hg (zv_tl hs) (zv_clr (zv_set (zv_hd hs) hv)))
theorem zl_ix {ad : zR → Nat} {lv : zL} {j : Nat} {v : zV} (h : zl_get lv j = some v) : ∃ k : Nat, (zl_pairs ad 0 lv)[k]? = some (j, zc ad v) := by
  obtain ⟨k, hk, e⟩ := List.mem_iff_getElem.mp (zl_mem0 (ad := ad).mpr ⟨j, v, rfl, h⟩)
  exact ⟨k, by rw [List.getElem?_eq_getElem hk, e]⟩
theorem zJ_iinc (X : zX p l s m meth c G S0 own cc nL ret hh) {j : Nat} {n : Int} {x k : Int32} (hdg : decode cc pc = .ok (.iinc j n, 3)) (hn : j < nL) (hk : Int32.ofInt n = k) (h : zl_get lv j = some (zi x)) (kk : zJ p l e R s m args below meth c Q G S0 nL S (pc + 3) (zl_set lv j (some (zi (x + k)))) st) : zJ p l e R s m args below meth c Q G S0 nL S pc lv st := by
  intro ls H locs hl hP hS h5 hg hs hv
  obtain ⟨q, hq⟩ := zl_ix (ad := G.2.2.1) h
  exact lv_iinc X.1 X.2.1 hdg hl hq (by rw [hk]) hn rfl (fun ls2 hl2 => kk ls2 H locs (lv_mono hl2 (fun q hq => zl_stored hq)) hP hS h5 hg hs (zv_set trivial hv))
theorem zJ_iconst (X : zX p l s m meth c G S0 own cc nL ret hh) {n : Int} {k : Int32} (hdg : decode cc pc = .ok (.iconst n, 1)) (hk : Int32.ofInt n = k) (kk : zJ p l e R s m args below meth c Q G S0 nL S (pc + 1) lv (zi k :: st)) : zJ p l e R s m args below meth c Q G S0 nL S pc lv st := by
  intro ls H locs hl hP hS h5 hg hs hv
  exact lv_iconst X.1 X.2.1 hdg hk (kk ls H locs hl hP hS h5 hg (zv_cons trivial hs) hv)
theorem zJ_bipush (X : zX p l s m meth c G S0 own cc nL ret hh) {n : Int} {k : Int32} (hdg : decode cc pc = .ok (.bipush n, 2)) (hk : (Int8.ofInt n).toInt32 = k) (kk : zJ p l e R s m args below meth c Q G S0 nL S (pc + 2) lv (zi k :: st)) : zJ p l e R s m args below meth c Q G S0 nL S pc lv st := by
  intro ls H locs hl hP hS h5 hg hs hv
  exact lv_bipush X.1 X.2.1 hdg hk (kk ls H locs hl hP hS h5 hg (zv_cons trivial hs) hv)
theorem zJ_sipush (X : zX p l s m meth c G S0 own cc nL ret hh) {n : Int} {k : Int32} (hdg : decode cc pc = .ok (.sipush n, 3)) (hk : (Int16.ofInt n).toInt32 = k) (kk : zJ p l e R s m args below meth c Q G S0 nL S (pc + 3) lv (zi k :: st)) : zJ p l e R s m args below meth c Q G S0 nL S pc lv st := by
  intro ls H locs hl hP hS h5 hg hs hv
  exact lv_sipush X.1 X.2.1 hdg hk (kk ls H locs hl hP hS h5 hg (zv_cons trivial hs) hv)
theorem zJ_aconst_null (X : zX p l s m meth c G S0 own cc nL ret hh) (hdg : decode cc pc = .ok (.aconst_null, 1)) (kk : zJ p l e R s m args below meth c Q G S0 nL S (pc + 1) lv (zn :: st)) : zJ p l e R s m args below meth c Q G S0 nL S pc lv st := by
  intro ls H locs hl hP hS h5 hg hs hv
  exact lv_null X.1 X.2.1 hdg (kk ls H locs hl hP hS h5 hg (zv_cons trivial hs) hv)
theorem zJ_fconst0 (X : zX p l s m meth c G S0 own cc nL ret hh) (hdg : decode cc pc = .ok (.fconst 0, 1)) (kk : zJ p l e R s m args below meth c Q G S0 nL S (pc + 1) lv (zf FP.fconst0 :: st)) : zJ p l e R s m args below meth c Q G S0 nL S pc lv st := by
  intro ls H locs hl hP hS h5 hg hs hv
  exact lv_fconst0 X.1 X.2.1 hdg (kk ls H locs hl hP hS h5 hg (zv_cons trivial hs) hv)
theorem zJ_dconst0 (X : zX p l s m meth c G S0 own cc nL ret hh) (hdg : decode cc pc = .ok (.dconst 0, 1)) (kk : zJ p l e R s m args below meth c Q G S0 nL S (pc + 1) lv (zd FP.dconst0 :: st)) : zJ p l e R s m args below meth c Q G S0 nL S pc lv st := by
  intro ls H locs hl hP hS h5 hg hs hv
  exact lv_dconst0 X.1 X.2.1 hdg (kk ls H locs hl hP hS h5 hg (zv_cons trivial hs) hv)
theorem zJ_ldc (X : zX p l s m meth c G S0 own cc nL ret hh) {ix q : Nat} {k : Int32} (hdg : decode cc pc = .ok (.ldc ix, 2)) (hq : lw_tbl[q]? = some (.constant own ix k)) (kk : zJ p l e R s m args below meth c Q G S0 nL S (pc + 2) lv (zi k :: st)) : zJ p l e R s m args below meth c Q G S0 nL S pc lv st := by
  intro ls H locs hl hP hS h5 hg hs hv
  exact lv_ldc X.1 X.2.1 X.2.2.2.1 (zw_use X.2.2.2.2.2.1.1 hq rfl) hdg (kk ls H locs hl hP hS h5 hg (zv_cons trivial hs) hv)
theorem zJ_ldc_w (X : zX p l s m meth c G S0 own cc nL ret hh) {ix q : Nat} {k : Int32} (hdg : decode cc pc = .ok (.ldc_w ix, 3)) (hq : lw_tbl[q]? = some (.constant own ix k)) (kk : zJ p l e R s m args below meth c Q G S0 nL S (pc + 3) lv (zi k :: st)) : zJ p l e R s m args below meth c Q G S0 nL S pc lv st := by
  intro ls H locs hl hP hS h5 hg hs hv
  exact lv_ldcw X.1 X.2.1 X.2.2.2.1 (zw_use X.2.2.2.2.2.1.1 hq rfl) hdg (kk ls H locs hl hP hS h5 hg (zv_cons trivial hs) hv)
theorem va_ldcwS {H : Heap} {locs : List Loc} {cells slots : Nat} {ls : Array Slot} {rest : List Value} (hexec : p.tables.exec = Jvm.exec) (hb : c.code = cc) {own tx : String} {index q : Nat} (hown : s.vm.findClass own = some m.cls) (hZ : vk_R own index tx q s) (hdg : decode cc pc = .ok (.ldc_w index, 3))
    (k : W p l e R s m args below meth c H locs cells slots Q (F0 m (pc + 3) ls (.ref q :: rest))) : W p l e R s m args below meth c H locs cells slots Q (F0 m pc ls rest) := by
  intro T hT X
  obtain ⟨t, a1, b1⟩ := k T hT X
  exact ⟨t, X.ldcStringW hexec hown (text := tx) (a := q) hZ.1 hZ.2 (g := F0 m pc ls rest) rfl (by rw [hb]; exact hdg) t a1, b1⟩
theorem zJ_ldcS (X : zX p l s m meth c G S0 own cc nL ret hh) {ix q t : Nat} {tx : String} (hdg : decode cc pc = .ok (.ldc ix, 2)) (hq : zt_srs[q]? = some (own, ix, t)) (ht : zt_strs[t]? = some tx) (ht2 : t ∈ zt_av) (kk : zJ p l e R s m args below meth c Q G S0 nL S (pc + 2) lv (za 6 t 0 :: st)) : zJ p l e R s m args below meth c Q G S0 nL S pc lv st := by
  intro ls H locs hl hP hS h5 hg hs hv
  exact va_ldcS X.1 X.2.1 X.2.2.2.1 (X.2.2.2.2.2.1.2.1 q own ix t tx hq ht) hdg (kk ls H locs hl hP hS h5 hg (zv_cons (Or.inr (Or.inr ⟨Or.inl rfl, ht2, rfl⟩)) hs) hv)
theorem zJ_ldc_wS (X : zX p l s m meth c G S0 own cc nL ret hh) {ix q t : Nat} {tx : String} (hdg : decode cc pc = .ok (.ldc_w ix, 3)) (hq : zt_srs[q]? = some (own, ix, t)) (ht : zt_strs[t]? = some tx) (ht2 : t ∈ zt_av) (kk : zJ p l e R s m args below meth c Q G S0 nL S (pc + 3) lv (za 6 t 0 :: st)) : zJ p l e R s m args below meth c Q G S0 nL S pc lv st := by
  intro ls H locs hl hP hS h5 hg hs hv
  exact va_ldcwS X.1 X.2.1 X.2.2.2.1 (X.2.2.2.2.2.1.2.1 q own ix t tx hq ht) hdg (kk ls H locs hl hP hS h5 hg (zv_cons (Or.inr (Or.inr ⟨Or.inl rfl, ht2, rfl⟩)) hs) hv)
theorem zJ_iadd (X : zX p l s m meth c G S0 own cc nL ret hh) {x y : Int32} (hdg : decode cc pc = .ok (.iadd, 1))  (kk : zJ p l e R s m args below meth c Q G S0 nL S (pc + 1) lv (zi (x + y) :: st)) : zJ p l e R s m args below meth c Q G S0 nL S pc lv (zi y :: zi x :: st) := by
  intro ls H locs hl hP hS h5 hg hs hv
  exact lv_iadd X.1 X.2.1 hdg (kk ls H locs hl hP hS h5 hg (zv_cons trivial (zv_tl (zv_tl hs))) hv)
theorem zJ_isub (X : zX p l s m meth c G S0 own cc nL ret hh) {x y : Int32} (hdg : decode cc pc = .ok (.isub, 1))  (kk : zJ p l e R s m args below meth c Q G S0 nL S (pc + 1) lv (zi (x - y) :: st)) : zJ p l e R s m args below meth c Q G S0 nL S pc lv (zi y :: zi x :: st) := by
  intro ls H locs hl hP hS h5 hg hs hv
  exact lv_isub X.1 X.2.1 hdg (kk ls H locs hl hP hS h5 hg (zv_cons trivial (zv_tl (zv_tl hs))) hv)
theorem zJ_imul (X : zX p l s m meth c G S0 own cc nL ret hh) {x y : Int32} (hdg : decode cc pc = .ok (.imul, 1))  (kk : zJ p l e R s m args below meth c Q G S0 nL S (pc + 1) lv (zi (x * y) :: st)) : zJ p l e R s m args below meth c Q G S0 nL S pc lv (zi y :: zi x :: st) := by
  intro ls H locs hl hP hS h5 hg hs hv
  exact lv_imul X.1 X.2.1 hdg (kk ls H locs hl hP hS h5 hg (zv_cons trivial (zv_tl (zv_tl hs))) hv)
theorem zJ_iand (X : zX p l s m meth c G S0 own cc nL ret hh) {x y : Int32} (hdg : decode cc pc = .ok (.iand, 1))  (kk : zJ p l e R s m args below meth c Q G S0 nL S (pc + 1) lv (zi (x &&& y) :: st)) : zJ p l e R s m args below meth c Q G S0 nL S pc lv (zi y :: zi x :: st) := by
  intro ls H locs hl hP hS h5 hg hs hv
  exact lv_iand X.1 X.2.1 hdg (kk ls H locs hl hP hS h5 hg (zv_cons trivial (zv_tl (zv_tl hs))) hv)
theorem zJ_ior (X : zX p l s m meth c G S0 own cc nL ret hh) {x y : Int32} (hdg : decode cc pc = .ok (.ior, 1))  (kk : zJ p l e R s m args below meth c Q G S0 nL S (pc + 1) lv (zi (x ||| y) :: st)) : zJ p l e R s m args below meth c Q G S0 nL S pc lv (zi y :: zi x :: st) := by
  intro ls H locs hl hP hS h5 hg hs hv
  exact lv_ior X.1 X.2.1 hdg (kk ls H locs hl hP hS h5 hg (zv_cons trivial (zv_tl (zv_tl hs))) hv)
theorem zJ_ixor (X : zX p l s m meth c G S0 own cc nL ret hh) {x y : Int32} (hdg : decode cc pc = .ok (.ixor, 1))  (kk : zJ p l e R s m args below meth c Q G S0 nL S (pc + 1) lv (zi (x ^^^ y) :: st)) : zJ p l e R s m args below meth c Q G S0 nL S pc lv (zi y :: zi x :: st) := by
  intro ls H locs hl hP hS h5 hg hs hv
  exact lv_ixor X.1 X.2.1 hdg (kk ls H locs hl hP hS h5 hg (zv_cons trivial (zv_tl (zv_tl hs))) hv)
theorem zJ_ishl (X : zX p l s m meth c G S0 own cc nL ret hh) {x y : Int32} (hdg : decode cc pc = .ok (.ishl, 1))  (kk : zJ p l e R s m args below meth c Q G S0 nL S (pc + 1) lv (zi (x <<< (y &&& 31)) :: st)) : zJ p l e R s m args below meth c Q G S0 nL S pc lv (zi y :: zi x :: st) := by
  intro ls H locs hl hP hS h5 hg hs hv
  exact lv_ishl X.1 X.2.1 hdg (kk ls H locs hl hP hS h5 hg (zv_cons trivial (zv_tl (zv_tl hs))) hv)
theorem zJ_ishr (X : zX p l s m meth c G S0 own cc nL ret hh) {x y : Int32} (hdg : decode cc pc = .ok (.ishr, 1))  (kk : zJ p l e R s m args below meth c Q G S0 nL S (pc + 1) lv (zi (x >>> (y &&& 31)) :: st)) : zJ p l e R s m args below meth c Q G S0 nL S pc lv (zi y :: zi x :: st) := by
  intro ls H locs hl hP hS h5 hg hs hv
  exact lv_ishr X.1 X.2.1 hdg (kk ls H locs hl hP hS h5 hg (zv_cons trivial (zv_tl (zv_tl hs))) hv)
theorem zJ_iushr (X : zX p l s m meth c G S0 own cc nL ret hh) {x y : Int32} (hdg : decode cc pc = .ok (.iushr, 1))  (kk : zJ p l e R s m args below meth c Q G S0 nL S (pc + 1) lv (zi (x.toUInt32 >>> (y.toUInt32 &&& Int32.toUInt32 31)).toInt32 :: st)) : zJ p l e R s m args below meth c Q G S0 nL S pc lv (zi y :: zi x :: st) := by
  intro ls H locs hl hP hS h5 hg hs hv
  exact lv_iushr X.1 X.2.1 hdg rfl (kk ls H locs hl hP hS h5 hg (zv_cons trivial (zv_tl (zv_tl hs))) hv)
theorem zJ_idiv (X : zX p l s m meth c G S0 own cc nL ret hh) {x y : Int32} (hdg : decode cc pc = .ok (.idiv, 1)) (hne : ¬ y = 0) (kk : zJ p l e R s m args below meth c Q G S0 nL S (pc + 1) lv (zi (x / y) :: st)) : zJ p l e R s m args below meth c Q G S0 nL S pc lv (zi y :: zi x :: st) := by
  intro ls H locs hl hP hS h5 hg hs hv
  exact lv_idiv X.1 X.2.1 hdg hne (kk ls H locs hl hP hS h5 hg (zv_cons trivial (zv_tl (zv_tl hs))) hv)
theorem zJ_irem (X : zX p l s m meth c G S0 own cc nL ret hh) {x y : Int32} (hdg : decode cc pc = .ok (.irem, 1)) (hne : ¬ y = 0) (kk : zJ p l e R s m args below meth c Q G S0 nL S (pc + 1) lv (zi (x - x / y * y) :: st)) : zJ p l e R s m args below meth c Q G S0 nL S pc lv (zi y :: zi x :: st) := by
  intro ls H locs hl hP hS h5 hg hs hv
  exact lv_irem X.1 X.2.1 hdg hne (kk ls H locs hl hP hS h5 hg (zv_cons trivial (zv_tl (zv_tl hs))) hv)
theorem zJ_ineg (X : zX p l s m meth c G S0 own cc nL ret hh) {x : Int32} (hdg : decode cc pc = .ok (.ineg, 1))  (kk : zJ p l e R s m args below meth c Q G S0 nL S (pc + 1) lv (zi (-x) :: st)) : zJ p l e R s m args below meth c Q G S0 nL S pc lv (zi x :: st) := by
  intro ls H locs hl hP hS h5 hg hs hv
  exact lv_ineg X.1 X.2.1 hdg (kk ls H locs hl hP hS h5 hg (zv_cons trivial (zv_tl hs)) hv)
theorem zJ_i2l (X : zX p l s m meth c G S0 own cc nL ret hh) {x : Int32} (hdg : decode cc pc = .ok (.i2l, 1))  (kk : zJ p l e R s m args below meth c Q G S0 nL S (pc + 1) lv (zl x.toInt64 :: st)) : zJ p l e R s m args below meth c Q G S0 nL S pc lv (zi x :: st) := by
  intro ls H locs hl hP hS h5 hg hs hv
  exact lv_i2l X.1 X.2.1 hdg rfl (kk ls H locs hl hP hS h5 hg (zv_cons trivial (zv_tl hs)) hv)
theorem zJ_i2f (X : zX p l s m meth c G S0 own cc nL ret hh) {x : Int32} (hdg : decode cc pc = .ok (.i2f, 1))  (kk : zJ p l e R s m args below meth c Q G S0 nL S (pc + 1) lv (zf (FP.i2f x) :: st)) : zJ p l e R s m args below meth c Q G S0 nL S pc lv (zi x :: st) := by
  intro ls H locs hl hP hS h5 hg hs hv
  exact lv_i2f X.1 X.2.1 hdg (kk ls H locs hl hP hS h5 hg (zv_cons trivial (zv_tl hs)) hv)
theorem zJ_i2d (X : zX p l s m meth c G S0 own cc nL ret hh) {x : Int32} (hdg : decode cc pc = .ok (.i2d, 1))  (kk : zJ p l e R s m args below meth c Q G S0 nL S (pc + 1) lv (zd (FP.i2d x) :: st)) : zJ p l e R s m args below meth c Q G S0 nL S pc lv (zi x :: st) := by
  intro ls H locs hl hP hS h5 hg hs hv
  exact lv_i2d X.1 X.2.1 hdg (kk ls H locs hl hP hS h5 hg (zv_cons trivial (zv_tl hs)) hv)
theorem zJ_f2i (X : zX p l s m meth c G S0 own cc nL ret hh) {x : UInt32} (hdg : decode cc pc = .ok (.f2i, 1))  (kk : zJ p l e R s m args below meth c Q G S0 nL S (pc + 1) lv (zi (FP.f2i x) :: st)) : zJ p l e R s m args below meth c Q G S0 nL S pc lv (zf x :: st) := by
  intro ls H locs hl hP hS h5 hg hs hv
  exact lv_f2i X.1 X.2.1 hdg (kk ls H locs hl hP hS h5 hg (zv_cons trivial (zv_tl hs)) hv)
theorem zJ_i2c (X : zX p l s m meth c G S0 own cc nL ret hh) {x : Int32} (hdg : decode cc pc = .ok (.i2c, 1))  (kk : zJ p l e R s m args below meth c Q G S0 nL S (pc + 1) lv (zi (x.toUInt32 % 65536).toInt32 :: st)) : zJ p l e R s m args below meth c Q G S0 nL S pc lv (zi x :: st) := by
  intro ls H locs hl hP hS h5 hg hs hv
  exact lv_i2c X.1 X.2.1 hdg rfl (kk ls H locs hl hP hS h5 hg (zv_cons trivial (zv_tl hs)) hv)
theorem zJ_fneg (X : zX p l s m meth c G S0 own cc nL ret hh) {x : UInt32} (hdg : decode cc pc = .ok (.fneg, 1))  (kk : zJ p l e R s m args below meth c Q G S0 nL S (pc + 1) lv (zf (FP.fneg x) :: st)) : zJ p l e R s m args below meth c Q G S0 nL S pc lv (zf x :: st) := by
  intro ls H locs hl hP hS h5 hg hs hv
  exact lv_fneg X.1 X.2.1 hdg (kk ls H locs hl hP hS h5 hg (zv_cons trivial (zv_tl hs)) hv)
theorem zf_n32 {x : UInt32} (h : ¬ FP.fIsNaN x = true) : vf_n32 x := by
  unfold vf_n32
  have h1 : FP.fIsNaN x = false := by cases hx : FP.fIsNaN x <;> simp_all
  have h2 : ¬ (2139095040 < x.toNat % 2 ^ 31) := fun z => by
    have := (FP.Core.isNaN_bits32 x).mpr z
    rw [← FP.fIsNaN_core] at this
    rw [this] at h1
    cases h1
  rw [UInt32.le_iff_toNat_le, FP.Core.mask_toNat32]
  show x.toNat % 2 ^ 31 ≤ 2139095040
  omega
theorem zf_n64 {x : UInt64} (h : ¬ FP.dIsNaN x = true) : vf_n64 x := by
  unfold vf_n64
  have h1 : FP.dIsNaN x = false := by cases hx : FP.dIsNaN x <;> simp_all
  have h2 : ¬ (9218868437227405312 < x.toNat % 2 ^ 63) := fun z => by
    have := (FP.Core.isNaN_bits x).mpr z
    rw [← FP.dIsNaN_core] at this
    rw [this] at h1
    cases h1
  rw [UInt64.le_iff_toNat_le, FP.Core.mask_toNat]
  show x.toNat % 2 ^ 63 ≤ 9218868437227405312
  omega
theorem zJ_fadd (X : zX p l s m meth c G S0 own cc nL ret hh) {x y : UInt32} (hdg : decode cc pc = .ok (.fadd, 1)) (hne : ¬ FP.fIsNaN (FP.fadd x y) = true) (kk : zJ p l e R s m args below meth c Q G S0 nL S (pc + 1) lv (zf (FP.fadd x y) :: st)) : zJ p l e R s m args below meth c Q G S0 nL S pc lv (zf y :: zf x :: st) := by
  intro ls H locs hl hP hS h5 hg hs hv
  exact lv_fadd X.1 X.2.1 hdg (zf_n32 hne) (kk ls H locs hl hP hS h5 hg (zv_cons trivial (zv_tl (zv_tl hs))) hv)
theorem zJ_fsub (X : zX p l s m meth c G S0 own cc nL ret hh) {x y : UInt32} (hdg : decode cc pc = .ok (.fsub, 1)) (hne : ¬ FP.fIsNaN (FP.fsub x y) = true) (kk : zJ p l e R s m args below meth c Q G S0 nL S (pc + 1) lv (zf (FP.fsub x y) :: st)) : zJ p l e R s m args below meth c Q G S0 nL S pc lv (zf y :: zf x :: st) := by
  intro ls H locs hl hP hS h5 hg hs hv
  exact lv_fsub X.1 X.2.1 hdg (zf_n32 hne) (kk ls H locs hl hP hS h5 hg (zv_cons trivial (zv_tl (zv_tl hs))) hv)
theorem zJ_fmul (X : zX p l s m meth c G S0 own cc nL ret hh) {x y : UInt32} (hdg : decode cc pc = .ok (.fmul, 1)) (hne : ¬ FP.fIsNaN (FP.fmul x y) = true) (kk : zJ p l e R s m args below meth c Q G S0 nL S (pc + 1) lv (zf (FP.fmul x y) :: st)) : zJ p l e R s m args below meth c Q G S0 nL S pc lv (zf y :: zf x :: st) := by
  intro ls H locs hl hP hS h5 hg hs hv
  exact lv_fmul X.1 X.2.1 hdg (zf_n32 hne) (kk ls H locs hl hP hS h5 hg (zv_cons trivial (zv_tl (zv_tl hs))) hv)
theorem zJ_fdiv (X : zX p l s m meth c G S0 own cc nL ret hh) {x y : UInt32} (hdg : decode cc pc = .ok (.fdiv, 1)) (hne : ¬ FP.fIsNaN (FP.fdiv x y) = true) (kk : zJ p l e R s m args below meth c Q G S0 nL S (pc + 1) lv (zf (FP.fdiv x y) :: st)) : zJ p l e R s m args below meth c Q G S0 nL S pc lv (zf y :: zf x :: st) := by
  intro ls H locs hl hP hS h5 hg hs hv
  exact lv_fdiv X.1 X.2.1 hdg (zf_n32 hne) (kk ls H locs hl hP hS h5 hg (zv_cons trivial (zv_tl (zv_tl hs))) hv)
theorem zJ_ddiv (X : zX p l s m meth c G S0 own cc nL ret hh) {x y : UInt64} (hdg : decode cc pc = .ok (.ddiv, 1)) (hne : ¬ FP.dIsNaN (FP.ddiv x y) = true) (kk : zJ p l e R s m args below meth c Q G S0 nL S (pc + 1) lv (zd (FP.ddiv x y) :: st)) : zJ p l e R s m args below meth c Q G S0 nL S pc lv (zd y :: zd x :: st) := by
  intro ls H locs hl hP hS h5 hg hs hv
  exact lv_ddiv X.1 X.2.1 hdg (zf_n64 hne) (kk ls H locs hl hP hS h5 hg (zv_cons trivial (zv_tl (zv_tl hs))) hv)
theorem zJ_f2d (X : zX p l s m meth c G S0 own cc nL ret hh) {x : UInt32} (hdg : decode cc pc = .ok (.f2d, 1)) (hne : ¬ FP.fIsNaN x = true) (kk : zJ p l e R s m args below meth c Q G S0 nL S (pc + 1) lv (zd (FP.f2d x) :: st)) : zJ p l e R s m args below meth c Q G S0 nL S pc lv (zf x :: st) := by
  intro ls H locs hl hP hS h5 hg hs hv
  exact lv_f2d X.1 X.2.1 hdg (zf_n64 (by rw [FP.f2d_nan]; exact hne)) (kk ls H locs hl hP hS h5 hg (zv_cons trivial (zv_tl hs)) hv)
theorem zJ_fcmp (X : zX p l s m meth c G S0 own cc nL ret hh) {x y : UInt32} {op : CmpOp} (hdg : decode cc pc = .ok (.fcmp op, 1))  (kk : zJ p l e R s m args below meth c Q G S0 nL S (pc + 1) lv (zi (Op.cmpValue (FP.fcmp x y) op) :: st)) : zJ p l e R s m args below meth c Q G S0 nL S pc lv (zf y :: zf x :: st) := by
  intro ls H locs hl hP hS h5 hg hs hv
  exact lv_fcmp X.1 X.2.1 hdg (kk ls H locs hl hP hS h5 hg (zv_cons trivial (zv_tl (zv_tl hs))) hv)
theorem zJ_dcmp (X : zX p l s m meth c G S0 own cc nL ret hh) {x y : UInt64} {op : CmpOp} (hdg : decode cc pc = .ok (.dcmp op, 1))  (kk : zJ p l e R s m args below meth c Q G S0 nL S (pc + 1) lv (zi (Op.cmpValue (FP.dcmp x y) op) :: st)) : zJ p l e R s m args below meth c Q G S0 nL S pc lv (zd y :: zd x :: st) := by
  intro ls H locs hl hP hS h5 hg hs hv
  exact lv_dcmp X.1 X.2.1 hdg (kk ls H locs hl hP hS h5 hg (zv_cons trivial (zv_tl (zv_tl hs))) hv)
theorem zJ_lcmp (X : zX p l s m meth c G S0 own cc nL ret hh) {x y : Int64} (hdg : decode cc pc = .ok (.lcmp, 1))  (kk : zJ p l e R s m args below meth c Q G S0 nL S (pc + 1) lv (zi (lg_cmp x y) :: st)) : zJ p l e R s m args below meth c Q G S0 nL S pc lv (zl y :: zl x :: st) := by
  intro ls H locs hl hP hS h5 hg hs hv
  exact W.lcmp X.1 X.2.1 hdg (kk ls H locs hl hP hS h5 hg (zv_cons trivial (zv_tl (zv_tl hs))) hv)
theorem zJ_dup (X : zX p l s m meth c G S0 own cc nL ret hh) {v : zV} (hdg : decode cc pc = .ok (.dup, 1)) (hc : zl_wide (some v) = false) (kk : zJ p l e R s m args below meth c Q G S0 nL S (pc + 1) lv (v :: v :: st)) : zJ p l e R s m args below meth c Q G S0 nL S pc lv (v :: st) := by
  intro ls H locs hl hP hS h5 hg hs hv
  exact lv_dup X.1 X.2.1 hdg (zc_cat1 _ _ hc) (kk ls H locs hl hP hS h5 hg (zv_cons (zv_hd hs) hs) hv)
theorem zJ_dup2 (X : zX p l s m meth c G S0 own cc nL ret hh) {v w : zV} (hdg : decode cc pc = .ok (.dup2, 1)) (hc : zl_wide (some v) = false) (hd : zl_wide (some w) = false) (kk : zJ p l e R s m args below meth c Q G S0 nL S (pc + 1) lv (v :: w :: v :: w :: st)) : zJ p l e R s m args below meth c Q G S0 nL S pc lv (v :: w :: st) := by
  intro ls H locs hl hP hS h5 hg hs hv
  exact lv_dup2_11 X.1 X.2.1 hdg (zc_cat1 _ _ hc) (zc_cat1 _ _ hd) (kk ls H locs hl hP hS h5 hg (zv_cons (zv_hd hs) (zv_cons (zv_hd (zv_tl hs)) hs)) hv)
theorem zJ_if_eq (X : zX p l s m meth c G S0 own cc nL ret hh) {x : Int32} {off : Int} {t : Nat} (hdg : decode cc pc = .ok (.ifCond .eq off, 3)) (ht : (pc : Int) + off = (t : Int)) (kt : x = 0 → zJ p l e R s m args below meth c Q G S0 nL S t lv st) (kf : ¬ x = 0 → zJ p l e R s m args below meth c Q G S0 nL S (pc + 3) lv st) : zJ p l e R s m args below meth c Q G S0 nL S pc lv (zi x :: st) := by
  intro ls H locs hl hP hS h5 hg hs hv
  exact lv_if_eq X.1 X.2.1 hdg ht (fun z => kt z ls H locs hl hP hS h5 hg (zv_tl hs) hv) (fun z => kf z ls H locs hl hP hS h5 hg (zv_tl hs) hv)
theorem zJ_icmp_eq (X : zX p l s m meth c G S0 own cc nL ret hh) {x y : Int32} {off : Int} {t : Nat} (hdg : decode cc pc = .ok (.if_icmp .eq off, 3)) (ht : (pc : Int) + off = (t : Int)) (kt : x = y → zJ p l e R s m args below meth c Q G S0 nL S t lv st) (kf : ¬ x = y → zJ p l e R s m args below meth c Q G S0 nL S (pc + 3) lv st) : zJ p l e R s m args below meth c Q G S0 nL S pc lv (zi y :: zi x :: st) := by
  intro ls H locs hl hP hS h5 hg hs hv
  exact lv_icmp_eq X.1 X.2.1 hdg ht (fun z => kt z ls H locs hl hP hS h5 hg (zv_tl (zv_tl hs)) hv) (fun z => kf z ls H locs hl hP hS h5 hg (zv_tl (zv_tl hs)) hv)
theorem zJ_if_ne (X : zX p l s m meth c G S0 own cc nL ret hh) {x : Int32} {off : Int} {t : Nat} (hdg : decode cc pc = .ok (.ifCond .ne off, 3)) (ht : (pc : Int) + off = (t : Int)) (kt : ¬ x = 0 → zJ p l e R s m args below meth c Q G S0 nL S t lv st) (kf : x = 0 → zJ p l e R s m args below meth c Q G S0 nL S (pc + 3) lv st) : zJ p l e R s m args below meth c Q G S0 nL S pc lv (zi x :: st) := by
  intro ls H locs hl hP hS h5 hg hs hv
  exact lv_if_ne X.1 X.2.1 hdg ht (fun z => kt z ls H locs hl hP hS h5 hg (zv_tl hs) hv) (fun z => kf z ls H locs hl hP hS h5 hg (zv_tl hs) hv)
theorem zJ_icmp_ne (X : zX p l s m meth c G S0 own cc nL ret hh) {x y : Int32} {off : Int} {t : Nat} (hdg : decode cc pc = .ok (.if_icmp .ne off, 3)) (ht : (pc : Int) + off = (t : Int)) (kt : ¬ x = y → zJ p l e R s m args below meth c Q G S0 nL S t lv st) (kf : x = y → zJ p l e R s m args below meth c Q G S0 nL S (pc + 3) lv st) : zJ p l e R s m args below meth c Q G S0 nL S pc lv (zi y :: zi x :: st) := by
  intro ls H locs hl hP hS h5 hg hs hv
  exact lv_icmp_ne X.1 X.2.1 hdg ht (fun z => kt z ls H locs hl hP hS h5 hg (zv_tl (zv_tl hs)) hv) (fun z => kf z ls H locs hl hP hS h5 hg (zv_tl (zv_tl hs)) hv)
theorem zJ_if_lt (X : zX p l s m meth c G S0 own cc nL ret hh) {x : Int32} {off : Int} {t : Nat} (hdg : decode cc pc = .ok (.ifCond .lt off, 3)) (ht : (pc : Int) + off = (t : Int)) (kt : x < 0 → zJ p l e R s m args below meth c Q G S0 nL S t lv st) (kf : ¬ x < 0 → zJ p l e R s m args below meth c Q G S0 nL S (pc + 3) lv st) : zJ p l e R s m args below meth c Q G S0 nL S pc lv (zi x :: st) := by
  intro ls H locs hl hP hS h5 hg hs hv
  exact lv_if_lt X.1 X.2.1 hdg ht (fun z => kt z ls H locs hl hP hS h5 hg (zv_tl hs) hv) (fun z => kf z ls H locs hl hP hS h5 hg (zv_tl hs) hv)
theorem zJ_icmp_lt (X : zX p l s m meth c G S0 own cc nL ret hh) {x y : Int32} {off : Int} {t : Nat} (hdg : decode cc pc = .ok (.if_icmp .lt off, 3)) (ht : (pc : Int) + off = (t : Int)) (kt : x < y → zJ p l e R s m args below meth c Q G S0 nL S t lv st) (kf : ¬ x < y → zJ p l e R s m args below meth c Q G S0 nL S (pc + 3) lv st) : zJ p l e R s m args below meth c Q G S0 nL S pc lv (zi y :: zi x :: st) := by
  intro ls H locs hl hP hS h5 hg hs hv
  exact lv_icmp_lt X.1 X.2.1 hdg ht (fun z => kt z ls H locs hl hP hS h5 hg (zv_tl (zv_tl hs)) hv) (fun z => kf z ls H locs hl hP hS h5 hg (zv_tl (zv_tl hs)) hv)
theorem zJ_if_ge (X : zX p l s m meth c G S0 own cc nL ret hh) {x : Int32} {off : Int} {t : Nat} (hdg : decode cc pc = .ok (.ifCond .ge off, 3)) (ht : (pc : Int) + off = (t : Int)) (kt : 0 ≤ x → zJ p l e R s m args below meth c Q G S0 nL S t lv st) (kf : ¬ 0 ≤ x → zJ p l e R s m args below meth c Q G S0 nL S (pc + 3) lv st) : zJ p l e R s m args below meth c Q G S0 nL S pc lv (zi x :: st) := by
  intro ls H locs hl hP hS h5 hg hs hv
  exact lv_if_ge X.1 X.2.1 hdg ht (fun z => kt z ls H locs hl hP hS h5 hg (zv_tl hs) hv) (fun z => kf z ls H locs hl hP hS h5 hg (zv_tl hs) hv)
theorem zJ_icmp_ge (X : zX p l s m meth c G S0 own cc nL ret hh) {x y : Int32} {off : Int} {t : Nat} (hdg : decode cc pc = .ok (.if_icmp .ge off, 3)) (ht : (pc : Int) + off = (t : Int)) (kt : y ≤ x → zJ p l e R s m args below meth c Q G S0 nL S t lv st) (kf : ¬ y ≤ x → zJ p l e R s m args below meth c Q G S0 nL S (pc + 3) lv st) : zJ p l e R s m args below meth c Q G S0 nL S pc lv (zi y :: zi x :: st) := by
  intro ls H locs hl hP hS h5 hg hs hv
  exact lv_icmp_ge X.1 X.2.1 hdg ht (fun z => kt z ls H locs hl hP hS h5 hg (zv_tl (zv_tl hs)) hv) (fun z => kf z ls H locs hl hP hS h5 hg (zv_tl (zv_tl hs)) hv)
theorem zJ_if_gt (X : zX p l s m meth c G S0 own cc nL ret hh) {x : Int32} {off : Int} {t : Nat} (hdg : decode cc pc = .ok (.ifCond .gt off, 3)) (ht : (pc : Int) + off = (t : Int)) (kt : 0 < x → zJ p l e R s m args below meth c Q G S0 nL S t lv st) (kf : ¬ 0 < x → zJ p l e R s m args below meth c Q G S0 nL S (pc + 3) lv st) : zJ p l e R s m args below meth c Q G S0 nL S pc lv (zi x :: st) := by
  intro ls H locs hl hP hS h5 hg hs hv
  exact lv_if_gt X.1 X.2.1 hdg ht (fun z => kt z ls H locs hl hP hS h5 hg (zv_tl hs) hv) (fun z => kf z ls H locs hl hP hS h5 hg (zv_tl hs) hv)
theorem zJ_icmp_gt (X : zX p l s m meth c G S0 own cc nL ret hh) {x y : Int32} {off : Int} {t : Nat} (hdg : decode cc pc = .ok (.if_icmp .gt off, 3)) (ht : (pc : Int) + off = (t : Int)) (kt : y < x → zJ p l e R s m args below meth c Q G S0 nL S t lv st) (kf : ¬ y < x → zJ p l e R s m args below meth c Q G S0 nL S (pc + 3) lv st) : zJ p l e R s m args below meth c Q G S0 nL S pc lv (zi y :: zi x :: st) := by
  intro ls H locs hl hP hS h5 hg hs hv
  exact lv_icmp_gt X.1 X.2.1 hdg ht (fun z => kt z ls H locs hl hP hS h5 hg (zv_tl (zv_tl hs)) hv) (fun z => kf z ls H locs hl hP hS h5 hg (zv_tl (zv_tl hs)) hv)
theorem zJ_if_le (X : zX p l s m meth c G S0 own cc nL ret hh) {x : Int32} {off : Int} {t : Nat} (hdg : decode cc pc = .ok (.ifCond .le off, 3)) (ht : (pc : Int) + off = (t : Int)) (kt : x ≤ 0 → zJ p l e R s m args below meth c Q G S0 nL S t lv st) (kf : ¬ x ≤ 0 → zJ p l e R s m args below meth c Q G S0 nL S (pc + 3) lv st) : zJ p l e R s m args below meth c Q G S0 nL S pc lv (zi x :: st) := by
  intro ls H locs hl hP hS h5 hg hs hv
  exact lv_if_le X.1 X.2.1 hdg ht (fun z => kt z ls H locs hl hP hS h5 hg (zv_tl hs) hv) (fun z => kf z ls H locs hl hP hS h5 hg (zv_tl hs) hv)
theorem zJ_icmp_le (X : zX p l s m meth c G S0 own cc nL ret hh) {x y : Int32} {off : Int} {t : Nat} (hdg : decode cc pc = .ok (.if_icmp .le off, 3)) (ht : (pc : Int) + off = (t : Int)) (kt : x ≤ y → zJ p l e R s m args below meth c Q G S0 nL S t lv st) (kf : ¬ x ≤ y → zJ p l e R s m args below meth c Q G S0 nL S (pc + 3) lv st) : zJ p l e R s m args below meth c Q G S0 nL S pc lv (zi y :: zi x :: st) := by
  intro ls H locs hl hP hS h5 hg hs hv
  exact lv_icmp_le X.1 X.2.1 hdg ht (fun z => kt z ls H locs hl hP hS h5 hg (zv_tl (zv_tl hs)) hv) (fun z => kf z ls H locs hl hP hS h5 hg (zv_tl (zv_tl hs)) hv)
theorem zJ_goto (X : zX p l s m meth c G S0 own cc nL ret hh) {off : Int} {t : Nat} (hdg : decode cc pc = .ok (.goto off, 3)) (ht : (pc : Int) + off = (t : Int)) (kk : zJ p l e R s m args below meth c Q G S0 nL S t lv st) : zJ p l e R s m args below meth c Q G S0 nL S pc lv st := by
  intro ls H locs hl hP hS h5 hg hs hv
  exact lv_goto X.1 X.2.1 hdg ht (kk ls H locs hl hP hS h5 hg hs hv)
theorem zJ_ifnonnull (X : zX p l s m meth c G S0 own cc nL ret hh) {r : zR} {off : Int} {t : Nat} (hdg : decode cc pc = .ok (.ifnonnull off, 3)) (ht : (pc : Int) + off = (t : Int)) (kk : zJ p l e R s m args below meth c Q G S0 nL S t lv st) : zJ p l e R s m args below meth c Q G S0 nL S pc lv (.inr (.inl (some r)) :: st) := by
  intro ls H locs hl hP hS h5 hg hs hv
  exact lv_ifnonnull X.1 X.2.1 hdg ht (kk ls H locs hl hP hS h5 hg (zv_tl hs) hv)
theorem zJ_ifnonnullN (X : zX p l s m meth c G S0 own cc nL ret hh) {off : Int} (hdg : decode cc pc = .ok (.ifnonnull off, 3)) (kk : zJ p l e R s m args below meth c Q G S0 nL S (pc + 3) lv st) : zJ p l e R s m args below meth c Q G S0 nL S pc lv (zn :: st) := by
  intro ls H locs hl hP hS h5 hg hs hv
  exact lv_ifnonnullN X.1 X.2.1 hdg (kk ls H locs hl hP hS h5 hg (zv_tl hs) hv)
theorem zJ_tableIn (X : zX p l s m meth c G S0 own cc nL ret hh) {dflt lo hi : Int} {offs : Array Int} {len : Nat} {x : Int32} {off : Int} {t : Nat} (hdg : decode cc pc = .ok (.tableswitch dflt lo hi offs, len)) (h1 : ¬ x.toInt < lo) (h2 : ¬ hi < x.toInt) (ho : offs[(x.toInt - lo).toNat]? = some off) (ht : (pc : Int) + off = (t : Int)) (kk : zJ p l e R s m args below meth c Q G S0 nL S t lv st) : zJ p l e R s m args below meth c Q G S0 nL S pc lv (zi x :: st) := by
  intro ls H locs hl hP hS h5 hg hs hv
  exact lv_tableIn X.1 X.2.1 hdg h1 h2 ho ht (kk ls H locs hl hP hS h5 hg (zv_tl hs) hv)
theorem zJ_tableOut (X : zX p l s m meth c G S0 own cc nL ret hh) {dflt lo hi : Int} {offs : Array Int} {len : Nat} {x : Int32} {t : Nat} (hdg : decode cc pc = .ok (.tableswitch dflt lo hi offs, len)) (h : x.toInt < lo ∨ hi < x.toInt) (ht : (pc : Int) + dflt = (t : Int)) (kk : zJ p l e R s m args below meth c Q G S0 nL S t lv st) : zJ p l e R s m args below meth c Q G S0 nL S pc lv (zi x :: st) := by
  intro ls H locs hl hP hS h5 hg hs hv
  exact lv_tableOut X.1 X.2.1 hdg h ht (kk ls H locs hl hP hS h5 hg (zv_tl hs) hv)
theorem zJ_lookup (X : zX p l s m meth c G S0 own cc nL ret hh) {dflt : Int} {ps : Array (Int × Int)} {len : Nat} {x : Int32} {off : Int} {t : Nat} (hdg : decode cc pc = .ok (.lookupswitch dflt ps, len)) (hp : (ps.toList.zip (ps.toList.drop 1)).all (fun (a, next) => a.1 < next.1) = true) (ho : Op.lookupswitch.offset ps.toList dflt x.toInt = off) (ht : (pc : Int) + off = (t : Int)) (kk : zJ p l e R s m args below meth c Q G S0 nL S t lv st) : zJ p l e R s m args below meth c Q G S0 nL S pc lv (zi x :: st) := by
  intro ls H locs hl hP hS h5 hg hs hv
  exact lv_lookup X.1 X.2.1 hdg hp ho ht (kk ls H locs hl hP hS h5 hg (zv_tl hs) hv)
end ZJ

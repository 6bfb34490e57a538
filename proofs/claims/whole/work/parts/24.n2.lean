/-! THE CONSTRUCTION 2: the judgement -/
def nc_sl : nC → Nat
  | .inl (_, fs) => fs.length
  | .inr (.inl xs) => xs.length
  | .inr (.inr (_, l)) => l.length
def n_sl (w : nS) : Nat := (w.map nc_sl).sum
/-- what a constructor's body knows from its start: w0 the world there, ad0 its addresses -/
def nX (p : Program) (l : Launch) (s : State) (m : MethodId) (meth : Method) (c : Code) (D : va_G) (tys : List (ClassId × FieldType)) (own : String) (cc : ByteArray) (nL : Nat) : Prop :=
  p.tables.exec = Jvm.exec ∧ c.code = cc ∧ c.maxLocals = nL ∧ s.vm.findClass own = some m.cls ∧ va_K D vwCl tys s ∧ zw_words s ∧ meth.sig.returnType = none ∧ meth.locks = false ∧ c.exceptionTable.toList = []
/-- the addresses that a body may write: its own world's, and all that is new -/
def nA (ad0 : zR → Nat) (n0 sz : Nat) (q : Nat) : Prop := (∃ k, k < n0 ∧ q = ad0 (zr k)) ∨ sz ≤ q
def nJ (p : Program) (l : Launch) (e : Env) (R : Room) (s : State) (m : MethodId) (args : Array Value) (below : List Frame) (meth : Method) (c : Code) (Q : State → Prop) (D : va_G) (cA : Nat → ClassId) (ad0 : zR → Nat) (w0 : nS) (nL : Nat) (w : nS) (pc : Nat) (lv : zL) (st : List zV) : Prop :=
  ∀ (ad : zR → Nat) (ls : Array Slot) (H : Heap) (locs : List Loc), (∀ r, nr_ok w0.length r → ad r = ad0 r) → lv_has ls nL (zl_pairs ad 0 lv) → va_P D vwCl (n_ws cA ad w) H → va_D (nA ad0 w0.length s.heap.size) (n_ws cA ad w) → va_S (nA ad0 w0.length s.heap.size) s.heap H locs → w0.length ≤ w.length → n_sl w0 ≤ n_sl w → (∀ x, x ∈ w → nc_ok w.length x) → (∀ v, v ∈ st → nv_ok w.length v) → (∀ (j : Nat) (v : zV), zl_get lv j = some v → nv_ok w.length v) →
    W p l e R s m args below meth c H locs (w.length - w0.length) (n_sl w - n_sl w0) Q (F0 m pc ls (st.map (zc ad)))
theorem nv_cons {n : Nat} {v : zV} {st : List zV} (h : nv_ok n v) (hs : ∀ w, w ∈ st → nv_ok n w) : ∀ w, w ∈ v :: st → nv_ok n w := fun w hw => (List.mem_cons.mp hw).elim (fun e => by rw [e]; exact h) (hs w)
theorem nv_tl {n : Nat} {v : zV} {st : List zV} (hs : ∀ w, w ∈ v :: st → nv_ok n w) : ∀ w, w ∈ st → nv_ok n w := fun w hw => hs w (List.mem_cons_of_mem _ hw)
theorem nv_hd {n : Nat} {v : zV} {st : List zV} (hs : ∀ w, w ∈ v :: st → nv_ok n w) : nv_ok n v := hs v List.mem_cons_self
theorem nv_set {n : Nat} {lv : zL} {i : Nat} {v : zV} (h : nv_ok n v) (hv : ∀ (j : Nat) (w : zV), zl_get lv j = some w → nv_ok n w) : ∀ (j : Nat) (w : zV), zl_get (zl_set lv i (some v)) j = some w → nv_ok n w := by
  intro j w hw
  rcases zl_getset _ _ _ _ _ hw with ⟨-, e⟩ | ⟨-, e, -⟩
  · rw [← Option.some.inj e]; exact h
  · exact hv j w e
section NA
variable {p : Program} {l : Launch} {e : Env} {R : Room} {s : State} {m : MethodId} {args : Array Value} {below : List Frame} {meth : Method} {c : Code} {Q : State → Prop} {D : va_G} {tys : List (ClassId × FieldType)} {cA : Nat → ClassId} {ad0 : zR → Nat} {w0 w : nS} {own : String} {cc : ByteArray} {nL pc : Nat} {lv : zL} {st : List zV}
theorem nJ_iload_n (X : nX p l s m meth c D tys own cc nL) {k : Fin 4} {x : Int32} (hdg : decode cc pc = .ok (.iload_n k, 1)) (h : zl_get lv k.val = some (zi x)) (kk : nJ p l e R s m args below meth c Q D cA ad0 w0 nL w (pc + 1) lv (zi x :: st)) : nJ p l e R s m args below meth c Q D cA ad0 w0 nL w pc lv st := by
  intro ad ls H locs ha hl hP hD hS hn hm hw hs hv
  exact lv_iload_n X.1 X.2.1 hdg rfl (zl_at hl h) (kk ad ls H locs ha hl hP hD hS hn hm hw (nv_cons trivial hs) hv)
theorem nJ_aload_n (X : nX p l s m meth c D tys own cc nL) {k : Fin 4} {x : zR} (hdg : decode cc pc = .ok (.aload_n k, 1)) (h : zl_get lv k.val = some (.inr (.inl (some x)))) (kk : nJ p l e R s m args below meth c Q D cA ad0 w0 nL w (pc + 1) lv (.inr (.inl (some x)) :: st)) : nJ p l e R s m args below meth c Q D cA ad0 w0 nL w pc lv st := by
  intro ad ls H locs ha hl hP hD hS hn hm hw hs hv
  exact lv_aload_n X.1 X.2.1 hdg rfl (zl_at hl h) (kk ad ls H locs ha hl hP hD hS hn hm hw (nv_cons (hv _ _ h) hs) hv)
theorem nJ_istore_n (X : nX p l s m meth c D tys own cc nL) {k : Fin 4} {x : Int32} (hdg : decode cc pc = .ok (.istore_n k, 1)) (hn : k.val < nL) (kk : nJ p l e R s m args below meth c Q D cA ad0 w0 nL w (pc + 1) (zl_set lv k.val (some (zi x))) st) : nJ p l e R s m args below meth c Q D cA ad0 w0 nL w pc lv (zi x :: st) := by
  intro ad ls H locs ha hl hP hD hS hn9 hm hw hs hv
  exact lv_istore_n X.1 X.2.1 hdg rfl hl hn rfl (fun ls2 hl2 => kk ad ls2 H locs ha (lv_mono hl2 (fun q hq => zl_stored hq)) hP hD hS hn9 hm hw (nv_tl hs) (nv_set (nv_hd hs) hv))
theorem nJ_iinc (X : nX p l s m meth c D tys own cc nL) {j : Nat} {n : Int} {x k : Int32} (hdg : decode cc pc = .ok (.iinc j n, 3)) (hn : j < nL) (hk : Int32.ofInt n = k) (h : zl_get lv j = some (zi x)) (kk : nJ p l e R s m args below meth c Q D cA ad0 w0 nL w (pc + 3) (zl_set lv j (some (zi (x + k)))) st) : nJ p l e R s m args below meth c Q D cA ad0 w0 nL w pc lv st := by
  intro ad ls H locs ha hl hP hD hS hn9 hm hw hs hv
  obtain ⟨q, hq⟩ := zl_ix (ad := ad) h
  exact lv_iinc X.1 X.2.1 hdg hl hq (by rw [hk]) hn rfl (fun ls2 hl2 => kk ad ls2 H locs ha (lv_mono hl2 (fun q hq => zl_stored hq)) hP hD hS hn9 hm hw hs (nv_set trivial hv))
theorem nJ_iconst (X : nX p l s m meth c D tys own cc nL) {n : Int} {k : Int32} (hdg : decode cc pc = .ok (.iconst n, 1)) (hk : Int32.ofInt n = k) (kk : nJ p l e R s m args below meth c Q D cA ad0 w0 nL w (pc + 1) lv (zi k :: st)) : nJ p l e R s m args below meth c Q D cA ad0 w0 nL w pc lv st := by
  intro ad ls H locs ha hl hP hD hS hn9 hm hw hs hv
  exact lv_iconst X.1 X.2.1 hdg hk (kk ad ls H locs ha hl hP hD hS hn9 hm hw (nv_cons trivial hs) hv)
theorem nJ_bipush (X : nX p l s m meth c D tys own cc nL) {n : Int} {k : Int32} (hdg : decode cc pc = .ok (.bipush n, 2)) (hk : (Int8.ofInt n).toInt32 = k) (kk : nJ p l e R s m args below meth c Q D cA ad0 w0 nL w (pc + 2) lv (zi k :: st)) : nJ p l e R s m args below meth c Q D cA ad0 w0 nL w pc lv st := by
  intro ad ls H locs ha hl hP hD hS hn9 hm hw hs hv
  exact lv_bipush X.1 X.2.1 hdg hk (kk ad ls H locs ha hl hP hD hS hn9 hm hw (nv_cons trivial hs) hv)
theorem nJ_sipush (X : nX p l s m meth c D tys own cc nL) {n : Int} {k : Int32} (hdg : decode cc pc = .ok (.sipush n, 3)) (hk : (Int16.ofInt n).toInt32 = k) (kk : nJ p l e R s m args below meth c Q D cA ad0 w0 nL w (pc + 3) lv (zi k :: st)) : nJ p l e R s m args below meth c Q D cA ad0 w0 nL w pc lv st := by
  intro ad ls H locs ha hl hP hD hS hn9 hm hw hs hv
  exact lv_sipush X.1 X.2.1 hdg hk (kk ad ls H locs ha hl hP hD hS hn9 hm hw (nv_cons trivial hs) hv)
theorem nJ_ldc (X : nX p l s m meth c D tys own cc nL) {ix q : Nat} {k : Int32} (hdg : decode cc pc = .ok (.ldc ix, 2)) (hq : lw_tbl[q]? = some (.constant own ix k)) (kk : nJ p l e R s m args below meth c Q D cA ad0 w0 nL w (pc + 2) lv (zi k :: st)) : nJ p l e R s m args below meth c Q D cA ad0 w0 nL w pc lv st := by
  intro ad ls H locs ha hl hP hD hS hn9 hm hw hs hv
  exact lv_ldc X.1 X.2.1 X.2.2.2.1 (zw_use X.2.2.2.2.2.1 hq rfl) hdg (kk ad ls H locs ha hl hP hD hS hn9 hm hw (nv_cons trivial hs) hv)
theorem nJ_imul (X : nX p l s m meth c D tys own cc nL) {x y : Int32} (hdg : decode cc pc = .ok (.imul, 1))  (kk : nJ p l e R s m args below meth c Q D cA ad0 w0 nL w (pc + 1) lv (zi (x * y) :: st)) : nJ p l e R s m args below meth c Q D cA ad0 w0 nL w pc lv (zi y :: zi x :: st) := by
  intro ad ls H locs ha hl hP hD hS hn9 hm hw hs hv
  exact lv_imul X.1 X.2.1 hdg (kk ad ls H locs ha hl hP hD hS hn9 hm hw (nv_cons trivial (nv_tl (nv_tl hs))) hv)
theorem nJ_icmp_ge (X : nX p l s m meth c D tys own cc nL) {x y : Int32} {off : Int} {t : Nat} (hdg : decode cc pc = .ok (.if_icmp .ge off, 3)) (ht : (pc : Int) + off = (t : Int)) (kt : y ≤ x → nJ p l e R s m args below meth c Q D cA ad0 w0 nL w t lv st) (kf : ¬ y ≤ x → nJ p l e R s m args below meth c Q D cA ad0 w0 nL w (pc + 3) lv st) : nJ p l e R s m args below meth c Q D cA ad0 w0 nL w pc lv (zi y :: zi x :: st) := by
  intro ad ls H locs ha hl hP hD hS hn9 hm hw hs hv
  exact lv_icmp_ge X.1 X.2.1 hdg ht (fun z => kt z ad ls H locs ha hl hP hD hS hn9 hm hw (nv_tl (nv_tl hs)) hv) (fun z => kf z ad ls H locs ha hl hP hD hS hn9 hm hw (nv_tl (nv_tl hs)) hv)
theorem nJ_goto (X : nX p l s m meth c D tys own cc nL) {off : Int} {t : Nat} (hdg : decode cc pc = .ok (.goto off, 3)) (ht : (pc : Int) + off = (t : Int)) (kk : nJ p l e R s m args below meth c Q D cA ad0 w0 nL w t lv st) : nJ p l e R s m args below meth c Q D cA ad0 w0 nL w pc lv st := by
  intro ad ls H locs ha hl hP hD hS hn9 hm hw hs hv
  exact lv_goto X.1 X.2.1 hdg ht (kk ad ls H locs ha hl hP hD hS hn9 hm hw hs hv)
end NA

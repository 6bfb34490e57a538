/-! SOUNDNESS 7: texts, throws, the start of a body -/
section ZT
variable {p : Program} {l : Launch} {e : Env} {R : Room} {s : State} {m : MethodId} {args : Array Value} {below : List Frame} {meth : Method} {c : Code} {Q : State → Prop} {G : zG} {S0 : zS} {own : String} {cc : ByteArray} {nL : Nat} {ret : Option FieldType} {hh : List (Nat × Nat × Nat × Nat)} {S : zS} {pc : Nat} {lv : zL} {st : List zV} {out : zO} {gm : Nat}
theorem zr_6 {t : Nat} (h : zr_ok (6, t, 0)) : t ∈ zt_av := by
  rcases h with h | h | h
  · exact absurd (zt_all_cd _ h).2 (by show ¬ (6 : Nat) < 5; decide)
  · cases h
  · exact h.2.1
theorem zr_7 {t : Nat} (h : zr_ok (7, t, 0)) : t ∈ zt_av := by
  rcases h with h | h | h
  · exact absurd (zt_all_cd _ h).2 (by show ¬ (7 : Nat) < 5; decide)
  · cases h
  · exact h.2.1
theorem zJ_strValue (X : zX p l s m meth c G S0 own cc nL ret hh) {ix q t : Nat} (hdg : decode cc pc = .ok (.getfield ix, 3)) (hq : lw_tbl[q]? = some (.fieldLink own ix "java/lang/String" "value" "[B")) (kk : zJ2 p l e R s m args below meth c Q G S0 nL gm S (pc + 3) lv (za 7 t 0 :: st)) : zJ2 p l e R s m args below meth c Q G S0 nL gm S pc lv (za 6 t 0 :: st) := by
  refine ⟨kk.1, fun ls H locs hl hP hS h5 hg hs hv => ?_⟩
  have ht := zr_6 (zv_hd hs)
  exact vk_getf X.1 X.2.1 ((X.2.2.2.2.2.1.2.2.1 t ht).1 0 (by decide)).2.2.1 hS X.2.2.2.1 (zw_use X.2.2.2.2.2.1.1 hq rfl) (fun _ h => h) hdg (kk.2 ls H locs hl hP hS h5 hg (zv_cons (Or.inr (Or.inr ⟨Or.inr rfl, ht, rfl⟩)) (zv_tl hs)) hv)
theorem zJ_strCoder (X : zX p l s m meth c G S0 own cc nL ret hh) {ix q t : Nat} (hdg : decode cc pc = .ok (.getfield ix, 3)) (hq : lw_tbl[q]? = some (.fieldLink own ix "java/lang/String" "coder" "B")) (kk : zJ2 p l e R s m args below meth c Q G S0 nL gm S (pc + 3) lv (zi 0 :: st)) : zJ2 p l e R s m args below meth c Q G S0 nL gm S pc lv (za 6 t 0 :: st) := by
  refine ⟨kk.1, fun ls H locs hl hP hS h5 hg hs hv => ?_⟩
  have ht := zr_6 (zv_hd hs)
  exact vk_getf X.1 X.2.1 ((X.2.2.2.2.2.1.2.2.1 t ht).1 0 (by decide)).2.1 hS X.2.2.2.1 (zw_use X.2.2.2.2.2.1.1 hq rfl) (fun _ h => h) hdg (kk.2 ls H locs hl hP hS h5 hg (zv_cons trivial (zv_tl hs)) hv)
theorem zJ_compact (X : zX p l s m meth c G S0 own cc nL ret hh) {ix q : Nat} (hdg : decode cc pc = .ok (.getstatic ix, 3)) (hq : lw_tbl[q]? = some (.fieldLink own ix "java/lang/String" "COMPACT_STRINGS" "Z")) (kk : zJ2 p l e R s m args below meth c Q G S0 nL gm S (pc + 3) lv (zi 1 :: st)) : zJ2 p l e R s m args below meth c Q G S0 nL gm S pc lv st := by
  refine ⟨kk.1, fun ls H locs hl hP hS h5 hg hs hv => ?_⟩
  exact va_gets X.1 X.2.1 X.2.2.2.2.2.1.2.2.2.2.2.1 hS X.2.2.2.1 (zw_use X.2.2.2.2.2.1.1 hq rfl) (fun _ h => h) hdg (kk.2 ls H locs hl hP hS h5 hg (zv_cons trivial hs) hv)
theorem zt_tlen : ∀ w ∈ zt_texts, w.length < 2 ^ 31 := by decide +kernel
theorem zJ_baload (X : zX p l s m meth c G S0 own cc nL ret hh) {t : Nat} {j x : Int32} {w : List Int32} (hdg : decode cc pc = .ok (.baload, 1)) (hw : zx_nth zt_texts t = some w) (h0 : ¬ j < 0) (h1 : ¬ Int32.ofNat w.length ≤ j) (hx : zx_nth w j.toNatClampNeg = some x) (kk : zJ2 p l e R s m args below meth c Q G S0 nL gm S (pc + 1) lv (zi x :: st)) : zJ2 p l e R s m args below meth c Q G S0 nL gm S pc lv (zi j :: za 7 t 0 :: st) := by
  refine ⟨kk.1, fun ls H locs hl hP hS h5 hg hs hv => ?_⟩
  have ht := zr_7 (zv_hd (zv_tl hs))
  rw [zx_nth_get] at hw hx
  have hlen : ([(zt_texts.getD t []).length] : List Nat).getD 0 0 = w.length := by show (zt_texts.getD t []).length = _; rw [List.getD_eq_getElem?_getD, hw]; rfl
  have hvp := za_vp (zt_tlen w (List.mem_of_getElem? hw)) h0 h1
  exact va_tb X.1 X.2.1 ((X.2.2.2.2.2.1.2.2.1 t ht).1 0 (by decide)).2.2.2 hS (by rw [hlen]; exact hvp) (v := .int x) (by
    show Value.int ((zt_texts.getD t []).getD j.toNatClampNeg 0) = Value.int x
    rw [List.getD_eq_getElem?_getD (l := zt_texts), hw]
    show Value.int (w.getD j.toNatClampNeg 0) = Value.int x
    rw [List.getD_eq_getElem?_getD, hx]
    rfl) hdg (kk.2 ls H locs hl hP hS h5 hg (zv_cons trivial (zv_tl (zv_tl hs))) hv)
theorem zt_wsg (G : zG) (S : zS) (n : Nat) : zt_ws G (S.1, S.2.1, S.2.2.1, n) = zt_ws G S := rfl
theorem zt_wslt {G : zG} {S : zS} {H H1 : Heap} (hP : va_P G.1 vwCl (zt_ws G S) H) (h : ∀ q : Nat, q < H.size → H1[q]? = H[q]?) : va_P G.1 vwCl (zt_ws G S) H1 := hP.kept (fun k q hk => h q.1 (hP k q hk).lt)
end ZT
/-! the start of a body -/
theorem zl_args {ad : zR → Nat} : ∀ (av : List zV) (i k : Nat), (∀ v, v ∈ av → zl_wide (some v) = false) → ∀ q, q ∈ zl_pairs ad i (av.map some ++ zl_pad k) → q ∈ lv_args i (av.map (zc ad)) := by
  intro av
  induction av with
  | nil =>
    intro i k _ q hq
    exfalso
    revert i
    induction k with
    | zero => intro i hq; cases hq
    | succ k ih => intro i hq; exact ih (i + 1) hq
  | cons v av ih =>
    intro i k h q hq
    have hc := zc_cat1 ad v (h v List.mem_cons_self)
    simp only [List.map_cons, lv_args]
    rw [if_neg (by rw [hc]; decide)]
    rcases List.mem_cons.mp hq with h2 | h2
    · rw [h2]; exact List.mem_cons_self
    · exact List.mem_cons_of_mem _ (ih (i + 1) k (fun w hw => h w (List.mem_cons_of_mem _ hw)) q h2)
theorem zl_sllen {ad : zR → Nat} : ∀ (av : List zV), (∀ v, v ∈ av → zl_wide (some v) = false) → (lg_sl (av.map (zc ad))).length = av.length := by
  intro av
  induction av with
  | nil => intro _; rfl
  | cons v av ih =>
    intro h
    have hc := zc_cat1 ad v (h v List.mem_cons_self)
    have := ih (fun w hw => h w (List.mem_cons_of_mem _ hw))
    unfold lg_sl at this ⊢
    rw [List.map_cons, List.flatMap_cons, if_neg (by rw [hc]; decide), List.length_append, this]
    simp; omega
theorem zl_initmem : ∀ (av : List zV) (k j : Nat) (v : zV), zl_get (av.map some ++ zl_pad k) j = some v → v ∈ av := by
  intro av
  induction av with
  | nil =>
    intro k
    induction k with
    | zero => intro j v h; cases h
    | succ k ih =>
      intro j v h
      cases j with
      | zero => cases h
      | succ j => exact ih j v h
  | cons w av ih =>
    intro k j v h
    cases j with
    | zero => cases h; exact List.mem_cons_self
    | succ j => exact List.mem_cons_of_mem _ (ih k j v h)
theorem zCtr_of {l : Launch} {d : Nat} {M : zM} {av : List zV} {S : zS} {out : zO} (hpn : plainName M.1.cls = true) (hmono : S.2.2.2 ≤ out.2.2.2.2) (hlen : av.length ≤ M.2.2.1)
    (body : (∃ v, out.1 = .inl v) → ∀ (G : zG) (p : Program) (e : Env) (s : State) (m : MethodId) (args : Array Value) (below : List Frame) (meth : Method) (c : Code), zX p l s m meth c G S M.1.cls M.2.1 M.2.2.1 M.2.2.2.1 M.2.2.2.2.1 → zJ p l e (zrm d (out.2.2.2.2 - S.2.2.2)) s m args below meth c (zQ below args s G S out) G S M.2.2.1 S 0 (zl_init av M.2.2.1) []) : zCtr l d M av S out := by
  refine ⟨hmono, fun hno hav G sz => ?_⟩
  have hnw : ∀ v, v ∈ av → zl_wide (some v) = false := fun v h => (hav v h).2
  refine Met.ofW (cc := M.2.1) (maxL := M.2.2.1) (ret := M.2.2.2.1) hpn rfl ?_
  intro p e s m args below meth c s₁ B hml hPc
  obtain ⟨ha, hsz, hW⟩ := hPc
  subst hsz
  have X : zX p l s m meth c G S M.1.cls M.2.1 M.2.2.1 M.2.2.2.1 M.2.2.2.2.1 := ⟨B.exec, B.bytes, hml, findClass_of_methodNamed B.named, hW.2.1, hW.2.2.1, hW.2.2.2, B.returns, B.notSynchronized, trivial, trivial⟩
  have hb := body hno G p e s m args below meth c X
  rw [ha, lg_entry_eq]
  have hle := lv_entry (av.map (zc G.2.2.1)) (n := M.2.2.1) (by rw [zl_sllen av hnw]; exact hlen)
  generalize (lg_sl (av.map (zc G.2.2.1)) ++ List.replicate (M.2.2.1 - (lg_sl (av.map (zc G.2.2.1))).length) Slot.unset).toArray = ls at hle ⊢
  have h1 := hb ls s.heap [] (lv_mono hle (fun q hq => zl_args av 0 _ hnw q hq)) hW.1 va_S.rf rfl (Nat.le_refl _) (fun v h => absurd h List.not_mem_nil) (fun j v h => (hav v (zl_initmem av _ j v h)).1)
  rw [Nat.sub_self, Nat.mul_zero] at h1
  rw [ha] at h1
  exact h1

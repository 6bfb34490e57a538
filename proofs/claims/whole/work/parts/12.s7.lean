/-! SOUNDNESS 7: texts, throws, the start of a body -/
section ZT
variable {p : Program} {l : Launch} {e : Env} {R : Room} {s : State} {m : MethodId} {args : Array Value} {below : List Frame} {meth : Method} {c : Code} {Q : State → Prop} {G : zG} {S0 : zS} {own : String} {cc : ByteArray} {nL : Nat} {ret : Option FieldType} {hh : List (Nat × Nat × Nat × Nat)} {S : zS} {pc : Nat} {lv : zL} {st : List zV} {out : zO} {gm : Nat}
theorem zr_6 {t : Nat} (h : zr_ok (6, t, 0)) : t < zt_texts.length := by
  rcases h with h | h | h
  · exact absurd (zt_all_cd _ h).2 (by show ¬ (6 : Nat) < 5; decide)
  · cases h
  · exact h.2.1
theorem zr_7 {t : Nat} (h : zr_ok (7, t, 0)) : t < zt_texts.length := by
  rcases h with h | h | h
  · exact absurd (zt_all_cd _ h).2 (by show ¬ (7 : Nat) < 5; decide)
  · cases h
  · exact h.2.1
theorem zJ_strValue (X : zX p l s m meth c G S0 own cc nL ret hh) {ix q t : Nat} (hdg : decode cc pc = .ok (.getfield ix, 3)) (hq : lw_tbl[q]? = some (.fieldLink own ix "java/lang/String" "value" "[B")) (kk : zJ2 p l e R s m args below meth c Q G S0 nL gm S (pc + 3) lv (za 7 t 0 :: st)) : zJ2 p l e R s m args below meth c Q G S0 nL gm S pc lv (za 6 t 0 :: st) := by
  refine ⟨kk.1, fun ls H locs hl hP hS h5 hg hs hv => ?_⟩
  have ht := zr_6 (zv_hd hs)
  exact vk_getf X.1 X.2.1 (X.2.2.2.2.2.1.2.2.1.1 t ht).2.2.1 hS X.2.2.2.1 (zw_use X.2.2.2.2.2.1.1 hq rfl) (fun _ h => h) hdg (kk.2 ls H locs hl hP hS h5 hg (zv_cons (Or.inr (Or.inr ⟨Or.inr rfl, ht, rfl⟩)) (zv_tl hs)) hv)
theorem zJ_strCoder (X : zX p l s m meth c G S0 own cc nL ret hh) {ix q t : Nat} (hdg : decode cc pc = .ok (.getfield ix, 3)) (hq : lw_tbl[q]? = some (.fieldLink own ix "java/lang/String" "coder" "B")) (kk : zJ2 p l e R s m args below meth c Q G S0 nL gm S (pc + 3) lv (zi 0 :: st)) : zJ2 p l e R s m args below meth c Q G S0 nL gm S pc lv (za 6 t 0 :: st) := by
  refine ⟨kk.1, fun ls H locs hl hP hS h5 hg hs hv => ?_⟩
  have ht := zr_6 (zv_hd hs)
  exact vk_getf X.1 X.2.1 (X.2.2.2.2.2.1.2.2.1.1 t ht).2.1 hS X.2.2.2.1 (zw_use X.2.2.2.2.2.1.1 hq rfl) (fun _ h => h) hdg (kk.2 ls H locs hl hP hS h5 hg (zv_cons trivial (zv_tl hs)) hv)
theorem zJ_compact (X : zX p l s m meth c G S0 own cc nL ret hh) {ix q : Nat} (hdg : decode cc pc = .ok (.getstatic ix, 3)) (hq : lw_tbl[q]? = some (.fieldLink own ix "java/lang/String" "COMPACT_STRINGS" "Z")) (kk : zJ2 p l e R s m args below meth c Q G S0 nL gm S (pc + 3) lv (zi 1 :: st)) : zJ2 p l e R s m args below meth c Q G S0 nL gm S pc lv st := by
  refine ⟨kk.1, fun ls H locs hl hP hS h5 hg hs hv => ?_⟩
  exact va_gets X.1 X.2.1 X.2.2.2.2.2.1.2.2.2.2.2.2.2.1 hS X.2.2.2.1 (zw_use X.2.2.2.2.2.1.1 hq rfl) (fun _ h => h) hdg (kk.2 ls H locs hl hP hS h5 hg (zv_cons trivial hs) hv)
theorem zt_tlen : ∀ w ∈ zt_texts, w.length < 2 ^ 31 := by decide +kernel
theorem zJ_baload (X : zX p l s m meth c G S0 own cc nL ret hh) {t : Nat} {j x : Int32} {w : List Int32} (hdg : decode cc pc = .ok (.baload, 1)) (hw : zx_nth zt_texts t = some w) (h0 : ¬ j < 0) (h1 : ¬ Int32.ofNat w.length ≤ j) (hx : zx_nth w j.toNatClampNeg = some x) (kk : zJ2 p l e R s m args below meth c Q G S0 nL gm S (pc + 1) lv (zi x :: st)) : zJ2 p l e R s m args below meth c Q G S0 nL gm S pc lv (zi j :: za 7 t 0 :: st) := by
  refine ⟨kk.1, fun ls H locs hl hP hS h5 hg hs hv => ?_⟩
  have ht := zr_7 (zv_hd (zv_tl hs))
  rw [zx_nth_get] at hw hx
  have hlen : (zt_texts.map List.length).getD t 0 = w.length := by rw [List.getD_eq_getElem?_getD, List.getElem?_map, hw]; rfl
  have hvp := za_vp (zt_tlen w (List.mem_of_getElem? hw)) h0 h1
  exact va_tb X.1 X.2.1 (X.2.2.2.2.2.1.2.2.1.1 t ht).2.2.2 hS (by rw [hlen]; exact hvp) (v := .int x) (by
    show Value.int _ = Value.int x
    rw [List.getD_eq_getElem?_getD (l := zt_texts), hw]
    show Value.int (w.getD j.toNatClampNeg 0) = Value.int x
    rw [List.getD_eq_getElem?_getD, hx]
    rfl) hdg (kk.2 ls H locs hl hP hS h5 hg (zv_cons trivial (zv_tl (zv_tl hs))) hv)
theorem zt_wsg (G : zG) (S : zS) (n : Nat) : zt_ws G (S.1, S.2.1, S.2.2.1, n) = zt_ws G S := rfl
theorem zt_wslt {G : zG} {S : zS} {H H1 : Heap} (hP : va_P G.1 vwCl (zt_ws G S) H) (h : ∀ q : Nat, q < H.size → H1[q]? = H[q]?) : va_P G.1 vwCl (zt_ws G S) H1 := hP.kept (fun k q hk => h q.1 (hP k q hk).lt)
/-- the words of a throw stand in the tables -/
def zt_thr (own : String) (ic : Nat) (E : String) : Bool := (vx_atS own ic E ["java/lang/RuntimeException", "java/lang/Exception"]).all (fun w => zt_keep w && vx_ot w && decide (w ∈ lw_tbl))
theorem zt_thr_use {ic : Nat} {E : String} (h : zt_thr own ic E = true) (X : zX p l s m meth c G S0 own cc nL ret hh) : (∀ w ∈ vx_atS own ic E ["java/lang/RuntimeException", "java/lang/Exception"], w.before args s = true) ∧ ∀ w ∈ vx_atS own ic E ["java/lang/RuntimeException", "java/lang/Exception"], vx_ot w = true := by
  unfold zt_thr at h
  rw [List.all_eq_true] at h
  refine ⟨fun w hw => ?_, fun w hw => ?_⟩
  · have := h w hw
    simp only [Bool.and_eq_true, decide_eq_true_eq] at this
    exact zt_keep_warm this.1.1 (State.WarmedH.refl s) (X.2.2.2.2.2.1.1 w this.2 this.1.1)
  · have := h w hw
    simp only [Bool.and_eq_true] at this
    exact this.1.2
theorem zJ_throwS (X : zX p l s m meth c G S0 own cc nL ret []) (hR : zRm R S0 gm) {ik is ic x q1 q2 q3 t : Nat} {E tx : String} (hE : zx_nth zt_exc x = some E) (hfit : Bundle.fit E = true) (hk : lw_tbl[q1]? = some (.classLink own ik E)) (hini : lw_tbl[q2]? = some (.initialized E)) (hsr : zt_srs[q3]? = some (own, is, t)) (htx : zt_strs[t]? = some tx) (hth : zt_thr own ic E = true)
    (d0 : decode cc pc = .ok (.new ik, 3)) (d3 : decode cc (pc + 3) = .ok (.dup, 1)) (d4 : decode cc (pc + 4) = .ok (.ldc is, 2)) (d6 : decode cc (pc + 6) = .ok (.invokespecial ic, 3)) (d9 : decode cc (pc + 9) = .ok (.athrow, 1)) (hgm : gm = S.2.2.2 + 1) :
    zJ2 p l e R s m args below meth c (zQ below args s G S0 (.inr x, S.1, S.2.1, S.2.2.1, S.2.2.2 + 1)) G S0 nL gm S pc lv [] := by
  refine ⟨by omega, fun ls H locs hl hP hS h5 hg hs hv => ?_⟩
  obtain ⟨r1, r2, r3, r4⟩ := hR
  have htab : c.exceptionTable.toList = tableOf [] := X.2.2.2.2.2.2.2.2.2.2
  have hw := zt_thr_use (args := args) hth X
  exact vx_throwS X.1 X.2.1 X.2.2.2.2.2.2.2.2.2.1 X.2.2.2.1 hfit (by decide +kernel) (zw_use X.2.2.2.2.2.1.1 hk rfl) (zw_use X.2.2.2.2.2.1.1 hini rfl) (X.2.2.2.2.2.1.2.1 q3 own is t tx hsr htx) hw.1 (fun w h => by
      rcases List.mem_cons.mp h with h | h
      · rw [h]; rfl
      · rcases List.mem_cons.mp h with h | h
        · rw [h]; rfl
        · exact hw.2 w h) X.2.2.2.2.2.1.2.2.2.2.1 X.2.2.2.2.2.1.2.2.2.2.2.1 hS (by rw [X.2.2.1, hl.1]) d0 d3 d4 d6 d9 (fun x hx => by rw [htab] at hx; exact absurd hx List.not_mem_nil) (by show 2 + 3 < R.frames; omega) (by show 0 + (13 * (2 + 1) + 43) ≤ R.locals; omega) (by omega) (by omega) X.2.2.2.2.2.2.2.2.1
    (fun t hal hz hq => ⟨x, rfl, hE, zt_wslt hP hq, h5, ⟨Nat.le_trans hS.1 hz, fun q h1 h2 => (hq q (Nat.lt_of_lt_of_le h1 hS.1)).trans (hS.2.1 q h1 h2)⟩⟩) hS.2.2 (by show S.2.2.2 - S0.2.2.2 + 1 ≤ S.2.2.2 + 1 - S0.2.2.2; omega) (by show 6 * (S.2.2.2 - S0.2.2.2) + 6 ≤ 6 * (S.2.2.2 + 1 - S0.2.2.2); omega)
theorem zJ_throwSW (X : zX p l s m meth c G S0 own cc nL ret []) (hR : zRm R S0 gm) {ik is ic x q1 q2 q3 t : Nat} {E tx : String} (hE : zx_nth zt_exc x = some E) (hfit : Bundle.fit E = true) (hk : lw_tbl[q1]? = some (.classLink own ik E)) (hini : lw_tbl[q2]? = some (.initialized E)) (hsr : zt_srs[q3]? = some (own, is, t)) (htx : zt_strs[t]? = some tx) (hth : zt_thr own ic E = true)
    (d0 : decode cc pc = .ok (.new ik, 3)) (d3 : decode cc (pc + 3) = .ok (.dup, 1)) (d4 : decode cc (pc + 4) = .ok (.ldc_w is, 3)) (d6 : decode cc (pc + 7) = .ok (.invokespecial ic, 3)) (d9 : decode cc (pc + 10) = .ok (.athrow, 1)) (hgm : gm = S.2.2.2 + 1) :
    zJ2 p l e R s m args below meth c (zQ below args s G S0 (.inr x, S.1, S.2.1, S.2.2.1, S.2.2.2 + 1)) G S0 nL gm S pc lv [] := by
  refine ⟨by omega, fun ls H locs hl hP hS h5 hg hs hv => ?_⟩
  obtain ⟨r1, r2, r3, r4⟩ := hR
  have htab : c.exceptionTable.toList = tableOf [] := X.2.2.2.2.2.2.2.2.2.2
  have hw := zt_thr_use (args := args) hth X
  exact vx_throwSW X.1 X.2.1 X.2.2.2.2.2.2.2.2.2.1 X.2.2.2.1 hfit (by decide +kernel) (zw_use X.2.2.2.2.2.1.1 hk rfl) (zw_use X.2.2.2.2.2.1.1 hini rfl) (X.2.2.2.2.2.1.2.1 q3 own is t tx hsr htx) hw.1 (fun w h => by
      rcases List.mem_cons.mp h with h | h
      · rw [h]; rfl
      · rcases List.mem_cons.mp h with h | h
        · rw [h]; rfl
        · exact hw.2 w h) X.2.2.2.2.2.1.2.2.2.2.1 X.2.2.2.2.2.1.2.2.2.2.2.1 hS (by rw [X.2.2.1, hl.1]) d0 d3 d4 d6 d9 (fun x hx => by rw [htab] at hx; exact absurd hx List.not_mem_nil) (by show 2 + 3 < R.frames; omega) (by show 0 + (13 * (2 + 1) + 43) ≤ R.locals; omega) (by omega) (by omega) X.2.2.2.2.2.2.2.2.1
    (fun t hal hz hq => ⟨x, rfl, hE, zt_wslt hP hq, h5, ⟨Nat.le_trans hS.1 hz, fun q h1 h2 => (hq q (Nat.lt_of_lt_of_le h1 hS.1)).trans (hS.2.1 q h1 h2)⟩⟩) hS.2.2 (by show S.2.2.2 - S0.2.2.2 + 1 ≤ S.2.2.2 + 1 - S0.2.2.2; omega) (by show 6 * (S.2.2.2 - S0.2.2.2) + 6 ≤ 6 * (S.2.2.2 + 1 - S0.2.2.2); omega)
end ZT
/-! the start of a body -/
theorem zl_args {ad : zR → Nat} : ∀ (av : List zV) (i k : Nat), (∀ v, v ∈ av → zl_wide (some v) = false) → ∀ q, q ∈ zl_pairs ad i (av.map some ++ zl_pad k) → q ∈ lv_args i (av.map (zc ad)) := by
  intro av
  induction av with
  | nil =>
    intro i k _ q hq
    exfalso
    revert i
    induction k with
    | zero => intro i hq; cases hq
    | succ k ih => intro i hq; exact ih (i + 1) hq
  | cons v av ih =>
    intro i k h q hq
    have hc := zc_cat1 ad v (h v List.mem_cons_self)
    simp only [List.map_cons, lv_args]
    rw [if_neg (by rw [hc]; decide)]
    rcases List.mem_cons.mp hq with h2 | h2
    · rw [h2]; exact List.mem_cons_self
    · exact List.mem_cons_of_mem _ (ih (i + 1) k (fun w hw => h w (List.mem_cons_of_mem _ hw)) q h2)
theorem zl_sllen {ad : zR → Nat} : ∀ (av : List zV), (∀ v, v ∈ av → zl_wide (some v) = false) → (lg_sl (av.map (zc ad))).length = av.length := by
  intro av
  induction av with
  | nil => intro _; rfl
  | cons v av ih =>
    intro h
    have hc := zc_cat1 ad v (h v List.mem_cons_self)
    have := ih (fun w hw => h w (List.mem_cons_of_mem _ hw))
    unfold lg_sl at this ⊢
    rw [List.map_cons, List.flatMap_cons, if_neg (by rw [hc]; decide), List.length_append, this]
    simp; omega
theorem zl_initmem : ∀ (av : List zV) (k j : Nat) (v : zV), zl_get (av.map some ++ zl_pad k) j = some v → v ∈ av := by
  intro av
  induction av with
  | nil =>
    intro k
    induction k with
    | zero => intro j v h; cases h
    | succ k ih =>
      intro j v h
      cases j with
      | zero => cases h
      | succ j => exact ih j v h
  | cons w av ih =>
    intro k j v h
    cases j with
    | zero => cases h; exact List.mem_cons_self
    | succ j => exact List.mem_cons_of_mem _ (ih k j v h)
theorem zCtr_of {l : Launch} {d : Nat} {M : zM} {av : List zV} {S : zS} {out : zO} (hl : l.stackTraces = false) (hpn : plainName M.1.cls = true) (hmono : S.2.2.2 ≤ out.2.2.2.2) (hlen : av.length ≤ M.2.2.1)
    (body : ∀ (G : zG) (p : Program) (e : Env) (s : State) (m : MethodId) (args : Array Value) (below : List Frame) (meth : Method) (c : Code), zX p l s m meth c G S M.1.cls M.2.1 M.2.2.1 M.2.2.2.1 M.2.2.2.2.1 → zJ p l e (zrm d (out.2.2.2.2 - S.2.2.2)) s m args below meth c (zQ below args s G S out) G S M.2.2.1 S 0 (zl_init av M.2.2.1) []) : zCtr l d M av S out := by
  refine ⟨hmono, fun hav G sz => ?_⟩
  have hnw : ∀ v, v ∈ av → zl_wide (some v) = false := fun v h => (hav v h).2
  have key : ∀ (p : Program) (e : Env) (s : State) (m : MethodId) (args : Array Value) (below : List Frame) (meth : Method) (c : Code), args = (av.map (zc G.2.2.1)).toArray → s.heap.size = sz → zw_W G S s → zX p l s m meth c G S M.1.cls M.2.1 M.2.2.1 M.2.2.2.1 M.2.2.2.2.1 → W p l e (zrm d (out.2.2.2.2 - S.2.2.2)) s m args below meth c s.heap [] 0 0 (vx_MQ below (zQc G S out sz) (zXC G S out sz) args s (out.2.2.2.2 - S.2.2.2) (6 * (out.2.2.2.2 - S.2.2.2)) (zA G sz)) (entryFrame m args M.2.2.1) := by
    intro p e s m args below meth c ha hsz hW X
    subst hsz
    have hb := body G p e s m args below meth c X
    rw [ha, lg_entry_eq]
    have hle := lv_entry (av.map (zc G.2.2.1)) (n := M.2.2.1) (by rw [zl_sllen av hnw]; exact hlen)
    generalize (lg_sl (av.map (zc G.2.2.1)) ++ List.replicate (M.2.2.1 - (lg_sl (av.map (zc G.2.2.1))).length) Slot.unset).toArray = ls at hle ⊢
    have h1 := hb ls s.heap [] (lv_mono hle (fun q hq => zl_args av 0 _ hnw q hq)) hW.1 va_S.rf rfl (Nat.le_refl _) (fun v h => absurd h List.not_mem_nil) (fun j v h => (hav v (zl_initmem av _ j v h)).1)
    rw [Nat.sub_self, Nat.mul_zero] at h1
    rw [ha] at h1
    exact h1
  cases h0 : M.2.2.2.2.1 with
  | nil =>
    refine vx_ofW (cc := M.2.1) (maxL := M.2.2.1) (ret := M.2.2.2.1) hpn (show [zM_word M] = _ :: [] by unfold zM_word; rw [h0]) ?_
    intro p e s m args below meth c s₁ B hml hex hPc
    obtain ⟨ha, hsz, hW⟩ := hPc
    have ht : c.exceptionTable.toList = [] := List.eq_nil_iff_forall_not_mem.mpr hex
    exact key p e s m args below meth c ha hsz hW ⟨B.exec, B.bytes, hml, findClass_of_methodNamed B.named, hW.2.1, hW.2.2.1, hW.2.2.2, B.returns, B.notSynchronized, hl, by rw [h0, ht]; rfl⟩
  | cons h hs0 =>
    refine vx_ofWH (cc := M.2.1) (maxL := M.2.2.1) (ret := M.2.2.2.1) (hh := h :: hs0) hpn (show [zM_word M] = _ :: [] by unfold zM_word; rw [h0]) ?_
    intro p e s m args below meth c s₁ B hml hPc
    obtain ⟨ha, hsz, hW⟩ := hPc
    have hcw : (Cond.codeWith M.1 M.2.1 M.2.2.1 M.2.2.2.1 (h :: hs0)).before args s = true := atoms_spec (ws := [zM_word M]) B.pre _ (by unfold zM_word; rw [h0]; exact List.mem_singleton.mpr rfl)
    exact key p e s m args below meth c ha hsz hW ⟨B.exec, B.bytes, hml, findClass_of_methodNamed B.named, hW.2.1, hW.2.2.1, hW.2.2.2, B.returns, B.notSynchronized, hl, by rw [h0]; exact vx_table (x := M.1) B hcw⟩

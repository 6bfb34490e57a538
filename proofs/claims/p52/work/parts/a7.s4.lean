/-! SOUNDNESS 4: arrays, the library's plain members, switches -/
theorem zt_el_baths {G : zG} {S : zS} {r : zR} {n : Nat} (h : zt_cd zt_cells r = some (false, 1, n)) : zt_el G S r = .inl (G.2.1 1, n, .inr (.inr (.inr (.inr (fun i => some (G.2.2.1 (0, 4 + i, 0))))))) := by unfold zt_el; rw [h]; rfl
theorem zt_el_names {G : zG} {S : zS} {r : zR} {n : Nat} (h : zt_cd zt_cells r = some (false, 2, n)) : zt_el G S r = .inl (G.2.1 2, n, .inr (.inr (.inr (.inr (fun i => (zx_nth zt_names i).map (fun t => G.2.2.1 (6, t, 0))))))) := by unfold zt_el; rw [h]; rfl
theorem zt_baths : ∀ r ∈ zt_all, ∀ x ∈ (zt_cd zt_cells r).toList, x.1 = false → x.2.1 = 1 → x.2.2 ≤ 10 := by decide +kernel
section ZA
variable {p : Program} {l : Launch} {e : Env} {R : Room} {s : State} {m : MethodId} {args : Array Value} {below : List Frame} {meth : Method} {c : Code} {Q : State → Prop} {G : zG} {S0 : zS} {own : String} {cc : ByteArray} {nL : Nat} {ret : Option FieldType} {hh : List (Nat × Nat × Nat × Nat)} {S : zS} {pc : Nat} {lv : zL} {st : List zV} {out : zO} {gm : Nat}
theorem zJ_arraylength (X : zX p l s m meth c G S0 own cc nL ret hh) {r : zR} {nx : Int32 → Option zO} (hdg : decode cc pc = .ok (.arraylength, 1)) (h : za_len r S nx = some out) (kk : ∀ x, nx x = some out → zJ2 p l e R s m args below meth c Q G S0 nL gm S (pc + 1) lv (zi x :: st)) : zJ2 p l e R s m args below meth c Q G S0 nL gm S pc lv (.inr (.inl (some r)) :: st) := by
  unfold za_len at h
  split at h
  · rename_i h5r
    obtain ⟨k1, k2⟩ := kk _ h
    refine ⟨k1, fun ls H locs hl hP hS h5 hg hs hv => ?_⟩
    have hr : r = (5, 0, 0) := by
      rcases zv_hd hs with h | h | h
      · exact absurd h5r (by have := (zt_all_cd r h).2; omega)
      · exact h
      · rcases h.1 with h9 | h9 <;> exact absurd (h5r.symm.trans h9) (by decide)
    subst hr
    obtain ⟨-, -, -, ⟨L, g1, g2, g3, g4, g5⟩, -⟩ := X.2.2.2.2.2.1
    refine va_slen X.1 X.2.1 g3 g4 g5 hS hdg ?_
    have e9 : S.1 5 0 1 0 = Int32.ofNat L := by rw [h5]; exact g2
    rw [← e9]
    exact k2 ls H locs hl hP hS h5 hg (zv_cons trivial (zv_tl hs)) hv
  · rename_i h7r
    cases hw : zx_nth zt_texts r.2.1 with
    | none => rw [hw] at h; cases h
    | some w =>
      rw [hw] at h
      obtain ⟨k1, k2⟩ := kk _ h
      refine ⟨k1, fun ls H locs hl hP hS h5 hg hs hv => ?_⟩
      obtain ⟨a, b, c0⟩ := r
      have h7a : a = 7 := h7r
      subst h7a
      have hc0 : c0 = 0 ∧ b ∈ zt_av := by
        rcases zv_hd hs with h | h | h
        · exact absurd (zt_all_cd _ h).2 (by show ¬ (7 : Nat) < 5; decide)
        · cases h
        · exact ⟨h.2.2, h.2.1⟩
      obtain ⟨rfl, hb⟩ := hc0
      obtain ⟨-, -, hT, -⟩ := X.2.2.2.2.2.1
      rw [zx_nth_get] at hw
      refine va_tlen X.1 X.2.1 ((hT b hb).1 0 (by decide)).2.2.2 hS ?_ hdg (k2 ls H locs hl hP hS h5 hg (zv_cons trivial (zv_tl hs)) hv)
      show Int32.ofNat (zt_texts.getD b []).length = _
      rw [List.getD_eq_getElem?_getD, hw]
      rfl
  · split at h
    · rename_i t n hcd
      obtain ⟨k1, k2⟩ := kk _ h
      refine ⟨k1, fun ls H locs hl hP hS h5 hg hs hv => ?_⟩
      have hr := zr_in (zv_hd hs) hcd
      obtain ⟨q0, hq0⟩ := zt_at hr
      have he := zt_wsat G S hq0
      have go : ∀ (t0 : Nat) (cA : ClassId) (x : vp_A) (ty : FieldType), zt_el G S r = .inl (cA, x) → (zt_tys G)[t0]? = some (cA, ty) → x.1 = n → W p l e R s m args below meth c H locs (S.2.2.2 - S0.2.2.2) (6 * (S.2.2.2 - S0.2.2.2)) Q (F0 m pc ls ((.inr (.inl (some r)) :: st).map (zc G.2.2.1))) := fun t0 cA x ty h1 h2 h3 => by
        rw [h1] at he
        exact va_alen X.1 X.2.1 X.2.2.2.2.1 hP q0 t0 he h2 (by rw [h3]) hdg (k2 ls H locs hl hP hS h5 hg (zv_cons trivial (zv_tl hs)) hv)
      match t, hcd with
      | 0, hcd => exact go 0 _ _ .int (zt_el_ints hcd) rfl rfl
      | 1, hcd => exact go 1 _ _ (.object "BathBoats$Bath") (zt_el_baths hcd) rfl rfl
      | t + 2, hcd =>
        have h9 : t + 2 ≤ 1 := zt_k01 r hr (false, t + 2, n) (by rw [hcd]; exact List.mem_singleton.mpr rfl) rfl
        exact absurd h9 (by omega)
    · cases h
theorem zJ_iaload (X : zX p l s m meth c G S0 own cc nL ret hh) {r : zR} {i : Int32} {nx : Int32 → Option zO} (hdg : decode cc pc = .ok (.iaload, 1)) (h : za_ld r i S nx = some out) (kk : ∀ x, nx x = some out → zJ2 p l e R s m args below meth c Q G S0 nL gm S (pc + 1) lv (zi x :: st)) : zJ2 p l e R s m args below meth c Q G S0 nL gm S pc lv (zi i :: .inr (.inl (some r)) :: st) := by
  unfold za_ld at h
  split at h
  · rename_i h5r
    obtain ⟨h0, h1, h⟩ := za_in_ok h
    obtain ⟨k1, k2⟩ := kk _ h
    refine ⟨k1, fun ls H locs hl hP hS h5 hg hs hv => ?_⟩
    have hr : r = (5, 0, 0) := by
      rcases zv_hd (zv_tl hs) with h | h | h
      · exact absurd h5r (by have := (zt_all_cd r h).2; omega)
      · exact h
      · rcases h.1 with h9 | h9 <;> exact absurd (h5r.symm.trans h9) (by decide)
    subst hr
    obtain ⟨-, -, -, ⟨L, g1, g2, g3, g4, g5⟩, -⟩ := X.2.2.2.2.2.1
    have e9 : S.1 5 0 1 0 = Int32.ofNat L := by rw [h5]; exact g2
    rw [e9] at h1
    refine va_sld X.1 X.2.1 g3 g4 g5 hS (za_vp g1 h0 h1) hdg ?_
    have e8 : S.1 5 0 0 i.toNatClampNeg = S0.1 5 0 0 i.toNatClampNeg := by rw [h5]
    rw [← e8]
    exact k2 ls H locs hl hP hS h5 hg (zv_cons trivial (zv_tl (zv_tl hs))) hv
  · split at h
    · rename_i n hcd
      obtain ⟨h0, h1, h⟩ := za_in_ok h
      obtain ⟨k1, k2⟩ := kk _ h
      refine ⟨k1, fun ls H locs hl hP hS h5 hg hs hv => ?_⟩
      have hr := zr_in (zv_hd (zv_tl hs)) hcd
      obtain ⟨q0, hq0⟩ := zt_at hr
      have he := zt_wsat G S hq0
      rw [zt_el_ints hcd] at he
      exact va_iald X.1 X.2.1 X.2.2.2.2.1 hP q0 0 he rfl (za_vp (zt_len r hr _ (by rw [hcd]; exact List.mem_singleton.mpr rfl)) h0 h1) hdg (k2 ls H locs hl hP hS h5 hg (zv_cons trivial (zv_tl (zv_tl hs))) hv)
    · cases h
theorem zJ_iastore (X : zX p l s m meth c G S0 own cc nL ret hh) {r : zR} {i x : Int32} {nx : zS → Option zO} (hdg : decode cc pc = .ok (.iastore, 1)) (h : za_st r i x S nx = some out) (kk : ∀ S', nx S' = some out → zJ2 p l e R s m args below meth c Q G S0 nL gm S' (pc + 1) lv st) : zJ2 p l e R s m args below meth c Q G S0 nL gm S pc lv (zi x :: zi i :: .inr (.inl (some r)) :: st) := by
  unfold za_st at h
  split at h
  · rename_i n hcd
    obtain ⟨h0, h1, h⟩ := za_in_ok h
    obtain ⟨k1, k2⟩ := kk _ h
    refine ⟨k1, fun ls H locs hl hP hS h5 hg hs hv => ?_⟩
    have hr := zr_in (zv_hd (zv_tl (zv_tl hs))) hcd
    obtain ⟨q0, hq0⟩ := zt_at hr
    have he := zt_wsat G S hq0
    rw [zt_el_ints hcd] at he
    refine va_iast X.1 X.2.1 X.2.2.2.2.1 hP (zD X.2.2.2.2.2.2.1 S _) hS q0 0 he rfl (za_vp (zt_len r hr _ (by rw [hcd]; exact List.mem_singleton.mpr rfl)) h0 h1) hdg (fun H1 locs1 hP1 hD1 hS1 => ?_)
    have hrow : upd (fun i => S.1 r.1 r.2.1 r.2.2 i) i.toNatClampNeg x = (fun j => (zs_set S r.1 r.2.1 r.2.2 i.toNatClampNeg x).1 r.1 r.2.1 r.2.2 j) := by
      funext j
      unfold upd
      by_cases hj : j = i.toNatClampNeg
      · rw [if_pos hj, hj, zs_same]
      · rw [if_neg hj, zs_idx _ _ _ _ _ _ _ hj]
    have hset := zt_wsset G S (zs_set S r.1 r.2.1 r.2.2 i.toNatClampNeg x) hq0 (fun r' _ hne => zt_el_set hne)
    rw [zt_el_ints (S := zs_set S r.1 r.2.1 r.2.2 i.toNatClampNeg x) hcd, ← hrow] at hset
    exact k2 ls H1 locs1 hl (hset ▸ hP1) hS1 (by rw [zs_5 _ _ _ _ _ _ (by have := (zt_all_cd r hr).2; omega)]; exact h5) hg (zv_tl (zv_tl (zv_tl hs))) hv
  · cases h
theorem zJ_aaload (X : zX p l s m meth c G S0 own cc nL ret hh) {r : zR} {i : Int32} {nx : zV → Option zO} (hdg : decode cc pc = .ok (.aaload, 1)) (h : za_ldr r i nx = some out) (kk : ∀ v, nx v = some out → zJ2 p l e R s m args below meth c Q G S0 nL gm S (pc + 1) lv (v :: st)) : zJ2 p l e R s m args below meth c Q G S0 nL gm S pc lv (zi i :: .inr (.inl (some r)) :: st) := by
  unfold za_ldr at h
  split at h
  · rename_i n hcd
    obtain ⟨h0, h1, h⟩ := za_in_ok h
    obtain ⟨k1, k2⟩ := kk _ h
    refine ⟨k1, fun ls H locs hl hP hS h5 hg hs hv => ?_⟩
    have hr := zr_in (zv_hd (zv_tl hs)) hcd
    obtain ⟨q0, hq0⟩ := zt_at hr
    have he := zt_wsat G S hq0
    rw [zt_el_baths hcd] at he
    have hm : (true, 0, 0) ≠ (false, 1, n) := fun z => by cases z
    have hn : n ≤ 10 := zt_baths r hr (false, 1, n) (by rw [hcd]; exact List.mem_singleton.mpr rfl) rfl rfl
    have hvp := za_vp (i := i) (n := n) (by omega) h0 h1
    have hlt : i.toNatClampNeg < n := Nat.not_le.mp fun q => hvp (Or.inr q)
    exact va_aldq X.1 X.2.1 X.2.2.2.2.1 hP q0 1 he rfl hvp hdg (k2 ls H locs hl hP hS h5 hg (zv_cons (Or.inl ((zt_mem _ _ _).mpr ⟨by decide, by show 4 + i.toNatClampNeg < 14; omega, by decide⟩)) (zv_tl (zv_tl hs))) hv)
  · rename_i n hcd
    obtain ⟨h0, h1, h⟩ := za_in_ok h
    cases ht : zx_nth zt_names i.toNatClampNeg with
    | none => rw [ht] at h; cases h
    | some t =>
      rw [ht] at h
      obtain ⟨k1, k2⟩ := kk _ h
      refine ⟨k1, fun ls H locs hl hP hS h5 hg hs hv => ?_⟩
      have hr := zr_in (zv_hd (zv_tl hs)) hcd
      have h9 : 2 ≤ 1 := zt_k01 r hr (false, 2, n) (by rw [hcd]; exact List.mem_singleton.mpr rfl) rfl
      exact absurd h9 (by decide)
  · cases h
end ZA

/-! SOUNDNESS 3: fields and arrays -/
theorem zr_in {r : zR} {x : Bool × Nat × Nat} (h : zr_ok r) (hc : zt_cd zt_cells r = some x) : r ∈ zt_all := by
  rcases h with h | rfl | ⟨h1, -, -⟩
  · exact h
  · cases hc
  · obtain ⟨a, b, c⟩ := r
    rcases h1 with h2 | h2
    · have h2 : a = 6 := h2
      subst h2
      cases hc
    · have h2 : a = 7 := h2
      subst h2
      cases hc
theorem zx_is_cd {r : zR} {ci : Nat} (h : zx_is r ci = true) : ∃ x, zt_cd zt_cells r = some (true, ci, x) := by
  unfold zx_is at h
  split at h
  · rename_i c x hc
    exact ⟨x, by rw [hc, Nat.eq_of_beq_eq_true h]⟩
  · cases h
theorem zf_of_get {ci k : Nat} {f : Nat × Nat × Nat × Nat} (h : zf_of ci k = some f) : (zt_flds.getD ci [])[k]? = some f ∧ ∃ l, l ∈ zt_flds ∧ f ∈ l := by
  unfold zf_of at h
  cases hl : zx_nth zt_flds ci with
  | none => rw [hl] at h; cases h
  | some l =>
    rw [hl] at h
    have h1 : zx_nth l k = some f := h
    rw [zx_nth_get] at hl h1
    refine ⟨?_, l, List.mem_of_getElem? hl, List.mem_of_getElem? h1⟩
    rw [List.getD_eq_getElem?_getD, hl]
    exact h1
def zt_fs (r : zR) : List (Nat × Nat × Nat × Nat) := match zt_cd zt_cells r with
  | some (true, ci, _) => zt_flds.getD ci []
  | _ => []
theorem zt_f3 : ∀ r ∈ zt_all, ∀ f ∈ zt_fs r, f.1 = 3 → (f.2.1, f.2.2.1, f.2.2.2) ∈ zt_all := by decide +kernel
theorem zt_f5 : ∀ r ∈ zt_all, ∀ f ∈ zt_fs r, f.1 ≠ 5 := by decide +kernel
theorem zt_f4 : ∀ r ∈ zt_all, ∀ f ∈ zt_fs r, f.1 = 4 → (r.1, r.2.1, r.2.2 + f.2.1) ∈ zt_all := by decide +kernel
theorem zt_len : ∀ r ∈ zt_all, ∀ x ∈ (zt_cd zt_cells r).toList, x.2.2 < 2 ^ 31 := by decide +kernel
theorem zt_lays : ∀ Cl ∈ vwCl, ∀ w ∈ u_ws Cl.1 Cl.2.1 Cl.2.2, w ∈ lw_tbl ∧ zt_keep w = true := by decide +kernel
theorem zt_el_obj {G : zG} {S : zS} {r : zR} {ci x : Nat} (h : zt_cd zt_cells r = some (true, ci, x)) : zt_el G S r = .inr (ci, (zt_flds.getD ci []).mapIdx (fun k f => zf_val G.2.2.1 f k r S)) := by unfold zt_el; rw [h]
theorem zt_el_ints {G : zG} {S : zS} {r : zR} {n : Nat} (h : zt_cd zt_cells r = some (false, 0, n)) : zt_el G S r = .inl (G.2.1 0, n, .inl (fun i => S.1 r.1 r.2.1 r.2.2 i)) := by unfold zt_el; rw [h]; rfl
theorem zs_same (S : zS) (k n o j : Nat) (v : Int32) : (zs_set S k n o j v).1 k n o j = v := by unfold zs_set; simp
theorem zs_row (S : zS) (r r' : zR) (j : Nat) (v : Int32) (h : r' ≠ r) : (zs_set S r.1 r.2.1 r.2.2 j v).1 r'.1 r'.2.1 r'.2.2 = S.1 r'.1 r'.2.1 r'.2.2 := by
  funext i
  unfold zs_set
  refine if_neg ?_
  rintro ⟨h1, h2, h3, -⟩
  exact h (Prod.ext h1 (Prod.ext h2 h3))
theorem zs_idx (S : zS) (k n o j i : Nat) (v : Int32) (h : i ≠ j) : (zs_set S k n o j v).1 k n o i = S.1 k n o i := by
  unfold zs_set
  refine if_neg ?_
  rintro ⟨-, -, -, h4⟩
  exact h h4
theorem zs_5 (S : zS) (k n o j : Nat) (v : Int32) (h : k ≠ 5) : (zs_set S k n o j v).1 5 = S.1 5 := by
  funext a b c
  unfold zs_set
  refine if_neg ?_
  rintro ⟨h1, -⟩
  exact h h1.symm
/-- a cell's contents come from its own row, the long and the double alone -/
theorem zt_el_row {G : zG} {S S' : zS} {r : zR} (h : S'.1 r.1 r.2.1 r.2.2 = S.1 r.1 r.2.1 r.2.2) (h2 : S'.2.1 = S.2.1) (h3 : S'.2.2.1 = S.2.2.1) : zt_el G S' r = zt_el G S r := by
  have hv : ∀ f k, zf_val G.2.2.1 f k r S' = zf_val G.2.2.1 f k r S := fun f k => by unfold zf_val; rw [h]
  unfold zt_el
  simp only [hv, h, h2, h3]
theorem zt_el_set {G : zG} {S : zS} {r r' : zR} {j : Nat} {v : Int32} (h : r' ≠ r) : zt_el G (zs_set S r.1 r.2.1 r.2.2 j v) r' = zt_el G S r' := zt_el_row (zs_row S r r' j v h) rfl rfl
theorem zb_01 {x : Int32} (h : x &&& 1 = x) : x = 0 ∨ x = 1 := by
  obtain ⟨j, hj, e⟩ := pk_andE x (m := 1) 1 (by decide)
  rw [h] at e
  have : j = 0 ∨ j = 1 := by omega
  rcases this with rfl | rfl
  · exact Or.inl e
  · exact Or.inr e
/-- reading a field -/
theorem zf_get_ok {ad : zR → Nat} {f : Nat × Nat × Nat × Nat} {k : Nat} {r : zR} {S : zS} {nx : zV → Option zO} {out : zO} (h3 : f.1 = 3 → (f.2.1, f.2.2.1, f.2.2.2) ∈ zt_all) (h4 : f.1 = 4 → (r.1, r.2.1, r.2.2 + f.2.1) ∈ zt_all) (h5 : f.1 ≠ 5) (h : zf_get f k r S nx = some out) :
    ∃ v, nx v = some out ∧ zc ad v = zf_val ad f k r S ∧ zv_ok v := by
  unfold zf_get at h
  split at h
  · exact ⟨_, h, rfl, trivial⟩
  · exact ⟨_, h, rfl, trivial⟩
  · exact ⟨_, h, rfl, trivial⟩
  · exact ⟨_, h, rfl, Or.inl (h3 rfl)⟩
  · exact ⟨_, h, rfl, Or.inl (h4 rfl)⟩
  · exact absurd rfl h5
  · cases h
def zf_ty : Nat → Option FieldType
  | 0 => some .int
  | 1 => some .boolean
  | 2 => some .float
  | 5 => some (.array .int)
  | _ => none
/-- writing a field -/
theorem zf_put_ok {ad : zR → Nat} {f : Nat × Nat × Nat × Nat} {k : Nat} {r : zR} {v : zV} {S S' : zS} (h : zf_put f k r v S = some S') :
    ∃ x, S' = zs_set S r.1 r.2.1 r.2.2 k x ∧ zf_val ad f k r S' = zc ad v ∧ ∀ ty, zf_ty f.1 = some ty → narrow ty (zc ad v) = zc ad v ∧ fits ty (zc ad v) = true := by
  obtain ⟨t, a, b, c⟩ := f
  unfold zf_put at h
  split at h
  · rename_i x ht
    have ht : t = 0 := ht
    subst ht
    cases h
    refine ⟨x, rfl, ?_, fun ty e => by cases e; exact ⟨rfl, rfl⟩⟩
    show Value.int _ = Value.int x
    rw [zs_same]
  · rename_i x ht
    have ht : t = 1 := ht
    subst ht
    split at h
    · rename_i hx
      cases h
      refine ⟨x, rfl, ?_, fun ty e => by
        cases e
        refine ⟨?_, ?_⟩
        · show Value.int (x &&& 1) = Value.int x
          rw [hx]
        · rcases zb_01 hx with rfl | rfl <;> rfl⟩
      show Value.int _ = Value.int x
      rw [zs_same]
    · cases h
  · rename_i x ht
    have ht : t = 2 := ht
    subst ht
    cases h
    refine ⟨x.toInt32, rfl, ?_, fun ty e => by cases e; exact ⟨rfl, rfl⟩⟩
    show Value.float _ = Value.float x
    rw [zs_same]
    simp
  · rename_i n ht
    have ht : t = 5 := ht
    subst ht
    split at h
    · cases h
    · rename_i hn
      have hn : n < 4 := by
        rcases Nat.lt_or_ge n 4 with q | q
        · exact q
        · rw [Nat.ble_eq_true_of_le q] at hn; cases hn
      cases h
      refine ⟨Int32.ofNat n, rfl, ?_, fun ty e => by cases e; exact ⟨rfl, rfl⟩⟩
      show Value.ref _ = Value.ref (ad (2, n, 0))
      rw [zs_same, show (Int32.ofNat n).toNatClampNeg = n from nI_clamp (n := n) (by omega)]
  · cases h
theorem zt_ty : ∀ (a : Nat) (Cl : vw_C), vwCl[a]? = some Cl → ∃ ty0 : Nat → FieldType, (∀ k, k < Cl.2.2 → parseFieldDescriptor (Cl.2.1 k).2.2.1 = some (ty0 k)) ∧ (∀ x, x < Cl.2.2 → ∀ y, y < Cl.2.2 → x ≠ y → (Cl.2.1 x).2.1 ≠ (Cl.2.1 y).2.1) := by
  intro a Cl h
  match a, h with
  | 0, h => cases h; exact ⟨tyX0, tyX0_ok, nmX0⟩
  | 1, h => cases h; exact ⟨tyX1, tyX1_ok, nmX1⟩
  | 2, h => cases h; exact ⟨tyX2, tyX2_ok, nmX2⟩
  | 3, h => cases h; exact ⟨tyX3, tyX3_ok, nmX3⟩
  | 4, h => cases h; exact ⟨tyX4, tyX4_ok, nmX4⟩
  | 5, h => cases h; exact ⟨tyX5, tyX5_ok, nmX5⟩
  | 6, h => cases h; exact ⟨tyX6, tyX6_ok, nmX6⟩
  | 7, h => cases h; exact ⟨tyX7, tyX7_ok, nmX7⟩
  | 8, h => cases h; exact ⟨tyX8, tyX8_ok, nmX8⟩
  | 9, h => cases h; exact ⟨tyX9, tyX9_ok, nmX9⟩
  | 10, h => cases h; exact ⟨tyX10, tyX10_ok, nmX10⟩
  | 11, h => cases h; exact ⟨tyJ4, tyJ4_ok, nmJ4⟩
  | 12, h => cases h; exact ⟨tyJ0, tyJ0_ok, nmJ0⟩
  | n + 13, h => simp [vwCl] at h
theorem za_in_ok {i n : Int32} {x : Option zO} {out : zO} (h : za_in i n x = some out) : ¬ i < 0 ∧ ¬ n ≤ i ∧ x = some out := by
  unfold za_in at h
  split at h
  · cases h
  · split at h
    · cases h
    · exact ⟨by assumption, by assumption, h⟩
theorem za_vp {i : Int32} {n : Nat} (hn : n < 2 ^ 31) (h0 : ¬ i < 0) (h1 : ¬ Int32.ofNat n ≤ i) : vp_in i n := by
  obtain ⟨j, hj, rfl⟩ := nI_of h0
  refine vp_in_nI ?_ hn
  rcases Nat.lt_or_ge j n with q | q
  · exact q
  · exact absurd (nI_le q hj) h1
section ZK
variable {p : Program} {l : Launch} {e : Env} {R : Room} {s : State} {m : MethodId} {args : Array Value} {below : List Frame} {meth : Method} {c : Code} {Q : State → Prop} {G : zG} {S0 : zS} {own : String} {cc : ByteArray} {nL : Nat} {ret : Option FieldType} {hh : List (Nat × Nat × Nat × Nat)} {S : zS} {pc : Nat} {lv : zL} {st : List zV} {out : zO} {gm : Nat}
/-- the judgement, and that no more exceptions are made than gm -/
abbrev zJ2 (p : Program) (l : Launch) (e : Env) (R : Room) (s : State) (m : MethodId) (args : Array Value) (below : List Frame) (meth : Method) (c : Code) (Q : State → Prop) (G : zG) (S0 : zS) (nL : Nat) (gm : Nat) (S : zS) (pc : Nat) (lv : zL) (st : List zV) : Prop := S.2.2.2 ≤ gm ∧ zJ p l e R s m args below meth c Q G S0 nL S pc lv st
theorem zX_lays (X : zX p l s m meth c G S0 own cc nL ret hh) {a : Nat} {Cl : vw_C} (hc : vwCl[a]? = some Cl) : ∀ w ∈ u_ws Cl.1 Cl.2.1 Cl.2.2, w.before args s = true := fun w hw =>
  have h := zt_lays Cl (List.mem_of_getElem? hc) w hw
  zt_keep_warm h.2 (State.WarmedH.refl s) (X.2.2.2.2.2.1.1 w h.1 h.2)
theorem zJ_getfield (X : zX p l s m meth c G S0 own cc nL ret hh) {ix a b q cn : Nat} {ho : String} {Cl : vw_C} {f : Nat × Nat × Nat × Nat} {r : zR} {nx : zV → Option zO} (hdg : decode cc pc = .ok (.getfield ix, 3)) (hc : vwCl[a]? = some Cl) (hk : b < Cl.2.2)
    (hq : lw_tbl[q]? = some (if cn = 0 then .fieldLink own ix (Cl.2.1 b).1 (Cl.2.1 b).2.1 (Cl.2.1 b).2.2.1 else .fieldLinkNest own ix (Cl.2.1 b).1 (Cl.2.1 b).2.1 (Cl.2.1 b).2.2.1 ho))
    (hf : zf_of a b = some f) (hi : zx_is r a = true) (h : zf_get f b r S nx = some out) (kk : ∀ v, nx v = some out → zJ2 p l e R s m args below meth c Q G S0 nL gm S (pc + 3) lv (v :: st)) : zJ2 p l e R s m args below meth c Q G S0 nL gm S pc lv (.inr (.inl (some r)) :: st) := by
  obtain ⟨x, hcd⟩ := zx_is_cd hi
  obtain ⟨hf1, lf, hlf, hfl⟩ := zf_of_get hf
  by_cases hr : r ∈ zt_all
  · have hfs : f ∈ zt_fs r := by unfold zt_fs; rw [hcd]; exact List.mem_of_getElem? hf1
    obtain ⟨v, h1, h2, h3⟩ := zf_get_ok (ad := G.2.2.1) (zt_f3 r hr f hfs) (zt_f4 r hr f hfs) (zt_f5 r hr f hfs) h
    obtain ⟨k1, k2⟩ := kk v h1
    refine ⟨k1, fun ls H locs hl hP hS h5 hg hs hv => ?_⟩
    obtain ⟨q0, hq0⟩ := zt_at hr
    have he := zt_wsat G S hq0
    rw [zt_el_obj hcd] at he
    have hval : ((zt_flds.getD a []).mapIdx (fun k f => zf_val G.2.2.1 f k r S))[b]? = some (zc G.2.2.1 v) := by
      rw [List.getElem?_mapIdx, hf1, h2]; rfl
    by_cases hcn : cn = 0
    · rw [if_pos hcn] at hq
      exact va_get X.1 X.2.1 (zX_lays X hc) (fun _ h => h) X.2.2.2.1 X.2.2.2.2.1 hP q0 he hc b hk (zw_use X.2.2.2.2.2.1.1 hq rfl) (fun _ h => h) hval hdg (k2 ls H locs hl hP hS h5 hg (zv_cons h3 (zv_tl hs)) hv)
    · rw [if_neg hcn] at hq
      exact va_getN X.1 X.2.1 (zX_lays X hc) (fun _ h => h) X.2.2.2.1 X.2.2.2.2.1 hP q0 he hc b hk (zw_use X.2.2.2.2.2.1.1 hq rfl) (fun _ h => h) hval hdg (k2 ls H locs hl hP hS h5 hg (zv_cons h3 (zv_tl hs)) hv)
  · have hx : ∀ v, nx v = some out → S.2.2.2 ≤ gm := fun v hv => (kk v hv).1
    have hout : ∃ v, nx v = some out := by
      unfold zf_get at h
      split at h
      · exact ⟨_, h⟩
      · exact ⟨_, h⟩
      · exact ⟨_, h⟩
      · exact ⟨_, h⟩
      · exact ⟨_, h⟩
      · split at h
        · exact ⟨_, h⟩
        · cases h
      · cases h
    obtain ⟨v, hv⟩ := hout
    exact ⟨hx v hv, fun ls H locs hl hP hS h5 hg hs hv => absurd (zr_in (zv_hd hs) hcd) hr⟩
theorem zJ_putfield (X : zX p l s m meth c G S0 own cc nL ret hh) {ix a b q cn : Nat} {ho : String} {Cl : vw_C} {f : Nat × Nat × Nat × Nat} {r : zR} {v : zV} {S' : zS} {ty : FieldType} (hdg : decode cc pc = .ok (.putfield ix, 3)) (hc : vwCl[a]? = some Cl) (hk : b < Cl.2.2)
    (hq : lw_tbl[q]? = some (if cn = 0 then .fieldLink own ix (Cl.2.1 b).1 (Cl.2.1 b).2.1 (Cl.2.1 b).2.2.1 else .fieldLinkNest own ix (Cl.2.1 b).1 (Cl.2.1 b).2.1 (Cl.2.1 b).2.2.1 ho)) (hfin : (Cl.2.1 b).2.2.2 = false) (hty : parseFieldDescriptor (Cl.2.1 b).2.2.1 = some ty)
    (hf : zf_of a b = some f) (hft : zf_ty f.1 = some ty) (hi : zx_is r a = true) (h : zf_put f b r v S = some S') (kk : zJ2 p l e R s m args below meth c Q G S0 nL gm S' (pc + 3) lv st) : zJ2 p l e R s m args below meth c Q G S0 nL gm S pc lv (v :: .inr (.inl (some r)) :: st) := by
  obtain ⟨x, hcd⟩ := zx_is_cd hi
  obtain ⟨hf1, lf, hlf, hfl⟩ := zf_of_get hf
  obtain ⟨y, hS', hval, htt⟩ := zf_put_ok (ad := G.2.2.1) h
  obtain ⟨hn, hfit⟩ := htt ty hft
  obtain ⟨k1, k2⟩ := kk
  have hg' : S'.2.2.2 = S.2.2.2 := by rw [hS']; rfl
  refine ⟨by rw [← hg']; exact k1, fun ls H locs hl hP hS h5 hg hs hv => ?_⟩
  have hr := zr_in (zv_hd (zv_tl hs)) hcd
  obtain ⟨q0, hq0⟩ := zt_at hr
  have he := zt_wsat G S hq0
  rw [zt_el_obj hcd] at he
  obtain ⟨ty0, ht0, hnm⟩ := zt_ty a Cl hc
  have hbl : b < ((zt_flds.getD a []).mapIdx (fun k f => zf_val G.2.2.1 f k r S)).length := by
    rw [List.length_mapIdx]; exact (List.getElem?_eq_some_iff.mp hf1).1
  have hfs : ((zt_flds.getD a []).mapIdx (fun k f => zf_val G.2.2.1 f k r S)).set b (zc G.2.2.1 v) = (zt_flds.getD a []).mapIdx (fun k f => zf_val G.2.2.1 f k r S') := by
    refine List.ext_getElem? fun i => ?_
    by_cases hib : i = b
    · subst hib
      rw [List.getElem?_set_self hbl, List.getElem?_mapIdx, hf1, ← hval]; rfl
    · rw [List.getElem?_set_ne (Ne.symm hib), List.getElem?_mapIdx, List.getElem?_mapIdx]
      cases hfi : (zt_flds.getD a [])[i]? with
      | none => rfl
      | some g =>
        simp only [Option.map_some]
        unfold zf_val
        rw [hS']
        simp only [zs_idx S _ _ _ b i y hib]
  have hset : (zt_ws G S).set q0 (G.2.2.1 r, .inr (a, ((zt_flds.getD a []).mapIdx (fun k f => zf_val G.2.2.1 f k r S)).set b (zc G.2.2.1 v))) = zt_ws G S' := by
    rw [hfs, ← zt_el_obj (G := G) (S := S') hcd]
    exact zt_wsset G S S' hq0 (fun r' hr' hne => by rw [hS']; exact zt_el_set hne)
  have h5' : S'.1 5 = S0.1 5 := by
    rw [hS', zs_5 _ _ _ _ _ _ (by have := (zt_all_cd r hr).2; omega)]; exact h5
  have hgo : ∀ (H1 : Heap) (locs1 : List Loc), va_P G.1 vwCl (zt_ws G S') H1 → va_S (zA G s.heap.size) s.heap H1 locs1 → W p l e R s m args below meth c H1 locs1 (S.2.2.2 - S0.2.2.2) (6 * (S.2.2.2 - S0.2.2.2)) Q (F0 m (pc + 3) ls (st.map (zc G.2.2.1))) := fun H1 locs1 hP1 hS1 => by
    rw [← hg']
    exact k2 ls H1 locs1 hl hP1 hS1 h5' (by rw [hg']; exact hg) (zv_tl (zv_tl hs)) hv
  by_cases hcn : cn = 0
  · rw [if_pos hcn] at hq
    exact va_put X.1 X.2.1 (zX_lays X hc) (fun _ h => h) ty0 ht0 hnm X.2.2.2.1 X.2.2.2.2.1 hP (zD X.2.2.2.2.2.2.1 S _) hS q0 he hc b hk (zw_use X.2.2.2.2.2.1.1 hq rfl) (fun _ h => h) hfin hty hn hfit hbl hdg (fun H1 locs1 hP1 hD1 hS1 => hgo H1 locs1 (hset ▸ hP1) hS1)
  · rw [if_neg hcn] at hq
    exact va_putN X.1 X.2.1 (zX_lays X hc) (fun _ h => h) ty0 ht0 hnm X.2.2.2.1 X.2.2.2.2.1 hP (zD X.2.2.2.2.2.2.1 S _) hS q0 he hc b hk (zw_use X.2.2.2.2.2.1.1 hq rfl) (fun _ h => h) hfin hty hn hfit hbl hdg (fun H1 locs1 hP1 hD1 hS1 => hgo H1 locs1 (hset ▸ hP1) hS1)
end ZK

/-! SOUNDNESS 5: the library's plain members, switches, returns -/
/-- room for a body: what its calls may need -/
def zRm (R : Room) (S0 : zS) (gm : Nat) : Prop := 1 ≤ R.frames ∧ 130 ≤ R.locals ∧ gm - S0.2.2.2 ≤ R.cells ∧ 6 * (gm - S0.2.2.2) ≤ R.slots
theorem zx_wd_sum (ad : zR → Nat) : ∀ st : List zV, ((st.map (zc ad)).map fun v => v.category).sum = zx_wd st := by
  intro st
  induction st with
  | nil => rfl
  | cons v st ih =>
    rw [List.map_cons, List.map_cons, List.sum_cons, ih, zx_wd]
    cases hw : zl_wide (some v) with
    | true => rw [(zc_cat ad v).mpr hw]
    | false => rw [zc_cat1 ad v hw]
theorem zx_if_ok {α : Type} {b : Bool} {x : Option α} {y : α} (h : zx_if b x = some y) : b = true ∧ x = some y := by
  cases b with
  | true => exact ⟨rfl, h⟩
  | false => cases h
theorem zx_wd_tl2 {v w : zV} {st : List zV} : zx_wd st ≤ zx_wd (v :: w :: st) := by
  simp only [zx_wd]; omega
theorem zx_wd_tl {v : zV} {st : List zV} : zx_wd st ≤ zx_wd (v :: st) := by
  simp only [zx_wd]; omega
section ZB
variable {p : Program} {l : Launch} {e : Env} {R : Room} {s : State} {m : MethodId} {args : Array Value} {below : List Frame} {meth : Method} {c : Code} {Q : State → Prop} {G : zG} {S0 : zS} {own : String} {cc : ByteArray} {nL : Nat} {ret : Option FieldType} {hh : List (Nat × Nat × Nat × Nat)} {S : zS} {pc : Nat} {lv : zL} {st : List zV} {out : zO} {gm : Nat}
theorem zlib_min {ix q : Nat} (X : zX p l s m meth c G S0 own cc nL ret hh) (hR : zRm R S0 gm) {x y : Int32} (hw : zx_wd (zi y :: zi x :: st) ≤ 13) (hdg : decode cc pc = .ok (.invokestatic ix, 3)) (hq : lw_tbl[q]? = some (.methodLink own ix Lib.Math.min.name)) (kk : zJ2 p l e R s m args below meth c Q G S0 nL gm S (pc + 3) lv (zi (if y < x then y else x) :: st)) : zJ2 p l e R s m args below meth c Q G S0 nL gm S pc lv (zi y :: zi x :: st) := by
  refine ⟨kk.1, fun ls H locs hl hP hS h5 hg hs hv => ?_⟩
  have hw2 : (((st.map (zc G.2.2.1)).map fun v => v.category).sum) ≤ 13 := by rw [zx_wd_sum]; exact Nat.le_trans zx_wd_tl2 hw
  obtain ⟨r1, r2, r3, r4⟩ := hR
  have hk := kk.1
  exact va_mmin X.1 X.2.1 (by rw [X.2.2.1, hl.1]) X.2.2.2.1 (zw_use X.2.2.2.2.2.1.1 hq rfl) (zw_use X.2.2.2.2.2.1.1 (p := zp_min_static) (by decide +kernel) rfl) (zw_use X.2.2.2.2.2.1.1 (p := zp_math_init) (by decide +kernel) rfl) (zw_use X.2.2.2.2.2.1.1 (p := zp_min_code) (by decide +kernel) rfl) (by omega) (by omega) (by omega) (by omega) hdg (kk.2 ls H locs hl hP hS h5 hg (zv_cons trivial (zv_tl (zv_tl hs))) hv)
theorem zlib_max {ix q : Nat} (X : zX p l s m meth c G S0 own cc nL ret hh) (hR : zRm R S0 gm) {x y : Int32} (hw : zx_wd (zi y :: zi x :: st) ≤ 13) (hdg : decode cc pc = .ok (.invokestatic ix, 3)) (hq : lw_tbl[q]? = some (.methodLink own ix Lib.Math.max.name)) (kk : zJ2 p l e R s m args below meth c Q G S0 nL gm S (pc + 3) lv (zi (if x < y then y else x) :: st)) : zJ2 p l e R s m args below meth c Q G S0 nL gm S pc lv (zi y :: zi x :: st) := by
  refine ⟨kk.1, fun ls H locs hl hP hS h5 hg hs hv => ?_⟩
  have hw2 : (((st.map (zc G.2.2.1)).map fun v => v.category).sum) ≤ 13 := by rw [zx_wd_sum]; exact Nat.le_trans zx_wd_tl2 hw
  obtain ⟨r1, r2, r3, r4⟩ := hR
  have hk := kk.1
  exact va_mmax X.1 X.2.1 (by rw [X.2.2.1, hl.1]) X.2.2.2.1 (zw_use X.2.2.2.2.2.1.1 hq rfl) (zw_use X.2.2.2.2.2.1.1 (p := zp_max_static) (by decide +kernel) rfl) (zw_use X.2.2.2.2.2.1.1 (p := zp_math_init) (by decide +kernel) rfl) (zw_use X.2.2.2.2.2.1.1 (p := zp_max_code) (by decide +kernel) rfl) (by omega) (by omega) (by omega) (by omega) hdg (kk.2 ls H locs hl hP hS h5 hg (zv_cons trivial (zv_tl (zv_tl hs))) hv)
theorem zlib_abs {ix q : Nat} (X : zX p l s m meth c G S0 own cc nL ret hh) (hR : zRm R S0 gm) {x : Int32} (hw : zx_wd (zi x :: st) ≤ 13) (hdg : decode cc pc = .ok (.invokestatic ix, 3)) (hq : lw_tbl[q]? = some (.methodLink own ix Lib.Math.abs.name)) (kk : zJ2 p l e R s m args below meth c Q G S0 nL gm S (pc + 3) lv (zi (if 0 ≤ x then x else 0 - x) :: st)) : zJ2 p l e R s m args below meth c Q G S0 nL gm S pc lv (zi x :: st) := by
  refine ⟨kk.1, fun ls H locs hl hP hS h5 hg hs hv => ?_⟩
  have hw2 : (((st.map (zc G.2.2.1)).map fun v => v.category).sum) ≤ 13 := by rw [zx_wd_sum]; exact Nat.le_trans zx_wd_tl hw
  obtain ⟨r1, r2, r3, r4⟩ := hR
  have hk := kk.1
  exact va_mabs X.1 X.2.1 (by rw [X.2.2.1, hl.1]) X.2.2.2.1 (zw_use X.2.2.2.2.2.1.1 hq rfl) (zw_use X.2.2.2.2.2.1.1 (p := zp_abs_static) (by decide +kernel) rfl) (zw_use X.2.2.2.2.2.1.1 (p := zp_math_init) (by decide +kernel) rfl) (zw_use X.2.2.2.2.2.1.1 (p := zp_abs_code) (by decide +kernel) rfl) (by omega) (by omega) (by omega) (by omega) hdg (kk.2 ls H locs hl hP hS h5 hg (zv_cons trivial (zv_tl hs)) hv)
theorem zlib_copy {ix q9 : Nat} (X : zX p l s m meth c G S0 own cc nL ret hh) (hR : zRm R S0 gm) {r q : zR} {i j n : Int32} {nx : zS → Option zO} (hw : zx_wd (zi n :: zi j :: .inr (.inl (some q)) :: zi i :: .inr (.inl (some r)) :: st) ≤ 13) (hdg : decode cc pc = .ok (.invokestatic ix, 3)) (hq : lw_tbl[q9]? = some (.methodLink own ix arraycopyName)) (h : za_copy r q i j n S nx = some out) (kk : ∀ S', nx S' = some out → zJ2 p l e R s m args below meth c Q G S0 nL gm S' (pc + 3) lv st) : zJ2 p l e R s m args below meth c Q G S0 nL gm S pc lv (zi n :: zi j :: .inr (.inl (some q)) :: zi i :: .inr (.inl (some r)) :: st) := by
  unfold za_copy at h
  split at h
  · rename_i a b hca hcb
    split at h
    · rename_i hij
      obtain ⟨rfl, rfl, hn0, hna, hnb⟩ := hij
      obtain ⟨S', hS'⟩ : ∃ z : zS, z = (fun k' n' o' j' => if k' = q.1 ∧ n' = q.2.1 ∧ o' = q.2.2 ∧ j' < n.toNatClampNeg then S.1 r.1 r.2.1 r.2.2 j' else S.1 k' n' o' j', S.2) := ⟨_, rfl⟩
      rw [← hS'] at h
      obtain ⟨k1, k2⟩ := kk S' h
      have hg' : S'.2.2.2 = S.2.2.2 := by rw [hS']
      refine ⟨by rw [← hg']; exact k1, fun ls H locs hl hP hS h5 hg hs hv => ?_⟩
      have hrr := zr_in (zv_hd (zv_tl (zv_tl (zv_tl (zv_tl hs))))) hca
      have hqq := zr_in (zv_hd (zv_tl (zv_tl hs))) hcb
      have hw2 : (((st.map (zc G.2.2.1)).map fun v => v.category).sum) ≤ 13 := by
        rw [zx_wd_sum]
        exact Nat.le_trans (Nat.le_trans zx_wd_tl (Nat.le_trans zx_wd_tl2 zx_wd_tl2)) hw
      obtain ⟨q0, hq0⟩ := zt_at hrr
      obtain ⟨q1, hq1⟩ := zt_at hqq
      have he0 := zt_wsat G S hq0
      rw [zt_el_ints hca] at he0
      have he1 := zt_wsat G S hq1
      rw [zt_el_ints hcb] at he1
      have hn : ¬ n < 0 := fun z => by
        rw [Int32.lt_iff_toInt_lt, Int32.toInt_zero] at z
        rw [Int32.le_iff_toInt_le, Int32.toInt_zero] at hn0
        omega
      obtain ⟨t, ht, rfl⟩ := nI_of hn
      have hla : a < 2 ^ 31 := zt_len r hrr (false, 0, a) (by rw [hca]; exact List.mem_singleton.mpr rfl)
      have hlb : b < 2 ^ 31 := zt_len q hqq (false, 0, b) (by rw [hcb]; exact List.mem_singleton.mpr rfl)
      have hta : t ≤ a := (nI_leI ht hla).mp hna
      have htb : t ≤ b := (nI_leI ht hlb).mp hnb
      rw [nI_clamp ht] at hS'
      obtain ⟨r1, r2, r3, r4⟩ := hR
      have hrow : va_cpy (fun i => S.1 r.1 r.2.1 r.2.2 i) (fun i => S.1 q.1 q.2.1 q.2.2 i) (0 : Int32).toNatClampNeg (0 : Int32).toNatClampNeg (nI t).toNatClampNeg = (fun i => S'.1 q.1 q.2.1 q.2.2 i) := by
        funext i
        rw [sb_cl0, nI_clamp ht, hS']
        unfold va_cpy
        by_cases hi : i < t
        · rw [if_pos ⟨Nat.zero_le _, by omega⟩]
          simp [hi]
        · rw [if_neg (fun z => hi (by omega))]
          simp [hi]
      have hset := zt_wsset G S S' hq1 (fun r' _ hne => zt_el_row (by
        rw [hS']
        funext i
        refine if_neg ?_
        rintro ⟨h1, h2, h3, -⟩
        exact hne (Prod.ext h1 (Prod.ext h2 h3))) (by rw [hS']) (by rw [hS']))
      rw [zt_el_ints (S := S') hcb, ← hrow] at hset
      have hnf : nativeFrameWords "java/lang/System" "arraycopy" 5 ≤ 100 := by decide +kernel
      refine va_copyi X.1 X.2.1 (by rw [X.2.2.1, hl.1]) X.2.2.2.1 (zw_use X.2.2.2.2.2.1.1 hq rfl) (zw_use X.2.2.2.2.2.1.1 (p := zp_copy_native) (by decide +kernel) rfl) (zw_use X.2.2.2.2.2.1.1 (p := zp_copy_static) (by decide +kernel) rfl) (zw_use X.2.2.2.2.2.1.1 (p := zp_sys_init) (by decide +kernel) rfl) X.2.2.2.2.1 hP (zD X.2.2.2.2.2.2.1 S _) hS q0 q1 0 0 he0 he1 rfl rfl rfl (by decide) (by decide) hn (by rw [sb_cl0, nI_clamp ht]; omega) (by rw [sb_cl0, nI_clamp ht]; omega) (fun _ _ => rfl) (by omega) (by omega) hdg (fun H1 locs1 hP1 hD1 hS1 => ?_)
      rw [← hg']
      refine k2 ls H1 locs1 hl (hset ▸ hP1) hS1 ?_ (by rw [hg']; exact hg) (zv_tl (zv_tl (zv_tl (zv_tl (zv_tl hs))))) hv
      rw [← h5, hS']
      funext x y z
      refine if_neg ?_
      rintro ⟨h1, -⟩
      have := (zt_all_cd q hqq).2
      omega
    · cases h
  · cases h
/-- a switch: the rows are those of the instruction -/
theorem zx_sw_ok {x : Int32} {jp : Nat → Option zO} : ∀ (tb : List (Int × Nat)) (d : Nat), zx_sw x jp tb d = some out → (∃ t, (x.toInt, t) ∈ tb ∧ zx_find tb x.toInt = some t ∧ jp t = some out) ∨ (zx_find tb x.toInt = none ∧ jp d = some out) := by
  intro tb
  induction tb with
  | nil => intro d h; exact Or.inr ⟨rfl, h⟩
  | cons q tb ih =>
    intro d h
    obtain ⟨v, t⟩ := q
    unfold zx_sw at h
    unfold zx_find
    by_cases hv : x.toInt = v
    · rw [if_pos hv] at h
      exact Or.inl ⟨t, by rw [hv]; exact List.mem_cons_self, by rw [if_pos hv.symm], h⟩
    · rw [if_neg hv] at h
      rw [if_neg (Ne.symm hv)]
      rcases ih d h with ⟨t', h1, h2, h3⟩ | ⟨h2, h3⟩
      · exact Or.inl ⟨t', List.mem_cons_of_mem _ h1, h2, h3⟩
      · exact Or.inr ⟨h2, h3⟩
/-- the rows of a tableswitch -/
def zt_rows (pc : Nat) (lo : Int) : List Int → List (Int × Int)
  | [] => []
  | o :: l => (lo, (pc : Int) + o) :: zt_rows pc (lo + 1) l
theorem zt_rows_get {pc : Nat} : ∀ (l : List Int) (lo : Int) (tb : List (Int × Nat)), tb.map (fun q => (q.1, (q.2 : Int))) = zt_rows pc lo l → ∀ y : Int, (∀ t, zx_find tb y = some t → ¬ y < lo ∧ y < lo + l.length ∧ ∃ off, l[(y - lo).toNat]? = some off ∧ (pc : Int) + off = t) ∧ (zx_find tb y = none → y < lo ∨ lo + l.length ≤ y) := by
  intro l
  induction l with
  | nil =>
    intro lo tb h y
    cases tb with
    | nil => exact ⟨(fun t h => nomatch h), fun _ => by simp only [List.length_nil]; omega⟩
    | cons a b => simp [zt_rows] at h
  | cons o l ih =>
    intro lo tb h y
    cases tb with
    | nil => simp [zt_rows] at h
    | cons a b =>
      obtain ⟨v, t0⟩ := a
      simp only [List.map_cons, zt_rows, List.cons.injEq, Prod.mk.injEq] at h
      obtain ⟨⟨hv, ht⟩, hb⟩ := h
      subst hv
      obtain ⟨i1, i2⟩ := ih (v + 1) b hb y
      refine ⟨fun t hf => ?_, fun hf => ?_⟩
      · unfold zx_find at hf
        by_cases hy : v = y
        · rw [if_pos hy] at hf
          cases hf
          subst hy
          refine ⟨by omega, by simp; omega, o, by simp, ht.symm⟩
        · rw [if_neg hy] at hf
          obtain ⟨j1, j2, off, j3, j4⟩ := i1 t hf
          refine ⟨by omega, by simp; omega, off, ?_, j4⟩
          have : (y - v).toNat = (y - (v + 1)).toNat + 1 := by omega
          rw [this, List.getElem?_cons_succ]
          exact j3
      · unfold zx_find at hf
        by_cases hy : v = y
        · rw [if_pos hy] at hf; cases hf
        · rw [if_neg hy] at hf
          have := i2 hf
          simp only [List.length_cons]
          omega
theorem zJ_table (X : zX p l s m meth c G S0 own cc nL ret hh) {dflt lo hi : Int} {offs : Array Int} {len a : Nat} {x : Int32} {tb : List (Int × Nat)} {jp : Nat → Option zO} (hdg : decode cc pc = .ok (.tableswitch dflt lo hi offs, len)) (ha : (pc : Int) + dflt = (a : Int)) (ht : tb.map (fun q => (q.1, (q.2 : Int))) = zt_rows pc lo offs.toList) (hn : lo + offs.toList.length = hi + 1)
    (h : zx_sw x jp tb a = some out) (kk : ∀ t, jp t = some out → zJ2 p l e R s m args below meth c Q G S0 nL gm S t lv st) : zJ2 p l e R s m args below meth c Q G S0 nL gm S pc lv (zi x :: st) := by
  rcases zx_sw_ok tb a h with ⟨t, -, h2, h3⟩ | ⟨h2, h3⟩
  · obtain ⟨j1, j2, off, j3, j4⟩ := (zt_rows_get offs.toList lo tb ht x.toInt).1 t h2
    obtain ⟨k1, k2⟩ := kk t h3
    exact ⟨k1, zJ_tableIn X hdg j1 (by omega) (by rw [← Array.getElem?_toList]; exact j3) j4 k2⟩
  · have j := (zt_rows_get offs.toList lo tb ht x.toInt).2 h2
    obtain ⟨k1, k2⟩ := kk a h3
    exact ⟨k1, zJ_tableOut X hdg (by omega) ha k2⟩
theorem zJ_lookup2 (X : zX p l s m meth c G S0 own cc nL ret hh) {dflt : Int} {ps : Array (Int × Int)} {len a : Nat} {x : Int32} {tb : List (Int × Nat)} {jp : Nat → Option zO} (hdg : decode cc pc = .ok (.lookupswitch dflt ps, len)) (hp : (ps.toList.zip (ps.toList.drop 1)).all (fun (a, next) => a.1 < next.1) = true) (ha : (pc : Int) + dflt = (a : Int))
    (ho : ∀ t : Nat, (zx_find tb x.toInt = some t → (pc : Int) + Op.lookupswitch.offset ps.toList dflt x.toInt = t) ∧ (zx_find tb x.toInt = none → Op.lookupswitch.offset ps.toList dflt x.toInt = dflt))
    (h : zx_sw x jp tb a = some out) (kk : ∀ t, jp t = some out → zJ2 p l e R s m args below meth c Q G S0 nL gm S t lv st) : zJ2 p l e R s m args below meth c Q G S0 nL gm S pc lv (zi x :: st) := by
  rcases zx_sw_ok tb a h with ⟨t, -, h2, h3⟩ | ⟨h2, h3⟩
  · obtain ⟨k1, k2⟩ := kk t h3
    exact ⟨k1, zJ_lookup X hdg hp rfl ((ho t).1 h2) k2⟩
  · obtain ⟨k1, k2⟩ := kk a h3
    exact ⟨k1, zJ_lookup X hdg hp ((ho 0).2 h2) ha k2⟩
/-! how a body ends -/
def zQc (G : zG) (S : zS) (out : zO) (sz : Nat) : Array Value → State → Outcome → State → Prop := fun _ s oc t => ∃ v, out.1 = .inl v ∧ oc = .returned (v.map (zc G.2.2.1)) ∧ va_P G.1 vwCl (zt_ws G out.2) t.heap ∧ out.2.1 5 = S.1 5 ∧ (∀ w, v = some w → zv_ok w) ∧ va_F (zA G sz) s t
abbrev zQ (below : List Frame) (args : Array Value) (s : State) (G : zG) (S0 : zS) (out : zO) : State → Prop := MQ below (zQc G S0 out s.heap.size) args s (out.2.2.2.2 - S0.2.2.2) (6 * (out.2.2.2.2 - S0.2.2.2)) (zA G s.heap.size)
theorem zJ_iret (X : zX p l s m meth c G S0 own cc nL ret hh) {x : Int32} (hr : ret = some .int) (hdg : decode cc pc = .ok (.ireturn, 1)) : zJ p l e R s m args below meth c (zQ below args s G S0 (.inl (some (zi x)), S)) G S0 nL S pc lv [zi x] := fun ls H locs hl hP hS h5 hg hs hv =>
  (W.iret X.1 X.2.1 (X.2.2.2.2.2.2.2.1.trans hr) (fun t ht hW => ⟨some (zi x), rfl, rfl, by rw [ht]; exact hP, h5, fun w e => by cases e; trivial, hS.F ht⟩) hS.2.2 hdg X.2.2.2.2.2.2.2.2.1)
theorem zJ_zret (X : zX p l s m meth c G S0 own cc nL ret hh) {x : Int32} (hr : ret = some .boolean) (hx : x &&& 1 = x) (hdg : decode cc pc = .ok (.ireturn, 1)) : zJ p l e R s m args below meth c (zQ below args s G S0 (.inl (some (zi x)), S)) G S0 nL S pc lv [zi x] := fun ls H locs hl hP hS h5 hg hs hv =>
  (W.zret X.1 X.2.1 (X.2.2.2.2.2.2.2.1.trans hr) (by show Value.int (x &&& 1) = Value.int x; rw [hx]) (fun t ht hW => ⟨some (zi x), rfl, rfl, by rw [ht]; exact hP, h5, fun w e => by cases e; trivial, hS.F ht⟩) hS.2.2 hdg X.2.2.2.2.2.2.2.2.1)
theorem zJ_bret (X : zX p l s m meth c G S0 own cc nL ret hh) {x : Int32} (hr : ret = some .byte) (hx : x.toInt8.toInt32 = x) (hdg : decode cc pc = .ok (.ireturn, 1)) : zJ p l e R s m args below meth c (zQ below args s G S0 (.inl (some (zi x)), S)) G S0 nL S pc lv [zi x] := fun ls H locs hl hP hS h5 hg hs hv =>
  (W.zret X.1 X.2.1 (X.2.2.2.2.2.2.2.1.trans hr) (by show Value.int _ = Value.int x; rw [hx]) (fun t ht hW => ⟨some (zi x), rfl, rfl, by rw [ht]; exact hP, h5, fun w e => by cases e; trivial, hS.F ht⟩) hS.2.2 hdg X.2.2.2.2.2.2.2.2.1)
theorem zJ_cret (X : zX p l s m meth c G S0 own cc nL ret hh) {x : Int32} (hr : ret = some .char) (hx : x.toUInt32.toUInt16.toUInt32.toInt32 = x) (hdg : decode cc pc = .ok (.ireturn, 1)) : zJ p l e R s m args below meth c (zQ below args s G S0 (.inl (some (zi x)), S)) G S0 nL S pc lv [zi x] := fun ls H locs hl hP hS h5 hg hs hv =>
  (W.zret X.1 X.2.1 (X.2.2.2.2.2.2.2.1.trans hr) (by show Value.int _ = Value.int x; rw [hx]) (fun t ht hW => ⟨some (zi x), rfl, rfl, by rw [ht]; exact hP, h5, fun w e => by cases e; trivial, hS.F ht⟩) hS.2.2 hdg X.2.2.2.2.2.2.2.2.1)
theorem zJ_fret (X : zX p l s m meth c G S0 own cc nL ret hh) {x : UInt32} (hr : ret = some .float) (hdg : decode cc pc = .ok (.freturn, 1)) : zJ p l e R s m args below meth c (zQ below args s G S0 (.inl (some (zf x)), S)) G S0 nL S pc lv [zf x] := fun ls H locs hl hP hS h5 hg hs hv =>
  have hlocks := X.2.2.2.2.2.2.2.2.1
  (W.fret X.1 X.2.1 (X.2.2.2.2.2.2.2.1.trans hr) (fun t ht hW => ⟨some (zf x), rfl, rfl, by rw [ht]; exact hP, h5, fun w e => by cases e; trivial, hS.F ht⟩) hS.2.2 hdg hlocks)
theorem zJ_dret (X : zX p l s m meth c G S0 own cc nL ret hh) {x : UInt64} (hr : ret = some .double) (hdg : decode cc pc = .ok (.dreturn, 1)) : zJ p l e R s m args below meth c (zQ below args s G S0 (.inl (some (zd x)), S)) G S0 nL S pc lv [zd x] := fun ls H locs hl hP hS h5 hg hs hv =>
  have hlocks := X.2.2.2.2.2.2.2.2.1
  (W.dret X.1 X.2.1 (X.2.2.2.2.2.2.2.1.trans hr) (fun t ht hW => ⟨some (zd x), rfl, rfl, by rw [ht]; exact hP, h5, fun w e => by cases e; trivial, hS.F ht⟩) hS.2.2 hdg hlocks)
theorem zJ_vret (X : zX p l s m meth c G S0 own cc nL ret hh) (hr : ret = none) (hdg : decode cc pc = .ok (.return_, 1)) : zJ p l e R s m args below meth c (zQ below args s G S0 (.inl none, S)) G S0 nL S pc lv [] := fun ls H locs hl hP hS h5 hg hs hv =>
  have hlocks := X.2.2.2.2.2.2.2.2.1
  (W.vret X.1 X.2.1 (X.2.2.2.2.2.2.2.1.trans hr) (fun t ht hW => ⟨none, rfl, rfl, by rw [ht]; exact hP, h5, (fun w e => nomatch e), hS.F ht⟩) hS.2.2 hdg hlocks)
theorem zJ_aret (X : zX p l s m meth c G S0 own cc nL ret hh) {r : Option zR} (hr : (∃ n, ret = some (.object n)) ∨ ∃ t, ret = some (.array t)) (hdg : decode cc pc = .ok (.areturn, 1)) : zJ p l e R s m args below meth c (zQ below args s G S0 (.inl (some (.inr (.inl r))), S)) G S0 nL S pc lv [.inr (.inl r)] := fun ls H locs hl hP hS h5 hg hs hv => by
  obtain ⟨rt, h1, h2⟩ : ∃ rt, ret = some rt ∧ ((∃ n, rt = .object n) ∨ ∃ t, rt = .array t) := by
    rcases hr with ⟨n, h⟩ | ⟨t, h⟩
    · exact ⟨_, h, Or.inl ⟨n, rfl⟩⟩
    · exact ⟨_, h, Or.inr ⟨t, rfl⟩⟩
  exact (W.aret (rt := rt) X.1 X.2.1 (X.2.2.2.2.2.2.2.1.trans h1) h2 (by cases r with | none => exact Or.inl rfl | some r => exact Or.inr ⟨_, rfl⟩) (fun t ht hW => ⟨some (.inr (.inl r)), rfl, rfl, by rw [ht]; exact hP, h5, fun w e => by cases e; exact zv_hd hs, hS.F ht⟩) hS.2.2 hdg X.2.2.2.2.2.2.2.2.1)
end ZB

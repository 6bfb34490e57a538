/-! SOUNDNESS 0: the concrete picture of the abstract machine's values, locals and store -/
abbrev zG : Type := va_G × (Nat → ClassId) × (zR → Nat) × (Nat → Nat)
def zc (ad : zR → Nat) : zV → Value
  | .inl x => .int x
  | .inr (.inl none) => .null
  | .inr (.inl (some r)) => .ref (ad r)
  | .inr (.inr (.inl x)) => .float x
  | .inr (.inr (.inr (.inl x))) => .long x
  | .inr (.inr (.inr (.inr x))) => .double x
theorem zc_cat (ad : zR → Nat) (v : zV) : (zc ad v).category = 2 ↔ zl_wide (some v) = true := by
  rcases v with x | (_ | r) | x | x | x <;> simp [zc, zl_wide, Value.category]
theorem zc_cat1 (ad : zR → Nat) (v : zV) (h : zl_wide (some v) = false) : (zc ad v).category = 1 := by
  rcases v with x | (_ | r) | x | x | x <;> simp_all [zc, zl_wide, Value.category]
def zl_pairs (ad : zR → Nat) : Nat → zL → List (Nat × Value)
  | _, [] => []
  | i, none :: l => zl_pairs ad (i + 1) l
  | i, some v :: l => (i, zc ad v) :: zl_pairs ad (i + 1) l
theorem zl_mem {ad : zR → Nat} : ∀ (l : zL) (i : Nat) (q : Nat × Value), q ∈ zl_pairs ad i l ↔ ∃ (j : Nat) (v : zV), q = (i + j, zc ad v) ∧ zl_get l j = some v := by
  intro l
  induction l with
  | nil => intro i q; simp [zl_pairs, zl_get]
  | cons x l ih =>
    intro i q
    constructor
    · intro h
      cases x with
      | none =>
        obtain ⟨j, v, h1, h2⟩ := (ih (i + 1) q).mp h
        exact ⟨j + 1, v, by rw [h1]; congr 1; omega, h2⟩
      | some w =>
        rcases List.mem_cons.mp h with h | h
        · exact ⟨0, w, h, rfl⟩
        · obtain ⟨j, v, h1, h2⟩ := (ih (i + 1) q).mp h
          exact ⟨j + 1, v, by rw [h1]; congr 1; omega, h2⟩
    · rintro ⟨j, v, h1, h2⟩
      cases j with
      | zero =>
        have h3 : x = some v := h2
        subst h3
        exact List.mem_cons.mpr (Or.inl h1)
      | succ j =>
        have h3 : q ∈ zl_pairs ad (i + 1) l := (ih (i + 1) q).mpr ⟨j, v, by rw [h1]; congr 1; omega, h2⟩
        cases x with
        | none => exact h3
        | some w => exact List.mem_cons_of_mem _ h3
theorem zl_mem0 {ad : zR → Nat} {l : zL} {q : Nat × Value} : q ∈ zl_pairs ad 0 l ↔ ∃ (j : Nat) (v : zV), q = (j, zc ad v) ∧ zl_get l j = some v := by
  rw [zl_mem]
  simp
theorem zl_getset : ∀ (l : zL) (i : Nat) (v : Option zV) (j : Nat) (x : zV), zl_get (zl_set l i v) j = some x → (j = i ∧ v = some x) ∨ (j ≠ i ∧ zl_get l j = some x ∧ (j + 1 = i → zl_wide (some x) = false)) := by
  intro l
  induction l with
  | nil => intro i v j x h; simp [zl_set, zl_get] at h
  | cons y l ih =>
    intro i v j x h
    match i, j, h with
    | 0, 0, h => exact Or.inl ⟨rfl, h⟩
    | 0, j + 1, h => exact Or.inr ⟨by omega, h, fun e => by omega⟩
    | 1, 0, h =>
      refine Or.inr ⟨by omega, ?_⟩
      simp only [zl_set, zl_get] at h
      cases hw : zl_wide y with
      | true => rw [hw] at h; simp at h
      | false =>
        rw [hw] at h
        have h2 : y = some x := h
        subst h2
        exact ⟨rfl, fun _ => hw⟩
    | 1, j + 1, h =>
      rcases ih 0 v j x h with ⟨h1, h2⟩ | ⟨h1, h2, h3⟩
      · exact Or.inl ⟨by omega, h2⟩
      · exact Or.inr ⟨by omega, h2, fun e => by omega⟩
    | i + 2, 0, h => exact Or.inr ⟨by omega, h, fun e => by omega⟩
    | i + 2, j + 1, h =>
      rcases ih (i + 1) v j x h with ⟨h1, h2⟩ | ⟨h1, h2, h3⟩
      · exact Or.inl ⟨by omega, h2⟩
      · exact Or.inr ⟨by omega, h2, fun e => h3 (by omega)⟩
theorem zl_getclr : ∀ (l : zL) (i j : Nat) (x : zV), zl_get (zl_clr l i) j = some x → j ≠ i ∧ zl_get l j = some x := by
  intro l
  induction l with
  | nil => intro i j x h; simp [zl_clr, zl_get] at h
  | cons y l ih =>
    intro i j x h
    match i, j, h with
    | 0, 0, h => simp [zl_clr, zl_get] at h
    | 0, j + 1, h => exact ⟨by omega, h⟩
    | i + 1, 0, h => exact ⟨by omega, h⟩
    | i + 1, j + 1, h =>
      obtain ⟨h1, h2⟩ := ih i j x h
      exact ⟨by omega, h2⟩
theorem zl_getkeep : ∀ (m : List Bool) (l : zL) (j : Nat) (x : zV), zl_get (zl_keep m l) j = some x → zl_get l j = some x := by
  intro m
  induction m with
  | nil => intro l j x h; simp [zl_keep, zl_get] at h
  | cons b m ih =>
    intro l j x h
    match b, l, j, h with
    | true, [], j, h => simp [zl_keep, zl_get] at h
    | false, [], j, h => simp [zl_keep, zl_get] at h
    | true, y :: l, 0, h => exact h
    | true, y :: l, j + 1, h => exact ih l j x h
    | false, y :: l, 0, h => simp [zl_keep, zl_get] at h
    | false, y :: l, j + 1, h => exact ih l j x h
theorem lv_mono {ls : Array Slot} {nL : Nat} {l l' : List (Nat × Value)} (h : lv_has ls nL l) (hs : ∀ q ∈ l', q ∈ l) : lv_has ls nL l' := ⟨h.1, h.2.1, fun q hq => h.2.2 q (hs q hq)⟩
theorem zl_at {ad : zR → Nat} {ls : Array Slot} {nL : Nat} {lv : zL} (h : lv_has ls nL (zl_pairs ad 0 lv)) {j : Nat} {v : zV} (hj : zl_get lv j = some v) : ls[j]? = some (.val (zc ad v)) := h.2.2 (j, zc ad v) (zl_mem0.mpr ⟨j, v, rfl, hj⟩)
/-- behind a store of a value of one word -/
theorem zl_stored {ad : zR → Nat} {lv : zL} {i : Nat} {v : zV} {q : Nat × Value} (hq : q ∈ zl_pairs ad 0 (zl_set lv i (some v))) : q ∈ (i, zc ad v) :: (zl_pairs ad 0 lv).filter (fun q => !(q.1 == i) && !(q.1 + 1 == i && q.2.category == 2)) := by
  obtain ⟨j, x, h1, h2⟩ := zl_mem0.mp hq
  rcases zl_getset lv i _ j x h2 with ⟨h3, h4⟩ | ⟨h3, h4, h5⟩
  · cases h4
    exact List.mem_cons.mpr (Or.inl (by rw [h1, h3]))
  · refine List.mem_cons_of_mem _ (List.mem_filter.mpr ⟨zl_mem0.mpr ⟨j, x, h1, h4⟩, ?_⟩)
    subst h1
    simp only [Bool.and_eq_true, Bool.not_eq_true', beq_eq_false_iff_ne, ne_eq, Bool.and_eq_false_imp, beq_iff_eq]
    refine ⟨h3, fun e c => ?_⟩
    have h6 := (zc_cat ad x).mp c
    rw [h5 e] at h6
    cases h6
theorem zl_stored2 {ad : zR → Nat} {lv : zL} {i : Nat} {v : zV} {q : Nat × Value} (hq : q ∈ zl_pairs ad 0 (zl_clr (zl_set lv i (some v)) (i + 1))) : q ∈ (i, zc ad v) :: (zl_pairs ad 0 lv).filter (fun q => !(q.1 == i) && (!(q.1 == i + 1) && !(q.1 + 1 == i && q.2.category == 2))) := by
  obtain ⟨j, x, h1, h2⟩ := zl_mem0.mp hq
  obtain ⟨hj, h2⟩ := zl_getclr _ _ _ _ h2
  rcases zl_getset lv i _ j x h2 with ⟨h3, h4⟩ | ⟨h3, h4, h5⟩
  · cases h4
    exact List.mem_cons.mpr (Or.inl (by rw [h1, h3]))
  · refine List.mem_cons_of_mem _ (List.mem_filter.mpr ⟨zl_mem0.mpr ⟨j, x, h1, h4⟩, ?_⟩)
    subst h1
    simp only [Bool.and_eq_true, Bool.not_eq_true', beq_eq_false_iff_ne, ne_eq, Bool.and_eq_false_imp, beq_iff_eq]
    refine ⟨h3, hj, fun e c => ?_⟩
    have h6 := (zc_cat ad x).mp c
    rw [h5 e] at h6
    cases h6
theorem zx_nth_get {α : Type} : ∀ (l : List α) (i : Nat), zx_nth l i = l[i]? := by
  intro l
  induction l with
  | nil => intro i; simp [zx_nth]
  | cons x l ih =>
    intro i
    cases i with
    | zero => rfl
    | succ i => rw [zx_nth, ih]; simp
/-! the cells of the store -/
def zt_all : List zR := (List.range 5).flatMap (fun k => (List.range (zt_counts.getD k 0)).flatMap (fun n => (List.range (zt_cells.getD k []).length).map (fun o => (k, n, o))))
theorem zt_all_nodup : zt_all.Nodup := by decide +kernel
theorem zt_all_cd : ∀ r ∈ zt_all, (zt_cd zt_cells r).isSome = true ∧ r.1 < 5 := by decide +kernel
theorem zt_mem (k n o : Nat) : (k, n, o) ∈ zt_all ↔ k < 5 ∧ n < zt_counts.getD k 0 ∧ o < (zt_cells.getD k []).length := by
  unfold zt_all
  simp only [List.mem_flatMap, List.mem_range, List.mem_map, Prod.mk.injEq]
  constructor
  · rintro ⟨a, h1, b, h2, c, h3, rfl, rfl, rfl⟩
    exact ⟨h1, h2, h3⟩
  · rintro ⟨h1, h2, h3⟩
    exact ⟨k, h1, n, h2, o, h3, rfl, rfl, rfl⟩
theorem zt_inj {i j : Nat} {r : zR} (hi : zt_all[i]? = some r) (hj : zt_all[j]? = some r) : i = j := by
  obtain ⟨a, ea⟩ := List.getElem?_eq_some_iff.mp hi
  obtain ⟨b, eb⟩ := List.getElem?_eq_some_iff.mp hj
  rcases Nat.lt_trichotomy i j with h | h | h
  · exact absurd (ea.trans eb.symm) (List.pairwise_iff_getElem.mp zt_all_nodup i j a b h)
  · exact h
  · exact absurd (eb.trans ea.symm) (List.pairwise_iff_getElem.mp zt_all_nodup j i b a h)
/-- the texts that this claim knows -/
def zt_av : List Nat := zt_srs.map (fun x => x.2.2)
/-- a reference that the machine may hold: a cell of the store, the script, a text -/
def zr_ok (r : zR) : Prop := r ∈ zt_all ∨ r = (5, 0, 0) ∨ ((r.1 = 6 ∨ r.1 = 7) ∧ r.2.1 ∈ zt_av ∧ r.2.2 = 0)
def zv_ok : zV → Prop
  | .inr (.inl (some r)) => zr_ok r
  | _ => True
def zf_val (ad : zR → Nat) (f : Nat × Nat × Nat × Nat) (k : Nat) (r : zR) (S : zS) : Value := match f with
  | (2, _) => .float (S.1 r.1 r.2.1 r.2.2 k).toUInt32
  | (3, a, b, c) => .ref (ad (a, b, c))
  | (4, a, _, _) => .ref (ad (r.1, r.2.1, r.2.2 + a))
  | (5, _) => .ref (ad (2, (S.1 r.1 r.2.1 r.2.2 k).toNatClampNeg, 0))
  | _ => .int (S.1 r.1 r.2.1 r.2.2 k)
def zt_el (G : zG) (S : zS) (r : zR) : va_E := match zt_cd zt_cells r with
  | some (true, ci, _) => .inr (ci, (zt_flds.getD ci []).mapIdx (fun k f => zf_val G.2.2.1 f k r S))
  | some (false, 1, n) => .inl (G.2.1 1, n, .inr (.inr (.inr (.inr (fun i => some (G.2.2.1 (0, 4 + i, 0)))))))
  | some (false, 2, n) => .inl (G.2.1 2, n, .inr (.inr (.inr (.inr (fun i => (zx_nth zt_names i).map (fun t => G.2.2.1 (6, t, 0)))))))
  | some (false, 3, n) => .inl (G.2.1 3, n, .inr (.inl (fun j => if j = 0 then S.2.1 else 0)))
  | some (false, 4, n) => .inl (G.2.1 4, n, .inr (.inr (.inr (.inl (fun j => if j = 0 then S.2.2.1 else 0)))))
  | some (false, _, n) => .inl (G.2.1 0, n, .inl (fun i => S.1 r.1 r.2.1 r.2.2 i))
  | none => .inr (0, [])
def zt_ws (G : zG) (S : zS) : va_W := zt_all.map (fun r => (G.2.2.1 r, zt_el G S r))
theorem zt_k01 : ∀ r ∈ zt_all, ∀ x ∈ (zt_cd zt_cells r).toList, x.1 = false → x.2.1 ≤ 1 := by decide +kernel
def zt_tys (G : zG) : List (ClassId × FieldType) := [(G.2.1 0, .int), (G.2.1 1, .object "BathBoats$Bath"), (G.2.1 5, .byte), (G.2.1 6, .boolean), (G.2.1 7, .array .int)]
theorem zt_at {r : zR} (h : r ∈ zt_all) : ∃ q : Nat, zt_all[q]? = some r := by
  obtain ⟨q, hq, e⟩ := List.mem_iff_getElem.mp h
  exact ⟨q, by rw [List.getElem?_eq_getElem hq, e]⟩
theorem zt_wsat (G : zG) (S : zS) {r : zR} {q : Nat} (h : zt_all[q]? = some r) : (zt_ws G S)[q]? = some (G.2.2.1 r, zt_el G S r) := by
  unfold zt_ws
  rw [List.getElem?_map, h]
  rfl
theorem zt_wsset (G : zG) (S S' : zS) {r : zR} {q : Nat} (h : zt_all[q]? = some r) (ho : ∀ r', r' ∈ zt_all → r' ≠ r → zt_el G S' r' = zt_el G S r') : (zt_ws G S).set q (G.2.2.1 r, zt_el G S' r) = zt_ws G S' := by
  refine List.ext_getElem? fun i => ?_
  have hq := (List.getElem?_eq_some_iff.mp h).1
  by_cases hi : i = q
  · subst hi
    rw [List.getElem?_set_self (by unfold zt_ws; rw [List.length_map]; exact hq), zt_wsat G S' h]
  · rw [List.getElem?_set_ne (Ne.symm hi)]
    unfold zt_ws
    rw [List.getElem?_map, List.getElem?_map]
    cases hr : zt_all[i]? with
    | none => rfl
    | some r' =>
      have hm : r' ∈ zt_all := List.mem_of_getElem? hr
      have hne : r' ≠ r := by
        intro e
        subst e
        exact hi (zt_inj hr h)
      simp only [Option.map_some]
      rw [ho r' hm hne]
/-- the addresses of the store's cells, and what is new from sz on -/
def zA (G : zG) (sz : Nat) (q : Nat) : Prop := (∃ r, r ∈ zt_all ∧ q = G.2.2.1 r) ∨ sz ≤ q
def zI (G : zG) : Prop := ∀ r r' : zR, r ∈ zt_all → r' ∈ zt_all → G.2.2.1 r = G.2.2.1 r' → r = r'
theorem zD {G : zG} (h : zI G) (S : zS) (sz : Nat) : va_D (zA G sz) (zt_ws G S) := by
  refine ⟨fun i j p q hp hq e => ?_, fun k q hq => ?_⟩
  · unfold zt_ws at hp hq
    rw [List.getElem?_map] at hp hq
    cases h1 : zt_all[i]? with
    | none => rw [h1] at hp; cases hp
    | some a =>
      cases h2 : zt_all[j]? with
      | none => rw [h2] at hq; cases hq
      | some b =>
        rw [h1] at hp; rw [h2] at hq
        cases hp; cases hq
        have hab := h a b (List.mem_of_getElem? h1) (List.mem_of_getElem? h2) e
        subst hab
        exact zt_inj h1 h2
  · unfold zt_ws at hq
    rw [List.getElem?_map] at hq
    cases h1 : zt_all[k]? with
    | none => rw [h1] at hq; cases hq
    | some a =>
      rw [h1] at hq
      cases hq
      exact Or.inl ⟨a, List.mem_of_getElem? h1, rfl⟩

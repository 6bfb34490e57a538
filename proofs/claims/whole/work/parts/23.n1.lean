/-! THE CONSTRUCTION 1: the world of a list of cells -/
def nr_ok (n : Nat) (r : zR) : Prop := (r.1 = 8 ∧ r.2.1 < n ∧ r.2.2 = 0) ∨ (r.1 = 6 ∧ r.2.1 < zt_strs.length ∧ r.2.2 = 0)
def nv_ok (n : Nat) : zV → Prop
  | .inr (.inl (some r)) => nr_ok n r
  | _ => True
def nc_ok (n : Nat) : nC → Prop
  | .inl (_, fs) => ∀ v, v ∈ fs → nv_ok n v
  | .inr (.inl _) => True
  | .inr (.inr (_, l)) => ∀ r, some r ∈ l → nr_ok n r
theorem nr_up {n m : Nat} {r : zR} (h : n ≤ m) (hr : nr_ok n r) : nr_ok m r := hr.elim (fun q => Or.inl ⟨q.1, Nat.lt_of_lt_of_le q.2.1 h, q.2.2⟩) Or.inr
theorem nv_up {n m : Nat} {v : zV} (h : n ≤ m) (hv : nv_ok n v) : nv_ok m v := by
  match v, hv with
  | .inl x, _ => trivial
  | .inr (.inl none), _ => trivial
  | .inr (.inl (some r)), hv => exact nr_up h hv
  | .inr (.inr x), _ => trivial
theorem nc_up {n m : Nat} {c : nC} (h : n ≤ m) (hc : nc_ok n c) : nc_ok m c := by
  match c, hc with
  | .inl (ci, fs), hc => exact fun v hv => nv_up h (hc v hv)
  | .inr (.inl xs), _ => trivial
  | .inr (.inr (t, l)), hc => exact fun r hr => nr_up h (hc r hr)
def n_el (cA : Nat → ClassId) (ad : zR → Nat) : nC → va_E
  | .inl (ci, fs) => .inr (ci, fs.map (zc ad))
  | .inr (.inl xs) => .inl (cA 0, xs.length, .inl (fun i => xs.getD i 0))
  | .inr (.inr (3, l)) => .inl (cA 3, l.length, .inr (.inl (fun _ => 0)))
  | .inr (.inr (4, l)) => .inl (cA 4, l.length, .inr (.inr (.inr (.inl (fun _ => 0)))))
  | .inr (.inr (t, l)) => .inl (cA t, l.length, .inr (.inr (.inr (.inr (fun i => (l.getD i none).map ad)))))
def n_ws (cA : Nat → ClassId) (ad : zR → Nat) (w : nS) : va_W := w.mapIdx (fun k c => (ad (zr k), n_el cA ad c))
theorem nzc {n : Nat} {ad ad' : zR → Nat} (h : ∀ r, nr_ok n r → ad' r = ad r) {v : zV} (hv : nv_ok n v) : zc ad' v = zc ad v := by
  match v, hv with
  | .inl x, _ => rfl
  | .inr (.inl none), _ => rfl
  | .inr (.inl (some r)), hv => exact congrArg Value.ref (h r hv)
  | .inr (.inr (.inl x)), _ => rfl
  | .inr (.inr (.inr (.inl x))), _ => rfl
  | .inr (.inr (.inr (.inr x))), _ => rfl
theorem n_el_eq {n : Nat} {cA : Nat → ClassId} {ad ad' : zR → Nat} (h : ∀ r, nr_ok n r → ad' r = ad r) {c : nC} (hc : nc_ok n c) : n_el cA ad' c = n_el cA ad c := by
  have hl : ∀ l : List (Option zR), (∀ r, some r ∈ l → nr_ok n r) → (fun i => (l.getD i none).map ad') = (fun i => (l.getD i none).map ad) := by
    intro l hl
    funext i
    cases hg : l.getD i none with
    | none => rfl
    | some r =>
      have : some r ∈ l := by
        rw [List.getD_eq_getElem?_getD] at hg
        cases h2 : l[i]? with
        | none => rw [h2] at hg; exact nomatch hg
        | some x =>
          rw [h2] at hg
          have hg : x = some r := hg
          rw [← hg]
          exact List.mem_of_getElem? h2
      exact congrArg some (h r (hl r this))
  match c, hc with
  | .inl (ci, fs), hc =>
    show (Sum.inr (ci, fs.map (zc ad')) : va_E) = Sum.inr (ci, fs.map (zc ad))
    rw [List.map_congr_left (fun v hv => nzc h (hc v hv))]
  | .inr (.inl xs), _ => rfl
  | .inr (.inr (3, l)), _ => rfl
  | .inr (.inr (4, l)), _ => rfl
  | .inr (.inr (0, l)), hc => simp only [n_el]; rw [hl l hc]
  | .inr (.inr (1, l)), hc => simp only [n_el]; rw [hl l hc]
  | .inr (.inr (2, l)), hc => simp only [n_el]; rw [hl l hc]
  | .inr (.inr (t + 5, l)), hc => simp only [n_el]; rw [hl l hc]
theorem n_ws_push {cA : Nat → ClassId} {ad ad' : zR → Nat} {w : nS} {c : nC} (hw : ∀ x, x ∈ w → nc_ok w.length x) (h : ∀ r, nr_ok w.length r → ad' r = ad r) : n_ws cA ad' (w ++ [c]) = n_ws cA ad w ++ [(ad' (zr w.length), n_el cA ad' c)] := by
  unfold n_ws
  rw [List.mapIdx_append]
  have e1 : List.mapIdx (fun i c => (ad' (zr (i + w.length)), n_el cA ad' c)) [c] = [(ad' (zr w.length), n_el cA ad' c)] := by
    show [(ad' (zr (0 + w.length)), n_el cA ad' c)] = _
    rw [Nat.zero_add]
  rw [e1]
  congr 1
  refine List.ext_getElem? (fun i => ?_)
  rw [List.getElem?_mapIdx, List.getElem?_mapIdx]
  cases hi : w[i]? with
  | none => rfl
  | some x =>
    have hlt : i < w.length := (List.getElem?_eq_some_iff.mp hi).1
    show some (ad' (zr i), n_el cA ad' x) = some (ad (zr i), n_el cA ad x)
    rw [h (zr i) (Or.inl ⟨rfl, hlt, rfl⟩), n_el_eq h (hw x (List.mem_of_getElem? hi))]
theorem n_ws_at {cA : Nat → ClassId} {ad : zR → Nat} {w : nS} {k : Nat} {c : nC} (h : w[k]? = some c) : (n_ws cA ad w)[k]? = some (ad (zr k), n_el cA ad c) := by
  unfold n_ws
  rw [List.getElem?_mapIdx, h]
  rfl
theorem n_ws_set {cA : Nat → ClassId} {ad : zR → Nat} {w : nS} {k : Nat} {c : nC} : (n_ws cA ad w).set k (ad (zr k), n_el cA ad c) = n_ws cA ad (w.set k c) := by
  unfold n_ws
  refine List.ext_getElem? (fun i => ?_)
  rw [List.getElem?_set, List.getElem?_mapIdx, List.getElem?_mapIdx, List.getElem?_set, List.length_mapIdx]
  by_cases e : k = i
  · subst e
    rw [if_pos rfl, if_pos rfl]
    split
    · rfl
    · rfl
  · rw [if_neg e, if_neg e]

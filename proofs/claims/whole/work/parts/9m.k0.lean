/-! TABLES OF THE CONSTRUCTION, checked: by program (wip/whole/tools/emitk.py) -/
/-- the kinds of the fields by class: 0 an int, 1 a truth, 2 a float, 3 a reference -/
def kt_nf : List (List Nat) := [[3, 3, 3, 3, 3, 3, 0, 0, 0, 0, 0, 0, 0, 0, 0, 0, 0], [3, 3], [3, 2, 2], [3, 0, 0], [3, 3], [3, 3], [3, 0], [3, 0], [3, 0, 0, 0, 0, 0, 0, 0, 0], [3, 3], [3, 3, 3, 3, 3, 3, 3, 3, 3, 3, 0, 0, 1], [3, 3, 3, 3, 3, 3, 3, 3, 3, 0, 0, 1, 3, 0, 3, 0, 0, 0, 0, 0, 0, 0, 0, 0, 3, 3, 3, 0]]
def kt_mi : List zM := [(yX7_init, cX7_init, 3, none, [], 2, (170, 130, 169, 0)), (yX6_init, cX6_init, 3, none, [], 2, (187, 132, 186, 0)), (yX0_init, cX0_init, 1, none, [], 0, (164, 129, 163, 0)), (yX3_init, cX3_init, 2, none, [], 0, (307, 133, 306, 0)), (yX2_init, cX2_init, 1, none, [], 0, (333, 135, 332, 0)), (yX4_init, cX4_init, 1, none, [], 0, (327, 134, 326, 0)), (yX9_init, cX9_init, 1, none, [], 0, (365, 136, 364, 0)), (yX8_init, cX8_init, 1, none, [], 0, (382, 137, 381, 0)), (yX1_init, cX1_init, 2, none, [], 1, (424, 138, 423, 0)), (yX5_init, cX5_init, 3, none, [], 2, (440, 139, 439, 0)), (yX6_fill, cX6_fill, 3, none, [], 1, (458, 132, 456, 457)), (yX0_begin, cX0_begin, 3, none, [], 2, (454, 129, 452, 453)), (yX10_init, cX10_init, 1, none, [], 0, (156, 128, 155, 0)), (yX11_begin, cX11_begin, 4, none, [], 2, (1455, 140, 1454, 36)), (yX11_init, cX11_init, 1, none, [], 0, (1438, 140, 1437, 0))]
/-- the class of a method, by number -/
def kt_mc : List Nat := [7, 6, 0, 3, 2, 4, 9, 8, 1, 5, 6, 0, 10, 11, 11]
/-- the start of the law -/
def zn_15 : List zE := [(none, 0, .new 8, 3, (10, 153, 128, 152, 0), 0, []), (none, 3, .dup, 1, (0, 0, 0, 0, 0), 0, []), (none, 4, .invokespecial 127, 3, (12, 0, 0, 154, 0), 0, []), (none, 7, .astore_n 1, 1, (0, 0, 0, 0, 0), 0, []), (none, 8, .new 128, 3, (11, 1435, 140, 1434, 0), 0, []), (none, 11, .dup, 1, (0, 0, 0, 0, 0), 0, []), (none, 12, .invokespecial 130, 3, (14, 0, 0, 1436, 0), 0, []), (none, 15, .astore_n 2, 1, (0, 0, 0, 0, 0), 0, []), (none, 16, .iconst 1, 1, (0, 0, 0, 0, 0), 1, []), (none, 17, .newarray .long, 2, (3, 0, 0, 0, 0), 0, []), (none, 19, .astore_n 3, 1, (0, 0, 0, 0, 0), 0, []), (none, 20, .iconst 1, 1, (0, 0, 0, 0, 0), 1, []), (none, 21, .newarray .double, 2, (4, 0, 0, 0, 0), 0, []), (none, 23, .astore 4, 2, (0, 0, 0, 0, 0), 0, []), (none, 25, .iconst 0, 1, (0, 0, 0, 0, 0), 0, []), (none, 26, .istore 5, 2, (0, 0, 0, 0, 0), 0, [])]
def kp_aInt : Nat := 182
def kp_aLong : Nat := 2132
def kp_aDbl : Nat := 2133
def kp_aBath : Nat := 310
def kp_aStr : Nat := 1441
def kp_oInst : Nat := 158
def kp_oCode : Nat := 159
/-! THE CONSTRUCTION 3: the world of a list of cells, the script beside it -/
def kr_ok (n : Nat) (r : zR) : Prop := (r.1 = 8 ∧ r.2.1 < n ∧ r.2.2 = 0) ∨ (r.1 = 6 ∧ r.2.1 < zt_strs.length ∧ r.2.2 = 0) ∨ r = (5, 0, 0)
def kv_ok (n : Nat) : zV → Prop
  | .inr (.inl (some r)) => kr_ok n r
  | _ => True
def kc_ok (n : Nat) : nC → Prop
  | .inl (_, fs) => ∀ v, v ∈ fs → kv_ok n v
  | .inr (.inl _) => True
  | .inr (.inr (_, l)) => ∀ r, some r ∈ l → kr_ok n r
theorem kr_up {n m : Nat} {r : zR} (h : n ≤ m) (hr : kr_ok n r) : kr_ok m r := hr.elim (fun q => Or.inl ⟨q.1, Nat.lt_of_lt_of_le q.2.1 h, q.2.2⟩) Or.inr
theorem kv_up {n m : Nat} {v : zV} (h : n ≤ m) (hv : kv_ok n v) : kv_ok m v := by
  match v, hv with
  | .inl x, _ => trivial
  | .inr (.inl none), _ => trivial
  | .inr (.inl (some r)), hv => exact kr_up h hv
  | .inr (.inr x), _ => trivial
theorem kc_up {n m : Nat} {c : nC} (h : n ≤ m) (hc : kc_ok n c) : kc_ok m c := by
  match c, hc with
  | .inl (ci, fs), hc => exact fun v hv => kv_up h (hc v hv)
  | .inr (.inl xs), _ => trivial
  | .inr (.inr (t, l)), hc => exact fun r hr => kr_up h (hc r hr)
def k_el (cA : Nat → ClassId) (ad : zR → Nat) : nC → va_E
  | .inl (ci, fs) => .inr (ci, fs.map (zc ad))
  | .inr (.inl xs) => .inl (cA 0, xs.length, .inl (fun i => xs.getD i 0))
  | .inr (.inr (3, l)) => .inl (cA 3, l.length, .inr (.inl (fun _ => 0)))
  | .inr (.inr (4, l)) => .inl (cA 4, l.length, .inr (.inr (.inr (.inl (fun _ => 0)))))
  | .inr (.inr (t, l)) => .inl (cA t, l.length, .inr (.inr (.inr (.inr (fun i => (l.getD i none).map ad)))))
def k_ws (cA : Nat → ClassId) (ad : zR → Nat) (w : nS) : va_W := w.mapIdx (fun k c => (ad (zr k), k_el cA ad c))
theorem kzc {n : Nat} {ad ad' : zR → Nat} (h : ∀ r, kr_ok n r → ad' r = ad r) {v : zV} (hv : kv_ok n v) : zc ad' v = zc ad v := by
  match v, hv with
  | .inl x, _ => rfl
  | .inr (.inl none), _ => rfl
  | .inr (.inl (some r)), hv => exact congrArg Value.ref (h r hv)
  | .inr (.inr (.inl x)), _ => rfl
  | .inr (.inr (.inr (.inl x))), _ => rfl
  | .inr (.inr (.inr (.inr x))), _ => rfl
theorem k_el_eq {n : Nat} {cA : Nat → ClassId} {ad ad' : zR → Nat} (h : ∀ r, kr_ok n r → ad' r = ad r) {c : nC} (hc : kc_ok n c) : k_el cA ad' c = k_el cA ad c := by
  have hl : ∀ l : List (Option zR), (∀ r, some r ∈ l → kr_ok n r) → (fun i => (l.getD i none).map ad') = (fun i => (l.getD i none).map ad) := by
    intro l hl
    funext i
    cases hg : l.getD i none with
    | none => rfl
    | some r =>
      have : some r ∈ l := by
        rw [List.getD_eq_getElem?_getD] at hg
        cases h2 : l[i]? with
        | none => rw [h2] at hg; exact nomatch hg
        | some x =>
          rw [h2] at hg
          have hg : x = some r := hg
          rw [← hg]
          exact List.mem_of_getElem? h2
      exact congrArg some (h r (hl r this))
  match c, hc with
  | .inl (ci, fs), hc =>
    show (Sum.inr (ci, fs.map (zc ad')) : va_E) = Sum.inr (ci, fs.map (zc ad))
    rw [List.map_congr_left (fun v hv => kzc h (hc v hv))]
  | .inr (.inl xs), _ => rfl
  | .inr (.inr (3, l)), _ => rfl
  | .inr (.inr (4, l)), _ => rfl
  | .inr (.inr (0, l)), hc => simp only [k_el]; rw [hl l hc]
  | .inr (.inr (1, l)), hc => simp only [k_el]; rw [hl l hc]
  | .inr (.inr (2, l)), hc => simp only [k_el]; rw [hl l hc]
  | .inr (.inr (t + 5, l)), hc => simp only [k_el]; rw [hl l hc]
theorem k_ws_push {cA : Nat → ClassId} {ad ad' : zR → Nat} {w : nS} {c : nC} (hw : ∀ x, x ∈ w → kc_ok w.length x) (h : ∀ r, kr_ok w.length r → ad' r = ad r) : k_ws cA ad' (w ++ [c]) = k_ws cA ad w ++ [(ad' (zr w.length), k_el cA ad' c)] := by
  unfold k_ws
  rw [List.mapIdx_append]
  have e1 : List.mapIdx (fun i c => (ad' (zr (i + w.length)), k_el cA ad' c)) [c] = [(ad' (zr w.length), k_el cA ad' c)] := by
    show [(ad' (zr (0 + w.length)), k_el cA ad' c)] = _
    rw [Nat.zero_add]
  rw [e1]
  congr 1
  refine List.ext_getElem? (fun i => ?_)
  rw [List.getElem?_mapIdx, List.getElem?_mapIdx]
  cases hi : w[i]? with
  | none => rfl
  | some x =>
    have hlt : i < w.length := (List.getElem?_eq_some_iff.mp hi).1
    show some (ad' (zr i), k_el cA ad' x) = some (ad (zr i), k_el cA ad x)
    rw [h (zr i) (Or.inl ⟨rfl, hlt, rfl⟩), k_el_eq h (hw x (List.mem_of_getElem? hi))]
theorem k_ws_at {cA : Nat → ClassId} {ad : zR → Nat} {w : nS} {k : Nat} {c : nC} (h : w[k]? = some c) : (k_ws cA ad w)[k]? = some (ad (zr k), k_el cA ad c) := by
  unfold k_ws
  rw [List.getElem?_mapIdx, h]
  rfl
theorem k_ws_set {cA : Nat → ClassId} {ad : zR → Nat} {w : nS} {k : Nat} {c : nC} : (k_ws cA ad w).set k (ad (zr k), k_el cA ad c) = k_ws cA ad (w.set k c) := by
  unfold k_ws
  refine List.ext_getElem? (fun i => ?_)
  rw [List.getElem?_set, List.getElem?_mapIdx, List.getElem?_mapIdx, List.getElem?_set, List.length_mapIdx]
  by_cases e : k = i
  · subst e
    rw [if_pos rfl, if_pos rfl]
    split
    · rfl
    · rfl
  · rw [if_neg e, if_neg e]
/-! THE CONSTRUCTION 4: the checked interpreter -/
/-- what a fresh field holds, by its kind -/
def kt_def : Nat → zV
  | 0 => zi 0
  | 1 => zi 0
  | 2 => zf 0
  | _ => zn
def kv_fit : Nat → zV → Bool
  | 0, .inl _ => true
  | 1, .inl x => decide (x &&& 1 = x)
  | 3, .inr (.inl (some _)) => true
  | _, _ => false
/-- where a step leads: a jump's target or none, the locals, the stack, the world -/
abbrev kR : Type := Option Nat × (zL × (List zV × nS))
def kn_call (Γ : Nat → List zV → nS → Option nS) (vir : Bool) (a b : Nat) (lv : zL) (st : List zV) (w : nS) : Option kR :=
  match zx_pop (b + 1) [] st with
  | some (.inr (.inl (some r)) :: as, rest) => match Nat.ble (zx_wd rest) 8 && (!vir || (match r with
      | (8, q, 0) => (match zx_nth w q with
        | some (.inl (ci, _)) => (match zx_nth kt_mc a with
          | some x => Nat.beq x ci
          | none => false)
        | _ => false)
      | _ => false)) with
    | true => match Γ a (.inr (.inl (some r)) :: as) w with
      | some w' => some (none, lv, rest, w')
      | none => none
    | false => none
  | _ => none
def kn_step (Γ : Nat → List zV → nS → Option nS) (i : Instr) (a b c : Nat) (k : Int32) (lv : zL) (st : List zV) (w : nS) : Option kR :=
  match i with
  | .iload_n j => match zl_get lv j.val with
    | some (.inl x) => some (none, lv, zi x :: st, w)
    | _ => none
  | .aload_n j => match zl_get lv j.val with
    | some (.inr (.inl (some r))) => some (none, lv, .inr (.inl (some r)) :: st, w)
    | _ => none
  | .istore_n j => match st with
    | .inl x :: st => some (none, zl_set lv j.val (some (zi x)), st, w)
    | _ => none
  | .istore j => match st with
    | .inl x :: st => some (none, zl_set lv j (some (zi x)), st, w)
    | _ => none
  | .astore_n j => match st with
    | .inr (.inl (some r)) :: st => some (none, zl_set lv j.val (some (.inr (.inl (some r)))), st, w)
    | _ => none
  | .astore j => match st with
    | .inr (.inl (some r)) :: st => some (none, zl_set lv j (some (.inr (.inl (some r)))), st, w)
    | _ => none
  | .iinc j _ => match zl_get lv j with
    | some (.inl x) => some (none, zl_set lv j (some (zi (x + k))), st, w)
    | _ => none
  | .iconst _ => some (none, lv, zi k :: st, w)
  | .bipush _ => some (none, lv, zi k :: st, w)
  | .sipush _ => some (none, lv, zi k :: st, w)
  | .ldc _ => match a with
    | 0 => some (none, lv, zi k :: st, w)
    | _ => some (none, lv, za 6 b 0 :: st, w)
  | .dup => match st with
    | .inr (.inl (some r)) :: st => some (none, lv, .inr (.inl (some r)) :: .inr (.inl (some r)) :: st, w)
    | _ => none
  | .imul => match st with
    | .inl y :: .inl x :: st => some (none, lv, zi (x * y) :: st, w)
    | _ => none
  | .if_icmp cc _ => match cc, st with
    | .ge, .inl y :: .inl x :: st => if y ≤ x then some (some a, lv, st, w) else some (none, lv, st, w)
    | _, _ => none
  | .goto _ => some (some a, lv, st, w)
  | .new _ => some (none, lv, .inr (.inl (some (zr w.length))) :: st, w ++ [.inl (a, (kt_nf.getD a []).map kt_def)])
  | .newarray _ => match st with
    | .inl n :: st => if n < 0 then none else if 1000000 < n.toNatClampNeg then none else match a with
      | 0 => some (none, lv, .inr (.inl (some (zr w.length))) :: st, w ++ [.inr (.inl (List.replicate n.toNatClampNeg 0))])
      | _ => some (none, lv, .inr (.inl (some (zr w.length))) :: st, w ++ [.inr (.inr (a, List.replicate n.toNatClampNeg none))])
    | _ => none
  | .anewarray _ => match st with
    | .inl n :: st => if n < 0 then none else if 1000000 < n.toNatClampNeg then none else some (none, lv, .inr (.inl (some (zr w.length))) :: st, w ++ [.inr (.inr (a, List.replicate n.toNatClampNeg none))])
    | _ => none
  | .putfield _ => match st with
    | v :: .inr (.inl (some (8, q, 0))) :: st => match zx_nth w q with
      | some (.inl (ci, fs)) => if ci = a ∧ b < fs.length ∧ kv_fit ((kt_nf.getD a []).getD b 9) v = true then some (none, lv, st, w.set q (.inl (ci, fs.set b v))) else none
      | _ => none
    | _ => none
  | .getfield _ => match st with
    | .inr (.inl (some (8, q, 0))) :: st => match zx_nth w q with
      | some (.inl (ci, fs)) => if ci = a then (match zx_nth fs b with
        | some v => some (none, lv, v :: st, w)
        | none => none) else none
      | _ => none
    | _ => none
  | .arraylength => match st with
    | .inr (.inl (some (8, q, 0))) :: st => match zx_nth w q with
      | some (.inr (.inl xs)) => some (none, lv, zi (Int32.ofNat xs.length) :: st, w)
      | some (.inr (.inr (1, xs))) => some (none, lv, zi (Int32.ofNat xs.length) :: st, w)
      | _ => none
    | _ => none
  | .iastore => match st with
    | .inl x :: .inl j :: .inr (.inl (some (8, q, 0))) :: st => match zx_nth w q with
      | some (.inr (.inl xs)) => if j < 0 then none else if xs.length ≤ j.toNatClampNeg then none else some (none, lv, st, w.set q (.inr (.inl (xs.set j.toNatClampNeg x))))
      | _ => none
    | _ => none
  | .aastore => match st with
    | .inr (.inl (some r)) :: .inl j :: .inr (.inl (some (8, q, 0))) :: st => match zx_nth w q with
      | some (.inr (.inr (t, xs))) => if j < 0 then none else if xs.length ≤ j.toNatClampNeg then none else (match t, r with
        | 1, (8, q2, 0) => (match zx_nth w q2 with
          | some (.inl (0, _)) => some (none, lv, st, w.set q (.inr (.inr (1, xs.set j.toNatClampNeg (some (8, q2, 0))))))
          | _ => none)
        | 2, (6, t2, 0) => some (none, lv, st, w.set q (.inr (.inr (2, xs.set j.toNatClampNeg (some (6, t2, 0))))))
        | _, _ => none)
      | _ => none
    | _ => none
  | .invokestatic _ => match st with
    | .inl y :: .inl x :: st => match Nat.ble (zx_wd st) 100 with
      | true => some (none, lv, zi (if x < y then y else x) :: st, w)
      | false => none
    | _ => none
  | .invokespecial _ => match c with
    | 97 => match st with
      | .inr (.inl (some _)) :: st => match Nat.ble (zx_wd st) 100 with
        | true => some (none, lv, st, w)
        | false => none
      | _ => none
    | _ => kn_call Γ false a b lv st w
  | .invokevirtual _ => kn_call Γ true a b lv st w
  | _ => none
/-- a run of a method's rows; fin: behind the last row -/
def kn_go (Γ : Nat → List zV → nS → Option nS) (fin : zL → List zV → nS → Option nS) (cd : List zE) : Nat → List zE → zL → List zV → nS → Option nS
  | 0, _, _, _, _ => none
  | _ + 1, [], lv, st, w => fin lv st w
  | f + 1, e :: es, lv, st, w => match e.2.2.1 with
    | .return_ => (match st with
      | [] => some w
      | _ => none)
    | i => (match kn_step Γ i e.2.2.2.2.1.1 e.2.2.2.2.1.2.1 e.2.2.2.2.1.2.2.1 e.2.2.2.2.2.1 lv st w with
      | some (none, lv, st, w) => kn_go Γ fin cd f es lv st w
      | some (some pc, lv, st, w) => (match zx_at cd pc with
        | [] => none
        | y :: es => kn_go Γ fin cd f (y :: es) lv st w)
      | none => none)
/-- the meaning of constructor mi at depth d -/
def kn_sem (F : Nat) : Nat → Nat → List zV → nS → Option nS
  | 0, _, _, _ => none
  | d + 1, mi, av, w => match zx_nth zt_ns mi with
    | some M => kn_go (fun mi av w => kn_sem F d mi av w) (fun _ _ _ => none) M.1 F M.1 (zl_init av M.2) [] w
    | none => none
/-- the locals behind the law's start -/
def kLV : zL := [some (za 5 0 0), some (za 8 0 0), some (za 8 203 0), some (za 8 217 0), some (za 8 218 0), some (zi 0), none, none, none, none]
def kn_fin (lv : zL) (st : List zV) (w : nS) : Option nS := match lv, st with
  | [some (.inr (.inl (some (5, 0, 0)))), some (.inr (.inl (some (8, 0, 0)))), some (.inr (.inl (some (8, a, 0)))), some (.inr (.inl (some (8, b, 0)))), some (.inr (.inl (some (8, c, 0)))), some (.inl x), none, none, none, none], [] => if a = 203 ∧ b = 217 ∧ c = 218 ∧ x = 0 then some w else none
  | _, _ => none
theorem kn_fin_ok {lv : zL} {st : List zV} {w w' : nS} (h : kn_fin lv st w = some w') : lv = kLV ∧ st = [] ∧ w = w' := by
  unfold kn_fin at h
  split at h
  · split at h
    · rename_i hc
      obtain ⟨rfl, rfl, rfl, rfl⟩ := hc
      exact ⟨rfl, rfl, Option.some.inj h⟩
    · cases h
  · cases h
/-- the law's start: the world behind its rows -/
def kn_law (F d : Nat) : Option nS := kn_go (fun mi av w => kn_sem F d mi av w) kn_fin zn_15 F zn_15 (zl_init [.inr (.inl (some (5, 0, 0)))] 10) [] []

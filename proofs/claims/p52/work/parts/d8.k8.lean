/-! THE CONSTRUCTION 11: the first world as the interpreter's store -/
/-- the place of a cell of the store in the first world -/
def kp (r : zR) : Nat := match r.1 with
  | 0 => (match r.2.1 with
    | 0 => 1
    | 1 => 14
    | 2 => 27
    | 3 => 187
    | n + 4 => 42 + 13 * n) + r.2.2
  | _ => [0, 40, 41, 172, 173, 174, 175, 176, 177, 178, 179, 180, 181, 182, 183, 184, 185, 186, 200, 201, 202].getD r.2.2 0
def kn_num : nC → Nat → Int32
  | .inl (_, fs), j => (match fs[j]? with
    | some (.inl x) => x
    | some (.inr (.inr (.inl x))) => x.toInt32
    | _ => 0)
  | .inr (.inl xs), j => xs.getD j 0
  | _, _ => 0
/-- the store at the loop's head; S0: the script -/
def kS (S0 : zS) : zS := (fun k n o j => if k < 5 then (match kW[kp (k, n, o)]? with
    | some c => kn_num c j
    | none => 0) else S0.1 k n o j, (0, (0, 0)))
def kG (D : va_G) (cA : Nat → ClassId) (ad : zR → Nat) : zG := (D, cA, fun r => if r.1 < 5 then ad (zr (kp r)) else ad r, fun _ => 0)
def kq_f (r : zR) (f : Nat × Nat × Nat × Nat) (v : zV) : Bool :=
  match f.1, v with
  | 0, .inl _ => true
  | 1, .inl _ => true
  | 2, .inr (.inr (.inl x)) => decide (x.toInt32.toUInt32 = x)
  | 3, .inr (.inl (some q)) => decide (q = zr (kp (f.2.1, f.2.2.1, f.2.2.2)) ∧ f.2.1 < 5)
  | 4, .inr (.inl (some q)) => decide (q = zr (kp (r.1, r.2.1, r.2.2 + f.2.1)) ∧ r.1 < 5)
  | _, _ => false
def kq (r : zR) (c : nC) : Bool := match zt_cd zt_cells r, c with
  | some (true, ci, _), .inl (cj, fs) => decide (ci = cj ∧ fs.length = (zt_flds.getD ci []).length) && (List.range fs.length).all (fun k => match (zt_flds.getD ci [])[k]?, fs[k]? with
    | some f, some v => kq_f r f v
    | _, _ => false)
  | some (false, 0, n), .inr (.inl xs) => decide (xs.length = n)
  | some (false, 1, n), .inr (.inr (1, l)) => decide (l.length = n) && (List.range n).all (fun i => decide (l[i]? = some (some (zr (kp (0, 4 + i, 0))))))
  | _, _ => false
theorem kq_all : zt_all.all (fun r => match kW[kp r]? with
    | some c => kq r c
    | none => false) = true := by decide +kernel
theorem kp_inj : zt_all.all (fun r => zt_all.all (fun r' => !(Nat.beq (kp r) (kp r')) || decide (r = r'))) = true := by decide +kernel
theorem kS_row (S0 : zS) {r : zR} {c : nC} (h5 : r.1 < 5) (h : kW[kp r]? = some c) (j : Nat) : (kS S0).1 r.1 r.2.1 r.2.2 j = kn_num c j := by
  show (if r.1 < 5 then (match kW[kp (r.1, r.2.1, r.2.2)]? with
    | some c => kn_num c j
    | none => 0) else S0.1 r.1 r.2.1 r.2.2 j) = _
  rw [if_pos h5, show kW[kp (r.1, r.2.1, r.2.2)]? = some c from h]
theorem k_arr {D : va_G} {cl : List vw_C} {a n : Nat} {cI : ClassId} {f g : Nat → Option Nat} {H : Heap} (hfg : ∀ i, i < n → f i = g i) (h : va_at D cl (a, .inl (cI, n, .inr (.inr (.inr (.inr f))))) H) : va_at D cl (a, .inl (cI, n, .inr (.inr (.inr (.inr g))))) H := by
  have e : arrV cI n (fun j => va_rf (f j)) = arrV cI n (fun j => va_rf (g j)) := by
    unfold arrV
    congr 2
    funext j
    show va_rf (f j.val) = va_rf (g j.val)
    rw [hfg j.val j.isLt]
  have h : H[a]? = some (arrV cI n (fun j => va_rf (f j))) := h
  show H[a]? = some (arrV cI n (fun j => va_rf (g j)))
  rw [← e]; exact h
theorem kq_at {D : va_G} {cA : Nat → ClassId} {ad : zR → Nat} {S0 : zS} {r : zR} {c : nC} {H : Heap} (h5 : r.1 < 5) (hc : kW[kp r]? = some c) (hq : kq r c = true) (h : va_at D vwCl (ad (zr (kp r)), k_el cA ad c) H) : va_at D vwCl ((kG D cA ad).2.2.1 r, zt_el (kG D cA ad) (kS S0) r) H := by
  have ea : (kG D cA ad).2.2.1 r = ad (zr (kp r)) := if_pos h5
  rw [ea]
  unfold kq at hq
  split at hq
  · rename_i ci x cj fs hcd
    rw [Bool.and_eq_true] at hq
    obtain ⟨hq1, hq2⟩ := hq
    obtain ⟨rfl, hlen⟩ := of_decide_eq_true hq1
    rw [zt_el_obj hcd]
    have e : (zt_flds.getD ci []).mapIdx (fun k f => zf_val (kG D cA ad).2.2.1 f k r (kS S0)) = fs.map (zc ad) := by
      refine List.ext_getElem? (fun k => ?_)
      rw [List.getElem?_mapIdx, List.getElem?_map]
      by_cases hk : k < fs.length
      · have hf := List.all_eq_true.mp hq2 k (List.mem_range.mpr hk)
        split at hf
        · rename_i f v hf1 hv1
          rw [hf1, hv1]
          show some _ = some _
          congr 1
          have hrow := kS_row S0 h5 hc k
          obtain ⟨t, a, b, c9⟩ := f
          unfold kq_f at hf
          split at hf
          · rename_i y e1
            have e1 : t = 0 := e1
            subst e1
            show Value.int _ = Value.int y
            rw [hrow]; show Value.int (match fs[k]? with
              | some (.inl x) => x
              | some (.inr (.inr (.inl x))) => x.toInt32
              | _ => 0) = _
            rw [hv1]
          · rename_i y e1
            have e1 : t = 1 := e1
            subst e1
            show Value.int _ = Value.int y
            rw [hrow]; show Value.int (match fs[k]? with
              | some (.inl x) => x
              | some (.inr (.inr (.inl x))) => x.toInt32
              | _ => 0) = _
            rw [hv1]
          · rename_i y e1
            have e1 : t = 2 := e1
            subst e1
            have hf := of_decide_eq_true hf
            show Value.float _ = Value.float y
            rw [hrow]; show Value.float (match fs[k]? with
              | some (.inl x) => x
              | some (.inr (.inr (.inl x))) => x.toInt32
              | _ => 0).toUInt32 = _
            rw [hv1]
            exact congrArg Value.float hf
          · rename_i y e1
            have e1 : t = 3 := e1
            subst e1
            obtain ⟨f1, f2⟩ := of_decide_eq_true hf
            subst f1
            show Value.ref (if a < 5 then _ else _) = _
            rw [if_pos f2]; rfl
          · rename_i y e1
            have e1 : t = 4 := e1
            subst e1
            obtain ⟨f1, f2⟩ := of_decide_eq_true hf
            subst f1
            show Value.ref (if r.1 < 5 then _ else _) = _
            rw [if_pos f2]; rfl
          · cases hf
        · cases hf
      · rw [List.getElem?_eq_none (by omega), List.getElem?_eq_none (by omega)]; rfl
    rw [e]
    exact h
  · rename_i n xs hcd
    have hq := of_decide_eq_true hq
    subst hq
    rw [zt_el_ints hcd]
    have e : (fun i => (kS S0).1 r.1 r.2.1 r.2.2 i) = (fun i => xs.getD i 0) := funext (fun i => kS_row S0 h5 hc i)
    rw [e]
    exact h
  · rename_i n l hcd
    rw [Bool.and_eq_true] at hq
    have hq1 := of_decide_eq_true hq.1
    subst hq1
    have e : zt_el (kG D cA ad) (kS S0) r = .inl ((kG D cA ad).2.1 1, l.length, .inr (.inr (.inr (.inr (fun i => some ((kG D cA ad).2.2.1 (0, 4 + i, 0))))))) := by unfold zt_el; rw [hcd]; rfl
    rw [e]
    refine k_arr (fun i hi => ?_) h
    have h2 := of_decide_eq_true (List.all_eq_true.mp hq.2 i (List.mem_range.mpr hi))
    rw [List.getD_eq_getElem?_getD, h2]
    rfl
  · cases hq
theorem k_all_c {r : zR} (hr : r ∈ zt_all) : ∃ c, kW[kp r]? = some c ∧ kq r c = true := by
  have h := List.all_eq_true.mp kq_all r hr
  split at h
  · rename_i c hc
    exact ⟨c, hc, h⟩
  · cases h
/-- the world of the interpreter, at the loop's head -/
theorem kW_P {D : va_G} {cA : Nat → ClassId} {ad : zR → Nat} {S0 : zS} {H : Heap} (h : va_P D vwCl (k_ws cA ad kW) H) : va_P (kG D cA ad).1 vwCl (zt_ws (kG D cA ad) (kS S0)) H := by
  intro k q hk
  obtain ⟨r, hr, rfl⟩ := List.mem_map.mp (List.mem_of_getElem? hk)
  obtain ⟨c, hc, hq⟩ := k_all_c hr
  exact kq_at (zt_all_cd r hr).2 hc hq (h (kp r) _ (k_ws_at hc))
theorem kW_I {D : va_G} {cA : Nat → ClassId} {ad : zR → Nat} {A : Nat → Prop} (h : va_D A (k_ws cA ad kW)) : zI (kG D cA ad) := by
  intro r r' hr hr' e
  rw [show (kG D cA ad).2.2.1 r = ad (zr (kp r)) from if_pos (zt_all_cd r hr).2, show (kG D cA ad).2.2.1 r' = ad (zr (kp r')) from if_pos (zt_all_cd r' hr').2] at e
  obtain ⟨c, hc, -⟩ := k_all_c hr
  obtain ⟨c', hc', -⟩ := k_all_c hr'
  have e2 := h.1 _ _ _ _ (k_ws_at (cA := cA) (ad := ad) hc) (k_ws_at (cA := cA) (ad := ad) hc') e
  have h9 := List.all_eq_true.mp (List.all_eq_true.mp kp_inj r hr) r' hr'
  rw [e2] at h9
  rw [Nat.beq_refl] at h9
  exact of_decide_eq_true h9

/-! THE LAW'S LEVEL 5: rows of rows; the library -/
abbrev qp_cSame : Nat := 833
abbrev qp_cNat : Nat := 834
abbrev qp_cInst : Nat := 835
abbrev qp_cSel : Nat := 836
abbrev qp_cCast : Nat := 837
abbrev qp_oInst : Nat := 60
abbrev qp_oCode : Nat := 61
abbrev qp_aInt : Nat := 84
theorem qp_ob : lw_tbl[qp_oInst]? = some (.instanceMethod Lib.objectInit) ∧ lw_tbl[qp_oCode]? = some (.code Lib.objectInit ⟨#[177]⟩ 1 none) := by decide +kernel
theorem va_AOA.moved {t : FieldType} {u U : State} (hvm : u.vm.Alike U.vm) (h : va_AOA t u) : va_AOA t U := Jvm.Stand.arrayOver_alikeB hvm h
section QE
variable {p : Program} {l : Launch} {e : Env} {R : Room} {s : State} {m : MethodId} {args : Array Value} {below : List Frame} {meth : Method} {c : Code} {Q : State → Prop} {G : zG} {T0 : qS} {A : Nat → Prop} {aq0 : Nat → Nat} {own nm : String} {cc : ByteArray} {nL : Nat} {ret : Option FieldType} {cF sF o1 o2 : Nat} {T : qS} {pc : Nat} {lv : zL} {st : List zV}
theorem q_sl_rep (n : Nat) (c9 : qC) : q_sl (List.replicate n c9) = n * qc_sl c9 := by
  unfold q_sl
  rw [List.map_replicate, List.sum_replicate_nat]
theorem qJ_new2 (X : qX p s m meth c G T0 A own nm cc nL ret) {ix q9 : Nat} {n k : Int32} {nx : zV → qS → Option qO} {out : qO} (hR : qRm R T0 cF sF o1 o2) (hdg : decode cc pc = .ok (.multianewarray ix 2, 4)) (hq : lw_tbl[q9]? = some (.classLink own ix ("[" ++ (FieldType.array .int).toString))) (h : qa_new2 n k T nx = some out) (kk : ∀ v T', nx v T' = some out → qJ2 p l e R s m args below meth c Q G T0 A aq0 nL cF sF o1 o2 T' (pc + 4) lv (v :: st)) : qJ2 p l e R s m args below meth c Q G T0 A aq0 nL cF sF o1 o2 T pc lv (zi k :: zi n :: st) := by
  unfold qa_new2 at h
  split at h
  · exact nomatch h
  rename_i hn
  split at h
  · exact nomatch h
  rename_i hk
  split at h
  · exact nomatch h
  rename_i hn2
  split at h
  · exact nomatch h
  rename_i hk2
  have hrl : (List.replicate n.toNatClampNeg (.inr (.inl (0, List.replicate k.toNatClampNeg 0))) : qW).length = n.toNatClampNeg := List.length_replicate
  refine qJ_push (vs := .inr (.inr ((List.range n.toNatClampNeg).map (fun i => some (8, T.2.length + 1 + i, 0)))) :: List.replicate n.toNatClampNeg (.inr (.inl (0, List.replicate k.toNatClampNeg 0)))) (by rw [List.length_cons]; exact Nat.succ_pos _) (fun N hN x hx => ?_) (kk _ _ h) (fun v h => List.mem_cons_of_mem _ (List.mem_cons_of_mem _ h)) hR (fun aq ls H locs hl hP hD hS hwf hs hcl hsl K => ?_)
  · rw [List.length_cons, hrl] at hN
    rcases List.mem_cons.mp hx with e | e
    · rw [e]
      refine ⟨by rw [List.length_map, List.length_range]; omega, fun r hr => ?_⟩
      obtain ⟨i, hi, hir⟩ := List.mem_map.mp hr
      have hi := List.mem_range.mp hi
      have hir := Option.some.inj hir
      rw [← hir]
      exact ⟨rfl, by show T.2.length + 1 + i < N; omega, rfl⟩
    · rw [List.eq_of_mem_replicate e]
      exact qc_new 0 _ (Or.inl rfl) (by omega) N
  · have hl2 : ((.inr (.inr ((List.range n.toNatClampNeg).map (fun i => some (8, T.2.length + 1 + i, 0)))) :: List.replicate n.toNatClampNeg (.inr (.inl (0, List.replicate k.toNatClampNeg 0)))) : qW).length = 1 + n.toNatClampNeg := by rw [List.length_cons, hrl, Nat.add_comm]
    have hs2 : q_sl ((.inr (.inr ((List.range n.toNatClampNeg).map (fun i => some (8, T.2.length + 1 + i, 0)))) :: List.replicate n.toNatClampNeg (.inr (.inl (0, List.replicate k.toNatClampNeg 0)))) : qW) = n.toNatClampNeg + n.toNatClampNeg * k.toNatClampNeg := by
      have e1 := q_sl_rep n.toNatClampNeg (.inr (.inl (0, List.replicate k.toNatClampNeg 0)))
      have e2 : qc_sl (.inr (.inl (0, List.replicate k.toNatClampNeg 0))) = k.toNatClampNeg := List.length_replicate
      rw [e2] at e1
      have e3 : q_sl ((.inr (.inr ((List.range n.toNatClampNeg).map (fun i => some (8, T.2.length + 1 + i, 0)))) :: List.replicate n.toNatClampNeg (.inr (.inl (0, List.replicate k.toNatClampNeg 0)))) : qW) = ((List.range n.toNatClampNeg).map (fun i => (some (8, T.2.length + 1 + i, 0) : Option zR))).length + q_sl (List.replicate n.toNatClampNeg (.inr (.inl (0, List.replicate k.toNatClampNeg 0)))) := by
        unfold q_sl
        rw [List.map_cons, List.sum_cons]
        rfl
      rw [e3, e1, List.length_map, List.length_range]
    rw [hl2] at hcl K
    rw [hs2] at hsl K
    have hfc := X.2.2.2.2.1.2 0 _ (q_tys G).1
    have hP0 : va_P G.1 vwCl (q_all G aq T.1 T.2 ++ va_pl [] (fun _ => .inr (0, []))) H := by
      have : va_pl [] (fun _ => (.inr (0, []) : va_E)) = [] := rfl
      rw [this, List.append_nil]
      exact hP
    have hD0 : va_D A (q_all G aq T.1 T.2 ++ va_pl [] (fun _ => .inr (0, []))) := by
      have : va_pl [] (fun _ => (.inr (0, []) : va_E)) = [] := rfl
      rw [this, List.append_nil]
      exact hD
    refine va_mna (ty := .int) (L := []) (f := fun _ => .inr (0, [])) (N' := n.toNatClampNeg) (K' := k.toNatClampNeg) (z := (k.toNatClampNeg, .inl (fun _ => 0))) X.1 X.2.1 X.2.2.2.1 (zw_use X.2.2.2.2.2.1.1 hq rfl) X.2.2.2.2.2.2.2.2.2.2.1 (zw_use X.2.2.2.2.2.1.1 (p := qp_aInt) (by decide +kernel) rfl) hfc.2 X.2.2.2.2.1 hP0 hD0 hS X.2.2.2.2.2.2.2.2.2.1 hn hk rfl rfl (by omega) (by show k.toNatClampNeg * 4 ≤ _; omega) (by omega) rfl rfl hcl hsl (fun c9 => ?_) hdg (fun q r cA9 H1 hr hrL hK2 hP1 hD1 hS1 => ?_)
    · exact arrV_new ..
    · have eA : cA9 = G.2.1 7 := Option.some.inj ((hK2.2 5 _ rfl).2.symm.trans (X.2.2.2.2.1.2 4 _ rfl).2)
      subst eA
      rw [List.nil_append] at hP1 hD1
      let aq' : Nat → Nat := fun j => if j < T.2.length then aq j else if j = T.2.length then q else r (j - (T.2.length + 1))
      have hag : ∀ j, j < T.2.length → aq' j = aq j := fun j hj => if_pos hj
      have e0 : aq' T.2.length = q := by
        show (if T.2.length < T.2.length then _ else _) = _
        rw [if_neg (Nat.lt_irrefl _), if_pos rfl]
      have er : ∀ i, aq' (T.2.length + 1 + i) = r i := fun i => by
        show (if T.2.length + 1 + i < T.2.length then _ else _) = _
        rw [if_neg (by omega), if_neg (by omega)]
        congr 1
        omega
      have ews : ((.inr (.inr ((List.range n.toNatClampNeg).map (fun i => some (8, T.2.length + 1 + i, 0)))) :: List.replicate n.toNatClampNeg (.inr (.inl (0, List.replicate k.toNatClampNeg 0)))) : qW).mapIdx (fun i c => (aq' (T.2.length + i), q_el G (qad G aq') c)) = [(q, .inl (G.2.1 7, n.toNatClampNeg, .inr (.inr (.inr (.inr (fun i => if i < n.toNatClampNeg then some (r i) else none))))))] ++ va_pl ((List.range n.toNatClampNeg).map r) (vr_up (fun _ => .inr (0, [])) ((List.range n.toNatClampNeg).map r) (.inl (G.2.1 0, (k.toNatClampNeg, .inl (fun _ => 0))))) := by
        rw [List.mapIdx_cons, Nat.add_zero, e0]
        have e1 : q_el G (qad G aq') (.inr (.inr ((List.range n.toNatClampNeg).map (fun i => some (8, T.2.length + 1 + i, 0))))) = .inl (G.2.1 7, n.toNatClampNeg, .inr (.inr (.inr (.inr (fun i => if i < n.toNatClampNeg then some (r i) else none))))) := by
          have ef : (fun i => ((((List.range n.toNatClampNeg).map (fun i => (some (8, T.2.length + 1 + i, 0) : Option zR))).getD i none).map (qad G aq'))) = (fun i => if i < n.toNatClampNeg then some (r i) else none) := by
            funext i
            rw [List.getD_eq_getElem?_getD, List.getElem?_map]
            by_cases hi : i < n.toNatClampNeg
            · rw [List.getElem?_range hi, if_pos hi]
              show some (aq' (T.2.length + 1 + i)) = _
              rw [er]
            · rw [List.getElem?_eq_none (by rw [List.length_range]; omega), if_neg hi]
              rfl
          show (Sum.inl (G.2.1 7, ((List.range n.toNatClampNeg).map (fun i => (some (8, T.2.length + 1 + i, 0) : Option zR))).length, Sum.inr (Sum.inr (Sum.inr (Sum.inr _)))) : va_E) = _
          rw [ef, List.length_map, List.length_range]
        rw [e1, List.singleton_append]
        congr 1
        unfold va_pl
        rw [List.map_map]
        refine List.ext_getElem? (fun i => ?_)
        rw [List.getElem?_mapIdx, List.getElem?_map, List.getElem?_replicate]
        by_cases hi : i < n.toNatClampNeg
        · rw [if_pos hi, List.getElem?_range hi]
          show some (aq' (T.2.length + (i + 1)), q_el G (qad G aq') _) = some (r i, vr_up _ _ _ (r i))
          rw [vr_up_in (List.mem_map.mpr ⟨i, List.mem_range.mpr hi, rfl⟩), show T.2.length + (i + 1) = T.2.length + 1 + i by omega, er]
          congr 2
          show Sum.inl (G.2.1 0, (List.replicate k.toNatClampNeg (0 : Int32)).length, Sum.inl (fun i => (List.replicate k.toNatClampNeg (0 : Int32)).getD i 0)) = _
          rw [List.length_replicate, show (fun i => (List.replicate k.toNatClampNeg (0 : Int32)).getD i 0) = (fun _ => 0) from funext (fun i => q_getrep _ i 0)]
        · rw [if_neg hi, List.getElem?_eq_none (by rw [List.length_range]; omega)]
          rfl
      have res := K aq' H1 hag (by rw [ews, ← List.append_assoc]; exact hP1) (by rw [ews, ← List.append_assoc]; exact hD1) hS1
      rw [e0, ← Nat.add_assoc, ← Nat.add_assoc] at res
      exact res
end QE

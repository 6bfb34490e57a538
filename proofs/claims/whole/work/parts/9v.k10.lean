/-! THE START 1: places of the premises, by program (wip/whole/tools/emitx.py) -/
/-- the first place of each text, and where its premises begin -/
def kt_reps : List (String × Nat × Nat) := [("BathBoats$QueryReader", 64, 355), ("BathBoats$BathReader", 59, 53), ("BathBoats$BathReader", 45, 102), ("BathBoats$BathReader", 31, 86), ("BathBoats$QueryReader", 27, 255), ("BathBoats$QueryReader", 107, 342), ("BathBoats$BathReader", 71, 61), ("BathBoats$QueryReader", 19, 247), ("BathBoats$QueryReader", 105, 333), ("BathBoats", 333, 155), ("BathBoats", 335, 196), ("BathBoats", 226, 212), ("BathBoats", 170, 125), ("BathBoats$QueryReader", 71, 264), ("BathBoats$QueryReader", 69, 362), ("BathBoats", 341, 37), ("BathBoats$BathReader", 76, 70), ("BathBoats$BathReader", 50, 117), ("BathBoats$QueryReader", 101, 315), ("BathBoats$QueryReader", 97, 295), ("BathBoats$BathReader", 40, 95), ("BathBoats", 337, 171), ("BathBoats$QueryReader", 95, 285), ("BathBoats$BathReader", 151, 110), ("BathBoats$BathReader", 80, 78), ("BathBoats$QueryReader", 109, 350), ("BathBoats$QueryReader", 93, 280)]
/-- how each place of a text is tied to its first: 0 it is the first, 1 and 2 a premise (its place); the place of its word -/
def kt_eqs : List (Nat × Nat × Nat) := [(0, 0, 1013), (0, 0, 1085), (0, 0, 1031), (0, 0, 1062), (0, 0, 1035), (0, 0, 787), (0, 0, 930), (0, 0, 960), (0, 0, 969), (0, 0, 981), (0, 0, 836), (0, 0, 907), (0, 0, 908), (0, 0, 909), (0, 0, 975), (0, 0, 1373), (0, 0, 1375), (0, 0, 1420), (0, 0, 1422), (0, 0, 1386), (1, 279, 1393), (0, 0, 1394), (0, 0, 1395), (0, 0, 1396), (1, 314, 1397), (0, 0, 1398), (1, 332, 1399), (0, 0, 1400), (0, 0, 1401), (0, 0, 1402), (1, 376, 1442), (1, 383, 1443), (1, 389, 1444), (1, 400, 1445), (1, 413, 1446), (1, 421, 1447), (1, 432, 1448), (1, 441, 1449), (1, 452, 1450), (1, 461, 1451), (1, 470, 2002), (1, 480, 2030), (1, 489, 2035), (1, 498, 2036), (1, 508, 2049), (1, 516, 2062), (1, 543, 2101), (1, 551, 2118), (1, 558, 2119), (1, 526, 2087), (1, 535, 2088)]
def kf_us : Nat := 4
def kf_ss : Nat := 5
def kf_cs : Nat := 6
def kf_sf : Nat := 7
def kf_nc : Nat := 36
def kl_us : Nat := 774
def ki_us : Nat := 141
def kl_ss : Nat := 776
def ki_ss : Nat := 141
def kl_cs : Nat := 854
def ki_cs : Nat := 145
def kl_sf : Nat := 870
def ki_sf : Nat := 147
def kt_ins : List Nat := [161, 421, 330, 304, 324, 437, 184, 167, 379, 362, 153, 1435]
def kFl : List Cond := flatC (Cond.and given_1 narrow_1)
def kt_word (own : String) (k : Nat) (w : List Int32) : List Cond :=
  .exactly (.string own k) "java/lang/String" :: .eq (.field (.string own k) "java/lang/String" "coder" "B") (.int 0) :: .arrayOf (.field (.string own k) "java/lang/String" "value" "[B") .byte :: .eq (.length (.field (.string own k) "java/lang/String" "value" "[B")) (.int (Int32.ofNat w.length)) :: w.mapIdx (fun j x => .eq (.elem (.field (.string own k) "java/lang/String" "value" "[B") (.int (Int32.ofNat j))) (.int x))
theorem kt_reps_ok : (List.range 27).all (fun t => match kt_reps[t]?, zt_texts[t]? with
    | some r, some w => decide ((kFl.drop r.2.2).take (4 + w.length) = kt_word r.1 r.2.1 w) && decide (w.length < 100)
    | _, _ => false) = true := by decide +kernel
theorem kt_srs_ok : (List.range 51).all (fun i => match zt_srs[i]?, kt_eqs[i]? with
    | some (own, k, t), some (d, p, q) => (match kt_reps[t]?, zt_strs[t]? with
      | some r, some tx => decide (lw_tbl[q]? = some (.stringRef own k tx)) && (match d with
        | 0 => decide (r.1 = own ∧ r.2.1 = k)
        | _ => decide (kFl[p]? = some (.eq (.string r.1 r.2.1) (.string own k))))
      | _, _ => false)
    | _, _ => false) = true := by decide +kernel
theorem kt_dist : (List.range 27).all (fun i => (List.range 27).all (fun j => decide (zt_texts[i]? = zt_texts[j]? → i = j))) = true := by decide +kernel
theorem kt_n : zt_texts.length = 27 ∧ zt_srs.length = 51 := by decide +kernel
theorem k_txt {s : State} {args : Array Value} {A : Nat → Prop} (hf : ∀ c, c ∈ kFl → c.before args s = true) (hA : ∀ a : Nat, a < s.heap.size → ¬ A a) {t : Nat} (ht : t < 27) : ∃ (q : Nat × Nat) (r : String × Nat × Nat) (w : List Int32), kt_reps[t]? = some r ∧ zt_texts[t]? = some w ∧ w.length < 100 ∧ (va_O "java/lang/String" q.1 A s s.heap ∧ va_OF "java/lang/String" "coder" "B" (.int 0) q.1 A s s.heap ∧ va_OF "java/lang/String" "value" "[B" (.ref q.2) q.1 A s s.heap ∧ va_T .byte q.2 w.length (fun j => .int (w.getD j 0)) A s s.heap) ∧ (Term.string r.1 r.2.1).eval args s none [] s = some (.ref q.1) := by
  have h := List.all_eq_true.mp kt_reps_ok t (List.mem_range.mpr ht)
  split at h
  · rename_i r w hr hw
    rw [Bool.and_eq_true] at h
    have h1 := of_decide_eq_true h.1
    have h2 := of_decide_eq_true h.2
    have hm : ∀ c, c ∈ kt_word r.1 r.2.1 w → c.before args s = true := fun c hc => hf c (List.mem_of_mem_drop (List.mem_of_mem_take (h1 ▸ hc)))
    have hel : ∀ j : Nat, j < w.length → (Cond.eq (.elem (.field (.string r.1 r.2.1) "java/lang/String" "value" "[B") (.int (Int32.ofNat j))) (.int (w.getD j 0))).before args s = true := fun j hj => hm _ (by
      refine List.mem_cons_of_mem _ (List.mem_cons_of_mem _ (List.mem_cons_of_mem _ (List.mem_cons_of_mem _ ?_)))
      refine List.mem_of_getElem? (i := j) ?_
      rw [List.getElem?_mapIdx, List.getElem?_eq_getElem hj, List.getD_eq_getElem?_getD, List.getElem?_eq_getElem hj]
      rfl)
    have e1 : ∀ i : Nat, i < 1 → i = 0 := fun i hi => by omega
    obtain ⟨aK, aV, ⟨hS, -⟩, hE⟩ := vk_Sof (N := 1) (tm := fun _ => .string r.1 r.2.1) (len := [w.length]) (byt := [w]) (A := A) (args := args) (s := s) (fun i hi => by rw [e1 i hi]; show w.length < _; omega)
      (fun i hi => hm _ List.mem_cons_self) (fun i hi => hm _ (List.mem_cons_of_mem _ List.mem_cons_self)) (fun i hi => hm _ (List.mem_cons_of_mem _ (List.mem_cons_of_mem _ List.mem_cons_self)))
      (fun i hi => by rw [e1 i hi]; exact hm _ (List.mem_cons_of_mem _ (List.mem_cons_of_mem _ (List.mem_cons_of_mem _ List.mem_cons_self)))) (fun i hi j hj => by rw [e1 i hi] at hj ⊢; exact hel j hj) (fun i j hi hj hij => absurd ((e1 i hi).trans (e1 j hj).symm) hij) hA
    exact ⟨(aK 0, aV 0), r, w, hr, hw, h2, hS 0 (by decide), hE 0 (by decide)⟩
  · cases h
/-- the texts of the start -/
theorem k_texts {s : State} {args : Array Value} {A : Nat → Prop} (hf : ∀ c, c ∈ kFl → c.before args s = true) (hts : ∀ w, w ∈ lw_tbl → w.before args s = true) (hA : ∀ a : Nat, a < s.heap.size → ¬ A a) : ∃ adK adV : Nat → Nat, vk_S zt_texts.length (zt_texts.map List.length) zt_texts adK adV A s s.heap ∧ ∀ (i : Nat) (own : String) (k t : Nat) (tx : String), zt_srs[i]? = some (own, k, t) → zt_strs[t]? = some tx → vk_R own k tx (adK t) s := by
  have h0 : ∀ t : Nat, ∃ q : Nat × Nat, t < 27 → ∃ (r : String × Nat × Nat) (w : List Int32), kt_reps[t]? = some r ∧ zt_texts[t]? = some w ∧ w.length < 100 ∧ (va_O "java/lang/String" q.1 A s s.heap ∧ va_OF "java/lang/String" "coder" "B" (.int 0) q.1 A s s.heap ∧ va_OF "java/lang/String" "value" "[B" (.ref q.2) q.1 A s s.heap ∧ va_T .byte q.2 w.length (fun j => .int (w.getD j 0)) A s s.heap) ∧ (Term.string r.1 r.2.1).eval args s none [] s = some (.ref q.1) := by
    intro t
    by_cases ht : t < 27
    · obtain ⟨q, h⟩ := k_txt hf hA ht
      exact ⟨q, fun _ => h⟩
    · exact ⟨(0, 0), fun h => absurd h ht⟩
  obtain ⟨ad, had⟩ := Classical.axiomOfChoice h0
  refine ⟨fun t => (ad t).1, fun t => (ad t).2, ⟨fun t ht => ?_, fun i j hi hj e => ?_⟩, fun i own k t tx hi htx => ?_⟩
  · rw [kt_n.1] at ht
    obtain ⟨r, w, h1, h2, h3, ⟨g1, g2, g3, g4⟩, -⟩ := had t ht
    refine ⟨g1, g2, g3, ?_⟩
    have e1 : (zt_texts.map List.length).getD t 0 = w.length := by rw [List.getD_eq_getElem?_getD, List.getElem?_map, h2]; rfl
    have e2 : zt_texts.getD t [] = w := by rw [List.getD_eq_getElem?_getD, h2]; rfl
    rw [e1, e2]
    exact g4
  · rw [kt_n.1] at hi hj
    obtain ⟨r, w, h1, h2, h3, ⟨-, -, g3, g4⟩, -⟩ := had i hi
    obtain ⟨r', w', h1', h2', h3', ⟨-, -, g3', g4'⟩, -⟩ := had j hj
    have e : (ad i).1 = (ad j).1 := e
    obtain ⟨cf, kc, fi, f, cell, a1, a2, a3, a4, a5, -⟩ := g3
    obtain ⟨cf', kc', fi', f', cell', a1', a2', a3', a4', a5', -⟩ := g3'
    have q1 := Option.some.inj (a1.symm.trans a1')
    simp only [Prod.mk.injEq] at q1
    obtain ⟨-, -, -, q1⟩ := q1
    subst q1
    rw [e] at a3
    have q2 := Option.some.inj (a3.symm.trans a3')
    subst q2
    have q3 := Value.ref.inj (Option.some.inj (a5.symm.trans a5'))
    rw [q3] at g4
    obtain ⟨c1, b1, -, -, b4, b5, b6, -⟩ := g4
    obtain ⟨c2, b1', -, -, b4', b5', b6', -⟩ := g4'
    have q4 := Option.some.inj (b1.symm.trans b1')
    subst q4
    have q5 : w.length = w'.length := by
      have q6 := congrArg Int32.toNatClampNeg (b5.symm.trans b5')
      rw [show (Int32.ofNat w.length).toNatClampNeg = w.length from nI_clamp (by omega), show (Int32.ofNat w'.length).toNatClampNeg = w'.length from nI_clamp (by omega)] at q6
      exact q6
    have q6 : w = w' := by
      refine List.ext_getElem? (fun j => ?_)
      by_cases hj : j < w.length
      · have q7 := Value.int.inj (Option.some.inj ((b6 j hj).symm.trans (b6' j (by omega))))
        rw [List.getD_eq_getElem?_getD, List.getD_eq_getElem?_getD, List.getElem?_eq_getElem hj, List.getElem?_eq_getElem (by omega : j < w'.length)] at q7
        rw [List.getElem?_eq_getElem hj, List.getElem?_eq_getElem (by omega : j < w'.length)]
        exact congrArg some q7
      · rw [List.getElem?_eq_none (by omega), List.getElem?_eq_none (by omega)]
    have q8 := of_decide_eq_true (List.all_eq_true.mp (List.all_eq_true.mp kt_dist i (List.mem_range.mpr hi)) j (List.mem_range.mpr hj))
    exact q8 (by rw [h2, h2', q6])
  · have hil : i < 51 := by rw [← kt_n.2]; exact (List.getElem?_eq_some_iff.mp hi).1
    have h := List.all_eq_true.mp kt_srs_ok i (List.mem_range.mpr hil)
    rw [hi] at h
    cases hq : kt_eqs[i]? with
    | none => rw [hq] at h; cases h
    | some q =>
      rw [hq] at h
      obtain ⟨d, p, q⟩ := q
      have h : (match (generalizing := false) kt_reps[t]?, zt_strs[t]? with
        | some r, some tx => decide (lw_tbl[q]? = some (.stringRef own k tx)) && (match (generalizing := false) d with
          | 0 => decide (r.1 = own ∧ r.2.1 = k)
          | _ => decide (kFl[p]? = some (.eq (.string r.1 r.2.1) (.string own k))))
        | _, _ => false) = true := h
      rw [htx] at h
      cases hr : kt_reps[t]? with
      | none => rw [hr] at h; cases h
      | some r =>
        rw [hr] at h
        have h : (decide (lw_tbl[q]? = some (.stringRef own k tx)) && (match (generalizing := false) d with
          | 0 => decide (r.1 = own ∧ r.2.1 = k)
          | _ => decide (kFl[p]? = some (.eq (.string r.1 r.2.1) (.string own k))))) = true := h
        rw [Bool.and_eq_true] at h
        have hw := of_decide_eq_true h.1
        have htl : t < 27 := (List.getElem?_eq_some_iff.mp hr).1
        obtain ⟨r2, w, h1, h2, h3, -, hE⟩ := had t htl
        have er := Option.some.inj (hr.symm.trans h1)
        subst er
        refine vk_R.of (hts _ (List.mem_of_getElem? hw)) ?_
        have hd := h.2
        split at hd
        · obtain ⟨e1, e2⟩ := of_decide_eq_true hd
          rw [← e1, ← e2]
          exact hE
        · exact va_eqR (hf _ (List.mem_of_getElem? (of_decide_eq_true hd))) hE
/-- the classes and the kinds of arrays of the start -/
theorem kt_ins_ok : (List.range 12).all (fun c => match vwCl[c]?, kt_ins[c]? with
    | some Cl, some q => decide (lw_tbl[q]? = some (.instantiable Cl.1 Cl.2.2))
    | _, _ => false) = true := by decide +kernel
theorem k_AT {s : State} {args : Array Value} {ty : FieldType} (h : (Cond.arrayClass ty).before args s = true) : ∃ c : ClassId, ArrOfT s c ty ∧ s.vm.findClass ("[" ++ ty.toString) = some c := by
  obtain ⟨c, k, comp, h1, h2, h3⟩ := Cond.arrayClass_spec h
  exact ⟨c, fun n z => ⟨fun k h => (by cases h), k, h2, comp, h3⟩, h1⟩
theorem k_AO {s : State} {args : Array Value} {C : String} (h : (Cond.arrayOver (.object C)).before args s = true) : ∃ c : ClassId, ArrOfT s c (.object C) ∧ va_RA s c (.object C) := by
  obtain ⟨comp, c, k, h1, -, h2, h3, h4⟩ := Cond.arrayOver_spec h
  exact ⟨c, fun n z => ⟨fun k h => (by cases h), k, h2, comp, h3⟩, k, comp, h2, h3, h1, h4⟩
theorem kp_arr : lw_tbl[kp_aInt]? = some (.arrayClass .int) ∧ lw_tbl[kp_aLong]? = some (.arrayClass .long) ∧ lw_tbl[kp_aDbl]? = some (.arrayClass .double) ∧ lw_tbl[kp_aBath]? = some (.arrayOver (.object "BathBoats$Bath")) ∧ lw_tbl[kp_aStr]? = some (.arrayOver (.object "java/lang/String")) := by decide +kernel
theorem k_K {s : State} {args : Array Value} (hts : ∀ w, w ∈ lw_tbl → w.before args s = true) : ∃ (D : va_G) (cA : Nat → ClassId), ∀ adT : zR → Nat, va_K D vwCl (zt_tys (kT D cA adT)) s := by
  have h0 : ∀ c : Nat, ∃ q : ClassId × (Nat → Nat), ∀ Cl : vw_C, vwCl[c]? = some Cl → u_Kn s Cl.1 Cl.2.1 Cl.2.2 q.1 q.2 := by
    intro c
    cases hc : vwCl[c]? with
    | none => exact ⟨(0, fun _ => 0), fun Cl h => nomatch h⟩
    | some Cl =>
      have hl : c < 12 := (List.getElem?_eq_some_iff.mp hc).1
      have h := List.all_eq_true.mp kt_ins_ok c (List.mem_range.mpr hl)
      rw [hc] at h
      have h : (match (generalizing := false) kt_ins[c]? with
        | some q => decide (lw_tbl[q]? = some (.instantiable Cl.1 Cl.2.2))
        | _ => false) = true := by
          cases hq : kt_ins[c]? with
          | none => rw [hq] at h; cases h
          | some q => rw [hq] at h; exact h
      split at h
      · obtain ⟨cC, iS, hK⟩ := u_known (ws := lw_tbl) hts (fun w hw => (zt_lays Cl (List.mem_of_getElem? hc) w hw).1) (hts _ (List.mem_of_getElem? (of_decide_eq_true h)))
        exact ⟨(cC, iS), fun Cl' h' => by cases Option.some.inj h'; exact hK⟩
      · cases h
  obtain ⟨ad, had⟩ := Classical.axiomOfChoice h0
  obtain ⟨b1, b2, b3, b4, b5⟩ := kp_arr
  obtain ⟨c0, h01, h02⟩ := k_AT (hts _ (List.mem_of_getElem? b1))
  obtain ⟨c3, h31, h32⟩ := k_AT (hts _ (List.mem_of_getElem? b2))
  obtain ⟨c4, h41, h42⟩ := k_AT (hts _ (List.mem_of_getElem? b3))
  obtain ⟨c1, h11, h12⟩ := k_AO (hts _ (List.mem_of_getElem? b4))
  obtain ⟨c2, h21, h22⟩ := k_AO (hts _ (List.mem_of_getElem? b5))
  refine ⟨(fun c => (ad c).1, fun c => (ad c).2), fun i => match i with | 0 => c0 | 1 => c1 | 2 => c2 | 3 => c3 | _ => c4, fun adT => ⟨fun c q hq => had c q hq, fun k q hq => ?_⟩⟩
  match k, hq with
  | 0, hq => cases Option.some.inj hq; exact ⟨h01, h02⟩
  | 1, hq => cases Option.some.inj hq; exact ⟨h11, h12⟩
  | 2, hq => cases Option.some.inj hq; exact ⟨h21, h22⟩
  | 3, hq => cases Option.some.inj hq; exact ⟨h31, h32⟩
  | 4, hq => cases Option.some.inj hq; exact ⟨h41, h42⟩
  | k + 5, hq => exact nomatch (show (none : Option (ClassId × FieldType)) = some q from hq)
theorem kf_ok : kFl[kf_us]? = some (.isRef (.static "java/lang/Throwable" "UNASSIGNED_STACK" Bundle.steD)) ∧ kFl[kf_ss]? = some (.isRef (.static "java/lang/Throwable" "SUPPRESSED_SENTINEL" Bundle.listD)) ∧ kFl[kf_cs]? = some (.eq (.static "java/lang/String" "COMPACT_STRINGS" "Z") (.int 1)) ∧ kFl[kf_sf]? = some (.isRef (.static "jdk/internal/util/Preconditions" "SIOOBE_FORMATTER" "Ljava/util/function/BiFunction;")) ∧ kFl[kf_nc]? = some (.not (.castable "java/lang/IllegalArgumentException" "java/util/NoSuchElementException")) := by decide +kernel
theorem kl_ok : (lw_tbl[kl_us]? = some (.laysStatic "java/lang/Throwable" "UNASSIGNED_STACK" Bundle.steD) ∧ lw_tbl[ki_us]? = some (.initialized "java/lang/Throwable")) ∧ (lw_tbl[kl_ss]? = some (.laysStatic "java/lang/Throwable" "SUPPRESSED_SENTINEL" Bundle.listD)) ∧ (lw_tbl[kl_cs]? = some (.laysStatic "java/lang/String" "COMPACT_STRINGS" "Z") ∧ lw_tbl[ki_cs]? = some (.initialized "java/lang/String")) ∧ (lw_tbl[kl_sf]? = some (.laysStatic "jdk/internal/util/Preconditions" "SIOOBE_FORMATTER" "Ljava/util/function/BiFunction;") ∧ lw_tbl[ki_sf]? = some (.initialized "jdk/internal/util/Preconditions")) := by decide +kernel
/-- the fixed part of the start's world -/
theorem k_F {s : State} {args : Array Value} {D : va_G} {cA : Nat → ClassId} {b L : Nat} {xs : Nat → Int32} (hf : ∀ c, c ∈ kFl → c.before args s = true) (hts : ∀ w, w ∈ lw_tbl → w.before args s = true) (hL : L < 2 ^ 31) (hX : va_X b L xs s s.heap) (hb : b < s.heap.size) : ∃ adT : zR → Nat, adT (5, 0, 0) = b ∧ zw_F (kT D cA adT) (fun _ _ o j => if o = 1 then Int32.ofNat L else xs j, (0, (0, 0))) (fun q => s.heap.size ≤ q) s s.heap := by
  have hA : ∀ a : Nat, a < s.heap.size → ¬ s.heap.size ≤ a := fun a h h2 => absurd (Nat.lt_of_lt_of_le h h2) (Nat.lt_irrefl _)
  obtain ⟨adK, adV, hS, hR⟩ := k_texts hf hts hA
  obtain ⟨f1, f2, f3, f4, f5⟩ := kf_ok
  obtain ⟨⟨l1, i1⟩, l2, ⟨l3, i3⟩, ⟨l4, i4⟩⟩ := kl_ok
  have fl : ∀ {q : Nat} {c : Cond}, kFl[q]? = some c → c.before args s = true := fun h => hf _ (List.mem_of_getElem? h)
  have tb : ∀ {q : Nat} {c : Cond}, lw_tbl[q]? = some c → c.before args s = true := fun h => hts _ (List.mem_of_getElem? h)
  refine ⟨fun r => match r.1 with | 6 => adK r.2.1 | 7 => adV r.2.1 | _ => b, rfl, fun w hw hk => zt_keep_warm hk (State.WarmedH.refl s) (hts w hw), fun i own k t tx h1 h2 => hR i own k t tx h1 h2, hS, ⟨L, hL, rfl, hX, hb, hA b hb⟩, vx_Zqof (tb l1) (tb i1) (fl f1) hA, vx_Zqof (tb l2) (tb i1) (fl f2) hA, va_Nc.of (fl f5), va_Zof (tb l3) (tb i3) (va_eqt (fl f3)) hA, va_Zqof (tb l4) (tb i4) (fl f4) hA⟩

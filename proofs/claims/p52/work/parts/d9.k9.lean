/-! THE START 1: places of the premises (tools/mkx.py) -/
/-- where each text's premises begin, and the place of its word; by its place in zt_srs -/
def kt_pl : List (Nat × Nat) := [(350, 713), (730, 1078), (610, 1023), (692, 1047), (646, 1027), (217, 437), (276, 585), (290, 629), (303, 638), (333, 655), (233, 491), (242, 562), (253, 563), (264, 564), (318, 644), (390, 777), (410, 945), (433, 947), (456, 948), (480, 949), (505, 950), (529, 951), (555, 952), (582, 953)]
def kt_ins : List Nat := [63, 313, 227, 201, 221, 329, 86, 69, 273, 256, 55, 776, 959]
abbrev kf_d1 : Nat := 12
abbrev kf_d2 : Nat := 115
abbrev kf_cs : Nat := 6
abbrev kf_sf : Nat := 7
abbrev kl_d1 : Nat := 921
abbrev ki_d1 : Nat := 48
abbrev kl_d2 : Nat := 923
abbrev ki_d2 : Nat := 48
abbrev kl_cs : Nat := 509
abbrev ki_cs : Nat := 40
abbrev kl_sf : Nat := 525
abbrev ki_sf : Nat := 45
abbrev ka_int : Nat := 84
abbrev ka_byte : Nat := 463
abbrev ka_bool : Nat := 1011
abbrev ka_bath : Nat := 207
abbrev ka_rows : Nat := 1091
def kFl : List Cond := flatC (Cond.and given_1 narrow_1)
def kt_word (own : String) (k : Nat) (w : List Int32) : List Cond :=
  .exactly (.string own k) "java/lang/String" :: .eq (.field (.string own k) "java/lang/String" "coder" "B") (.int 0) :: .arrayOf (.field (.string own k) "java/lang/String" "value" "[B") .byte :: .eq (.length (.field (.string own k) "java/lang/String" "value" "[B")) (.int (Int32.ofNat w.length)) :: w.mapIdx (fun j x => .eq (.elem (.field (.string own k) "java/lang/String" "value" "[B") (.int (Int32.ofNat j))) (.int x))
theorem kt_pl_ok : (List.range 24).all (fun i => match zt_srs[i]?, kt_pl[i]? with
    | some (own, k, t), some (p, q) => (match zt_texts[t]?, zt_strs[t]? with
      | some w, some tx => decide ((kFl.drop p).take (4 + w.length) = kt_word own k w) && decide (w.length < 100) && decide (lw_tbl[q]? = some (.stringRef own k tx))
      | _, _ => false)
    | _, _ => false) = true := by decide +kernel
theorem kt_uni : (List.range 24).all (fun i => (List.range 24).all (fun j => match zt_srs[i]?, zt_srs[j]? with
    | some x, some y => !(Nat.beq x.2.2 y.2.2) || decide (i = j)
    | _, _ => false)) = true := by decide +kernel
theorem kt_n : zt_srs.length = 24 := by decide +kernel
/-- one text of the start -/
theorem k_txt {s : State} {args : Array Value} {A : Nat → Prop} (hf : ∀ c, c ∈ kFl → c.before args s = true) (hts : ∀ w, w ∈ lw_tbl → w.before args s = true) (hA : ∀ a : Nat, a < s.heap.size → ¬ A a) {i : Nat} {own : String} {k t : Nat} (hi : zt_srs[i]? = some (own, k, t)) : ∃ q : Nat × Nat, vk_S 1 [(zt_texts.getD t []).length] [zt_texts.getD t []] (fun _ => q.1) (fun _ => q.2) A s s.heap ∧ ∀ tx, zt_strs[t]? = some tx → vk_R own k tx q.1 s := by
  have hl : i < 24 := by rw [← kt_n]; exact (List.getElem?_eq_some_iff.mp hi).1
  have h := List.all_eq_true.mp kt_pl_ok i (List.mem_range.mpr hl)
  rw [hi] at h
  cases hp : kt_pl[i]? with
  | none => rw [hp] at h; cases h
  | some pq =>
    obtain ⟨p, q⟩ := pq
    rw [hp] at h
    have h : (match (generalizing := false) zt_texts[t]?, zt_strs[t]? with
      | some w, some tx => decide ((kFl.drop p).take (4 + w.length) = kt_word own k w) && decide (w.length < 100) && decide (lw_tbl[q]? = some (.stringRef own k tx))
      | _, _ => false) = true := h
    split at h
    · rename_i w tx hw htx
      rw [Bool.and_eq_true, Bool.and_eq_true] at h
      have h1 := of_decide_eq_true h.1.1
      have h2 := of_decide_eq_true h.1.2
      have h3 := of_decide_eq_true h.2
      have ew : zt_texts.getD t [] = w := by rw [List.getD_eq_getElem?_getD, hw]; rfl
      rw [ew]
      have hm : ∀ c, c ∈ kt_word own k w → c.before args s = true := fun c hc => hf c (List.mem_of_mem_drop (List.mem_of_mem_take (h1 ▸ hc)))
      have hel : ∀ j : Nat, j < w.length → (Cond.eq (.elem (.field (.string own k) "java/lang/String" "value" "[B") (.int (Int32.ofNat j))) (.int (w.getD j 0))).before args s = true := fun j hj => hm _ (by
        refine List.mem_cons_of_mem _ (List.mem_cons_of_mem _ (List.mem_cons_of_mem _ (List.mem_cons_of_mem _ ?_)))
        refine List.mem_of_getElem? (i := j) ?_
        rw [List.getElem?_mapIdx, List.getElem?_eq_getElem hj, List.getD_eq_getElem?_getD, List.getElem?_eq_getElem hj]
        rfl)
      have e1 : ∀ i : Nat, i < 1 → i = 0 := fun i hi => by omega
      obtain ⟨aK, aV, hS, hE⟩ := vk_Sof (N := 1) (tm := fun _ => .string own k) (len := [w.length]) (byt := [w]) (A := A) (args := args) (s := s) (fun i hi => by rw [e1 i hi]; show w.length < _; omega)
        (fun i hi => hm _ List.mem_cons_self) (fun i hi => hm _ (List.mem_cons_of_mem _ List.mem_cons_self)) (fun i hi => hm _ (List.mem_cons_of_mem _ (List.mem_cons_of_mem _ List.mem_cons_self)))
        (fun i hi => by rw [e1 i hi]; exact hm _ (List.mem_cons_of_mem _ (List.mem_cons_of_mem _ (List.mem_cons_of_mem _ List.mem_cons_self)))) (fun i hi j hj => by rw [e1 i hi] at hj ⊢; exact hel j hj) (fun i j hi hj hij => absurd ((e1 i hi).trans (e1 j hj).symm) hij) hA
      refine ⟨(aK 0, aV 0), ⟨fun i hi => ?_, fun i j hi hj _ => (e1 i hi).trans (e1 j hj).symm⟩, fun tx' htx' => ?_⟩
      · have := hS.1 0 (by decide)
        rw [e1 i hi]
        exact this
      · have e9 : tx = tx' := Option.some.inj (htx.symm.trans htx')
        subst e9
        exact vk_R.of (hts _ (List.mem_of_getElem? h3)) (hE 0 (by decide))
    · cases h
/-- the texts of the start -/
theorem k_texts {s : State} {args : Array Value} {A : Nat → Prop} (hf : ∀ c, c ∈ kFl → c.before args s = true) (hts : ∀ w, w ∈ lw_tbl → w.before args s = true) (hA : ∀ a : Nat, a < s.heap.size → ¬ A a) : ∃ ad : Nat → Nat × Nat, (∀ t, t ∈ zt_av → vk_S 1 [(zt_texts.getD t []).length] [zt_texts.getD t []] (fun _ => (ad t).1) (fun _ => (ad t).2) A s s.heap) ∧ ∀ (i : Nat) (own : String) (k t : Nat) (tx : String), zt_srs[i]? = some (own, k, t) → zt_strs[t]? = some tx → vk_R own k tx (ad t).1 s := by
  have h0 : ∀ t : Nat, ∃ q : Nat × Nat, ∀ (i : Nat) (own : String) (k : Nat), zt_srs[i]? = some (own, k, t) → vk_S 1 [(zt_texts.getD t []).length] [zt_texts.getD t []] (fun _ => q.1) (fun _ => q.2) A s s.heap ∧ ∀ tx, zt_strs[t]? = some tx → vk_R own k tx q.1 s := by
    intro t
    by_cases ht : ∃ (i : Nat) (own : String) (k : Nat), zt_srs[i]? = some (own, k, t)
    · obtain ⟨i, own, k, hi⟩ := ht
      obtain ⟨q, hq⟩ := k_txt hf hts hA hi
      refine ⟨q, fun j own' k' hj => ?_⟩
      have hil : i < 24 := by rw [← kt_n]; exact (List.getElem?_eq_some_iff.mp hi).1
      have hjl : j < 24 := by rw [← kt_n]; exact (List.getElem?_eq_some_iff.mp hj).1
      have h := List.all_eq_true.mp (List.all_eq_true.mp kt_uni i (List.mem_range.mpr hil)) j (List.mem_range.mpr hjl)
      rw [hi, hj] at h
      have h : (!(Nat.beq t t) || decide (i = j)) = true := h
      rw [Nat.beq_refl] at h
      have e := of_decide_eq_true h
      subst e
      have e2 := Option.some.inj (hi.symm.trans hj)
      cases e2
      exact hq
    · exact ⟨(0, 0), fun i own k hi => absurd ⟨i, own, k, hi⟩ ht⟩
  obtain ⟨ad, had⟩ := Classical.axiomOfChoice h0
  refine ⟨ad, fun t ht => ?_, fun i own k t tx hi htx => (had t i own k hi).2 tx htx⟩
  obtain ⟨x, hx, hxt⟩ := List.mem_map.mp (show t ∈ zt_srs.map (fun x => x.2.2) from ht)
  obtain ⟨i, hi⟩ := List.mem_iff_getElem?.mp hx
  obtain ⟨own, k, t'⟩ := x
  have hxt : t' = t := hxt
  subst hxt
  exact (had t' i own k hi).1
/-- the classes and the kinds of arrays of the start -/
theorem kt_ins_ok : (List.range 13).all (fun c => match vwCl[c]?, kt_ins[c]? with
    | some Cl, some q => decide (lw_tbl[q]? = some (.instantiable Cl.1 Cl.2.2))
    | _, _ => false) = true := by decide +kernel
theorem k_AT {s : State} {args : Array Value} {ty : FieldType} (h : (Cond.arrayClass ty).before args s = true) : ∃ c : ClassId, ArrOfT s c ty ∧ s.vm.findClass ("[" ++ ty.toString) = some c := by
  obtain ⟨c, k, comp, h1, h2, h3⟩ := Cond.arrayClass_spec h
  exact ⟨c, fun n z => ⟨fun k h => (by cases h), k, h2, comp, h3⟩, h1⟩
theorem k_AO {s : State} {args : Array Value} {C : String} (h : (Cond.arrayOver (.object C)).before args s = true) : ∃ c : ClassId, ArrOfT s c (.object C) ∧ va_RA s c (.object C) := by
  obtain ⟨comp, c, k, h1, -, h2, h3, h4⟩ := Cond.arrayOver_spec h
  exact ⟨c, fun n z => ⟨fun k h => (by cases h), k, h2, comp, h3⟩, k, comp, h2, h3, h1, h4⟩
theorem k_AOA {s : State} {args : Array Value} {ty : FieldType} (h : (Cond.arrayOver (.array ty)).before args s = true) : ∃ c : ClassId, ArrOfT s c (.array ty) ∧ s.vm.findClass ("[" ++ (FieldType.array ty).toString) = some c := by
  obtain ⟨comp, c, k, h1, -, h2, h3, h4⟩ := Jvm.Stand.arrayOver_specB h
  exact ⟨c, fun n z => ⟨fun k h => (by cases h), k, h2, comp, h3⟩, h4⟩
theorem kp_arr : lw_tbl[ka_int]? = some (.arrayClass .int) ∧ lw_tbl[ka_byte]? = some (.arrayClass .byte) ∧ lw_tbl[ka_bool]? = some (.arrayClass .boolean) ∧ lw_tbl[ka_bath]? = some (.arrayOver (.object "BathBoats$Bath")) ∧ lw_tbl[ka_rows]? = some (.arrayOver (.array .int)) := by decide +kernel
theorem k_K {s : State} {args : Array Value} (hts : ∀ w, w ∈ lw_tbl → w.before args s = true) : ∃ (D : va_G) (cA : Nat → ClassId), ∀ adT : zR → Nat, va_K D vwCl (zt_tys (kT D cA adT)) s := by
  have h0 : ∀ c : Nat, ∃ q : ClassId × (Nat → Nat), ∀ Cl : vw_C, vwCl[c]? = some Cl → u_Kn s Cl.1 Cl.2.1 Cl.2.2 q.1 q.2 := by
    intro c
    cases hc : vwCl[c]? with
    | none => exact ⟨(0, fun _ => 0), fun Cl h => nomatch h⟩
    | some Cl =>
      have hl : c < 13 := (List.getElem?_eq_some_iff.mp hc).1
      have h := List.all_eq_true.mp kt_ins_ok c (List.mem_range.mpr hl)
      rw [hc] at h
      have h : (match (generalizing := false) kt_ins[c]? with
        | some q => decide (lw_tbl[q]? = some (.instantiable Cl.1 Cl.2.2))
        | _ => false) = true := by
          cases hq : kt_ins[c]? with
          | none => rw [hq] at h; cases h
          | some q => rw [hq] at h; exact h
      split at h
      · obtain ⟨cC, iS, hK⟩ := u_known (ws := lw_tbl) hts (fun w hw => (zt_lays Cl (List.mem_of_getElem? hc) w hw).1) (hts _ (List.mem_of_getElem? (of_decide_eq_true h)))
        exact ⟨(cC, iS), fun Cl' h' => by cases Option.some.inj h'; exact hK⟩
      · cases h
  obtain ⟨ad, had⟩ := Classical.axiomOfChoice h0
  obtain ⟨b1, b2, b3, b4, b5⟩ := kp_arr
  obtain ⟨c0, h01, h02⟩ := k_AT (hts _ (List.mem_of_getElem? b1))
  obtain ⟨c5, h51, h52⟩ := k_AT (hts _ (List.mem_of_getElem? b2))
  obtain ⟨c6, h61, h62⟩ := k_AT (hts _ (List.mem_of_getElem? b3))
  obtain ⟨c1, h11, h12⟩ := k_AO (hts _ (List.mem_of_getElem? b4))
  obtain ⟨c7, h71, h72⟩ := k_AOA (hts _ (List.mem_of_getElem? b5))
  refine ⟨(fun c => (ad c).1, fun c => (ad c).2), fun i => match i with | 0 => c0 | 1 => c1 | 5 => c5 | 6 => c6 | _ => c7, fun adT => ⟨fun c q hq => had c q hq, fun k q hq => ?_⟩⟩
  match k, hq with
  | 0, hq => cases Option.some.inj hq; exact ⟨h01, h02⟩
  | 1, hq => cases Option.some.inj hq; exact ⟨h11, h12⟩
  | 2, hq => cases Option.some.inj hq; exact ⟨h51, h52⟩
  | 3, hq => cases Option.some.inj hq; exact ⟨h61, h62⟩
  | 4, hq => cases Option.some.inj hq; exact ⟨h71, h72⟩
  | k + 5, hq => exact nomatch (show (none : Option (ClassId × FieldType)) = some q from hq)
def kt_dw (nm : String) (k : Nat) : List Cond := .arrayOf (.static "java/lang/Integer" nm "[B") .byte :: .eq (.length (.static "java/lang/Integer" nm "[B")) (.int 100) :: (List.range 100).map (fun j => .eq (.elem (.static "java/lang/Integer" nm "[B") (.int (Int32.ofNat j))) (.int (zt_dg k j)))
theorem kf_ok : (kFl.drop kf_d1).take 102 = kt_dw "DigitOnes" 0 ∧ (kFl.drop kf_d2).take 102 = kt_dw "DigitTens" 1 ∧ kFl[kf_cs]? = some (.eq (.static "java/lang/String" "COMPACT_STRINGS" "Z") (.int 1)) ∧ kFl[kf_sf]? = some (.isRef (.static "jdk/internal/util/Preconditions" "SIOOBE_FORMATTER" "Ljava/util/function/BiFunction;")) := by decide +kernel
theorem kl_ok : (lw_tbl[kl_d1]? = some (.laysStatic "java/lang/Integer" "DigitOnes" "[B") ∧ lw_tbl[ki_d1]? = some (.initialized "java/lang/Integer")) ∧ (lw_tbl[kl_d2]? = some (.laysStatic "java/lang/Integer" "DigitTens" "[B")) ∧ (lw_tbl[kl_cs]? = some (.laysStatic "java/lang/String" "COMPACT_STRINGS" "Z") ∧ lw_tbl[ki_cs]? = some (.initialized "java/lang/String")) ∧ (lw_tbl[kl_sf]? = some (.laysStatic "jdk/internal/util/Preconditions" "SIOOBE_FORMATTER" "Ljava/util/function/BiFunction;") ∧ lw_tbl[ki_sf]? = some (.initialized "jdk/internal/util/Preconditions")) := by decide +kernel
theorem k_dig {s : State} {args : Array Value} {A : Nat → Prop} {nm : String} {k p : Nat} (hf : ∀ c, c ∈ kFl → c.before args s = true) (hp : (kFl.drop p).take 102 = kt_dw nm k) (hA : ∀ a : Nat, a < s.heap.size → ¬ A a) : ∃ t : Nat, (Term.static "java/lang/Integer" nm "[B").eval args s none [] s = some (.ref t) ∧ va_T .byte t 100 (fun j => .int (zt_dg k j)) A s s.heap := by
  have hm : ∀ c, c ∈ kt_dw nm k → c.before args s = true := fun c hc => hf c (List.mem_of_mem_drop (List.mem_of_mem_take (hp ▸ hc)))
  exact va_Tof (N := 100) (f := fun j => .int (zt_dg k j)) (by decide) (hm _ List.mem_cons_self) (va_eqt (hm _ (List.mem_cons_of_mem _ List.mem_cons_self))) (fun j hj => va_eqt (hm _ (List.mem_cons_of_mem _ (List.mem_cons_of_mem _ (List.mem_map.mpr ⟨j, List.mem_range.mpr hj, rfl⟩))))) hA
/-- the fixed part of the start's world -/
theorem k_F {s : State} {args : Array Value} {D : va_G} {cA : Nat → ClassId} {b L : Nat} {xs : Nat → Int32} (hf : ∀ c, c ∈ kFl → c.before args s = true) (hts : ∀ w, w ∈ lw_tbl → w.before args s = true) (hL : L < 2 ^ 31) (hX : va_X b L xs s s.heap) (hb : b < s.heap.size) : ∃ adT : zR → Nat, adT (5, 0, 0) = b ∧ zw_F (kT D cA adT) (fun _ _ o j => if o = 1 then Int32.ofNat L else xs j, (0, (0, 0))) (fun q => s.heap.size ≤ q) s s.heap := by
  have hA : ∀ a : Nat, a < s.heap.size → ¬ s.heap.size ≤ a := fun a h h2 => absurd (Nat.lt_of_lt_of_le h h2) (Nat.lt_irrefl _)
  obtain ⟨ad, hS, hR⟩ := k_texts hf hts hA
  obtain ⟨f1, f2, f3, f4⟩ := kf_ok
  obtain ⟨⟨l1, i1⟩, l2, ⟨l3, i3⟩, ⟨l4, i4⟩⟩ := kl_ok
  have fl : ∀ {q : Nat} {c : Cond}, kFl[q]? = some c → c.before args s = true := fun h => hf _ (List.mem_of_getElem? h)
  have tb : ∀ {q : Nat} {c : Cond}, lw_tbl[q]? = some c → c.before args s = true := fun h => hts _ (List.mem_of_getElem? h)
  obtain ⟨t1, e1, g1⟩ := k_dig hf f1 hA
  obtain ⟨t2, e2, g2⟩ := k_dig hf f2 hA
  refine ⟨fun r => match r.1 with | 6 => (ad r.2.1).1 | 7 => (ad r.2.1).2 | 9 => (match r.2.1 with | 0 => t1 | _ => t2) | _ => b, rfl, fun w hw hk => zt_keep_warm hk (State.WarmedH.refl s) (hts w hw), fun i own k t tx h1 h2 => hR i own k t tx h1 h2, fun t ht => hS t ht, ⟨L, hL, rfl, hX, hb, hA b hb⟩, ⟨⟨va_Zref (tb l1) (tb i1) e1 hA, g1⟩, va_Zref (tb l2) (tb i1) e2 hA, g2⟩, va_Zof (tb l3) (tb i3) (va_eqt (fl f3)) hA, va_Zqof (tb l4) (tb i4) (fl f4) hA⟩

/-! THE LAW'S LEVEL 7: System.arraycopy of bytes -/
theorem q_tfit : zt_texts.all (fun w => w.all (fun x => decide (x.toInt8.toInt32 = x))) = true := by decide +kernel
theorem qa_cpl_len (xs ys : List Int32) (i j n : Nat) : (qa_cpl xs ys i j n).length = ys.length := List.length_mapIdx
theorem qa_cpl_at (xs ys : List Int32) (i j n k : Nat) : (qa_cpl xs ys i j n)[k]? = (ys[k]?).map (fun y => if j ≤ k ∧ k < j + n then xs.getD (i + (k - j)) 0 else y) := List.getElem?_mapIdx
theorem qa_cpl_get (xs ys : List Int32) (i j n : Nat) (h : j + n ≤ ys.length) : va_cpy (fun k => xs.getD k 0) (fun k => ys.getD k 0) i j n = (fun k => (qa_cpl xs ys i j n).getD k 0) := by
  funext k
  unfold va_cpy
  show _ = (qa_cpl xs ys i j n).getD k 0
  rw [List.getD_eq_getElem?_getD (l := qa_cpl xs ys i j n), qa_cpl_at]
  by_cases hk : k < ys.length
  · rw [List.getElem?_eq_getElem hk]
    show _ = (if j ≤ k ∧ k < j + n then xs.getD (i + (k - j)) 0 else ys[k])
    show (if j ≤ k ∧ k < j + n then xs.getD (i + (k - j)) 0 else ys.getD k 0) = _
    rw [List.getD_eq_getElem?_getD (l := ys), List.getElem?_eq_getElem hk]
    rfl
  · rw [if_neg (by omega)]
    show ys.getD k 0 = _
    rw [List.getD_eq_getElem?_getD, show ys[k]? = none from List.getElem?_eq_none (by omega)]
    rfl
theorem qa_cpl_ok {m : Nat} {xs ys : List Int32} {i j n : Nat} (hx : ∀ x, x ∈ xs → x.toInt8.toInt32 = x) (hy : qc_ok m (.inr (.inl (5, ys)))) : qc_ok m (.inr (.inl (5, qa_cpl xs ys i j n))) := by
  refine ⟨Or.inr (Or.inl rfl), by rw [qa_cpl_len]; exact hy.2.1, fun _ x hm => ?_⟩
  obtain ⟨k, e⟩ := List.mem_iff_getElem?.mp hm
  rw [qa_cpl_at] at e
  obtain ⟨y, hy9, e⟩ := Option.map_eq_some_iff.mp e
  rw [← e]
  split
  · rw [List.getD_eq_getElem?_getD]
    by_cases h9 : i + (k - j) < xs.length
    · rw [List.getElem?_eq_getElem h9]
      exact hx _ (List.getElem_mem h9)
    · rw [List.getElem?_eq_none (by omega)]
      rfl
  · exact hy.2.2 rfl _ (List.mem_of_getElem? hy9)
theorem q_nn {i : Int32} (h : 0 ≤ i) : ¬ i < 0 := fun z => by
  rw [Int32.lt_iff_toInt_lt, Int32.toInt_zero] at z
  rw [Int32.le_iff_toInt_le, Int32.toInt_zero] at h
  omega
section QG
variable {p : Program} {l : Launch} {e : Env} {R : Room} {s : State} {m : MethodId} {args : Array Value} {below : List Frame} {meth : Method} {c : Code} {Q : State → Prop} {G : zG} {T0 : qS} {A : Nat → Prop} {aq0 : Nat → Nat} {own nm : String} {cc : ByteArray} {nL : Nat} {ret : Option FieldType} {cF sF o1 o2 : Nat} {T : qS} {pc : Nat} {lv : zL} {st : List zV}
theorem qJ_setW {c0 c9 : qC} {k pc2 : Nat} {st2 : List zV} (hw : T.2[k]? = some c0) (hc : (∀ v, v ∈ st → qv_ok T.2.length v) → qWf T → qc_ok T.2.length c9) (hsl : qc_sl c9 = qc_sl c0) (kk : qJ2 p l e R s m args below meth c Q G T0 A aq0 nL cF sF o1 o2 (T.1, T.2.set k c9) pc2 lv st2) (hs2 : ∀ v, v ∈ st2 → v ∈ st)
    (hW : ∀ (aq : Nat → Nat) (ls : Array Slot) (H : Heap) (locs : List Loc), lv_has ls nL (zl_pairs (qad G aq) 0 lv) → va_P G.1 vwCl (q_all G aq T.1 T.2) H → va_D A (q_all G aq T.1 T.2) → va_S A s.heap H locs → qWf T → (∀ v, v ∈ st → qv_ok T.2.length v) → (∀ (H1 : Heap) (locs1 : List Loc), va_P G.1 vwCl ((q_all G aq T.1 T.2).set (zt_all.length + k) (aq k, q_el G (qad G aq) c9)) H1 → va_D A ((q_all G aq T.1 T.2).set (zt_all.length + k) (aq k, q_el G (qad G aq) c9)) → va_S A s.heap H1 locs1 → W p l e R s m args below meth c H1 locs1 (T.2.length - T0.2.length + o1) (q_sl T.2 - q_sl T0.2 + o2) Q (F0 m pc2 ls (st2.map (zc (qad G aq))))) → W p l e R s m args below meth c H locs (T.2.length - T0.2.length + o1) (q_sl T.2 - q_sl T0.2 + o2) Q (F0 m pc ls (st.map (zc (qad G aq))))) : qJ2 p l e R s m args below meth c Q G T0 A aq0 nL cF sF o1 o2 T pc lv st := by
  obtain ⟨⟨k1, k2⟩, kk⟩ := kk
  have hlen : (T.2.set k c9).length = T.2.length := List.length_set
  have hnsl := q_sl_set T.2 k c9 c0 hw hsl
  rw [hlen] at k1
  rw [hnsl] at k2
  refine ⟨⟨k1, k2⟩, fun aq ls H locs ha hl hP hD hS h5 hs hv => hW aq ls H locs hl hP hD hS h5.2.2.2 hs (fun H1 locs1 hP1 hD1 hS1 => ?_)⟩
  rw [q_all_set] at hP1 hD1
  have res := kk aq ls H1 locs1 ha hl hP1 hD1 hS1 ⟨h5.1, by rw [hlen]; exact h5.2.1, by rw [hnsl]; exact h5.2.2.1, fun x hx => by
    show qc_ok (T.2.set k c9).length x
    rw [hlen]
    rcases List.mem_or_eq_of_mem_set hx with h | h
    · exact h5.2.2.2 x h
    · rw [h]; exact hc hs h5.2.2.2⟩ (fun v h => by rw [hlen]; exact hs v (hs2 v h)) (fun j v h => by rw [hlen]; exact hv j v h)
  rw [hlen, hnsl] at res
  exact res
theorem qJ_copy (X : qX p s m meth c G T0 A own nm cc nL ret) {ix q9 : Nat} {r q : zR} {i j n : Int32} {nx : qS → Option qO} {out : qO} (hR : qRm R T0 cF sF o1 o2) (hw : zx_wd (zi n :: zi j :: .inr (.inl (some q)) :: zi i :: .inr (.inl (some r)) :: st) ≤ 13) (hdg : decode cc pc = .ok (.invokestatic ix, 3)) (hq : lw_tbl[q9]? = some (.methodLink own ix arraycopyName)) (h : qa_copy r q i j n T nx = some out) (kk : ∀ T', nx T' = some out → qJ2 p l e R s m args below meth c Q G T0 A aq0 nL cF sF o1 o2 T' (pc + 3) lv st) : qJ2 p l e R s m args below meth c Q G T0 A aq0 nL cF sF o1 o2 T pc lv (zi n :: zi j :: .inr (.inl (some q)) :: zi i :: .inr (.inl (some r)) :: st) := by
  unfold qa_copy at h
  split at h
  · rename_i h8q
    split at h
    · rename_i ys hys
      obtain ⟨xs, hxs, h⟩ := Option.bind_eq_some_iff.mp h
      split at h
      · rename_i hij
        obtain ⟨hi, hj, hn, hix, hjy⟩ := hij
        have hi := q_nn hi
        have hj := q_nn hj
        have hn := q_nn hn
        rw [zx_nth_get] at hys
        have hw2 : ∀ ad, (((st.map (zc ad)).map fun v => v.category).sum) ≤ 13 := fun ad => by
          rw [zx_wd_sum]
          exact Nat.le_trans (Nat.le_trans zx_wd_tl (Nat.le_trans zx_wd_tl2 zx_wd_tl2)) hw
        have hnf : nativeFrameWords "java/lang/System" "arraycopy" 5 ≤ 100 := by decide +kernel
        obtain ⟨-, r3, r4⟩ := hR
        have e2 : ∀ aq, q_el G (qad G aq) (.inr (.inl (5, qa_cpl xs ys i.toNatClampNeg j.toNatClampNeg n.toNatClampNeg))) = .inl (G.2.1 5, ys.length, .inl (va_cpy (fun k => xs.getD k 0) (fun k => ys.getD k 0) i.toNatClampNeg j.toNatClampNeg n.toNatClampNeg)) := fun aq => by
          rw [qa_cpl_get xs ys _ _ _ hjy]
          show Sum.inl (G.2.1 5, (qa_cpl xs ys _ _ _).length, _) = _
          rw [qa_cpl_len]
        have fit : (∀ x, x ∈ xs → x.toInt8.toInt32 = x) → ∀ k : Nat, k < n.toNatClampNeg → fits .byte (.int (xs.getD (i.toNatClampNeg + k) 0)) = true := fun hx k hk => by
          have hm : xs.getD (i.toNatClampNeg + k) 0 ∈ xs := by
            rw [List.getD_eq_getElem?_getD, List.getElem?_eq_getElem (by omega)]
            exact List.getElem_mem _
          rw [← hx _ hm]
          exact pk_fb _
        split at hxs
        · rename_i h7r
          rw [zx_nth_get] at hxs
          have hx : ∀ x, x ∈ xs → x.toInt8.toInt32 = x := fun x hm => of_decide_eq_true (List.all_eq_true.mp (List.all_eq_true.mp q_tfit xs (List.mem_of_getElem? hxs)) x hm)
          refine qJ_setW (c9 := .inr (.inl (5, qa_cpl xs ys i.toNatClampNeg j.toNatClampNeg n.toNatClampNeg))) hys (fun _ hwf => qa_cpl_ok hx (hwf _ (List.mem_of_getElem? hys))) (qa_cpl_len _ _ _ _ _) (kk _ h) (fun v h => List.mem_cons_of_mem _ (List.mem_cons_of_mem _ (List.mem_cons_of_mem _ (List.mem_cons_of_mem _ (List.mem_cons_of_mem _ h))))) (fun aq ls H locs hl hP hD hS hwf hs K => ?_)
          obtain ⟨hrq, hkq⟩ := qr_8 (qv_hd (qv_tl (qv_tl hs))) h8q
          obtain ⟨a, b, c0⟩ := q
          cases hrq
          obtain ⟨a7, b7, c7⟩ := r
          have h7a : a7 = 7 := h7r
          subst h7a
          obtain ⟨rfl, hb⟩ := qr_67 (qv_hd (qv_tl (qv_tl (qv_tl (qv_tl hs))))) (Or.inr rfl)
          obtain ⟨-, -, hT, -⟩ := X.2.2.2.2.2.1
          have hlen : ([(zt_texts.getD b7 []).length] : List Nat).getD 0 0 = xs.length := by show (zt_texts.getD b7 []).length = _; rw [List.getD_eq_getElem?_getD, hxs]; rfl
          have hfun : (fun j => Value.int (([zt_texts.getD b7 []] : List (List Int32)).getD 0 [] |>.getD j 0)) = (fun j => Value.int (xs.getD j 0)) := by
            show (fun j => Value.int ((zt_texts.getD b7 []).getD j 0)) = _
            rw [List.getD_eq_getElem?_getD (l := zt_texts), hxs]
            rfl
          have hTb := ((hT b7 hb).1 0 (by decide)).2.2.2
          rw [hlen, hfun] at hTb
          rw [e2] at K
          exact vk_copyt X.1 X.2.1 (by rw [X.2.2.1, hl.1]) X.2.2.2.1 (zw_use X.2.2.2.2.2.1.1 hq rfl) (zw_use X.2.2.2.2.2.1.1 (p := zp_copy_native) (by decide +kernel) rfl) (zw_use X.2.2.2.2.2.1.1 (p := zp_copy_static) (by decide +kernel) rfl) (zw_use X.2.2.2.2.2.1.1 (p := zp_sys_init) (by decide +kernel) rfl) X.2.2.2.2.1 hP hD hS hTb _ 2 (q_all_at (G := G) (aq := aq) (S := T.1) hys) rfl hi hj hn hix hjy (fit hx) (by omega) (by have := hw2 (qad G aq); omega) hdg K
        · rename_i h8r
          split at hxs
          · rename_i xs9 hx9
            have e9 := Option.some.inj hxs
            subst e9
            rw [zx_nth_get] at hx9
            refine qJ_setW (c9 := .inr (.inl (5, qa_cpl xs9 ys i.toNatClampNeg j.toNatClampNeg n.toNatClampNeg))) hys (fun _ hwf => qa_cpl_ok ((hwf _ (List.mem_of_getElem? hx9)).2.2 rfl) (hwf _ (List.mem_of_getElem? hys))) (qa_cpl_len _ _ _ _ _) (kk _ h) (fun v h => List.mem_cons_of_mem _ (List.mem_cons_of_mem _ (List.mem_cons_of_mem _ (List.mem_cons_of_mem _ (List.mem_cons_of_mem _ h))))) (fun aq ls H locs hl hP hD hS hwf hs K => ?_)
            obtain ⟨hrq, hkq⟩ := qr_8 (qv_hd (qv_tl (qv_tl hs))) h8q
            obtain ⟨a, b, c0⟩ := q
            cases hrq
            obtain ⟨hrr, hkr⟩ := qr_8 (qv_hd (qv_tl (qv_tl (qv_tl (qv_tl hs))))) h8r
            obtain ⟨a, b7, c0⟩ := r
            cases hrr
            rw [e2] at K
            exact va_copyi X.1 X.2.1 (by rw [X.2.2.1, hl.1]) X.2.2.2.1 (zw_use X.2.2.2.2.2.1.1 hq rfl) (zw_use X.2.2.2.2.2.1.1 (p := zp_copy_native) (by decide +kernel) rfl) (zw_use X.2.2.2.2.2.1.1 (p := zp_copy_static) (by decide +kernel) rfl) (zw_use X.2.2.2.2.2.1.1 (p := zp_sys_init) (by decide +kernel) rfl) X.2.2.2.2.1 hP hD hS _ _ 2 2 (q_all_at (G := G) (aq := aq) (S := T.1) hx9) (q_all_at (G := G) (aq := aq) (S := T.1) hys) (q_tys G).2.1 (q_tys G).2.1 rfl hi hj hn hix hjy (fit ((hwf _ (List.mem_of_getElem? hx9)).2.2 rfl)) (by omega) (by have := hw2 (qad G aq); omega) hdg K
          · exact nomatch hxs
        · exact nomatch hxs
      · exact nomatch h
    · exact nomatch h
  · exact nomatch h
end QG

/-! THE LAW'S PURE SIDE 3: the text builder grows; a text is appended -/
theorem qsl_app (S : zS) (w : qW) (c : qC) : q_sl (S, w ++ [c]).2 = q_sl w + qc_sl c := by
  show q_sl (w ++ [c]) = _
  rw [q_sl_app, q_sl_one]
theorem q_rep_take (n : Nat) (xs : List Int32) : qa_cpl xs (List.replicate n 0) 0 0 xs.length = (List.replicate n (0 : Int32)).mapIdx (fun k y => if k < xs.length then xs.getD k 0 else y) := by
  unfold qa_cpl
  congr 1
  funext k y
  by_cases h : k < xs.length
  · rw [if_pos ⟨Nat.zero_le _, by omega⟩, if_pos h, Nat.zero_add, Nat.sub_zero]
  · rw [if_neg (by omega), if_neg h]
theorem qa_cpl_pre (xs ys : List Int32) (h : xs.length ≤ ys.length) : ∃ r, qa_cpl xs ys 0 0 xs.length = xs ++ r := by
  refine ⟨ys.drop xs.length, List.ext_getElem? (fun k => ?_)⟩
  rw [qa_cpl_at]
  by_cases hk : k < xs.length
  · rw [List.getElem?_append_left hk, List.getElem?_eq_getElem (by omega : k < ys.length), List.getElem?_eq_getElem hk]
    show some (if 0 ≤ k ∧ k < 0 + xs.length then xs.getD (0 + (k - 0)) 0 else ys[k]) = some xs[k]
    rw [if_pos ⟨Nat.zero_le _, by omega⟩, Nat.zero_add, Nat.sub_zero, List.getD_eq_getElem?_getD, List.getElem?_eq_getElem hk]
    rfl
  · rw [List.getElem?_append_right (by omega), List.getElem?_drop, show xs.length + (k - xs.length) = k by omega]
    cases hy : ys[k]? with
    | none => rfl
    | some y =>
      show some (if 0 ≤ k ∧ k < 0 + xs.length then xs.getD (0 + (k - 0)) 0 else y) = some y
      rw [if_neg (by omega)]
/-- a text laid into an array behind w -/
theorem qa_cpl_mid (xs w r : List Int32) (h : xs.length ≤ r.length) : qa_cpl xs (w ++ r) 0 w.length xs.length = w ++ (xs ++ r.drop xs.length) := by
  refine List.ext_getElem? (fun k => ?_)
  rw [qa_cpl_at]
  by_cases hk : k < w.length
  · rw [List.getElem?_append_left hk, List.getElem?_append_left hk, List.getElem?_eq_getElem hk]
    show some (if w.length ≤ k ∧ _ then _ else w[k]) = _
    rw [if_neg (by omega)]
  · rw [List.getElem?_append_right (by omega), List.getElem?_append_right (by omega)]
    by_cases h2 : k - w.length < xs.length
    · rw [List.getElem?_append_left h2, List.getElem?_eq_getElem (by omega : k - w.length < r.length), List.getElem?_eq_getElem h2]
      show some (if w.length ≤ k ∧ k < w.length + xs.length then xs.getD (0 + (k - w.length)) 0 else _) = _
      rw [if_pos ⟨by omega, by omega⟩, Nat.zero_add, List.getD_eq_getElem?_getD, List.getElem?_eq_getElem h2]
      rfl
    · rw [List.getElem?_append_right (by omega), List.getElem?_drop, show xs.length + (k - w.length - xs.length) = k - w.length by omega]
      cases hy : r[k - w.length]? with
      | none => rfl
      | some y =>
        show some (if w.length ≤ k ∧ k < w.length + xs.length then xs.getD (0 + (k - w.length)) 0 else y) = some y
        rw [if_neg (by omega)]
section JE
variable {T : qS} {d k j t : Nat} {w bs tx : List Int32}
/-- Arrays.copyOf, to a longer one -/
theorem Q29 (h : zx_nth T.2 j = some (.inr (.inl (5, bs)))) (hb : bs.length ≤ 3000) {n : Int} (h1 : bs.length < n) (h2 : n ≤ 3000) : q_sem zF (d + 1) 29 [za 8 j 0, zi (zo n)] T = some (some (za 8 T.2.length 0), (T.1, ((T.2 ++ [(.inr (.inl (5, List.replicate n.toNat 0)) : qC)]) : qW).set T.2.length (.inr (.inl (5, qa_cpl bs (List.replicate n.toNat 0) 0 0 bs.length))))) := by
  rw [qn_29_8io, qe_29_0_8io__23, qp_len h, qp_on, if_neg (by rw [zo_eq (by omega) (by omega) (by omega) (by omega)]; omega), qp_new (by omega) (by omega), qe_29_17_8io_8_17, qp_len (qn_app h), qp_on, zmin_o (by omega) (by omega) (by omega) (by omega), if_neg (by omega)]
  rw [qp_copy (qn_last T.2 _) (qn_app h) (by omega) (by omega) (by omega) (by omega) (by rw [List.length_replicate]; omega) (by omega) (by rw [List.length_replicate]; omega)]
  rfl
/-- ensureCapacityInternal -/
theorem Q2 (h : SB T k j w bs) {m : Int} (h1 : w.length ≤ m) (h2 : m ≤ 1000) : ∃ T' j' bs', q_sem zF (d + 3) 2 [za 8 k 0, zi (zo m)] T = some (none, T') ∧ SB T' k j' w bs' ∧ m ≤ bs'.length ∧ SBF T T' k j j' 1 := by
  have hb := h.2.2.2.1
  rw [qn_2_8io, qe_2_0_8io__24, qp_get h.1 rfl, qe_2_4_8io_8_22, qp_len h.2.1, qp_get h.1 rfl, qe_2_9_8io_ii_19, sh_r, qp_on, zo_sub]
  by_cases hm : m ≤ bs.length
  · rw [if_pos (by rw [zo_le (by omega) (by omega) (by omega) (by omega)]; omega)]
    exact ⟨T, j, bs, rfl, h, hm, (SBF.rf T k j).up (by omega)⟩
  · rw [if_neg (by rw [zo_le (by omega) (by omega) (by omega) (by omega)]; omega), qp_get h.1 rfl, qe_2_22_8ii_88_10, qp_rc h.1, qr_1 (Q3 h (by omega) (by omega)), qe_2_27_8ii_i88_7, qp_get h.1 rfl, qe_2_31_8ii_ii88_5, sh_l]
    have hm2 : (bs.length : Int) < (bs.length : Int) + (if m - bs.length < (bs.length : Int) + 2 then (bs.length : Int) + 2 else m - bs.length) ∧ (bs.length : Int) + (if m - bs.length < (bs.length : Int) + 2 then (bs.length : Int) + 2 else m - bs.length) ≤ 2010 ∧ m ≤ (bs.length : Int) + (if m - bs.length < (bs.length : Int) + 2 then (bs.length : Int) + 2 else m - bs.length) := by split <;> omega
    generalize (bs.length : Int) + (if m - bs.length < (bs.length : Int) + 2 then (bs.length : Int) + 2 else m - bs.length) = y at hm2 ⊢
    obtain ⟨y1, y2, y3⟩ := hm2
    rw [qr_r (Q29 h.2.1 hb y1 (by omega)), qe_2_35_8ii_88_3]
    have hkl := qn_lt h.1
    have hkn : zx_nth (((T.2 ++ [(.inr (.inl (5, List.replicate y.toNat 0)) : qC)]) : qW).set T.2.length (.inr (.inl (5, qa_cpl bs (List.replicate y.toNat 0) 0 0 bs.length)))) k = some (.inl (11, [za 8 j 0, zi (zo 0), zi (zo 0), zi (zo (w.length : Int))])) := by
      rw [qn_ne (by omega)]
      exact qn_app h.1
    rw [qp_put hkn (by show 0 < 4; decide) rfl]
    obtain ⟨r0, er⟩ := h.2.2.1
    obtain ⟨r1, er1⟩ := qa_cpl_pre bs (List.replicate y.toNat 0) (by rw [List.length_replicate]; omega)
    refine ⟨_, T.2.length, qa_cpl bs (List.replicate y.toNat 0) 0 0 bs.length, rfl, ⟨qn_eq hkn, ?_, ⟨r0 ++ r1, by rw [er1, er, List.append_assoc]⟩, by rw [qa_cpl_len, List.length_replicate]; omega, by omega⟩, by rw [qa_cpl_len, List.length_replicate]; omega, rfl, ?_, ?_, ?_, Or.inr (Nat.le_refl _), fun i c hik hij hi => ?_⟩
    · show zx_nth (List.set _ k _) T.2.length = _
      rw [qn_ne (by omega)]
      exact qn_eq (qn_last T.2 _)
    · show T.2.length ≤ (List.set _ k _).length
      rw [List.length_set, List.length_set, List.length_append]
      exact Nat.le_add_right _ _
    · show (List.set _ k _).length ≤ _
      rw [List.length_set, List.length_set, List.length_append]
      exact Nat.le_refl _
    · have hkn9 := hkn
      rw [zx_nth_get] at hkn9
      have hl9 := qn_last T.2 (.inr (.inl (5, List.replicate y.toNat 0)))
      rw [zx_nth_get] at hl9
      refine Nat.le_trans (Nat.le_of_eq (q_sl_set _ k _ _ hkn9 rfl)) ?_
      refine Nat.le_trans (Nat.le_of_eq (q_sl_set _ _ _ _ hl9 (by show (qa_cpl _ _ _ _ _).length = (List.replicate _ _).length; rw [qa_cpl_len]))) ?_
      rw [q_sl_app, q_sl_one]
      show q_sl T.2 + (List.replicate y.toNat (0 : Int32)).length ≤ _
      rw [List.length_replicate]
      omega
    · have hl := qn_lt hi
      show zx_nth (List.set _ k _) i = _
      rw [qn_ne (by omega), qn_ne (by omega)]
      exact qn_app hi
/-- inflateIfNeededFor -/
theorem Q9 (h : SB T k j w bs) : q_sem zF (d + 2) 9 [za 8 k 0, za 6 t 0] T = some (none, T) := by
  rw [qn_9_86, qe_9_0_86__11, qp_get h.1 rfl, qe_9_10_86_i_7, qr_1 Q18, qe_9_14_86_ii_5, if_pos rfl]
/-- String.getBytes, of a text -/
theorem Q16 (h : zx_nth T.2 j = some (.inr (.inl (5, bs)))) (ht : zx_nth zt_texts t = some tx) {i : Nat} (hi : i + tx.length ≤ bs.length) (hb : bs.length ≤ 3000) : q_sem zF (d + 2) 16 [za 6 t 0, za 8 j 0, zi (zo (i : Int)), zi (zo 0)] T = some (none, (T.1, T.2.set j (.inr (.inl (5, qa_cpl tx bs 0 i tx.length))))) := by
  rw [qn_16_68ii, qe_16_0_68ii__27, qr_1 Q18, qe_16_4_68ii_i_25, if_pos rfl, qp_lent ht, qp_on, sh_l, qp_copyt h ht (by omega) (by omega) (by omega) (by omega) (by omega) (by omega) (by omega)]
  rfl
/-- putStringAt -/
theorem Q10 (h : SB T k j w bs) (ht : zx_nth zt_texts t = some tx) (hi : w.length + tx.length ≤ bs.length) : q_sem zF (d + 3) 10 [za 8 k 0, zi (zo (w.length : Int)), za 6 t 0] T = some (none, (T.1, T.2.set j (.inr (.inl (5, qa_cpl tx bs 0 w.length tx.length))))) := by
  rw [qn_10_8i6, qe_10_0_8i6__12, qp_rc h.1, qr_0 (Q9 h), qe_10_5_8i6__9, qp_get h.1 rfl, qe_10_10_8i6_86_6, qp_get h.1 rfl, qe_10_15_8i6_ii86_3, qr_0 (Q16 h.2.1 ht hi h.2.2.2.1), qe_10_18_8i6__2]
/-- AbstractStringBuilder.append(String), of a text -/
theorem Q4 (h : SB T k j w bs) (ht : zx_nth zt_texts t = some tx) (hm : w.length + tx.length ≤ 1000) : ∃ T' j' bs', q_sem zF (d + 4) 4 [za 8 k 0, za 6 t 0] T = some (some (za 8 k 0), T') ∧ SB T' k j' (w ++ tx) bs' ∧ SBF T T' k j j' 1 := by
  obtain ⟨T1, j1, bs1, e1, h1, hl, f1⟩ := Q2 (d := d) (m := ((w.length + tx.length : Nat) : Int)) h (by omega) (by omega)
  rw [qn_4_86o, qe_4_0_86o__25, qr_1 (Q14 ht), qe_4_13_86o_i_21, qp_get h.1 rfl, qe_4_19_86i_i8_17, qp_rc h.1, zo_add, show (w.length : Int) + (tx.length : Int) = ((w.length + tx.length : Nat) : Int) by omega, qr_0 e1, qe_4_24_86i__14, qp_get h1.1 rfl, qe_4_29_86i_i8_11, qp_rc h1.1, qr_0 (Q10 h1 ht (by omega)), qe_4_33_86i__9]
  have hk2 : zx_nth (T1.2.set j1 (.inr (.inl (5, qa_cpl tx bs1 0 w.length tx.length)))) k = some (.inl (11, [za 8 j1 0, zi (zo 0), zi (zo 0), zi (zo (w.length : Int))])) := by
    rw [qn_ne (Ne.symm h1.2.2.2.2)]
    exact h1.1
  rw [qp_get hk2 rfl, qe_4_38_86i_i8_6, qp_put hk2 (by show 3 < 4; decide) rfl, zo_add]
  obtain ⟨r, er⟩ := h1.2.2.1
  have hrl : tx.length ≤ r.length := by
    have := congrArg List.length er
    rw [List.length_append] at this
    omega
  have hj9 := h1.2.1
  rw [zx_nth_get] at hj9
  have hk9 := hk2
  rw [zx_nth_get] at hk9
  refine ⟨_, j1, qa_cpl tx bs1 0 w.length tx.length, rfl, ⟨?_, ?_, ⟨r.drop tx.length, by rw [er, qa_cpl_mid _ _ _ hrl, List.append_assoc]⟩, by rw [qa_cpl_len]; exact h1.2.2.2.1, h1.2.2.2.2⟩, f1.1, ?_, ?_, ?_, f1.2.2.2.2.1, fun i c hik hij hi => ?_⟩
  · show zx_nth (List.set _ k _) k = _
    rw [qn_eq hk2, List.length_append, show (w.length : Int) + (tx.length : Int) = ((w.length + tx.length : Nat) : Int) by omega]
    rfl
  · show zx_nth (List.set _ k _) j1 = _
    rw [qn_ne h1.2.2.2.2]
    exact qn_eq h1.2.1
  · show _ ≤ (List.set _ k _).length
    rw [List.length_set, List.length_set]
    exact f1.2.1
  · show (List.set _ k _).length ≤ _
    rw [List.length_set, List.length_set]
    exact f1.2.2.1
  · refine Nat.le_trans (Nat.le_of_eq (q_sl_set _ k _ _ hk9 rfl)) ?_
    refine Nat.le_trans (Nat.le_of_eq (q_sl_set _ _ _ _ hj9 (by show (qa_cpl _ _ _ _ _).length = bs1.length; exact qa_cpl_len _ _ _ _ _))) ?_
    exact f1.2.2.2.1
  · have h9 := f1.2.2.2.2.2 i c hik hij hi
    have hl9 := qn_lt hi
    have hij1 : i ≠ j1 := by
      rcases f1.2.2.2.2.1 with e | e
      · rw [e]; exact hij
      · omega
    show zx_nth (List.set _ k _) i = _
    rw [qn_ne (Ne.symm hik), qn_ne (Ne.symm hij1)]
    exact h9
end JE

/-! THE LAW'S PURE SIDE 7: a text is made, and read -/
theorem qa_cpl_all (w r : List Int32) (n : Nat) (hn : n = w.length) : qa_cpl (w ++ r) (List.replicate n 0) 0 0 n = w := by
  refine List.ext_getElem? (fun k => ?_)
  rw [qa_cpl_at, List.getElem?_replicate]
  by_cases hk : k < n
  · rw [if_pos hk]
    show some (if 0 ≤ k ∧ k < 0 + n then (w ++ r).getD (0 + (k - 0)) 0 else 0) = _
    rw [if_pos ⟨Nat.zero_le _, by omega⟩, Nat.zero_add, Nat.sub_zero, List.getD_eq_getElem?_getD, List.getElem?_append_left (by omega), List.getElem?_eq_getElem (by omega)]
    rfl
  · rw [if_neg hk, List.getElem?_eq_none (by omega)]
    rfl
section JI
variable {T : qS} {d k j t : Nat} {w bs tx : List Int32}
theorem Q7 (h : SB T k j w bs) : q_sem zF (d + 1) 7 [za 8 k 0] T = some (some (za 8 j 0), T) := by
  rw [qn_7_8, qe_7_0_8__4, qp_get h.1 rfl, qe_7_4_8_8_2]
theorem Q26 (h : SB T k j w bs) : q_sem zF (d + 2) 26 [za 8 k 0] T = some (some (zi (zo (w.length : Int))), T) := by
  have e : q_sem zF (d + 1) 1 [za 8 k 0] T = some (some (zi (zo (w.length : Int))), T) := by
    rw [qn_1_8, qe_1_0_8__4, qp_get h.1 rfl, qe_1_4_8_i_2]
  rw [qn_26_8, qe_26_0_8__4, qp_rc h.1, qr_1 e, qe_26_4_8_i_2]
theorem Q30 {a b : Int} (h0 : 0 ≤ a) (h1 : a ≤ b) (h2 : b ≤ 10000) : q_sem zF (d + 1) 30 [zi (zo a), zi (zo b)] T = some (none, T) := by
  rw [qn_30_ii, qe_30_0_ii__6, if_pos (by rw [zo_le (by omega) (by omega) (by omega) (by omega)]; exact h1)]
theorem Q32 {r : List Int32} (h : zx_nth T.2 j = some (.inr (.inl (5, w ++ r)))) (hl : (w ++ r).length ≤ 3000) : q_sem zF (d + 2) 32 [za 8 j 0, zi (zo 0), zi (zo (w.length : Int))] T = some (some (za 8 T.2.length 0), (T.1, T.2 ++ [.inr (.inl (5, w))])) := by
  have e9 : (w ++ r).length = w.length + r.length := List.length_append
  rw [qn_32_8iioo, qe_32_0_8iioo__24, qr_0 (Q30 (by omega) (by omega) (by omega)), qe_32_5_8iioo__21, zo_sub, Int.sub_zero, qp_new (by omega) (by omega), qe_32_12_8iiio_8_15, qp_len (qn_app h), qp_on, zo_sub, Int.sub_zero, zmin_o (by omega) (by omega) (by omega) (by omega)]
  have hm : (if (w.length : Int) < ((w ++ r).length : Int) then (w.length : Int) else ((w ++ r).length : Int)) = (w.length : Int) := by
    split
    · rfl
    · omega
  rw [hm, qp_copy (qn_last T.2 _) (qn_app h) (by omega) (by omega) (by omega) (by omega) (by rw [List.length_replicate]; omega) (by omega) (by rw [List.length_replicate]; omega)]
  have e5 : qa_cpl (w ++ r) (List.replicate (w.length : Int).toNat 0) (0 : Int).toNat (0 : Int).toNat (w.length : Int).toNat = w := qa_cpl_all w r _ (by omega)
  rw [e5]
  have e6 : ((T.2 ++ [(.inr (.inl (5, List.replicate (w.length : Int).toNat 0)) : qC)]) : qW).set T.2.length (.inr (.inl (5, w))) = T.2 ++ [.inr (.inl (5, w))] := by
    have := List.set_append_right (s := T.2) (t := [(.inr (.inl (5, List.replicate (w.length : Int).toNat 0)) : qC)]) T.2.length (.inr (.inl (5, w)) : qC) (Nat.le_refl _)
    rw [this, Nat.sub_self]
    rfl
  exact congrArg (fun q => (some (some (za 8 T.2.length 0), (T.1, q)) : Option qO)) e6
/-- Arrays.copyOfRange from 0: what it gives is an array of these bytes, made at the end -/
theorem Q31 {r : List Int32} (h : zx_nth T.2 j = some (.inr (.inl (5, w ++ r)))) (hl : (w ++ r).length ≤ 3000) : q_sem zF (d + 3) 31 [za 8 j 0, zi (zo 0), zi (zo (w.length : Int))] T = some (some (za 8 T.2.length 0), (T.1, T.2 ++ [.inr (.inl (5, w))])) := by
  have e9 : (w ++ r).length = w.length + r.length := List.length_append
  rw [qn_31_8ii, qe_31_0_8ii__16, if_pos rfl, qp_len h, qp_on]
  by_cases c : r = []
  · subst c
    rw [List.append_nil] at h ⊢
    rw [if_pos rfl, qp_cl h]
    exact qp_cast (qn_last T.2 _)
  · have hr : 0 < r.length := by cases r with
      | nil => exact absurd rfl c
      | cons y r => exact Nat.succ_pos _
    rw [if_neg (by rw [zo_eq (by omega) (by omega) (by omega) (by omega)]; omega), qr_r (Q32 h hl), qe_31_16_8ii_8_6]
/-- StringBuilder.toString -/
theorem Q24 (h : SB T k j w bs) (hw : w.length ≤ 1000) : ∃ T' k' j', q_sem zF (d + 6) 24 [za 8 k 0] T = some (some (za 8 k' 0), T') ∧ ST T' k' j' w ∧ NF T T' 2 ∧ T.2.length ≤ k' ∧ T.2.length ≤ j' := by
  obtain ⟨r, er⟩ := h.2.2.1
  have hb := h.2.2.2.1
  have hk1 : zx_nth (T.2 ++ [.inl (12, [zn, zi (zo 0), zi (zo 0), zi (zo 0)])]) T.2.length = some (.inl (12, [zn, zi (zo 0), zi (zo 0), zi (zo 0)])) := qn_last _ _
  have g1 : SB (T.1, T.2 ++ [.inl (12, [zn, zi (zo 0), zi (zo 0), zi (zo 0)])]) k j w bs := ⟨qn_app h.1, qn_app h.2.1, h.2.2⟩
  have n1 := NF.push T (.inl (12, [zn, zi (zo 0), zi (zo 0), zi (zo 0)])) (by show 4 ≤ 3000; decide)
  have n2 := n1.set (c := .inl (12, [zn, zi (zo 0), zi (zo 0), zi (zo 0)])) (Nat.le_refl _) hk1 rfl
  have hk2 : zx_nth ((T.2 ++ [(.inl (12, [zn, zi (zo 0), zi (zo 0), zi (zo 0)]) : qC)] : qW).set T.2.length (.inl (12, [zn, zi (zo 0), zi (zo 0), zi (zo 0)]))) T.2.length = some (.inl (12, [zn, zi (zo 0), zi (zo 0), zi (zo 0)])) := qn_eq hk1
  have hj2 : zx_nth ((T.2 ++ [(.inl (12, [zn, zi (zo 0), zi (zo 0), zi (zo 0)]) : qC)] : qW).set T.2.length (.inl (12, [zn, zi (zo 0), zi (zo 0), zi (zo 0)]))) j = some (.inr (.inl (5, w ++ r))) := by
    have := qn_lt h.2.1
    rw [qn_ne (by omega), ← er]
    exact qn_app h.2.1
  have hlen : ((T.2 ++ [(.inl (12, [zn, zi (zo 0), zi (zo 0), zi (zo 0)]) : qC)] : qW).set T.2.length (.inl (12, [zn, zi (zo 0), zi (zo 0), zi (zo 0)]))).length = T.2.length + 1 := by
    rw [List.length_set, List.length_append]
    rfl
  have h31 := Q31 (d := d) (T := (T.1, (T.2 ++ [(.inl (12, [zn, zi (zo 0), zi (zo 0), zi (zo 0)]) : qC)] : qW).set T.2.length (.inl (12, [zn, zi (zo 0), zi (zo 0), zi (zo 0)])))) hj2 (by rw [← er]; exact hb)
  have e17 : q_sem zF (d + 4) 17 [za 8 T.2.length 0, za 8 k 0, zn] (T.1, T.2 ++ [.inl (12, [zn, zi (zo 0), zi (zo 0), zi (zo 0)])]) = some (none, (T.1, (((T.2 ++ [(.inl (12, [zn, zi (zo 0), zi (zo 0), zi (zo 0)]) : qC)] : qW).set T.2.length (.inl (12, [zn, zi (zo 0), zi (zo 0), zi (zo 0)]))) ++ [(.inr (.inl (5, w)) : qC)] : qW).set T.2.length (.inl (12, [za 8 (T.2.length + 1) 0, zi (zo 0), zi (zo 0), zi (zo 0)])))) := by
    rw [qn_17_88noo, qe_17_0_88noo__44, qp_rc g1.1, qr_r (Q7 g1), qe_17_8_88noo_8_40, qp_rc g1.1, qr_1 (Q26 g1), qe_17_13_88n8o_i_37, qp_rc g1.1, qr_1 (Q8 g1), qe_17_19_88n8i_i_34, if_neg zo_1, qp_put hk1 (by show 1 < 4; decide) rfl]
    refine (qr_r h31).trans ?_
    refine (qe_17_35_88n8i_88_25).trans ?_
    refine (qp_put (qn_app hk2) (by show 0 < 4; decide) rfl).trans ?_
    exact congrArg (fun n => (some (none, (T.1, (((T.2 ++ [(.inl (12, [zn, zi (zo 0), zi (zo 0), zi (zo 0)]) : qC)] : qW).set T.2.length (.inl (12, [zn, zi (zo 0), zi (zo 0), zi (zo 0)]))) ++ [(.inr (.inl (5, w)) : qC)] : qW).set T.2.length (.inl (12, [za 8 n 0, zi (zo 0), zi (zo 0), zi (zo 0)])))) : Option qO)) hlen
  have e13 : q_sem zF (d + 5) 13 [za 8 T.2.length 0, za 8 k 0] (T.1, T.2 ++ [.inl (12, [zn, zi (zo 0), zi (zo 0), zi (zo 0)])]) = some (none, (T.1, (((T.2 ++ [(.inl (12, [zn, zi (zo 0), zi (zo 0), zi (zo 0)]) : qC)] : qW).set T.2.length (.inl (12, [zn, zi (zo 0), zi (zo 0), zi (zo 0)]))) ++ [(.inr (.inl (5, w)) : qC)] : qW).set T.2.length (.inl (12, [za 8 (T.2.length + 1) 0, zi (zo 0), zi (zo 0), zi (zo 0)])))) := by
    rw [qn_13_88, qe_13_0_88__6, qr_0 e17, qe_13_6_88__2]
  have e24 : q_sem zF (d + 6) 24 [za 8 k 0] T = some (some (za 8 T.2.length 0), (T.1, (((T.2 ++ [(.inl (12, [zn, zi (zo 0), zi (zo 0), zi (zo 0)]) : qC)] : qW).set T.2.length (.inl (12, [zn, zi (zo 0), zi (zo 0), zi (zo 0)]))) ++ [(.inr (.inl (5, w)) : qC)] : qW).set T.2.length (.inl (12, [za 8 (T.2.length + 1) 0, zi (zo 0), zi (zo 0), zi (zo 0)])))) := by
    rw [qn_24_8, qe_24_0_8__6]
    refine (qr_0 e13).trans ?_
    exact qe_24_8_8_8_2
  refine ⟨_, T.2.length, T.2.length + 1, e24, ⟨⟨zo 0, zo 0, qn_eq (qn_app hk2)⟩, ?_, hw⟩, ?_, Nat.le_refl _, Nat.le_succ _⟩
  · show zx_nth (List.set _ T.2.length _) (T.2.length + 1) = _
    rw [qn_ne (by omega), ← hlen]
    exact qn_last _ _
  · have n3 := n2.tr (NF.push (T.1, (T.2 ++ [(.inl (12, [zn, zi (zo 0), zi (zo 0), zi (zo 0)]) : qC)] : qW).set T.2.length (.inl (12, [zn, zi (zo 0), zi (zo 0), zi (zo 0)]))) (.inr (.inl (5, w))) (by show w.length ≤ 3000; omega))
    exact n3.set (Nat.le_refl _) (qn_app hk2) rfl
/-- String.length, of a made text -/
theorem Q18s (h : ST T k j w) : q_sem zF (d + 1) 18 [za 8 k 0] T = some (some (zi (zo 0)), T) := by
  obtain ⟨⟨a, b, h1⟩, -⟩ := h
  rw [qn_18_8, qe_18_0_8__8, qp_get h1 rfl, qe_18_10_8_i_4, if_pos (by decide)]
theorem Q14s (h : ST T k j w) : q_sem zF (d + 2) 14 [za 8 k 0] T = some (some (zi (zo (w.length : Int))), T) := by
  obtain ⟨⟨a, b, h1⟩, h2, h3⟩ := h
  rw [qn_14_8, qe_14_0_8__8, qp_get h1 rfl, qe_14_4_8_8_6, qp_len h2, qp_rc h1, qr_1 (Q18s ⟨⟨a, b, h1⟩, h2, h3⟩), qe_14_9_8_ii_3, sh_r]
  rfl
theorem zc_c {c : Int} (h0 : 0 ≤ c) (h1 : c < 128) : ((zo c &&& zo 255).toUInt32 % 65536).toInt32 = zo c ∧ (zo c).toUInt32.toUInt16.toUInt32.toInt32 = zo c := by
  have key : ∀ n : Fin 128, ((zo (n.val : Int) &&& zo 255).toUInt32 % 65536).toInt32 = zo (n.val : Int) ∧ (zo (n.val : Int)).toUInt32.toUInt16.toUInt32.toInt32 = zo (n.val : Int) := by decide +kernel
  have := key ⟨c.toNat, by omega⟩
  rw [show ((⟨c.toNat, by omega⟩ : Fin 128).val : Int) = c by show (c.toNat : Int) = c; omega] at this
  exact this
/-- String.charAt, of a made text of plain letters -/
theorem Q15 (h : ST T k j w) {i c : Int} (h0 : 0 ≤ i) (h1 : i < w.length) (hc : w.getD i.toNat 0 = zo c) (c0 : 0 ≤ c) (c1 : c < 128) : q_sem zF (d + 2) 15 [za 8 k 0, zi (zo i)] T = some (some (zi (zo c)), T) := by
  obtain ⟨⟨a, b, g1⟩, g2, g3⟩ := h
  obtain ⟨z1, z2⟩ := zc_c c0 c1
  have e19 : q_sem zF (d + 1) 19 [za 8 k 0] T = some (some (zi (zo 1)), T) := by
    rw [qn_19_8, qe_19_0_8__10, qp_get g1 rfl, qe_19_10_8_i_6, if_pos rfl]
  have e27 : q_sem zF (d + 1) 27 [za 8 j 0, zi (zo i)] T = some (some (zi (zo c)), T) := by
    rw [qn_27_8i, qe_27_0_8i__12, qp_len g2, qp_on, qp_in h0 h1 (by omega), qp_bld g2 (Or.inl rfl) h0 h1 (by omega), hc, z1, if_pos z2]
  rw [qn_15_8i, qe_15_0_8i__13, qp_rc g1, qr_1 e19, qe_15_4_8i_i_11, if_neg zo_1, qp_get g1 rfl, qe_15_11_8i_8_8, qr_1 e27, qe_15_15_8i_i_6, if_pos z2]
end JI

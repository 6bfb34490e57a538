/-! THE LAW'S PURE SIDE 4: characters and numbers are appended -/
theorem zb_c {c : Int} (h0 : 0 ≤ c) (h1 : c < 128) : (zo c).toInt8.toInt32 = zo c := by
  have key : ∀ n : Fin 128, (zo (n.val : Int)).toInt8.toInt32 = zo (n.val : Int) := by decide +kernel
  have := key ⟨c.toNat, by omega⟩
  rw [show ((⟨c.toNat, by omega⟩ : Fin 128).val : Int) = c by show (c.toNat : Int) = c; omega] at this
  exact this
theorem q_setm (w r : List Int32) (i : Nat) (x : Int32) : (w ++ r).set (w.length + i) x = w ++ r.set i x := by
  rw [List.set_append_right _ _ (by omega), Nat.add_sub_cancel_left]
def dgt (x : Int) : Int32 := zo (48 + x)
/-- the digits of a number below 10000 -/
def decN (a : Int) : List Int32 := if a < 10 then [dgt a] else if a < 100 then [dgt (a / 10), dgt (a % 10)] else if a < 1000 then [dgt (a / 100), dgt (a % 100 / 10), dgt (a % 100 % 10)] else [dgt (a / 100 / 10), dgt (a / 100 % 10), dgt (a % 100 / 10), dgt (a % 100 % 10)]
def dec (x : Int) : List Int32 := if x < 0 then zo 45 :: decN (-x) else decN x
def decS (a : Int) : Int := if a < 10 then 1 else if a < 100 then 2 else if a < 1000 then 3 else 4
theorem decN_len (a : Int) : ((decN a).length : Int) = decS a := by
  unfold decN decS
  split
  · rfl
  · split
    · rfl
    · split <;> rfl
section JF
variable {T : qS} {d k j t : Nat} {w bs tx : List Int32}
/-- the array and the count written -/
theorem SB.wr (h : SB T k j w bs) {bs2 w2 : List Int32} (hl : bs2.length = bs.length) (he : ∃ r, bs2 = w2 ++ r) : SB (T.1, (T.2.set j (.inr (.inl (5, bs2)))).set k (.inl (11, [za 8 j 0, zi (zo 0), zi (zo 0), zi (zo (w2.length : Int))]))) k j w2 bs2 ∧ SBF T (T.1, (T.2.set j (.inr (.inl (5, bs2)))).set k (.inl (11, [za 8 j 0, zi (zo 0), zi (zo 0), zi (zo (w2.length : Int))]))) k j j 0 := by
  have hkj := h.2.2.2.2
  have hk2 : zx_nth (T.2.set j (.inr (.inl (5, bs2)))) k = some (.inl (11, [za 8 j 0, zi (zo 0), zi (zo 0), zi (zo (w.length : Int))])) := by
    rw [qn_ne (Ne.symm hkj)]
    exact h.1
  have hk9 := hk2
  have hj9 := h.2.1
  rw [zx_nth_get] at hk9 hj9
  refine ⟨⟨qn_eq hk2, ?_, he, by rw [hl]; exact h.2.2.2.1, hkj⟩, rfl, ?_, ?_, ?_, Or.inl rfl, fun i c hik hij hi => ?_⟩
  · show zx_nth (List.set _ k _) j = _
    rw [qn_ne hkj]
    exact qn_eq h.2.1
  · show _ ≤ (List.set _ k _).length
    rw [List.length_set, List.length_set]
    exact Nat.le_refl _
  · show (List.set _ k _).length ≤ _
    rw [List.length_set, List.length_set]
    exact Nat.le_refl _
  · refine Nat.le_trans (Nat.le_of_eq (q_sl_set _ k _ _ hk9 rfl)) ?_
    exact Nat.le_of_eq (q_sl_set _ _ _ _ hj9 hl)
  · show zx_nth (List.set _ k _) i = _
    rw [qn_ne (Ne.symm hik), qn_ne (Ne.symm hij)]
    exact hi
/-- isLatin1, of a text builder -/
theorem Q8 (h : SB T k j w bs) : q_sem zF (d + 1) 8 [za 8 k 0] T = some (some (zi (zo 1)), T) := by
  rw [qn_8_8, qe_8_0_8__10, qp_get h.1 rfl, qe_8_10_8_i_6, if_pos rfl]
theorem Q28 {c : Int} (h0 : 0 ≤ c) (h1 : c < 128) : q_sem zF (d + 1) 28 [zi (zo c)] T = some (some (zi (zo 1)), T) := by
  rw [qn_28_i, qe_28_0_i__8, if_neg (by rw [zo_lt (by omega) (by omega) (by omega) (by omega)]; omega)]
theorem zo_1 : ¬ zo 1 = zo 0 := by decide
/-- append(char) -/
theorem Q5 (h : SB T k j w bs) {c : Int} (h0 : 0 ≤ c) (h1 : c < 128) (hm : w.length + 1 ≤ 1000) : ∃ T' j' bs', q_sem zF (d + 4) 5 [za 8 k 0, zi (zo c)] T = some (some (za 8 k 0), T') ∧ SB T' k j' (w ++ [zo c]) bs' ∧ SBF T T' k j j' 1 := by
  obtain ⟨T1, j1, bs1, e1, g1, hl, f1⟩ := Q2 (d := d) (m := ((w.length + 1 : Nat) : Int)) h (by omega) (by omega)
  rw [qn_5_8i, qe_5_0_8i__44, qp_get h.1 rfl, qe_5_5_8i_i8_41, qp_rc h.1, zo_add, show (w.length : Int) + 1 = ((w.length + 1 : Nat) : Int) by omega, qr_0 e1, qe_5_10_8i__38, qp_rc g1.1, qr_1 (Q8 g1), qe_5_14_8i_i_36, if_neg zo_1, qr_1 (Q28 h0 h1), qe_5_21_8i_i_33, if_neg zo_1, qp_get g1.1 rfl, qe_5_28_8i_8_30, qp_get g1.1 rfl, qe_5_33_8i_i88_27, qp_put g1.1 (by show 3 < 4; decide) rfl, zo_add]
  have hj2 : zx_nth (T1.2.set k (.inl (11, [za 8 j1 0, zi (zo 0), zi (zo 0), zi (zo ((w.length : Int) + 1))]))) j1 = some (.inr (.inl (5, bs1))) := by
    rw [qn_ne g1.2.2.2.2]
    exact g1.2.1
  obtain ⟨r, er⟩ := g1.2.2.1
  have hrl : 1 ≤ r.length := by
    have := congrArg List.length er
    rw [List.length_append] at this
    omega
  have hb1 := g1.2.2.2.1
  rw [qp_bst hj2 (by omega) (by omega) (by omega), zb_c h0 h1, zb_c h0 h1]
  have e2 : bs1.set ((w.length : Int).toNat) (zo c) = (w ++ [zo c]) ++ r.drop 1 := by
    rw [er, show ((w.length : Int).toNat) = w.length + 0 by omega, q_setm]
    cases r with
    | nil => exact absurd hrl (by decide)
    | cons y r => rw [List.append_assoc]; rfl
  obtain ⟨g2, f2⟩ := g1.wr (bs2 := bs1.set ((w.length : Int).toNat) (zo c)) (w2 := w ++ [zo c]) List.length_set ⟨_, e2⟩
  have e3 : (T1.2.set k (.inl (11, [za 8 j1 0, zi (zo 0), zi (zo 0), zi (zo ((w.length : Int) + 1))]))).set j1 (.inr (.inl (5, bs1.set ((w.length : Int).toNat) (zo c)))) = (T1.2.set j1 (.inr (.inl (5, bs1.set ((w.length : Int).toNat) (zo c))))).set k (.inl (11, [za 8 j1 0, zi (zo 0), zi (zo 0), zi (zo ((w ++ [zo c]).length : Int))])) := by
    rw [List.set_comm _ _ (Ne.symm g1.2.2.2.2), List.length_append]
    rfl
  exact ⟨_, j1, _, congrArg (fun q => (some (some (za 8 k 0), (T1.1, q)) : Option qO)) e3, g2, f1.tr f2⟩
/-- Integer.stringSize -/
theorem L12 {x b : Int} (h0 : -9999 ≤ x) (h1 : x ≤ 0) (hb : 0 ≤ b) (hb2 : b ≤ 1) (n : Nat) : qy d 12 (n + 4) 16 [some (zi (zo x)), some (zi (zo b)), some (zi (zo (-10))), some (zi (zo 1))] [] T = some (some (zi (zo (decS (-x) + b))), T) := by
  have hM : qt_all 12 = some (qm_12, 1, 4, 34) := rfl
  unfold decS
  rw [qy_z hM, qe_12_16_iiii__34, if_neg (by decide)]
  by_cases c1 : -x < 10
  · rw [if_neg (by rw [zo_le (by omega) (by omega) (by omega) (by omega)]; omega), if_pos c1, zo_add]
  rw [if_pos (by rw [zo_le (by omega) (by omega) (by omega) (by omega)]; omega), zo_mul, zo_add, if_neg c1, qy_z hM, qe_12_16_iiii__34, if_neg (by decide)]
  by_cases c2 : -x < 100
  · rw [if_neg (by rw [zo_le (by omega) (by omega) (by omega) (by omega)]; omega), if_pos c2, zo_add]
    rfl
  rw [if_pos (by rw [zo_le (by omega) (by omega) (by omega) (by omega)]; omega), zo_mul, zo_add, if_neg c2, qy_z hM, qe_12_16_iiii__34, if_neg (by decide)]
  by_cases c3 : -x < 1000
  · rw [if_neg (by rw [zo_le (by omega) (by omega) (by omega) (by omega)]; omega), if_pos c3, zo_add]
    rfl
  rw [if_pos (by rw [zo_le (by omega) (by omega) (by omega) (by omega)]; omega), zo_mul, zo_add, if_neg c3, qy_z hM, qe_12_16_iiii__34, if_neg (by decide)]
  rw [if_neg (by rw [zo_le (by omega) (by omega) (by omega) (by omega)]; omega), zo_add]
  rfl
theorem Q12 {x : Int} (h0 : -9999 ≤ x) (h1 : x ≤ 9999) : q_sem zF (d + 1) 12 [zi (zo x)] T = some (some (zi (zo ((dec x).length : Int))), T) := by
  unfold dec
  rw [qn_12_iooo, qe_12_0_iooo__34]
  by_cases c : x < 0
  · rw [if_pos (by rw [zo_lt (by omega) (by omega) (by omega) (by omega)]; exact c), if_pos c, show zF1 = 999999999999995 + 4 from rfl, L12 h0 (by omega) (by omega) (by omega), List.length_cons]
    have := decN_len (-x)
    rw [show (((decN (-x)).length + 1 : Nat) : Int) = decS (-x) + 1 by omega]
  · rw [if_neg (by rw [zo_lt (by omega) (by omega) (by omega) (by omega)]; exact c), if_neg c, zo_neg, show zF1 = 999999999999995 + 4 from rfl, L12 (by omega) (by omega) (by omega) (by omega), Int.neg_neg]
    have := decN_len x
    rw [show ((decN x).length : Int) = decS x + 0 by omega]
theorem qp_dg {b : Nat} {i : Int} {nx : Int32 → Option qO} (h0 : 0 ≤ i) (h1 : i < 100) : qa_bld (9, b, 0) (zo i) T nx = nx (qt_dg b i.toNat) := by
  show qa_in (zo i) 100 (nx (qt_dg b (zo i).toNatClampNeg)) = _
  rw [show (100 : Int32) = zo 100 from rfl, qp_in h0 h1 (by omega), zo_nn h0 (by omega)]
end JF

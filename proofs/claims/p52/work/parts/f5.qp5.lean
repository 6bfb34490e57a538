/-! THE LAW'S PURE SIDE 5: numbers are appended -/
theorem qdg0 {a : Int} (h0 : 0 ≤ a) (h1 : a < 100) : qt_dg 0 a.toNat = dgt (a % 10) := by
  show zo ((48 + a.toNat % 10 : Nat) : Int) = zo (48 + a % 10)
  congr 1
  omega
theorem qdg1 {a : Int} (h0 : 0 ≤ a) (h1 : a < 100) : qt_dg 1 a.toNat = dgt (a / 10) := by
  show zo ((48 + a.toNat / 10 : Nat) : Int) = zo (48 + a / 10)
  congr 1
  omega
theorem qdb {x : Int} (h0 : 0 ≤ x) (h1 : x < 10) : (dgt x).toInt8.toInt32 = dgt x := zb_c (by omega) (by omega)
section JG
variable {T : qS} {d k j t : Nat} {w bs tx : List Int32}
/-- one byte laid at a place of the part behind w -/
theorem qp_bw {r : List Int32} {p : Int} {i : Nat} {x : Int32} {nx : qS → Option qO} (h : zx_nth T.2 j = some (.inr (.inl (5, w ++ r)))) (hp : p = ((w.length + i : Nat) : Int)) (hi : i < r.length) (hl : (w ++ r).length ≤ 3000) (hx : x.toInt8.toInt32 = x) : qa_bst (8, j, 0) (zo p) x T nx = nx (T.1, T.2.set j (.inr (.inl (5, w ++ r.set i x)))) := by
  have e9 : (w ++ r).length = w.length + r.length := List.length_append
  rw [hp, qp_bst h (by omega) (by omega) (by omega), hx, show (((w.length + i : Nat) : Int).toNat) = w.length + i by omega, q_setm]
theorem qp_bwset {r r2 : List Int32} {T1 : qS} (h : zx_nth T.2 j = some (.inr (.inl (5, w ++ r)))) (e : T1 = (T.1, T.2.set j (.inr (.inl (5, w ++ r2))))) : zx_nth T1.2 j = some (.inr (.inl (5, w ++ r2))) ∧ ∀ c, (T1.1, T1.2.set j c) = (T.1, T.2.set j c) := by
  subst e
  exact ⟨qn_eq h, fun c => by show (T.1, (T.2.set j _).set j c) = _; rw [List.set_set]⟩
/-- the last one or two digits, and the sign -/
theorem L11 {a s : Int} (h0 : 0 ≤ a) (h1 : a < 100) (hs : s = 0 ∨ s = 1) {r0 t9 : List Int32} (h : zx_nth T.2 j = some (.inr (.inl (5, w ++ (r0 ++ t9))))) (hr : (r0.length : Int) = decS a + s) (hl : (w ++ (r0 ++ t9)).length ≤ 3000) (n : Nat) : qy d 11 (n + 1) 22 [some (zi (zo (-a))), none, some (za 8 j 0), none, none, some (zi (zo ((w.length : Int) + (r0.length : Int)))), some (zi (zo s))] [] T = some (some (zi (zo (w.length : Int))), (T.1, T.2.set j (.inr (.inl (5, w ++ ((if s = 1 then [zo 45] else []) ++ (decN a ++ t9))))))) := by
  have hM : qt_all 11 = some (qm_11, 1, 7, 72) := rfl
  have e9 : (w ++ (r0 ++ t9)).length = w.length + (r0.length + t9.length) := by rw [List.length_append, List.length_append]
  have h45 : (zo 45).toInt8.toInt32 = zo 45 := by decide
  have hm1 : ∀ x : Int, zo x + zo (-1) = zo (x - 1) := fun x => by rw [zo_add]; rfl
  rw [qy_z hM, qe_11_22_io8ooii__72, if_pos (by rw [zo_lt (by omega) (by omega) (by omega) (by omega)]; omega), zo_neg, Int.neg_neg, qp_dg h0 h1, qdg0 h0 h1, hm1, hm1, hm1]
  unfold decS at hr
  unfold decN
  by_cases c : a < 10
  · rw [if_pos c] at hr
    have ea : a % 10 = a := by omega
    rw [ea, if_pos c]
    rcases hs with rfl | rfl
    · match r0, hr with
      | [y], _ =>
        rw [qp_bw (i := 0) h (by simp) (by simp) hl (qdb h0 c), if_pos (by rw [zo_le (by omega) (by omega) (by omega) (by omega)]; omega), if_pos rfl, if_neg (by decide)]
        show some (some (zi (zo ((w.length : Int) + ((1 : Nat) : Int) - 1))), _) = _
        rw [show (w.length : Int) + ((1 : Nat) : Int) - 1 = w.length by omega]
        rfl
      | [], hr => exact absurd hr (by decide)
      | _ :: _ :: _, hr => exact absurd hr (by simp; omega)
    · match r0, hr with
      | [y, z], _ =>
        rw [qp_bw (i := 1) h (by simp; omega) (by simp) hl (qdb h0 c), if_pos (by rw [zo_le (by omega) (by omega) (by omega) (by omega)]; omega), if_neg zo_1, if_pos rfl]
        obtain ⟨g1, g2⟩ := qp_bwset h (T1 := (T.1, T.2.set j (.inr (.inl (5, w ++ ([y, z] ++ t9).set 1 (dgt a)))))) rfl
        rw [qp_bw (i := 0) g1 (by simp; omega) (by simp) (by rw [List.length_append, List.length_set, ← List.length_append]; exact hl) h45, g2]
        show some (some (zi (zo ((w.length : Int) + ((2 : Nat) : Int) - 1 - 1))), _) = _
        rw [show (w.length : Int) + ((2 : Nat) : Int) - 1 - 1 = w.length by omega]
        rfl
      | [], hr => exact absurd hr (by decide)
      | [_], hr => exact absurd hr (by simp)
      | _ :: _ :: _ :: _, hr => exact absurd hr (by simp; omega)
  · rw [if_neg c, if_pos h1] at hr
    rw [if_neg c, if_pos h1]
    rcases hs with rfl | rfl
    · match r0, hr with
      | [y, z], _ =>
        rw [qp_bw (i := 1) h (by simp; omega) (by simp) hl (qdb (by omega) (by omega)), if_neg (by rw [zo_le (by omega) (by omega) (by omega) (by omega)]; omega), qp_dg h0 h1, qdg1 h0 h1]
        obtain ⟨g1, g2⟩ := qp_bwset h (T1 := (T.1, T.2.set j (.inr (.inl (5, w ++ ([y, z] ++ t9).set 1 (dgt (a % 10))))))) rfl
        rw [qp_bw (i := 0) g1 (by simp; omega) (by simp) (by rw [List.length_append, List.length_set, ← List.length_append]; exact hl) (qdb (by omega) (by omega)), g2, if_pos rfl, if_neg (by decide)]
        show some (some (zi (zo ((w.length : Int) + ((2 : Nat) : Int) - 1 - 1))), _) = _
        rw [show (w.length : Int) + ((2 : Nat) : Int) - 1 - 1 = w.length by omega]
        rfl
      | [], hr => exact absurd hr (by decide)
      | [_], hr => exact absurd hr (by simp)
      | _ :: _ :: _ :: _, hr => exact absurd hr (by simp; omega)
    · match r0, hr with
      | [x, y, z], _ =>
        rw [qp_bw (i := 2) h (by simp; omega) (by simp) hl (qdb (by omega) (by omega)), if_neg (by rw [zo_le (by omega) (by omega) (by omega) (by omega)]; omega), qp_dg h0 h1, qdg1 h0 h1]
        obtain ⟨g1, g2⟩ := qp_bwset h (T1 := (T.1, T.2.set j (.inr (.inl (5, w ++ ([x, y, z] ++ t9).set 2 (dgt (a % 10))))))) rfl
        rw [qp_bw (i := 1) g1 (by simp; omega) (by simp) (by rw [List.length_append, List.length_set, ← List.length_append]; exact hl) (qdb (by omega) (by omega)), g2, if_neg zo_1, if_pos rfl]
        obtain ⟨g3, g4⟩ := qp_bwset h (T1 := (T.1, T.2.set j (.inr (.inl (5, w ++ (([x, y, z] ++ t9).set 2 (dgt (a % 10))).set 1 (dgt (a / 10))))))) rfl
        rw [qp_bw (i := 0) g3 (by simp; omega) (by simp) (by rw [List.length_append, List.length_set, List.length_set, ← List.length_append]; exact hl) h45, g4]
        show some (some (zi (zo ((w.length : Int) + ((3 : Nat) : Int) - 1 - 1 - 1))), _) = _
        rw [show (w.length : Int) + ((3 : Nat) : Int) - 1 - 1 - 1 = w.length by omega]
        rfl
      | [], hr => exact absurd hr (by decide)
      | [_], hr => exact absurd hr (by simp)
      | [_, _], hr => exact absurd hr (by simp)
      | _ :: _ :: _ :: _ :: _, hr => exact absurd hr (by simp; omega)
/-- all digits -/
theorem L11b {a s : Int} (h0 : 0 ≤ a) (h1 : a < 10000) (hs : s = 0 ∨ s = 1) {r0 t9 : List Int32} (h : zx_nth T.2 j = some (.inr (.inl (5, w ++ (r0 ++ t9))))) (hr : (r0.length : Int) = decS a + s) (hl : (w ++ (r0 ++ t9)).length ≤ 3000) (n : Nat) : qy d 11 (n + 2) 22 [some (zi (zo (-a))), none, some (za 8 j 0), none, none, some (zi (zo ((w.length : Int) + (r0.length : Int)))), some (zi (zo s))] [] T = some (some (zi (zo (w.length : Int))), (T.1, T.2.set j (.inr (.inl (5, w ++ ((if s = 1 then [zo 45] else []) ++ (decN a ++ t9))))))) := by
  by_cases c : a < 100
  · exact L11 h0 c hs h hr hl (n + 1)
  have hM : qt_all 11 = some (qm_11, 1, 7, 72) := rfl
  have e9 : (w ++ (r0 ++ t9)).length = w.length + (r0.length + t9.length) := by rw [List.length_append, List.length_append]
  have hm1 : ∀ x : Int, zo x + zo (-1) = zo (x - 1) := fun x => by rw [zo_add]; rfl
  have hd : zo (-a) / zo 100 = zo (-(a / 100)) := by
    rw [zo_tdiv (by omega) (by omega) (by omega) (by omega), Int.neg_tdiv, Int.tdiv_eq_ediv_of_nonneg h0]
  have hS : decS a = decS (a / 100) + 2 := by
    unfold decS
    by_cases c2 : a < 1000
    · rw [if_neg (by omega), if_neg c, if_pos c2, if_pos (by omega)]
      rfl
    · rw [if_neg (by omega), if_neg c, if_neg c2, if_neg (by omega), if_pos (by omega)]
      rfl
  have hN : decN a = decN (a / 100) ++ [dgt (a % 100 / 10), dgt (a % 100 % 10)] := by
    unfold decN
    by_cases c2 : a < 1000
    · rw [if_neg (by omega), if_neg c, if_pos c2, if_pos (by omega)]
      rfl
    · rw [if_neg (by omega), if_neg c, if_neg c2, if_neg (by omega), if_pos (by omega)]
      rfl
  rw [qy_z hM, qe_11_22_io8ooii__72, if_neg (by rw [zo_lt (by omega) (by omega) (by omega) (by omega)]; omega), if_neg (by decide), hd, zo_mul, zo_sub, show -(a / 100) * 100 - -a = a % 100 by omega, qp_dg (by omega) (by omega), qdg0 (by omega) (by omega), hm1, hm1]
  have hS1 : 1 ≤ decS (a / 100) := by
    unfold decS
    split
    · omega
    · split
      · omega
      · split <;> omega
  have hlen : 2 ≤ r0.length := by rcases hs with rfl | rfl <;> omega
  obtain ⟨r1, y, z, er⟩ : ∃ (r1 : List Int32) (y z : Int32), r0 = r1 ++ [y, z] := by
    refine ⟨r0.take (r0.length - 2), r0[r0.length - 2], r0[r0.length - 1], ?_⟩
    refine List.ext_getElem? (fun i => ?_)
    by_cases hi : i < r0.length - 2
    · rw [List.getElem?_append_left (by rw [List.length_take]; omega), List.getElem?_take, if_pos hi]
    · rw [List.getElem?_append_right (by rw [List.length_take]; omega), List.length_take, show min (r0.length - 2) r0.length = r0.length - 2 by omega]
      by_cases e1 : i = r0.length - 2
      · subst e1
        rw [Nat.sub_self, List.getElem?_eq_getElem (by omega)]
        rfl
      · by_cases e2 : i = r0.length - 1
        · subst e2
          rw [show r0.length - 1 - (r0.length - 2) = 1 by omega, List.getElem?_eq_getElem (by omega)]
          rfl
        · rw [List.getElem?_eq_none (by omega), List.getElem?_eq_none (by show 2 ≤ _; omega)]
  subst er
  have elen : (r1 ++ [y, z]).length = r1.length + 2 := by rw [List.length_append]; rfl
  have s1 : (r1 ++ [y, z] ++ t9).set (r1.length + 1) (dgt (a % 100 % 10)) = r1 ++ [y, dgt (a % 100 % 10)] ++ t9 := by
    rw [List.append_assoc, q_setm, List.append_assoc]
    rfl
  have s2 : (r1 ++ [y, dgt (a % 100 % 10)] ++ t9).set (r1.length + 0) (dgt (a % 100 / 10)) = r1 ++ [dgt (a % 100 / 10), dgt (a % 100 % 10)] ++ t9 := by
    rw [List.append_assoc, q_setm, List.append_assoc]
    rfl
  rw [qp_bw (i := r1.length + 1) h (by rw [elen]; omega) (by rw [List.length_append, elen]; omega) hl (qdb (by omega) (by omega)), s1, qp_dg (by omega) (by omega), qdg1 (by omega) (by omega)]
  obtain ⟨g1, g2⟩ := qp_bwset h (T1 := (T.1, T.2.set j (.inr (.inl (5, w ++ (r1 ++ [y, dgt (a % 100 % 10)] ++ t9)))))) rfl
  have hl2 : (w ++ (r1 ++ [y, dgt (a % 100 % 10)] ++ t9)).length ≤ 3000 := by
    simp only [List.length_append, List.length_cons, List.length_nil] at hl ⊢
    omega
  rw [qp_bw (i := r1.length + 0) g1 (by rw [elen]; omega) (by rw [List.length_append, List.length_append]; show r1.length + 0 < r1.length + 2 + _; omega) hl2 (qdb (by omega) (by omega)), g2, s2]
  obtain ⟨g3, g4⟩ := qp_bwset h (T1 := (T.1, T.2.set j (.inr (.inl (5, w ++ (r1 ++ [dgt (a % 100 / 10), dgt (a % 100 % 10)] ++ t9)))))) rfl
  rw [List.append_assoc] at g3 g4
  have hl3 : (w ++ (r1 ++ ([dgt (a % 100 / 10), dgt (a % 100 % 10)] ++ t9))).length ≤ 3000 := by
    simp only [List.length_append, List.length_cons, List.length_nil] at hl ⊢
    omega
  have L := L11 (d := d) (T := (T.1, T.2.set j (.inr (.inl (5, w ++ (r1 ++ ([dgt (a % 100 / 10), dgt (a % 100 % 10)] ++ t9))))))) (a := a / 100) (s := s) (by omega) (by omega) hs g3 (by rw [elen] at hr; omega) hl3 n
  rw [g4] at L
  rw [List.append_assoc, show (w.length : Int) + ((r1 ++ [y, z]).length : Int) - 1 - 1 = (w.length : Int) + (r1.length : Int) by rw [elen]; omega, hN, List.append_assoc (decN (a / 100))]
  exact L
theorem Q11 {x : Int} (h0 : -9999 ≤ x) (h1 : x ≤ 9999) {r0 t9 : List Int32} (h : zx_nth T.2 j = some (.inr (.inl (5, w ++ (r0 ++ t9))))) (hr : r0.length = (dec x).length) (hl : (w ++ (r0 ++ t9)).length ≤ 3000) : q_sem zF (d + 1) 11 [zi (zo x), zi (zo ((w.length : Int) + (r0.length : Int))), za 8 j 0] T = some (some (zi (zo (w.length : Int))), (T.1, T.2.set j (.inr (.inl (5, w ++ (dec x ++ t9)))))) := by
  rw [qn_11_ii8oooo, qe_11_0_ii8oooo__72, show zF1 = 999999999999997 + 2 from rfl]
  unfold dec at hr ⊢
  by_cases c : x < 0
  · rw [if_pos c] at hr ⊢
    have hr : r0.length = (decN (-x)).length + 1 := hr
    have := decN_len (-x)
    rw [if_neg (by rw [zo_le (by omega) (by omega) (by omega) (by omega)]; omega)]
    have L := L11b (d := d) (a := -x) (s := 1) (by omega) (by omega) (Or.inr rfl) h (by omega) hl 999999999999997
    rw [Int.neg_neg] at L
    exact L
  · rw [if_neg c] at hr ⊢
    have := decN_len x
    rw [if_pos (by rw [zo_le (by omega) (by omega) (by omega) (by omega)]; omega), zo_neg]
    exact L11b (d := d) (a := x) (s := 0) (by omega) (by omega) (Or.inl rfl) h (by omega) hl 999999999999997
/-- append(int) -/
theorem Q6 (h : SB T k j w bs) {x : Int} (h0 : -9999 ≤ x) (h1 : x ≤ 9999) (hm : w.length + (dec x).length ≤ 1000) : ∃ T' j' bs', q_sem zF (d + 4) 6 [za 8 k 0, zi (zo x)] T = some (some (za 8 k 0), T') ∧ SB T' k j' (w ++ dec x) bs' ∧ SBF T T' k j j' 1 := by
  obtain ⟨T1, j1, bs1, e1, g1, hl, f1⟩ := Q2 (d := d) (m := ((w.length + (dec x).length : Nat) : Int)) h (by omega) (by omega)
  obtain ⟨r, er⟩ := g1.2.2.1
  have hrl : (dec x).length ≤ r.length := by
    have := congrArg List.length er
    rw [List.length_append] at this
    omega
  have hj : zx_nth T1.2 j1 = some (.inr (.inl (5, w ++ (r.take (dec x).length ++ r.drop (dec x).length)))) := by
    rw [List.take_append_drop, ← er]
    exact g1.2.1
  have htl : (r.take (dec x).length).length = (dec x).length := by rw [List.length_take]; omega
  have h11 := Q11 (d := d + 2) h0 h1 hj htl (by rw [List.take_append_drop, ← er]; exact g1.2.2.2.1)
  rw [htl] at h11
  rw [qn_6_8ioo, qe_6_0_8ioo__33, qp_get h.1 rfl, qe_6_4_8ioo_i_31, qr_1 (Q12 h0 h1), qe_6_10_8iio_ii_27, qp_rc h.1, zo_add, show (w.length : Int) + ((dec x).length : Int) = ((w.length + (dec x).length : Nat) : Int) by omega, qr_0 e1, qe_6_17_8iii__22, qp_rc g1.1, qr_1 (Q8 g1), qe_6_21_8iii_i_20, if_neg zo_1, qp_get g1.1 rfl, qe_6_30_8iii_8ii_15]
  rw [show (((w.length + (dec x).length : Nat) : Int)) = (w.length : Int) + ((dec x).length : Int) by omega, qr_1 h11, qe_6_33_8iii_i_14]
  have hk2 : zx_nth (T1.2.set j1 (.inr (.inl (5, w ++ (dec x ++ r.drop (dec x).length))))) k = some (.inl (11, [za 8 j1 0, zi (zo 0), zi (zo 0), zi (zo (w.length : Int))])) := by
    rw [qn_ne (Ne.symm g1.2.2.2.2)]
    exact g1.1
  rw [qp_put hk2 (by show 3 < 4; decide) rfl]
  obtain ⟨g2, f2⟩ := g1.wr (bs2 := w ++ (dec x ++ r.drop (dec x).length)) (w2 := w ++ dec x) (by rw [er]; simp only [List.length_append, List.length_drop]; omega) ⟨r.drop (dec x).length, by rw [List.append_assoc]⟩
  have e3 : (zo ((w.length : Int) + ((dec x).length : Int))) = zo ((w ++ dec x).length : Int) := by rw [List.length_append]; rfl
  rw [e3]
  exact ⟨_, j1, _, rfl, g2, f1.tr f2⟩
end JG

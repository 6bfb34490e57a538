/-! THE LAW'S PURE SIDE 5: numbers are appended -/
theorem qdg0 {a : Int} (h0 : 0 ≤ a) (h1 : a < 100) : qt_dg 0 a.toNat = dgt (a % 10) := by
  show zo ((48 + a.toNat % 10 : Nat) : Int) = zo (48 + a % 10)
  congr 1
  omega
theorem qdg1 {a : Int} (h0 : 0 ≤ a) (h1 : a < 100) : qt_dg 1 a.toNat = dgt (a / 10) := by
  show zo ((48 + a.toNat / 10 : Nat) : Int) = zo (48 + a / 10)
  congr 1
  omega
theorem qdb {x : Int} (h0 : 0 ≤ x) (h1 : x < 10) : (dgt x).toInt8.toInt32 = dgt x := zb_c (by omega) (by omega)
section JG
variable {T : qS} {d k j t : Nat} {w bs tx : List Int32}
/-- one byte laid at a place of the part behind w -/
theorem qp_bw {r : List Int32} {p : Int} {i : Nat} {x : Int32} {nx : qS → Option qO} (h : zx_nth T.2 j = some (.inr (.inl (5, w ++ r)))) (hp : p = ((w.length + i : Nat) : Int)) (hi : i < r.length) (hl : (w ++ r).length ≤ 3000) (hx : x.toInt8.toInt32 = x) : qa_bst (8, j, 0) (zo p) x T nx = nx (T.1, T.2.set j (.inr (.inl (5, w ++ r.set i x)))) := by
  have e9 : (w ++ r).length = w.length + r.length := List.length_append
  rw [hp, qp_bst h (by omega) (by omega) (by omega), hx, show (((w.length + i : Nat) : Int).toNat) = w.length + i by omega, q_setm]
theorem qp_bwset {r r2 : List Int32} {T1 : qS} (h : zx_nth T.2 j = some (.inr (.inl (5, w ++ r)))) (e : T1 = (T.1, T.2.set j (.inr (.inl (5, w ++ r2))))) : zx_nth T1.2 j = some (.inr (.inl (5, w ++ r2))) ∧ ∀ c, (T1.1, T1.2.set j c) = (T.1, T.2.set j c) := by
  subst e
  exact ⟨qn_eq h, fun c => by show (T.1, (T.2.set j _).set j c) = _; rw [List.set_set]⟩
/-- the last one or two digits, and the sign -/
theorem L11 {a s : Int} (h0 : 0 ≤ a) (h1 : a < 100) (hs : s = 0 ∨ s = 1) {r0 t9 : List Int32} (h : zx_nth T.2 j = some (.inr (.inl (5, w ++ (r0 ++ t9))))) (hr : (r0.length : Int) = decS a + s) (hl : (w ++ (r0 ++ t9)).length ≤ 3000) (n : Nat) : qy d 11 (n + 1) 22 [some (zi (zo (-a))), none, some (za 8 j 0), none, none, some (zi (zo ((w.length : Int) + (r0.length : Int)))), some (zi (zo s))] [] T = some (some (zi (zo (w.length : Int))), (T.1, T.2.set j (.inr (.inl (5, w ++ ((if s = 1 then [zo 45] else []) ++ (decN a ++ t9))))))) := by
  have hM : qt_all 11 = some (qm_11, 1, 7, 72) := rfl
  have e9 : (w ++ (r0 ++ t9)).length = w.length + (r0.length + t9.length) := by rw [List.length_append, List.length_append]
  have h45 : (zo 45).toInt8.toInt32 = zo 45 := by decide
  have hm1 : ∀ x : Int, zo x + zo (-1) = zo (x - 1) := fun x => by rw [zo_add]; rfl
  rw [qy_z hM, qe_11_22_io8ooii__72, if_pos (by rw [zo_lt (by omega) (by omega) (by omega) (by omega)]; omega), zo_neg, Int.neg_neg, qp_dg h0 h1, qdg0 h0 h1, hm1, hm1, hm1]
  unfold decS at hr
  unfold decN
  by_cases c : a < 10
  · rw [if_pos c] at hr
    have ea : a % 10 = a := by omega
    rw [ea, if_pos c]
    rcases hs with rfl | rfl
    · match r0, hr with
      | [y], _ =>
        rw [qp_bw (i := 0) h (by simp) (by simp) hl (qdb h0 c), if_pos (by rw [zo_le (by omega) (by omega) (by omega) (by omega)]; omega), if_pos rfl, if_neg (by decide)]
        show some (some (zi (zo ((w.length : Int) + ((1 : Nat) : Int) - 1))), _) = _
        rw [show (w.length : Int) + ((1 : Nat) : Int) - 1 = w.length by omega]
        rfl
      | [], hr => exact absurd hr (by decide)
      | _ :: _ :: _, hr => exact absurd hr (by simp; omega)
    · match r0, hr with
      | [y, z], _ =>
        rw [qp_bw (i := 1) h (by simp; omega) (by simp) hl (qdb h0 c), if_pos (by rw [zo_le (by omega) (by omega) (by omega) (by omega)]; omega), if_neg zo_1, if_pos rfl]
        obtain ⟨g1, g2⟩ := qp_bwset h (T1 := (T.1, T.2.set j (.inr (.inl (5, w ++ ([y, z] ++ t9).set 1 (dgt a)))))) rfl
        rw [qp_bw (i := 0) g1 (by simp; omega) (by simp) (by rw [List.length_append, List.length_set, ← List.length_append]; exact hl) h45, g2]
        show some (some (zi (zo ((w.length : Int) + ((2 : Nat) : Int) - 1 - 1))), _) = _
        rw [show (w.length : Int) + ((2 : Nat) : Int) - 1 - 1 = w.length by omega]
        rfl
      | [], hr => exact absurd hr (by decide)
      | [_], hr => exact absurd hr (by decide)
      | _ :: _ :: _ :: _, hr => exact absurd hr (by simp; omega)
  · rw [if_neg c, if_pos h1] at hr
    rw [if_neg c, if_pos h1]
    rcases hs with rfl | rfl
    · match r0, hr with
      | [y, z], _ =>
        rw [qp_bw (i := 1) h (by simp; omega) (by simp) hl (qdb (by omega) (by omega)), if_neg (by rw [zo_le (by omega) (by omega) (by omega) (by omega)]; omega), qp_dg h0 h1, qdg1 h0 h1]
        obtain ⟨g1, g2⟩ := qp_bwset h (T1 := (T.1, T.2.set j (.inr (.inl (5, w ++ ([y, z] ++ t9).set 1 (dgt (a % 10))))))) rfl
        rw [qp_bw (i := 0) g1 (by simp; omega) (by simp) (by rw [List.length_append, List.length_set, ← List.length_append]; exact hl) (qdb (by omega) (by omega)), g2, if_pos rfl, if_neg (by decide)]
        show some (some (zi (zo ((w.length : Int) + ((2 : Nat) : Int) - 1 - 1))), _) = _
        rw [show (w.length : Int) + ((2 : Nat) : Int) - 1 - 1 = w.length by omega]
        rfl
      | [], hr => exact absurd hr (by decide)
      | [_], hr => exact absurd hr (by decide)
      | _ :: _ :: _ :: _, hr => exact absurd hr (by simp; omega)
    · match r0, hr with
      | [x, y, z], _ =>
        rw [qp_bw (i := 2) h (by simp; omega) (by simp) hl (qdb (by omega) (by omega)), if_neg (by rw [zo_le (by omega) (by omega) (by omega) (by omega)]; omega), qp_dg h0 h1, qdg1 h0 h1]
        obtain ⟨g1, g2⟩ := qp_bwset h (T1 := (T.1, T.2.set j (.inr (.inl (5, w ++ ([x, y, z] ++ t9).set 2 (dgt (a % 10))))))) rfl
        rw [qp_bw (i := 1) g1 (by simp; omega) (by simp) (by rw [List.length_append, List.length_set, ← List.length_append]; exact hl) (qdb (by omega) (by omega)), g2, if_neg zo_1, if_pos rfl]
        obtain ⟨g3, g4⟩ := qp_bwset h (T1 := (T.1, T.2.set j (.inr (.inl (5, w ++ (([x, y, z] ++ t9).set 2 (dgt (a % 10))).set 1 (dgt (a / 10))))))) rfl
        rw [qp_bw (i := 0) g3 (by simp; omega) (by simp) (by rw [List.length_append, List.length_set, List.length_set, ← List.length_append]; exact hl) h45, g4]
        show some (some (zi (zo ((w.length : Int) + ((3 : Nat) : Int) - 1 - 1 - 1))), _) = _
        rw [show (w.length : Int) + ((3 : Nat) : Int) - 1 - 1 - 1 = w.length by omega]
        rfl
      | [], hr => exact absurd hr (by decide)
      | [_], hr => exact absurd hr (by decide)
      | [_, _], hr => exact absurd hr (by decide)
      | _ :: _ :: _ :: _ :: _, hr => exact absurd hr (by simp; omega)
end JG

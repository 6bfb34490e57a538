/-! THE LAW'S PURE SIDE 0: reads and writes of its cells, calls -/
theorem qn_lt {α : Type} {w : List α} {k : Nat} {c : α} (h : zx_nth w k = some c) : k < w.length := by
  rw [zx_nth_get] at h
  exact (List.getElem?_eq_some_iff.mp h).1
theorem qn_eq {α : Type} {w : List α} {k : Nat} {c0 c : α} (h : zx_nth w k = some c0) : zx_nth (w.set k c) k = some c := by
  have hk := qn_lt h
  rw [zx_nth_get, List.getElem?_set_self hk]
theorem qn_ne {α : Type} {w : List α} {k j : Nat} {c : α} (h : k ≠ j) : zx_nth (w.set k c) j = zx_nth w j := by
  rw [zx_nth_get, zx_nth_get, List.getElem?_set_ne h]
theorem qn_app {α : Type} {w v : List α} {k : Nat} {c : α} (h : zx_nth w k = some c) : zx_nth (w ++ v) k = some c := by
  have hk := qn_lt h
  rw [zx_nth_get] at h ⊢
  rw [List.getElem?_append_left hk]
  exact h
theorem qn_last {α : Type} (w : List α) (c : α) : zx_nth (w ++ [c]) w.length = some c := by
  rw [zx_nth_get, List.getElem?_append_right (Nat.le_refl _), Nat.sub_self]
  rfl
theorem qn_app_r {α : Type} {w v : List α} {k : Nat} {c : α} (h : zx_nth v k = some c) : zx_nth (w ++ v) (w.length + k) = some c := by
  rw [zx_nth_get] at h ⊢
  rw [List.getElem?_append_right (by omega), Nat.add_sub_cancel_left]
  exact h
section QP
variable {T : qS} {k a b t : Nat} {fs : List zV} {xs ys : List Int32} {v : zV}
theorem qp_get {nx : zV → Option qO} (h : zx_nth T.2 k = some (.inl (a, fs))) (hb : zx_nth fs b = some v) : qf_get a b (8, k, 0) T nx = nx v := by
  show (match (generalizing := false) zx_nth T.2 k with
    | some (.inl (ci, fs)) => if ci = a then (zx_nth fs b).bind nx else none
    | _ => none) = _
  rw [h]
  show (if a = a then (zx_nth fs b).bind nx else none) = _
  rw [if_pos rfl, hb]
  rfl
theorem qp_put {nx : qS → Option qO} (h : zx_nth T.2 k = some (.inl (a, fs))) (hb : b < fs.length) (hv : qv_fit ((qd_nf a).getD b 9) v = true) : qf_put a b (8, k, 0) v T nx = nx (T.1, T.2.set k (.inl (a, fs.set b v))) := by
  show (match (generalizing := false) zx_nth T.2 k with
    | some (.inl (ci, fs)) => if ci = a ∧ b < fs.length ∧ qv_fit ((qd_nf a).getD b 9) v = true then nx (T.1, T.2.set k (.inl (ci, fs.set b v))) else none
    | _ => none) = _
  rw [h]
  show (if a = a ∧ b < fs.length ∧ qv_fit ((qd_nf a).getD b 9) v = true then nx (T.1, T.2.set k (.inl (a, fs.set b v))) else none) = _
  rw [if_pos ⟨rfl, hb, hv⟩]
theorem qp_len {nx : Int32 → Option qO} (h : zx_nth T.2 k = some (.inr (.inl (t, xs)))) : qa_len (8, k, 0) T nx = nx (Int32.ofNat xs.length) := by
  show (match (generalizing := false) zx_nth T.2 k with
    | some (.inr (.inl x)) => nx (Int32.ofNat x.2.length)
    | _ => none) = _
  rw [h]
theorem qp_lent {nx : Int32 → Option qO} (h : zx_nth zt_texts k = some xs) : qa_len (7, k, 0) T nx = nx (Int32.ofNat xs.length) := by
  show (zx_nth zt_texts k).bind (fun x => nx (Int32.ofNat x.length)) = _
  rw [h]
  rfl
theorem qp_in {i n : Int} {x : Option qO} (h0 : 0 ≤ i) (h1 : i < n) (h2 : n < 2147483648) : qa_in (zo i) (zo n) x = x := by
  unfold qa_in
  have h := zo_lt (a := i) (b := 0) (by omega) (by omega) (by omega) (by omega)
  have h9 : zo 0 = (0 : Int32) := rfl
  rw [h9] at h
  rw [if_neg (by rw [h]; omega), if_neg (by rw [zo_le (by omega) (by omega) (by omega) (by omega)]; omega)]
theorem qp_on (n : Nat) : Int32.ofNat n = zo (n : Int) := rfl
theorem qp_ld {nx : Int32 → Option qO} {i : Int} (h : zx_nth T.2 k = some (.inr (.inl (0, xs)))) (h0 : 0 ≤ i) (h1 : i < xs.length) (h2 : xs.length ≤ 1000000) : qa_ld (8, k, 0) (zo i) T nx = nx (xs.getD i.toNat 0) := by
  show (match (generalizing := false) zx_nth T.2 k with
    | some (.inr (.inl (0, xs))) => qa_in (zo i) (Int32.ofNat xs.length) (nx (xs.getD (zo i).toNatClampNeg 0))
    | _ => none) = _
  rw [h]
  show qa_in (zo i) (Int32.ofNat xs.length) (nx (xs.getD (zo i).toNatClampNeg 0)) = _
  rw [qp_on, qp_in h0 h1 (by omega), zo_nn h0 (by omega)]
theorem qp_st {nx : qS → Option qO} {i : Int} {x : Int32} (h : zx_nth T.2 k = some (.inr (.inl (0, xs)))) (h0 : 0 ≤ i) (h1 : i < xs.length) (h2 : xs.length ≤ 1000000) : qa_st (8, k, 0) (zo i) x T nx = nx (T.1, T.2.set k (.inr (.inl (0, xs.set i.toNat x)))) := by
  show (match (generalizing := false) zx_nth T.2 k with
    | some (.inr (.inl (0, xs))) => qa_in (zo i) (Int32.ofNat xs.length) (nx (T.1, T.2.set k (.inr (.inl (0, xs.set (zo i).toNatClampNeg x)))))
    | _ => none) = _
  rw [h]
  show qa_in (zo i) (Int32.ofNat xs.length) (nx (T.1, T.2.set k (.inr (.inl (0, xs.set (zo i).toNatClampNeg x))))) = _
  rw [qp_on, qp_in h0 h1 (by omega), zo_nn h0 (by omega)]
theorem qp_bld {nx : Int32 → Option qO} {i : Int} (h : zx_nth T.2 k = some (.inr (.inl (t, xs)))) (ht : t = 5 ∨ t = 6) (h0 : 0 ≤ i) (h1 : i < xs.length) (h2 : xs.length ≤ 1000000) : qa_bld (8, k, 0) (zo i) T nx = nx (xs.getD i.toNat 0) := by
  show (match (generalizing := false) zx_nth T.2 k with
    | some (.inr (.inl (5, xs))) => qa_in (zo i) (Int32.ofNat xs.length) (nx (xs.getD (zo i).toNatClampNeg 0))
    | some (.inr (.inl (6, xs))) => qa_in (zo i) (Int32.ofNat xs.length) (nx (xs.getD (zo i).toNatClampNeg 0))
    | _ => none) = _
  rw [h]
  have key : qa_in (zo i) (Int32.ofNat xs.length) (nx (xs.getD (zo i).toNatClampNeg 0)) = nx (xs.getD i.toNat 0) := by
    rw [qp_on, qp_in h0 h1 (by omega), zo_nn h0 (by omega)]
  rcases ht with rfl | rfl <;> exact key
theorem qp_bldt {nx : Int32 → Option qO} {i : Int} (h : zx_nth zt_texts k = some xs) (h0 : 0 ≤ i) (h1 : i < xs.length) (h2 : xs.length ≤ 1000000) : qa_bld (7, k, 0) (zo i) T nx = nx (xs.getD i.toNat 0) := by
  show (zx_nth zt_texts k).bind (fun x => qa_in (zo i) (Int32.ofNat x.length) (nx (x.getD (zo i).toNatClampNeg 0))) = _
  rw [h]
  show qa_in (zo i) (Int32.ofNat xs.length) (nx (xs.getD (zo i).toNatClampNeg 0)) = _
  rw [qp_on, qp_in h0 h1 (by omega), zo_nn h0 (by omega)]
theorem qp_bst {nx : qS → Option qO} {i : Int} {x : Int32} (h : zx_nth T.2 k = some (.inr (.inl (5, xs)))) (h0 : 0 ≤ i) (h1 : i < xs.length) (h2 : xs.length ≤ 1000000) : qa_bst (8, k, 0) (zo i) x T nx = nx (T.1, T.2.set k (.inr (.inl (5, xs.set i.toNat x.toInt8.toInt32)))) := by
  show (match (generalizing := false) zx_nth T.2 k with
    | some (.inr (.inl (5, xs))) => qa_in (zo i) (Int32.ofNat xs.length) (nx (T.1, T.2.set k (.inr (.inl (5, xs.set (zo i).toNatClampNeg x.toInt8.toInt32)))))
    | some (.inr (.inl (6, xs))) => qa_in (zo i) (Int32.ofNat xs.length) (if x &&& 1 = x then nx (T.1, T.2.set k (.inr (.inl (6, xs.set (zo i).toNatClampNeg x)))) else none)
    | _ => none) = _
  rw [h]
  show qa_in (zo i) (Int32.ofNat xs.length) (nx (T.1, T.2.set k (.inr (.inl (5, xs.set (zo i).toNatClampNeg x.toInt8.toInt32))))) = _
  rw [qp_on, qp_in h0 h1 (by omega), zo_nn h0 (by omega)]
theorem qp_bstz {nx : qS → Option qO} {i : Int} {x : Int32} (h : zx_nth T.2 k = some (.inr (.inl (6, xs)))) (hx : x &&& 1 = x) (h0 : 0 ≤ i) (h1 : i < xs.length) (h2 : xs.length ≤ 1000000) : qa_bst (8, k, 0) (zo i) x T nx = nx (T.1, T.2.set k (.inr (.inl (6, xs.set i.toNat x)))) := by
  show (match (generalizing := false) zx_nth T.2 k with
    | some (.inr (.inl (5, xs))) => qa_in (zo i) (Int32.ofNat xs.length) (nx (T.1, T.2.set k (.inr (.inl (5, xs.set (zo i).toNatClampNeg x.toInt8.toInt32)))))
    | some (.inr (.inl (6, xs))) => qa_in (zo i) (Int32.ofNat xs.length) (if x &&& 1 = x then nx (T.1, T.2.set k (.inr (.inl (6, xs.set (zo i).toNatClampNeg x)))) else none)
    | _ => none) = _
  rw [h]
  show qa_in (zo i) (Int32.ofNat xs.length) (if x &&& 1 = x then nx (T.1, T.2.set k (.inr (.inl (6, xs.set (zo i).toNatClampNeg x)))) else none) = _
  rw [if_pos hx, qp_on, qp_in h0 h1 (by omega), zo_nn h0 (by omega)]
theorem qp_new {nx : zV → qS → Option qO} {n : Int} (h0 : 0 ≤ n) (h1 : n ≤ 1000000) : qa_new (zo n) a T nx = nx (za 8 T.2.length 0) (T.1, T.2 ++ [.inr (.inl (a, List.replicate n.toNat 0))]) := by
  unfold qa_new
  have h := zo_lt (a := n) (b := 0) (by omega) (by omega) (by omega) (by omega)
  have h9 : zo 0 = (0 : Int32) := rfl
  rw [h9] at h
  rw [if_neg (by rw [h]; omega), zo_nn h0 (by omega), if_neg (by omega)]
theorem qp_cast {x : Option qO} (h : zx_nth T.2 k = some (.inr (.inl (5, xs)))) : qcast k T x = x := by
  unfold qcast
  rw [h]
  rfl
theorem qp_cl {f : qS → Option qO} (h : zx_nth T.2 k = some (.inr (.inl (5, xs)))) : qcl k T f = f (T.1, T.2 ++ [.inr (.inl (5, xs))]) := by
  unfold qcl
  rw [h]
  rfl
theorem qp_rc (h : zx_nth T.2 k = some (.inl (a, fs))) {x : Option qO} : zx_if (qx_rc (8, k, 0) a T) x = x := by
  have e : qx_rc (8, k, 0) a T = true := by
    show (match (generalizing := false) zx_nth T.2 k with
      | some (.inl (c, _)) => Nat.beq c a
      | _ => false) = true
    rw [h]
    exact Nat.beq_refl a
  rw [e]
  rfl
theorem qp_copy {r q : Nat} {i j n : Int} {nx : qS → Option qO} (h : zx_nth T.2 q = some (.inr (.inl (5, ys)))) (hr : zx_nth T.2 r = some (.inr (.inl (5, xs)))) (h1 : 0 ≤ i) (h2 : 0 ≤ j) (h3 : 0 ≤ n) (h4 : i + n ≤ xs.length) (h5 : j + n ≤ ys.length) (h6 : xs.length ≤ 1000000) (h7 : ys.length ≤ 1000000) : qa_copy (8, r, 0) (8, q, 0) (zo i) (zo j) (zo n) T nx = nx (T.1, T.2.set q (.inr (.inl (5, qa_cpl xs ys i.toNat j.toNat n.toNat)))) := by
  have h9 : zo 0 = (0 : Int32) := rfl
  have c1 : (0 : Int32) ≤ zo i := by rw [← h9, zo_le (by omega) (by omega) (by omega) (by omega)]; exact h1
  have c2 : (0 : Int32) ≤ zo j := by rw [← h9, zo_le (by omega) (by omega) (by omega) (by omega)]; exact h2
  have c3 : (0 : Int32) ≤ zo n := by rw [← h9, zo_le (by omega) (by omega) (by omega) (by omega)]; exact h3
  unfold qa_copy
  simp only [h, hr, Option.bind_some]
  rw [zo_nn h1 (by omega), zo_nn h2 (by omega), zo_nn h3 (by omega)]
  rw [if_pos ⟨c1, c2, c3, by omega, by omega⟩]
theorem qp_copyt {r q : Nat} {i j n : Int} {nx : qS → Option qO} (h : zx_nth T.2 q = some (.inr (.inl (5, ys)))) (hr : zx_nth zt_texts r = some xs) (h1 : 0 ≤ i) (h2 : 0 ≤ j) (h3 : 0 ≤ n) (h4 : i + n ≤ xs.length) (h5 : j + n ≤ ys.length) (h6 : xs.length ≤ 1000000) (h7 : ys.length ≤ 1000000) : qa_copy (7, r, 0) (8, q, 0) (zo i) (zo j) (zo n) T nx = nx (T.1, T.2.set q (.inr (.inl (5, qa_cpl xs ys i.toNat j.toNat n.toNat)))) := by
  have h9 : zo 0 = (0 : Int32) := rfl
  have c1 : (0 : Int32) ≤ zo i := by rw [← h9, zo_le (by omega) (by omega) (by omega) (by omega)]; exact h1
  have c2 : (0 : Int32) ≤ zo j := by rw [← h9, zo_le (by omega) (by omega) (by omega) (by omega)]; exact h2
  have c3 : (0 : Int32) ≤ zo n := by rw [← h9, zo_le (by omega) (by omega) (by omega) (by omega)]; exact h3
  unfold qa_copy
  simp only [h, hr, Option.bind_some]
  rw [zo_nn h1 (by omega), zo_nn h2 (by omega), zo_nn h3 (by omega)]
  rw [if_pos ⟨c1, c2, c3, by omega, by omega⟩]
end QP
theorem qr_0 {r : Option qO} {T1 : qS} {st : List zV} {nx : List zV → qS → Option qO} (h : r = some (none, T1)) : qx_ret 0 r st nx = nx st T1 := by rw [h]; rfl
theorem qr_1 {r : Option qO} {T1 : qS} {x : Int32} {st : List zV} {nx : List zV → qS → Option qO} (h : r = some (some (zi x), T1)) : qx_ret 1 r st nx = nx (zi x :: st) T1 := by rw [h]; rfl
theorem qr_r {r : Option qO} {T1 : qS} {x : zR} {st : List zV} {nx : List zV → qS → Option qO} (h : r = some (some (.inr (.inl (some x))), T1)) : qx_ret 5 r st nx = nx (.inr (.inl (some x)) :: st) T1 := by rw [h]; rfl
theorem qz_0 {r : Option zO} {S1 : zS} {w : qW} {st : List zV} {nx : List zV → qS → Option qO} (h : r = some (.inl none, S1)) : qz_ret 0 r w st nx = nx st (S1, w) := by rw [h]; rfl
theorem qz_1 {r : Option zO} {S1 : zS} {x : Int32} {w : qW} {st : List zV} {nx : List zV → qS → Option qO} (h : r = some (.inl (some (zi x)), S1)) : qz_ret 1 r w st nx = nx (zi x :: st) (S1, w) := by rw [h]; rfl
/-- a method's run from its start -/
theorem q_ent {d mi : Nat} {av : List zV} {T : qS} {lv : zL} {M : List zE × Nat × Nat × Nat} (hM : zx_nth qt_ms mi = some M) (h47 : mi ≠ 47) (h : zl_init av M.2.2.1 = lv) : q_sem zF (d + 1) mi av T = qz d mi zF1 M.2.2.2 0 lv [] T := by
  subst h
  show (zx_nth qt_ms mi).bind _ = (qt_all mi).bind _
  rw [show qt_all mi = zx_nth qt_ms mi from if_neg h47, hM]
  rfl
theorem qy_z {d mi n pc : Nat} {lv : zL} {st : List zV} {T : qS} {M : List zE × Nat × Nat × Nat} (hM : qt_all mi = some M) : qy d mi (n + 1) pc lv st T = qz d mi n M.2.2.2 pc lv st T := by
  show (qt_all mi).bind _ = (qt_all mi).bind _
  rw [hM]
  rfl

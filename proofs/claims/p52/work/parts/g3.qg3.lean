/-! THE LAW'S PURE SIDE 13: questions asked by the law; all numbers in one row -/
theorem RC.tr {S S1 S2 : zS} (h1 : RC S S1) (h2 : RC S1 S2) : RC S S2 := ⟨fun k n o j a b => (h2.1 k n o j a b).trans (h1.1 k n o j a b), fun h => h2.2 (h1.2 h)⟩
theorem RC.row {S S' : zS} (h : RC S S') {n : Nat} (hn : n ≠ 1) : S'.1 0 n = S.1 0 n := by
  funext o j
  exact h.1 0 n o j (by omega) (by omega)
theorem RC.hc {S S' : zS} {k : Nat} {u : Nat → Rw} {a : Rw} (h : RC S S') (H : HC S k u a) : HC S' k u a := by
  obtain ⟨h1, ⟨x, x1, x2, x3, x4⟩, h3, h4⟩ := H
  refine ⟨by rw [h.row (by omega)]; exact h1, ⟨x, x1, ?_, ?_, fun i hi => ?_⟩, h3, fun n hn => ?_⟩
  · rw [h.1 1 0 1 1 (by omega) (by omega)]; exact x2
  · rw [h.1 1 0 1 2 (by omega) (by omega)]; exact x3
  · rw [h.row (by omega)]; exact x4 i hi
  · by_cases c : n = 1
    · subst c; exact h.2 (h4 1 hn)
    · rw [h.row c]; exact h4 n hn
/-- a question is answered -/
theorem qz_q {d mi : Nat} {av : List zV} {S : zS} {v : Int} {k : Nat} {u : Nat → Rw} {a : Rw} (H : HC S k u a) (h : CA d mi av S 0 v) : ∃ S', RC S S' ∧ HC S' k u a ∧ ∀ (w : qW) (st : List zV) (nx : List zV → qS → Option qO), qz_ret 1 (zr_sem zF d mi av S) w st nx = nx (zi (zo v) :: st) (S', w) := by
  obtain ⟨S', h1, h2⟩ := h
  exact ⟨S', h2, h2.hc H, fun w st nx => qz_1 h1⟩
section QQ
variable {S : zS} {d k : Nat} {u : Nat → Rw} {a : Rw} {Tm : Int}
theorem qq_s (H : HC S k u a) (hw : WF Tm a) {p : Int} (p0 : 0 ≤ p) (p1 : p ≤ 14) : ∃ S', RC S S' ∧ HC S' k u a ∧ ∀ (w : qW) (st : List zV) (nx : List zV → qS → Option qO), qz_ret 1 (zr_sem zF (d + 4) 93 [za 1 0 0, zi (zo p)] S) w st nx = nx (zi (zo (sizV a p)) :: st) (S', w) := by
  have h := A93 (d := d) (p := p) H.1 hw (by omega) (by omega)
  rw [if_pos ⟨p0, p1⟩] at h
  exact qz_q H h
theorem qq_b (H : HC S k u a) (hw : WF Tm a) {b w : Nat} (hb : (b : Int) < a 9) (h1 : w ≤ 10) : ∃ S', RC S S' ∧ HC S' k u a ∧ ∀ (v : qW) (st : List zV) (nx : List zV → qS → Option qO), qz_ret 1 (zr_sem zF (d + 2) 94 [za 1 0 0, zi (zo (b : Int)), zi (zo (w : Int))] S) v st nx = nx (zi (zo (bnum a b w)) :: st) (S', v) := by
  have hw9 := hw.1.2.2.2.2.2.2.2.2.2
  have h := A94 (d := d) (p := (b : Int)) (r := (w : Int)) H.1 hw (by omega) (by omega) (by omega) (by omega)
  rw [if_pos ⟨⟨by omega, hb⟩, by omega, by omega⟩, Int.toNat_natCast, Int.toNat_natCast] at h
  exact qz_q H h
theorem qq_d (H : HC S k u a) (hw : WF Tm a) {b w : Nat} (hb : (b : Int) < a 7) (h1 : w ≤ 5) : ∃ S', RC S S' ∧ HC S' k u a ∧ ∀ (v : qW) (st : List zV) (nx : List zV → qS → Option qO), qz_ret 1 (zr_sem zF (d + 4) 95 [za 1 0 0, zi (zo (b : Int)), zi (zo (w : Int))] S) v st nx = nx (zi (zo (dnum a b w)) :: st) (S', v) := by
  have hw9 := hw.1.2.2.2.2.2.2.2
  have h := A95 (d := d) (p := (b : Int)) (r := (w : Int)) H.1 hw (by omega) (by omega) (by omega) (by omega)
  rw [if_pos ⟨⟨by omega, hb⟩, by omega, by omega⟩, Int.toNat_natCast, Int.toNat_natCast] at h
  exact qz_q H h
theorem qq_t (H : HC S k u a) (hw : WF Tm a) {b w : Nat} (hb : (b : Int) < a 8) (h1 : w ≤ 2) : ∃ S', RC S S' ∧ HC S' k u a ∧ ∀ (v : qW) (st : List zV) (nx : List zV → qS → Option qO), qz_ret 1 (zr_sem zF (d + 4) 96 [za 1 0 0, zi (zo (b : Int)), zi (zo (w : Int))] S) v st nx = nx (zi (zo (tnum a b w)) :: st) (S', v) := by
  have hw9 := hw.1.2.2.2.2.2.2.2
  have h := A96 (d := d) (p := (b : Int)) (r := (w : Int)) H.1 hw (by omega) (by omega) (by omega) (by omega)
  rw [if_pos ⟨⟨by omega, hb⟩, by omega, by omega⟩, Int.toNat_natCast, Int.toNat_natCast] at h
  exact qz_q H h
theorem qq_c (H : HC S k u a) (hw : WF Tm a) {c : Int} (c0 : 0 ≤ c) (c1 : c < a 0 * a 1) : ∃ S', RC S S' ∧ HC S' k u a ∧ ∀ (v : qW) (st : List zV) (nx : List zV → qS → Option qO), qz_ret 1 (zr_sem zF (d + 3) 97 [za 1 0 0, zi (zo (c % a 0)), zi (zo (c / a 0))] S) v st nx = nx (zi (zo (a (160 + c.toNat))) :: st) (S', v) := by
  have w0 := hw.1.1
  have w1 := hw.1.2.1
  have m0 := Int.emod_nonneg c (show a 0 ≠ 0 by omega)
  have m1 := Int.emod_lt_of_pos c (show 0 < a 0 by omega)
  have d0 := Int.ediv_nonneg c0 (show 0 ≤ a 0 by omega)
  have d1 : c / a 0 < a 1 := Int.ediv_lt_of_lt_mul (by omega) (by rw [Int.mul_comm]; exact c1)
  have e := Int.mul_ediv_add_emod c (a 0)
  have h := A97 (d := d) (p := c % a 0) (r := c / a 0) H.1 hw (by omega) (by omega) (by omega) (by omega)
  rw [if_pos ⟨⟨m0, m1⟩, d0, d1⟩, e] at h
  exact qz_q H h
end QQ
def lmp (f : Nat → Int32) : Nat → List Int32
  | 0 => []
  | n + 1 => lmp f n ++ [f n]
def lct (f : Nat → List Int32) : Nat → List Int32
  | 0 => []
  | n + 1 => lct f n ++ f n
theorem lmp_len (f : Nat → Int32) : ∀ n, (lmp f n).length = n
  | 0 => rfl
  | n + 1 => by show (lmp f n ++ [f n]).length = _; rw [List.length_append, lmp_len f n]; rfl
theorem lct_len (f : Nat → List Int32) {m : Nat} (h : ∀ i, (f i).length = m) : ∀ n, (lct f n).length = m * n
  | 0 => rfl
  | n + 1 => by show (lct f n ++ f n).length = _; rw [List.length_append, lct_len f h n, h, Nat.mul_succ]
/-- the next number is put into the row -/
theorem qp_nxt {T : qS} {j m : Nat} {w : List Int32} {x : Int32} {nx : qS → Option qO} (h : zx_nth T.2 j = some (.inr (.inl (0, w ++ List.replicate (m + 1) 0)))) (hl : w.length + m + 1 ≤ 1000000) : qa_st (8, j, 0) (zo (w.length : Int)) x T nx = nx (T.1, T.2.set j (.inr (.inl (0, (w ++ [x]) ++ List.replicate m 0)))) := by
  have e : (w ++ List.replicate (m + 1) 0).length = w.length + (m + 1) := by rw [List.length_append, List.length_replicate]
  rw [qp_st h (by omega) (by rw [e]; omega) (by rw [e]; omega), Int.toNat_natCast]
  have e2 : (w ++ List.replicate (m + 1) 0).set w.length x = (w ++ [x]) ++ List.replicate m 0 := by
    rw [List.set_append_right _ _ (Nat.le_refl _), Nat.sub_self, List.replicate_succ, List.append_assoc]
    rfl
  rw [e2]

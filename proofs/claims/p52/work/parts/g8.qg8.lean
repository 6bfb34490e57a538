/-! THE LAW'S PURE SIDE 18: the other questions; what an operation leaves -/
section QR
variable {S : zS} {d k : Nat} {u : Nat → Rw} {a : Rw} {Tm : Int}
theorem qq_o (H : HC S k u a) (hw : WF Tm a) {c : Int} (c0 : 0 ≤ c) (c1 : c < a 0 * a 1) : ∃ S', RC S S' ∧ HC S' k u a ∧ ∀ (v : qW) (st : List zV) (nx : List zV → qS → Option qO), qz_ret 1 (zr_sem zF (d + 3) 98 [za 1 0 0, zi (zo (c % a 0)), zi (zo (c / a 0))] S) v st nx = nx (zi (zo (occ a c (-1))) :: st) (S', v) := by
  have w0 := hw.1.1
  have w1 := hw.1.2.1
  have m0 := Int.emod_nonneg c (show a 0 ≠ 0 by omega)
  have m1 := Int.emod_lt_of_pos c (show 0 < a 0 by omega)
  have d0 := Int.ediv_nonneg c0 (show 0 ≤ a 0 by omega)
  have d1 : c / a 0 < a 1 := Int.ediv_lt_of_lt_mul (by omega) (by rw [Int.mul_comm]; exact c1)
  have e := Int.mul_ediv_add_emod c (a 0)
  have h := A98 (d := d) (p := c % a 0) (r := c / a 0) H.1 hw (by omega) (by omega) (by omega) (by omega)
  rw [if_pos ⟨⟨m0, m1⟩, d0, d1⟩, e] at h
  exact qz_q H h
theorem qq_a (H : HC S k u a) (hw : WF Tm a) {p : Int} (p0 : 0 ≤ p) (p1 : p < cnt a 0) (p2 : p ≤ 1000) : ∃ S', RC S S' ∧ HC S' k u a ∧ ∀ (v : qW) (st : List zV) (nx : List zV → qS → Option qO), qz_ret 1 (zr_sem zF (d + 3) 99 [za 1 0 0, zi (zo p)] S) v st nx = nx (zi (zo (afS a (a 9).toNat 0 p)) :: st) (S', v) := by
  have h := A99 (d := d) (p := p) H.1 hw (by omega) (by omega)
  rw [if_pos ⟨p0, p1⟩] at h
  exact qz_q H h
theorem qq_e (H : HC S k u a) (hw : WF Tm a) {p r : Int} (p0 : 0 ≤ p) (p1 : p < nen a) (p2 : p ≤ 1000) (r0 : 0 ≤ r) (r1 : r ≤ 3) : ∃ S', RC S S' ∧ HC S' k u a ∧ ∀ (v : qW) (st : List zV) (nx : List zV → qS → Option qO), qz_ret 1 (zr_sem zF (d + 3) 100 [za 1 0 0, zi (zo p), zi (zo r)] S) v st nx = nx (zi (zo (endN a p r)) :: st) (S', v) := by
  have h := A100 (d := d) (p := p) (r := r) H.1 hw (by omega) (by omega) (by omega) (by omega)
  rw [if_pos ⟨⟨p0, p1⟩, r0, r1⟩] at h
  exact qz_q H h
/-- an operation that is allowed: what it answers, and what it leaves -/
theorem qz_op {mi : Nat} {av : List zV} {sp : Sp} (H : HC S k u a) (h : OC d mi av S k u a sp) (h0 : sp.1 = 0) : ∃ S', FrP S S' ∧ HC S' (if sp.2.2.1 = true then recK k else k) (if sp.2.2.1 = true then recU k u a else u) sp.2.2.2 ∧ ∀ (w : qW) (st : List zV) (nx : List zV → qS → Option qO), qz_ret 1 (zr_sem zF d mi av S) w st nx = nx (zi (zo sp.2.1) :: st) (S', w) := by
  obtain ⟨S', h1, h2⟩ := h
  rw [h0] at h1
  refine ⟨S', h2.2.2.2, ⟨h2.1, h2.2.1, ?_, h2.2.2.1⟩, fun w st nx => qz_1 h1⟩
  have := H.2.2.1
  split
  · unfold recK
    split <;> omega
  · exact this
end QR

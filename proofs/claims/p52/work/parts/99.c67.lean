/-! THE PURE SIDE 67: what holds between the calls; one call -/
section DS
variable {S S' : zS} {d W C M k t t' tn k2 tn2 : Nat} {a s a2 s2 : Rw} {T fl ep v fl2 ep2 : Int} {u u2 : Nat → Rw} {f f2 : Bool} {fb tx fb2 tx2 : Nat → Int} {av : List zV} {q : Nat → Option Nat}
theorem recK_b (h : k ≤ 10) : recK k ≤ 10 := by unfold recK; split <;> omega
theorem recU_WF (h : ∀ i, WF T (u i)) (hw : WF T a) : ∀ i, WF T (recU k u a i) := by
  intro i
  unfold recU
  split
  · split
    · exact h _
    · exact hw
  · split
    · exact hw
    · exact h _
end DS

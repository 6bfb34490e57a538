/-! THE PURE SIDE 2: answers; the model's small methods -/
theorem zr0 (S : zS) (hv : zS → Option zO) (hx : Nat → zS → Option zO) : zx_ret0 (some (.inl none, S)) hv hx = hv S := rfl
theorem zr1 (x : Int32) (S : zS) (hv : Int32 → zS → Option zO) (hx : Nat → zS → Option zO) : zx_ret1 (some (.inl (some (zi x)), S)) hv hx = hv x S := rfl
theorem zr3 (x : UInt32) (S : zS) (hv : UInt32 → zS → Option zO) (hx : Nat → zS → Option zO) : zx_ret3 (some (.inl (some (zf x)), S)) hv hx = hv x S := rfl
theorem zr4 (x : UInt64) (S : zS) (hv : UInt64 → zS → Option zO) (hx : Nat → zS → Option zO) : zx_ret4 (some (.inl (some (zd x)), S)) hv hx = hv x S := rfl
theorem zr0x (e : Nat) (S : zS) (hv : zS → Option zO) (hx : Nat → zS → Option zO) : zx_ret0 (some (.inr e, S)) hv hx = hx e S := rfl
theorem zr1x (e : Nat) (S : zS) (hv : Int32 → zS → Option zO) (hx : Nat → zS → Option zO) : zx_ret1 (some (.inr e, S)) hv hx = hx e S := rfl
theorem zr3x (e : Nat) (S : zS) (hv : UInt32 → zS → Option zO) (hx : Nat → zS → Option zO) : zx_ret3 (some (.inr e, S)) hv hx = hx e S := rfl
theorem zr4x (e : Nat) (S : zS) (hv : UInt64 → zS → Option zO) (hx : Nat → zS → Option zO) : zx_ret4 (some (.inr e, S)) hv hx = hx e S := rfl
theorem zmod_e (c b : Int) : c - c / b * b = c % b := by
  have := Int.emod_add_mul_ediv c b
  rw [Int.mul_comm (c / b) b]
  omega
theorem zF1_big : 100000000000 < zF1 := by decide
/-- a truth as a number -/
def bI (b : Bool) : Int := if b = true then 1 else 0
theorem zb_and (b : Bool) : (zo (bI b) &&& 1 = zo (bI b)) = True := by cases b <;> exact eq_true rfl
theorem zb_0 (b : Bool) : (zo (bI b) = zo 0) = (b = false) := by cases b <;> simp [bI] <;> decide
theorem bI_dt {p : Prop} {i : Decidable p} (h : p) : bI (@decide p i) = 1 := by simp [bI, h]
theorem bI_df {p : Prop} {i : Decidable p} (h : ¬p) : bI (@decide p i) = 0 := by simp [bI, h]
theorem WF_nc {T : Int} {a : Rw} (hw : WF T a) : 9 ≤ a 0 * a 1 ∧ a 0 * a 1 ≤ 100 := by
  have hwO := hw; obtain ⟨⟨⟨u0, u0x⟩, ⟨u1, u1x⟩, ⟨u2, u2x⟩, ⟨u3, u3x⟩, ⟨u4, u4x⟩, ⟨u5, u5x⟩, ⟨u6, u6x, uT⟩, ⟨u7, u7x⟩, ⟨u8, u8x⟩, ⟨u9, u9x⟩⟩, uD, uP, uB, uS, uI⟩ := hwO
  have h1 : 3 * 3 ≤ a 0 * a 1 := Int.mul_le_mul u0 u1 (by omega) (by omega)
  have h2 : a 0 * a 1 ≤ 10 * 10 := Int.mul_le_mul u0x u1x (by omega) (by omega)
  omega
section MA
variable {S : zS} {q d : Nat} {a : Rw} {T : Int}
end MA

/-! THE PURE SIDE 69: the law's loop: questions (written by tools/gen69.py) -/
theorem i32 (x : Int32) : ∃ p : Int, x = zo p ∧ -2147483648 ≤ p ∧ p < 2147483648 := ⟨x.toInt, (Int32.ofInt_toInt x).symm, x.le_toInt, x.toInt_lt⟩
section DU
variable {S S' : zS} {n len k tn : Nat} {a s : Rw} {T fl ep : Int} {u : Nat → Rw} {f : Bool} {fb tx : Nat → Int} {pc cut W M : Nat} {av : List zV}
end DU

/-! THE PURE SIDE 35: calm: the sweeps; class -/
def eB (a : Rw) (e : Int → Int) : Prop := ∀ c, inN a c → 0 ≤ e c ∧ e c ≤ 2
section CZ
variable {S : zS} {d n : Nat} {a : Rw} {T v p r x : Int} {e : Int → Int}
end CZ

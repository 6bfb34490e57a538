/-! THE PURE SIDE 50: queries: what they come to -/
abbrev Rq : Type := Et × (List Int × (Nat → Bool))
section DK
variable {n p q t t2 k m : Nat} {tx : Nat → Int} {a : Rw} {st : Et} {f : Et → Rq} {c lo hi : Int} {r : Rq}
end DK

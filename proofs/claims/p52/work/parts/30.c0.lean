/-! THE PURE SIDE 0: numbers, runs, answers (C) -/
def zo (x : Int) : Int32 := Int32.ofInt x
def zF1 : Nat := 999999999999999
def zF : Nat := zF1 + 1
/-- a run of method mi from a cut -/
def zy (F d mi n pc : Nat) (lv : zL) (S : zS) : Option zO := (zt_ms mi).bind (fun M => zx_run (fun mi av S => zr_sem F d mi av S) M.1 M.2.1 M.2.2.2 n pc lv [] S)
def zys (F d mi n pc : Nat) (lv : zL) (st : List zV) (S : zS) : Option zO := (zt_ms mi).bind (fun M => zx_run (fun mi av S => zr_sem F d mi av S) M.1 M.2.1 M.2.2.2 n pc lv st S)
def zsn (S : zS) : zS := (S.1, S.2.1, S.2.2.1, S.2.2.2 + 1)
def zxx : Nat → zS → Option zO := fun e S => some (.inr e, S)
def zmin (x y : Int32) : Int32 := if y < x then y else x
def zmax (x y : Int32) : Int32 := if x < y then y else x
def zabs (x : Int32) : Int32 := if 0 ≤ x then x else 0 - x
theorem zr_y {d mi : Nat} {av : List zV} {S : zS} {lv : zL} {M : List zE × Nat × Nat × Nat} (hM : zt_ms mi = some M) (h : zl_init av M.2.2.1 = lv) : zr_sem zF (d + 1) mi av S = zy zF d mi (zF1 + 1) 0 lv S := by
  subst h
  show (zt_ms mi).bind _ = (zt_ms mi).bind _
  rw [hM]
  rfl
def zlt (S : zS) (f : zS → Option zO) : Option zO := f S


/-! THE LAW'S LEVEL 16: its methods' tables, checked (the kernel reads the code) -/
def qk_t (M : zM) (T : List zE × Nat × Nat × Nat) : Bool := Nat.beq T.2.2.1 M.2.2.1 && T.1.all (qk_e M.1.cls M.1.name M.2.1 M.2.2.1 M.2.2.2.1 T.2.1) && qk_seq T.1
def qk_ti (i : Nat) : Bool := match zx_nth qt_ms i, zx_nth qt_mis i with
  | some T, some M => qk_t M T
  | _, _ => false
def qk_rng (a : Nat) : Nat → Bool
  | 0 => true
  | n + 1 => qk_ti a && qk_rng (a + 1) n
theorem qk_rng_ok : ∀ (n a i : Nat), qk_rng a n = true → a ≤ i → i < a + n → qk_ti i = true := by
  intro n
  induction n with
  | zero => intro a i _ h1 h2; omega
  | succ n ih =>
    intro a i h h1 h2
    unfold qk_rng at h
    rw [Bool.and_eq_true] at h
    by_cases e : i = a
    · rw [e]; exact h.1
    · exact ih (a + 1) i h.2 (by omega) (by omega)
theorem qt_t0 : qk_rng 0 11 = true := by decide +kernel
theorem qt_t1 : qk_rng 11 9 = true := by decide +kernel
theorem qt_t2 : qk_rng 20 15 = true := by decide +kernel
theorem qt_t3 : qk_rng 35 4 = true := by decide +kernel
theorem qt_t4 : qk_rng 39 1 = true := by decide +kernel
theorem qt_len : qt_ms.length = 47 ∧ qt_mis.length = 47 := by decide +kernel

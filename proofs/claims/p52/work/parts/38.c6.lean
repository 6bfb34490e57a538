/-! THE PURE SIDE 6: the flow, the force, the growth: model -/
def shM (a : Rw) (c s r dir : Int) : UInt32 := if s % a 0 - c % a 0 = 0 ∧ s / a 0 - c / a 0 = 0 then FP.fconst0 else shq (s % a 0 - c % a 0) (s / a 0 - c / a 0) r (if dir = 0 then s % a 0 - c % a 0 else s / a 0 - c / a 0)
def flD (a : Rw) (c dir : Int) : Nat → UInt32
  | 0 => FP.fconst0
  | k + 1 => if wks a k = true then FP.fadd (flD a c dir k) (shM a c (a (10 + 4 * k)) (a (10 + 4 * k + 2)) dir) else flD a c dir k
def flT (a : Rw) (c dir : Int) : Nat → UInt32
  | 0 => flD a c dir (a 7).toNat
  | k + 1 => FP.fsub (flT a c dir k) (shM a c (a (30 + 2 * k)) (a (30 + 2 * k + 1)) dir)
def fl (a : Rw) (c dir : Int) : UInt32 := flT a c dir (a 8).toNat
theorem sq_b {x : Int} (h1 : -9 ≤ x) (h2 : x ≤ 9) : 0 ≤ x * x ∧ x * x ≤ 81 ∧ (x * x = 0 → x = 0) := by
  have : x = -9 ∨ x = -8 ∨ x = -7 ∨ x = -6 ∨ x = -5 ∨ x = -4 ∨ x = -3 ∨ x = -2 ∨ x = -1 ∨ x = 0 ∨ x = 1 ∨ x = 2 ∨ x = 3 ∨ x = 4 ∨ x = 5 ∨ x = 6 ∨ x = 7 ∨ x = 8 ∨ x = 9 := by omega
  rcases this with h | h | h | h | h | h | h | h | h | h | h | h | h | h | h | h | h | h | h <;> subst h <;> decide
theorem iab_b (x : Int) : 0 ≤ iab x ∧ (iab x = 0 → x = 0) ∧ (iab x ≤ x ∨ iab x ≤ -x) := by unfold iab; split <;> omega
theorem sh_nz {dx dy : Int} (h1 : -9 ≤ dx) (h2 : dx ≤ 9) (h3 : -9 ≤ dy) (h4 : dy ≤ 9) (h : ¬(dx = 0 ∧ dy = 0)) : zo (dx * dx + dy * dy) ≠ zo 0 ∧ zo (iab dx + iab dy) ≠ zo 0 := by
  have s1 := sq_b h1 h2
  have s2 := sq_b h3 h4
  have i1 := iab_b dx
  have i2 := iab_b dy
  exact ⟨zo_nz (by omega) (by omega) (by omega), zo_nz (by omega) (by omega) (by omega)⟩
/-- columns and rows -/
theorem col_rng {a : Rw} {T c : Int} (hw : WF T a) (h1 : 0 ≤ c) (h2 : c < a 0 * a 1) : 0 ≤ c % a 0 ∧ c % a 0 < a 0 ∧ 0 ≤ c / a 0 ∧ c / a 0 < a 1 := by
  have hwO := hw; obtain ⟨⟨⟨u0, u0x⟩, ⟨u1, u1x⟩, ⟨u2, u2x⟩, ⟨u3, u3x⟩, ⟨u4, u4x⟩, ⟨u5, u5x⟩, ⟨u6, u6x, uT⟩, ⟨u7, u7x⟩, ⟨u8, u8x⟩, ⟨u9, u9x⟩⟩, uD, uP, uB, uS, uI⟩ := hwO
  have g := cel_of (a := a) (c := c) (by omega) h1 h2
  omega
theorem shM_fin {a : Rw} {T c s : Int} (hw : WF T a) (h1 : 0 ≤ c) (h2 : c < a 0 * a 1) (h3 : 0 ≤ s) (h4 : s < a 0 * a 1) (r dir : Int) : FP.Core.FFin (shM a c s r dir) := by
  have g1 := col_rng hw h1 h2
  have g2 := col_rng hw h3 h4
  have hwO := hw; obtain ⟨⟨⟨u0, u0x⟩, ⟨u1, u1x⟩, ⟨u2, u2x⟩, ⟨u3, u3x⟩, ⟨u4, u4x⟩, ⟨u5, u5x⟩, ⟨u6, u6x, uT⟩, ⟨u7, u7x⟩, ⟨u8, u8x⟩, ⟨u9, u9x⟩⟩, uD, uP, uB, uS, uI⟩ := hwO
  unfold shM
  split
  · exact ⟨false, 0, FP.Core.b32.qmin, FP.Core.val32_fconst0⟩
  · rename_i h
    have n := sh_nz (by omega) (by omega) (by omega) (by omega) h
    exact (shq_fin n.1 n.2).2.2
theorem flD_gd {a : Rw} {T c : Int} (hw : WF T a) (h1 : 0 ≤ c) (h2 : c < a 0 * a 1) (dir : Int) : ∀ k : Nat, (k : Int) ≤ a 7 → fgd (flD a c dir k) := by
  intro k
  induction k with
  | zero => exact fun _ => fgd_0
  | succ k ih =>
    intro hk
    have g := hw.2.1 k (by omega)
    unfold flD
    split
    · exact fgd_add (ih (by omega)) (shM_fin hw h1 h2 (by omega) (by omega) _ _)
    · exact ih (by omega)
theorem flT_gd {a : Rw} {T c : Int} (hw : WF T a) (h1 : 0 ≤ c) (h2 : c < a 0 * a 1) (dir : Int) : ∀ k : Nat, (k : Int) ≤ a 8 → fgd (flT a c dir k) := by
  intro k
  induction k with
  | zero =>
    intro _
    have u7 := hw.1.2.2.2.2.2.2.2.1
    exact flD_gd hw h1 h2 dir _ (by omega)
  | succ k ih =>
    intro hk
    have g := hw.2.2.1 k (by omega)
    unfold flT
    exact fgd_sub (ih (by omega)) (shM_fin hw h1 h2 (by omega) (by omega) _ _)
theorem fl_gd {a : Rw} {T c : Int} (hw : WF T a) (h1 : 0 ≤ c) (h2 : c < a 0 * a 1) (dir : Int) : fgd (fl a c dir) := by
  have u7 := hw.1.2.2.2.2.2.2.2.2.1
  exact flT_gd hw h1 h2 dir _ (by omega)
/-- by how much the drift grows -/
def groF (a : Rw) (f : UInt32) (b : Nat) : Int32 := FP.f2i (FP.fdiv (FP.fmul f (FP.i2f (zo (a 2)))) (FP.i2f (zo (10 * a (40 + 10 * b + 1)))))
def gro (a : Rw) (b : Nat) (dir : Int) : Int32 := (groF a (fl a (a (40 + 10 * b)) dir) b + zo (a 3 * (spIn a (a (40 + 10 * b) % a 0 - (if dir = 0 then 1 else 0)) (a (40 + 10 * b) / a 0 - (if dir = 0 then 0 else 1)) - spIn a (a (40 + 10 * b) % a 0 + (if dir = 0 then 1 else 0)) (a (40 + 10 * b) / a 0 + (if dir = 0 then 0 else 1))))) + zo ((10 * a (4 + dir.toNat)).tdiv (a (40 + 10 * b + 1)))
theorem gro_nan {a : Rw} {x : UInt32} (hx : fgd x) {l m : Int} (h1 : zo l ≠ zo 0) (h2 : zo m ≠ zo 0) : FP.fIsNaN (FP.fmul x (FP.i2f (zo l))) = false ∧ FP.fIsNaN (FP.fdiv (FP.fmul x (FP.i2f (zo l))) (FP.i2f (zo m))) = false := by
  have a1 := FP.Core.fmul_out' (fgd_nan hx) (FP.Core.i2f_fin (zo l)) (i2f_nz h1)
  exact ⟨a1, FP.Core.fdiv_out a1 (FP.Core.i2f_fin (zo m)) (i2f_nz h2)⟩
section MC
variable {S : zS} {q d : Nat} {a : Rw} {T : Int}
end MC

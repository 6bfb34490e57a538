/-! THE PURE SIDE 6: the flow, the force, the growth: model -/
def shM (a : Rw) (c s r dir : Int) : UInt32 := if s % a 0 - c % a 0 = 0 ∧ s / a 0 - c / a 0 = 0 then FP.fconst0 else shq (s % a 0 - c % a 0) (s / a 0 - c / a 0) r (if dir = 0 then s % a 0 - c % a 0 else s / a 0 - c / a 0)
def flD (a : Rw) (c dir : Int) : Nat → UInt32
  | 0 => FP.fconst0
  | k + 1 => if wks a k = true then FP.fadd (flD a c dir k) (shM a c (a (10 + 4 * k)) (a (10 + 4 * k + 2)) dir) else flD a c dir k
def flT (a : Rw) (c dir : Int) : Nat → UInt32
  | 0 => flD a c dir (a 7).toNat
  | k + 1 => FP.fsub (flT a c dir k) (shM a c (a (30 + 2 * k)) (a (30 + 2 * k + 1)) dir)
def fl (a : Rw) (c dir : Int) : UInt32 := flT a c dir (a 8).toNat
def fab (x : UInt32) : UInt32 := if FP.fcmp x FP.fconst0 = some .lt then FP.fsub FP.fconst0 x else x
def frc (a : Rw) (c : Int) : UInt32 := FP.fadd (fab (fl a c 0)) (fab (fl a c 1))
theorem sq_b {x : Int} (h1 : -9 ≤ x) (h2 : x ≤ 9) : 0 ≤ x * x ∧ x * x ≤ 81 ∧ (x * x = 0 → x = 0) := by
  have : x = -9 ∨ x = -8 ∨ x = -7 ∨ x = -6 ∨ x = -5 ∨ x = -4 ∨ x = -3 ∨ x = -2 ∨ x = -1 ∨ x = 0 ∨ x = 1 ∨ x = 2 ∨ x = 3 ∨ x = 4 ∨ x = 5 ∨ x = 6 ∨ x = 7 ∨ x = 8 ∨ x = 9 := by omega
  rcases this with h | h | h | h | h | h | h | h | h | h | h | h | h | h | h | h | h | h | h <;> subst h <;> decide
theorem iab_b (x : Int) : 0 ≤ iab x ∧ (iab x = 0 → x = 0) ∧ (iab x ≤ x ∨ iab x ≤ -x) := by unfold iab; split <;> omega
theorem sh_nz {dx dy : Int} (h1 : -9 ≤ dx) (h2 : dx ≤ 9) (h3 : -9 ≤ dy) (h4 : dy ≤ 9) (h : ¬(dx = 0 ∧ dy = 0)) : zo (dx * dx + dy * dy) ≠ zo 0 ∧ zo (iab dx + iab dy) ≠ zo 0 := by
  have s1 := sq_b h1 h2
  have s2 := sq_b h3 h4
  have i1 := iab_b dx
  have i2 := iab_b dy
  exact ⟨zo_nz (by omega) (by omega) (by omega), zo_nz (by omega) (by omega) (by omega)⟩
/-- columns and rows -/
theorem col_rng {a : Rw} {T c : Int} (hw : WF T a) (h1 : 0 ≤ c) (h2 : c < a 0 * a 1) : 0 ≤ c % a 0 ∧ c % a 0 < a 0 ∧ 0 ≤ c / a 0 ∧ c / a 0 < a 1 := by
  have hwO := hw; obtain ⟨⟨⟨u0, u0x⟩, ⟨u1, u1x⟩, ⟨u2, u2x⟩, ⟨u3, u3x⟩, ⟨u4, u4x⟩, ⟨u5, u5x⟩, ⟨u6, u6x, uT⟩, ⟨u7, u7x⟩, ⟨u8, u8x⟩, ⟨u9, u9x⟩⟩, uD, uP, uB, uS, uI⟩ := hwO
  have g := cel_of (a := a) (c := c) (by omega) h1 h2
  omega
theorem shM_fin {a : Rw} {T c s : Int} (hw : WF T a) (h1 : 0 ≤ c) (h2 : c < a 0 * a 1) (h3 : 0 ≤ s) (h4 : s < a 0 * a 1) (r dir : Int) : FP.Core.FFin (shM a c s r dir) := by
  have g1 := col_rng hw h1 h2
  have g2 := col_rng hw h3 h4
  have hwO := hw; obtain ⟨⟨⟨u0, u0x⟩, ⟨u1, u1x⟩, ⟨u2, u2x⟩, ⟨u3, u3x⟩, ⟨u4, u4x⟩, ⟨u5, u5x⟩, ⟨u6, u6x, uT⟩, ⟨u7, u7x⟩, ⟨u8, u8x⟩, ⟨u9, u9x⟩⟩, uD, uP, uB, uS, uI⟩ := hwO
  unfold shM
  split
  · exact ⟨false, 0, FP.Core.b32.qmin, FP.Core.val32_fconst0⟩
  · rename_i h
    have n := sh_nz (by omega) (by omega) (by omega) (by omega) h
    exact (shq_fin n.1 n.2).2.2
theorem flD_gd {a : Rw} {T c : Int} (hw : WF T a) (h1 : 0 ≤ c) (h2 : c < a 0 * a 1) (dir : Int) : ∀ k : Nat, (k : Int) ≤ a 7 → fgd (flD a c dir k) := by
  intro k
  induction k with
  | zero => exact fun _ => fgd_0
  | succ k ih =>
    intro hk
    have g := hw.2.1 k (by omega)
    unfold flD
    split
    · exact fgd_add (ih (by omega)) (shM_fin hw h1 h2 (by omega) (by omega) _ _)
    · exact ih (by omega)
theorem flT_gd {a : Rw} {T c : Int} (hw : WF T a) (h1 : 0 ≤ c) (h2 : c < a 0 * a 1) (dir : Int) : ∀ k : Nat, (k : Int) ≤ a 8 → fgd (flT a c dir k) := by
  intro k
  induction k with
  | zero =>
    intro _
    have u7 := hw.1.2.2.2.2.2.2.2.1
    exact flD_gd hw h1 h2 dir _ (by omega)
  | succ k ih =>
    intro hk
    have g := hw.2.2.1 k (by omega)
    unfold flT
    exact fgd_sub (ih (by omega)) (shM_fin hw h1 h2 (by omega) (by omega) _ _)
theorem fl_gd {a : Rw} {T c : Int} (hw : WF T a) (h1 : 0 ≤ c) (h2 : c < a 0 * a 1) (dir : Int) : fgd (fl a c dir) := by
  have u7 := hw.1.2.2.2.2.2.2.2.2.1
  exact flT_gd hw h1 h2 dir _ (by omega)
theorem cmpG (x : UInt32) : (zo 0 ≤ Op.cmpValue (FP.fcmp x FP.fconst0) .g) = ¬(FP.fcmp x FP.fconst0 = some .lt) := by
  cases FP.fcmp x FP.fconst0 with
  | none => simp [Op.cmpValue]; decide
  | some o => cases o <;> simp [Op.cmpValue] <;> decide
theorem fab_ninf {x : UInt32} (h : fgd x) : FP.Core.val32 (fab x) ≠ .nan ∧ FP.Core.val32 (fab x) ≠ .inf true := by
  unfold fab
  split
  · rename_i l
    have e : FP.Core.val32 (FP.Core.fsub FP.fconst0 x) = FP.Core.round FP.Core.b32 (FP.Core.exactSum (FP.Core.val32 FP.fconst0) (FP.Core.negate (FP.Core.val32 x))) := FP.Core.val32_fsub _ _
    have l : FP.Core.order (FP.Core.val32 x) (FP.Core.val32 FP.Core.fconst0) = some .lt := l
    have z : FP.Core.val32 FP.fconst0 = .fin false 0 FP.Core.b32.qmin := FP.Core.val32_fconst0
    have z2 : FP.Core.val32 FP.Core.fconst0 = .fin false 0 FP.Core.b32.qmin := FP.Core.val32_fconst0
    show FP.Core.val32 (FP.Core.fsub FP.fconst0 x) ≠ _ ∧ FP.Core.val32 (FP.Core.fsub FP.fconst0 x) ≠ _
    rw [e, z]
    rw [z2] at l
    cases hx : FP.Core.val32 x with
    | nan => exact absurd hx h.1
    | inf s =>
      rw [hx] at l
      cases s with
      | false => exact absurd l (by decide +kernel)
      | true => exact ⟨by decide +kernel, by decide +kernel⟩
    | fin s c q =>
      rw [hx] at l
      have l : some (compare (FP.Core.signed s (FP.Core.inUnits c q (min q FP.Core.b32.qmin))) (FP.Core.signed false (FP.Core.inUnits 0 FP.Core.b32.qmin (min q FP.Core.b32.qmin)))) = some .lt := l
      have l2 := (FP.Core.compare_lt_iff _ _).mp (Option.some.inj l)
      have l3 : FP.Core.signed false (FP.Core.inUnits 0 FP.Core.b32.qmin (min q FP.Core.b32.qmin)) = 0 := by
        unfold FP.Core.inUnits; rw [Nat.zero_mul]; rfl
      rw [l3] at l2
      have hs : s = true := by
        cases s with
        | true => rfl
        | false => unfold FP.Core.signed at l2; simp only [Bool.false_eq_true, if_false] at l2; omega
      subst hs
      have f := FP.Core.val32_fits x
      rw [hx] at f
      -- the exact sum is the number negated
      have key : ∀ d : FP.Core.Datum, FP.Core.fits FP.Core.b32 d → FP.Core.val32 (FP.Core.fadd FP.fconst0 (FP.Core.of32 d)) = FP.Core.round FP.Core.b32 (FP.Core.exactSum (.fin false 0 FP.Core.b32.qmin) d) := by
        intro d hd
        rw [FP.Core.val32_fadd, FP.Core.val32_of32 hd, z]
      have hf : FP.Core.fits FP.Core.b32 (FP.Core.negate (.fin true c q)) := f
      constructor
      · intro hn
        have := (FP.Core.round_nan).mp hn
        cases this
      · intro hn
        rw [← key _ hf] at hn
        rw [FP.Core.fadd_comm, show FP.fconst0 = FP.Core.fconst0 from rfl] at hn
        have g0 : FP.Core.val32 (FP.Core.of32 (FP.Core.negate (.fin true c q))) = .fin false c q := FP.Core.val32_of32 hf
        rw [FP.Core.fadd_zero (by rw [g0]; exact FP.Core.Datum.noConfusion) (fun e => by rw [e, FP.Core.val32_fzeroNeg] at g0; cases g0)] at hn
        rw [g0] at hn; cases hn
  · rename_i l
    refine ⟨h.1, fun e => l ?_⟩
    show FP.Core.order (FP.Core.val32 x) (FP.Core.val32 FP.Core.fconst0) = some .lt
    rw [e, FP.Core.val32_fconst0]; decide +kernel
theorem frc_nan {x y : UInt32} (hx : fgd x) (hy : fgd y) : FP.fIsNaN (FP.fadd (fab x) (fab y)) = false := by
  have a := fab_ninf hx
  have b := fab_ninf hy
  refine FP.Core.not_true32 (FP.Core.fadd_nan_iff _ _) ?_
  rintro (h | h | ⟨s, h1, h2⟩)
  · exact a.1 h
  · exact b.1 h
  · cases s with
    | true => exact a.2 h1
    | false => exact b.2 h2
/-- by how much the drift grows -/
def groF (a : Rw) (f : UInt32) (b : Nat) : Int32 := FP.f2i (FP.fdiv (FP.fmul f (FP.i2f (zo (a 2)))) (FP.i2f (zo (10 * a (40 + 10 * b + 1)))))
def gro (a : Rw) (b : Nat) (dir : Int) : Int32 := (groF a (fl a (a (40 + 10 * b)) dir) b + zo (a 3 * (spIn a (a (40 + 10 * b) % a 0 - (if dir = 0 then 1 else 0)) (a (40 + 10 * b) / a 0 - (if dir = 0 then 0 else 1)) - spIn a (a (40 + 10 * b) % a 0 + (if dir = 0 then 1 else 0)) (a (40 + 10 * b) / a 0 + (if dir = 0 then 0 else 1))))) + zo ((10 * a (4 + dir.toNat)).tdiv (a (40 + 10 * b + 1)))
theorem gro_nan {a : Rw} {x : UInt32} (hx : fgd x) {l m : Int} (h1 : zo l ≠ zo 0) (h2 : zo m ≠ zo 0) : FP.fIsNaN (FP.fmul x (FP.i2f (zo l))) = false ∧ FP.fIsNaN (FP.fdiv (FP.fmul x (FP.i2f (zo l))) (FP.i2f (zo m))) = false := by
  have a1 := FP.Core.fmul_out' (fgd_nan hx) (FP.Core.i2f_fin (zo l)) (i2f_nz h1)
  exact ⟨a1, FP.Core.fdiv_out a1 (FP.Core.i2f_fin (zo m)) (i2f_nz h2)⟩
section MC
variable {S : zS} {q d : Nat} {a : Rw} {T : Int}
theorem m176 (h : Md S q a) (hw : WF T a) {c s r dir : Int} (h1 : 0 ≤ c) (h2 : c < a 0 * a 1) (h3 : 0 ≤ s) (h4 : s < a 0 * a 1) (hd : dir = 0 ∨ dir = 1) : zr_sem zF (d + 2) 176 [za 3 0 0, zi (zo c), zi (zo s), zi (zo r), zi (zo dir)] S = some (.inl (some (zf (shM a c s r dir))), S) := by
  rw [ze_176]
  have uN := WF_nc hw
  have g1 := col_rng hw h1 h2
  have g2 := col_rng hw h3 h4
  have hwO := hw; obtain ⟨⟨⟨u0, u0x⟩, ⟨u1, u1x⟩, ⟨u2, u2x⟩, ⟨u3, u3x⟩, ⟨u4, u4x⟩, ⟨u5, u5x⟩, ⟨u6, u6x, uT⟩, ⟨u7, u7x⟩, ⟨u8, u8x⟩, ⟨u9, u9x⟩⟩, uD, uP, uB, uS, uI⟩ := hwO
  simp (maxSteps := 10000000) (disch := omega) only [m155 h hw, m156 h hw, m150, zo_add, zo_sub, zo_mul, zo_neg, zo_lt, zo_le, zo_eq, zo_nn, zin_ok, zlt_eq, zr0, zr1, zr3, zr4, zr0x, zr1x, zr3x, zr4x, zb_and, zb_0, zmin_o, zmax_o, zabs_o, zo_div, zo_mod, ↓reduceIte, Int.reduceToNat, Int.reduceNeg, Int.reduceAdd, Int.reduceMul, Int.reduceSub, Nat.reduceAdd, Nat.reduceMul]
  unfold shM
  have r1 : -9 ≤ s % a 0 - c % a 0 ∧ s % a 0 - c % a 0 ≤ 9 ∧ -9 ≤ s / a 0 - c / a 0 ∧ s / a 0 - c / a 0 ≤ 9 := by omega
  generalize s % a 0 - c % a 0 = dx at *
  generalize s / a 0 - c / a 0 = dy at *
  by_cases z : dx = 0 ∧ dy = 0
  · rw [if_pos z.1, if_pos z.2, if_pos z]
  · rw [if_neg z]
    have n := sh_nz (dx := dx) (dy := dy) (by omega) (by omega) (by omega) (by omega) z
    have fx := shq_fin (r := r) (v := dx) n.1 n.2
    have fy := shq_fin (r := r) (v := dy) n.1 n.2
    have e1 := fx.1.notNaN
    have e2 := fx.2.1.notNaN
    have e3 := fx.2.2.notNaN
    have e4 := fy.2.1.notNaN
    have e5 := fy.2.2.notNaN
    unfold shq at e3 e5
    have e1 : FP.fIsNaN _ = false := e1
    have e2 : FP.fIsNaN _ = false := e2
    have e3 : FP.fIsNaN _ = false := e3
    have e4 : FP.fIsNaN _ = false := e4
    have e5 : FP.fIsNaN _ = false := e5
    simp only [e1, e2, e3, e4, e5, Bool.false_eq_true, if_false]
    unfold shq
    by_cases zx : dx = 0
    · rw [if_pos zx, if_neg (fun zy => z ⟨zx, zy⟩)]
      rcases hd with e | e <;> subst e <;> simp
    · rw [if_neg zx]
      rcases hd with e | e <;> subst e <;> simp
theorem m177_t (h : Md S q a) (hw : WF T a) {c dir : Int} (g1 : 0 ≤ c) (g2 : c < a 0 * a 1) (hd : dir = 0 ∨ dir = 1) : ∀ (m k n : Nat), k + m = (a 8).toNat → m < n → zy zF (d + 2) 177 n 58 [some (za 3 0 0), some (zi (zo c)), some (zi (zo dir)), some (zf (flT a c dir k)), some (zi (zo k))] S = some (.inl (some (zf (fl a c dir))), S) := by
  have hh := h
  have hO := h; obtain ⟨h1, hq, h2⟩ := hO
  have hwO := hw; obtain ⟨⟨⟨u0, u0x⟩, ⟨u1, u1x⟩, ⟨u2, u2x⟩, ⟨u3, u3x⟩, ⟨u4, u4x⟩, ⟨u5, u5x⟩, ⟨u6, u6x, uT⟩, ⟨u7, u7x⟩, ⟨u8, u8x⟩, ⟨u9, u9x⟩⟩, uD, uP, uB, uS, uI⟩ := hwO
  have uN := WF_nc hw
  intro m
  induction m with
  | zero =>
    intro k n hk hn
    obtain ⟨n, rfl⟩ : ∃ n', n = n' + 1 := ⟨n - 1, by omega⟩
    rw [ze_177_58]
    simp (maxSteps := 10000000) (disch := omega) only [h1, hq, h2, zo_add, zo_sub, zo_mul, zo_neg, zo_lt, zo_le, zo_eq, zo_nn, zin_ok, zlt_eq, zr0, zr1, zr3, zr4, zr0x, zr1x, zr3x, zr4x, zb_and, zb_0, zmin_o, zmax_o, zabs_o, zo_div, zo_mod, ↓reduceIte, Int.reduceToNat, Int.reduceNeg, Int.reduceAdd, Int.reduceMul, Int.reduceSub, Nat.reduceAdd, Nat.reduceMul]
    rw [if_pos (by omega), show k = (a 8).toNat by omega]; rfl
  | succ m ih =>
    intro k n hk hn
    obtain ⟨n, rfl⟩ : ∃ n', n = n' + 1 := ⟨n - 1, by omega⟩
    have gD := uP k (by omega)
    have e := fgd_nan (fgd_sub (flT_gd hw g1 g2 dir k (by omega)) (shM_fin hw g1 g2 gD.1.1 gD.1.2 (a (30 + 2 * k + 1)) dir))
    rw [ze_177_58]
    simp (maxSteps := 10000000) (disch := omega) only [h1, hq, h2, m163_0 hh, m163_1 hh, m176 hh hw g1 g2 gD.1.1 gD.1.2 hd, e, Bool.false_eq_true, zo_add, zo_sub, zo_mul, zo_neg, zo_lt, zo_le, zo_eq, zo_nn, zin_ok, zlt_eq, zr0, zr1, zr3, zr4, zr0x, zr1x, zr3x, zr4x, zb_and, zb_0, zmin_o, zmax_o, zabs_o, zo_div, zo_mod, ↓reduceIte, Int.reduceToNat, Int.reduceNeg, Int.reduceAdd, Int.reduceMul, Int.reduceSub, Nat.reduceAdd, Nat.reduceMul]
    rw [if_neg (by omega)]
    exact ih (k + 1) n (by omega) (by omega)
theorem m177_d (h : Md S q a) (hw : WF T a) {c dir : Int} (g1 : 0 ≤ c) (g2 : c < a 0 * a 1) (hd : dir = 0 ∨ dir = 1) : ∀ (m k n : Nat), k + m = (a 7).toNat → m + 10 < n → zy zF (d + 4) 177 n 5 [some (za 3 0 0), some (zi (zo c)), some (zi (zo dir)), some (zf (flD a c dir k)), some (zi (zo k))] S = some (.inl (some (zf (fl a c dir))), S) := by
  have hh := h
  have hO := h; obtain ⟨h1, hq, h2⟩ := hO
  have hwO := hw; obtain ⟨⟨⟨u0, u0x⟩, ⟨u1, u1x⟩, ⟨u2, u2x⟩, ⟨u3, u3x⟩, ⟨u4, u4x⟩, ⟨u5, u5x⟩, ⟨u6, u6x, uT⟩, ⟨u7, u7x⟩, ⟨u8, u8x⟩, ⟨u9, u9x⟩⟩, uD, uP, uB, uS, uI⟩ := hwO
  have uN := WF_nc hw
  intro m
  induction m with
  | zero =>
    intro k n hk hn
    obtain ⟨n, rfl⟩ : ∃ n', n = n' + 1 := ⟨n - 1, by omega⟩
    rw [ze_177_5]
    simp (maxSteps := 10000000) (disch := omega) only [h1, hq, h2, zo_add, zo_sub, zo_mul, zo_neg, zo_lt, zo_le, zo_eq, zo_nn, zin_ok, zlt_eq, zr0, zr1, zr3, zr4, zr0x, zr1x, zr3x, zr4x, zb_and, zb_0, zmin_o, zmax_o, zabs_o, zo_div, zo_mod, ↓reduceIte, Int.reduceToNat, Int.reduceNeg, Int.reduceAdd, Int.reduceMul, Int.reduceSub, Nat.reduceAdd, Nat.reduceMul]
    rw [if_pos (by omega), show k = (a 7).toNat by omega]
    exact m177_t (d := d + 2) hh hw g1 g2 hd (a 8).toNat 0 n (by omega) (by omega)
  | succ m ih =>
    intro k n hk hn
    obtain ⟨n, rfl⟩ : ∃ n', n = n' + 1 := ⟨n - 1, by omega⟩
    have gD := uD k (by omega)
    have e := fgd_nan (fgd_add (flD_gd hw g1 g2 dir k (by omega)) (shM_fin hw g1 g2 gD.1.1 gD.1.2 (a (10 + 4 * k + 2)) dir))
    have i := ih (k + 1) n (by omega) (by omega)
    rw [show ((k + 1 : Nat) : Int) = (k : Int) + 1 from rfl] at i
    unfold flD at i
    rw [ze_177_5]
    simp (maxSteps := 10000000) (disch := omega) only [h1, hq, h2, m171 hh hw (k := k) (by omega), m162_0 hh, m162_2 hh, m176 hh hw g1 g2 gD.1.1 gD.1.2 hd, e, Bool.false_eq_true, zo_add, zo_sub, zo_mul, zo_neg, zo_lt, zo_le, zo_eq, zo_nn, zin_ok, zlt_eq, zr0, zr1, zr3, zr4, zr0x, zr1x, zr3x, zr4x, zb_and, zb_0, zmin_o, zmax_o, zabs_o, zo_div, zo_mod, ↓reduceIte, Int.reduceToNat, Int.reduceNeg, Int.reduceAdd, Int.reduceMul, Int.reduceSub, Nat.reduceAdd, Nat.reduceMul]
    rw [if_neg (by omega)]
    cases hwk : wks a k with
    | true => rw [hwk] at i; exact i
    | false => rw [hwk] at i; exact i
theorem m177 (h : Md S q a) (hw : WF T a) {c dir : Int} (g1 : 0 ≤ c) (g2 : c < a 0 * a 1) (hd : dir = 0 ∨ dir = 1) : zr_sem zF (d + 5) 177 [za 3 0 0, zi (zo c), zi (zo dir)] S = some (.inl (some (zf (fl a c dir))), S) := by
  rw [ze_177]
  have hb := zF1_big
  have u7 := hw.1.2.2.2.2.2.2.2.1
  exact m177_d h hw g1 g2 hd (a 7).toNat 0 _ (by omega) (by omega)
theorem m178 (h : Md S q a) (hw : WF T a) {c : Int} (g1 : 0 ≤ c) (g2 : c < a 0 * a 1) : zr_sem zF (d + 6) 178 [za 3 0 0, zi (zo c)] S = some (.inl (some (zf (frc a c))), S) := by
  rw [ze_178]
  have fx := fl_gd hw g1 g2 0
  have fy := fl_gd hw g1 g2 1
  have e := frc_nan fx fy
  simp (maxSteps := 10000000) (disch := omega) only [m177 h hw g1 g2 (Or.inl rfl), m177 h hw g1 g2 (Or.inr rfl), cmpG, zr3]
  unfold frc
  unfold fab at e ⊢
  have e0 : ∀ x : UInt32, fgd x → FP.fIsNaN (FP.fsub FP.fconst0 x) = false := fun x hx => FP.Core.fsub_out' ⟨false, 0, FP.Core.b32.qmin, FP.Core.val32_fconst0⟩ (fgd_nan hx)
  have e1 := e0 _ fx
  have e2 := e0 _ fy
  by_cases c1 : FP.fcmp (fl a c 0) FP.fconst0 = some .lt
  · by_cases c2 : FP.fcmp (fl a c 1) FP.fconst0 = some .lt
    · simp only [c1, c2, if_true] at e ⊢; simp [e, e1, e2]
    · simp only [c1, c2, if_true, if_false] at e ⊢; simp [e, e1, e2]
  · by_cases c2 : FP.fcmp (fl a c 1) FP.fconst0 = some .lt
    · simp only [c1, c2, if_true, if_false] at e ⊢; simp [e, e1, e2]
    · simp only [c1, c2, if_false] at e ⊢; simp [e]
theorem spIn_rng {a : Rw} {T : Int} (hw : WF T a) (x y : Int) : 0 ≤ spIn a x y ∧ spIn a x y ≤ 99 := by
  unfold spIn
  split
  · rename_i h
    have l := cel_lt h
    exact hw.2.2.2.2.1 (a 0 * y + x).toNat (by omega)
  · omega
theorem m179 (h : Md S q a) (hw : WF T a) {b : Nat} (hb : (b : Int) < a 9) (hl : a 2 ≠ 0) {dir : Int} (hd : dir = 0 ∨ dir = 1) : zr_sem zF (d + 6) 179 [za 3 0 0, zi (zo b), zi (zo dir)] S = some (.inl (some (zi (gro a b dir))), S) := by
  rw [ze_179]
  have hh := h
  have hO := h; obtain ⟨h1, hq, h2⟩ := hO
  have hwO := hw; obtain ⟨⟨⟨u0, u0x⟩, ⟨u1, u1x⟩, ⟨u2, u2x⟩, ⟨u3, u3x⟩, ⟨u4, u4x⟩, ⟨u5, u5x⟩, ⟨u6, u6x, uT⟩, ⟨u7, u7x⟩, ⟨u8, u8x⟩, ⟨u9, u9x⟩⟩, uD, uP, uB, uS, uI⟩ := hwO
  have uN := WF_nc hw
  have gB := uB b hb
  have g := col_rng hw gB.1.1 gB.1.2
  have fx := fl_gd hw gB.1.1 gB.1.2 dir
  have e := gro_nan (a := a) fx (l := a 2) (m := 10 * a (40 + 10 * b + 1)) (zo_nz (by omega) (by omega) hl) (zo_nz (by omega) (by omega) (by omega))
  rcases hd with e0 | e0 <;> subst e0
  · simp (maxSteps := 10000000) (disch := omega) only [h1, hq, h2, m160_0 hh, m160_1 hh, m155 hh hw, m156 hh hw, m177 hh hw gB.1.1 gB.1.2 (Or.inl rfl), m175 hh hw, e.1, e.2, Bool.false_eq_true, zo_tdiv, zo_add, zo_sub, zo_mul, zo_neg, zo_lt, zo_le, zo_eq, zo_nn, zin_ok, zlt_eq, zr0, zr1, zr3, zr4, zr0x, zr1x, zr3x, zr4x, zb_and, zb_0, zmin_o, zmax_o, zabs_o, zo_div, zo_mod, ↓reduceIte, Int.reduceToNat, Int.reduceNeg, Int.reduceAdd, Int.reduceMul, Int.reduceSub, Nat.reduceAdd, Nat.reduceMul]
    rw [if_neg (by omega)]
    unfold gro groF
    simp
    all_goals omega
  · simp (maxSteps := 10000000) (disch := omega) only [h1, hq, h2, m160_0 hh, m160_1 hh, m155 hh hw, m156 hh hw, m177 hh hw gB.1.1 gB.1.2 (Or.inr rfl), m175 hh hw, e.1, e.2, Bool.false_eq_true, zo_tdiv, zo_add, zo_sub, zo_mul, zo_neg, zo_lt, zo_le, zo_eq, zo_nn, zin_ok, zlt_eq, zr0, zr1, zr3, zr4, zr0x, zr1x, zr3x, zr4x, zb_and, zb_0, zmin_o, zmax_o, zabs_o, zo_div, zo_mod, ↓reduceIte, Int.reduceToNat, Int.reduceNeg, Int.reduceAdd, Int.reduceMul, Int.reduceSub, Nat.reduceAdd, Nat.reduceMul]
    rw [if_neg (by omega)]
    unfold gro groF
    simp
    all_goals omega
end MC

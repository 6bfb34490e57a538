/-! THE PURE SIDE 5: floats -/
/-- what a source at a distance brings in a direction v -/
def shq (dx dy r v : Int) : UInt32 := FP.fdiv (FP.fmul (FP.fdiv (FP.i2f (zo r)) (FP.i2f (zo (dx * dx + dy * dy)))) (FP.i2f (zo v))) (FP.i2f (zo (iab dx + iab dy)))
theorem i2f_nz {v : Int32} (h : v ≠ zo 0) : ¬ FP.Core.FZero (FP.i2f v) := by
  rw [FP.Core.zero_bits232]
  exact FP.Core.i2f_ne_zero (v := v) h
theorem zo_nz {a : Int} (h1 : -2147483648 ≤ a) (h2 : a < 2147483648) (h : a ≠ 0) : zo a ≠ zo 0 := by
  rw [Ne, zo_eq h1 h2 (by omega) (by omega)]; exact h
theorem shq_fin {dx dy r v : Int} (h1 : zo (dx * dx + dy * dy) ≠ zo 0) (h2 : zo (iab dx + iab dy) ≠ zo 0) :
    FP.Core.FFin (FP.fdiv (FP.i2f (zo r)) (FP.i2f (zo (dx * dx + dy * dy)))) ∧ FP.Core.FFin (FP.fmul (FP.fdiv (FP.i2f (zo r)) (FP.i2f (zo (dx * dx + dy * dy)))) (FP.i2f (zo v))) ∧ FP.Core.FFin (shq dx dy r v) := by
  have b1 := FP.Core.i2f_big (v := zo (dx * dx + dy * dy)) (FP.Core.int32_ne h1)
  have b2 := FP.Core.i2f_big (v := zo (iab dx + iab dy)) (FP.Core.int32_ne h2)
  have a1 := FP.Core.fdiv_mag (K := 160) (L := 127) (FP.Core.i2f_mag (zo r)) b1.1 b1.2 (by omega) (by omega)
  have a1 : (FP.fdiv (FP.i2f (zo r)) (FP.i2f (zo (dx * dx + dy * dy)))).toNat % 2 ^ 31 < 161 * 2 ^ 23 := a1
  have a2 := FP.Core.fmul_mag (Ka := 161) (Kb := 160) a1 (FP.Core.i2f_mag (zo v)) (by omega) (by omega)
  have a2 : (FP.fmul (FP.fdiv (FP.i2f (zo r)) (FP.i2f (zo (dx * dx + dy * dy)))) (FP.i2f (zo v))).toNat % 2 ^ 31 < 195 * 2 ^ 23 := a2
  have a3 := FP.Core.fdiv_mag (K := 195) (L := 127) a2 b2.1 b2.2 (by omega) (by omega)
  have a3 : (shq dx dy r v).toNat % 2 ^ 31 < 196 * 2 ^ 23 := a3
  exact ⟨FP.Core.fin_of_lt32 a1 (by omega), FP.Core.fin_of_lt32 a2 (by omega), FP.Core.fin_of_lt32 a3 (by omega)⟩
theorem i2f_neg {r : Int} (h : r ≠ 0) (h1 : -1000 ≤ r) (h2 : r ≤ 1000) : FP.i2f (zo (-r)) = FP.Core.fneg (FP.i2f (zo r)) := by
  have e1 : (zo r).toInt = r := zo_toInt (by omega) (by omega)
  have e2 : (zo (-r)).toInt = -r := zo_toInt (by omega) (by omega)
  have p := FP.Core.i2f_int (a := zo r) (by rw [e1]; omega)
  have q := FP.Core.i2f_int (a := zo (-r)) (by rw [e2]; omega)
  rw [e1] at p
  rw [e2] at q
  exact FP.Core.fint_unique (i := -r) (by omega) q (FP.Core.fneg_int p)
theorem shq_neg {dx dy r v : Int} (h : r ≠ 0) (h1 : -1000 ≤ r) (h2 : r ≤ 1000) : shq dx dy (-r) v = FP.Core.fneg (shq dx dy r v) := by
  unfold shq
  rw [i2f_neg h h1 h2]
  show FP.Core.fdiv (FP.Core.fmul (FP.Core.fdiv (FP.Core.fneg _) _) _) _ = FP.Core.fneg (FP.Core.fdiv (FP.Core.fmul (FP.Core.fdiv _ _) _) _)
  rw [FP.Core.fdiv_fneg, FP.Core.fmul_fneg, FP.Core.fdiv_fneg]
theorem fdiv_zero {a b : UInt32} (ha : FP.Core.FZero a) (hb : FP.Core.FFin b) (hz : ¬ FP.Core.FZero b) : FP.Core.FZero (FP.fdiv a b) := by
  obtain ⟨s, q, e⟩ := ha
  obtain ⟨t, c, r, f⟩ := hb
  have hc : c ≠ 0 := fun h => hz ⟨t, r, by rw [f, h]⟩
  refine ⟨s != t, FP.Core.b32.qmin, ?_⟩
  show FP.Core.val32 (FP.Core.fdiv a b) = _
  rw [FP.Core.val32_fdiv, e, f]
  show (if c = 0 then _ else FP.Core.roundRatio FP.Core.b32 (s != t) 0 c (q - r)) = _
  rw [if_neg hc]; rfl
theorem fmul_zero {a b : UInt32} (ha : FP.Core.FZero a) (hb : FP.Core.FFin b) : FP.Core.FZero (FP.fmul a b) := by
  obtain ⟨s, q, e⟩ := ha
  obtain ⟨t, c, r, f⟩ := hb
  refine ⟨s != t, FP.Core.b32.qmin, ?_⟩
  show FP.Core.val32 (FP.Core.fmul a b) = _
  rw [FP.Core.val32_fmul, e, f]
  show FP.Core.round FP.Core.b32 (.fin (s != t) (0 * c) (q + r)) = _
  rw [Nat.zero_mul]; rfl
theorem shq_zero {dx dy v : Int} (h1 : zo (dx * dx + dy * dy) ≠ zo 0) (h2 : zo (iab dx + iab dy) ≠ zo 0) : FP.Core.FZero (shq dx dy 0 v) := by
  have z : FP.Core.FZero (FP.i2f (zo 0)) := ⟨false, FP.Core.b32.qmin, by decide +kernel⟩
  exact fdiv_zero (fmul_zero (fdiv_zero z (FP.Core.i2f_fin _) (i2f_nz h1)) (FP.Core.i2f_fin _)) (FP.Core.i2f_fin _) (i2f_nz h2)
/-- a number, and not -0 -/
def fgd (x : UInt32) : Prop := FP.Core.val32 x ≠ .nan ∧ x ≠ FP.Core.fzeroNeg
theorem fgd_0 : fgd FP.fconst0 := ⟨by decide +kernel, by decide⟩
theorem fgd_nan {x : UInt32} (h : fgd x) : FP.fIsNaN x = false := (FP.Core.notNaN_iff32 x).mpr h.1
theorem fz_bits {z : UInt32} (h : FP.Core.FZero z) : z = FP.fconst0 ∨ z = FP.Core.fzeroNeg := by
  have e := (FP.Core.zero_bits232 z).mp h
  have l := z.toNat_lt
  have : z.toNat = 0 ∨ z.toNat = 2147483648 := by omega
  rcases this with h | h
  · exact Or.inl (UInt32.toNat_inj.mp h)
  · exact Or.inr (UInt32.toNat_inj.mp h)
theorem fadd_z {x z : UInt32} (h : fgd x) (hz : FP.Core.FZero z) : FP.fadd x z = x := by
  rcases fz_bits hz with e | e
  · rw [e]; exact FP.Core.fadd_zero h.1 h.2
  · rw [e]; exact FP.Core.fadd_zeroNeg h.1
theorem fsub_z {x z : UInt32} (h : fgd x) (hz : FP.Core.FZero z) : FP.fsub x z = x := by
  show FP.Core.fsub x z = x
  rw [FP.Core.fsub_eq]
  refine fadd_z h ?_
  obtain ⟨s, q, e⟩ := hz
  exact ⟨!s, q, by rw [FP.Core.val32_fneg, e]; rfl⟩
/-- adding the share of the negative rate is subtracting the share -/
theorem shq_sub {dx dy r v : Int} {x : UInt32} (h1 : zo (dx * dx + dy * dy) ≠ zo 0) (h2 : zo (iab dx + iab dy) ≠ zo 0) (g1 : -1000 ≤ r) (g2 : r ≤ 1000) (hx : fgd x) : FP.fadd x (shq dx dy (-r) v) = FP.fsub x (shq dx dy r v) := by
  by_cases h : r = 0
  · subst h
    have z := shq_zero (v := v) h1 h2
    rw [fsub_z hx z]
    exact fadd_z hx z
  · rw [shq_neg h g1 g2]
    exact (FP.Core.fsub_eq x (shq dx dy r v)).symm
theorem round_nz {s t : Bool} {c : Nat} {e q : Int} (hc : 0 < c) (he : -149 ≤ e) : FP.Core.round FP.Core.b32 (.fin s c e) ≠ .fin t 0 q := by
  show FP.Core.roundRatio FP.Core.b32 s c 1 e ≠ _
  unfold FP.Core.roundRatio FP.Core.roundAt
  rw [if_neg (by omega)]
  have hn : 1 ≤ FP.Core.nearest (FP.Core.unitsNum c e (FP.Core.quantum FP.Core.b32 c 1 e)) (FP.Core.unitsDen 1 e (FP.Core.quantum FP.Core.b32 c 1 e)) := by
    apply FP.Core.nearest_ge (FP.Core.unitsDen_pos (by omega) _ _)
    unfold FP.Core.unitsNum FP.Core.unitsDen
    rw [Nat.one_mul, Nat.one_mul]
    have hm : FP.Core.b32.qmin = -149 := by decide
    rcases FP.Core.quantum_not_below (f := FP.Core.b32) hc (show 0 < 1 by omega) e with h | h
    · rw [h, hm, show ((-149 : Int) - e).toNat = 0 by omega]
      exact Nat.le_trans hc (Nat.le_mul_of_pos_right _ (Nat.two_pow_pos _))
    · generalize FP.Core.quantum FP.Core.b32 c 1 e = k at h ⊢
      by_cases l : k ≤ e
      · rw [show (k - e).toNat = 0 by omega]
        exact Nat.le_trans hc (Nat.le_mul_of_pos_right _ (Nat.two_pow_pos _))
      · unfold FP.Core.Below at h
        have hp : (FP.Core.b32.p : Int) - 1 = 23 := by decide
        rw [hp, show (-(k - e + 23)).toNat = 0 by omega, Nat.pow_zero, Nat.mul_one, Nat.one_mul] at h
        rw [show (e - k).toNat = 0 by omega, Nat.pow_zero, Nat.mul_one]
        exact Nat.le_trans (Nat.pow_le_pow_right (by omega) (by omega)) (Nat.le_of_not_lt h)
  generalize FP.Core.nearest (FP.Core.unitsNum c e (FP.Core.quantum FP.Core.b32 c 1 e)) (FP.Core.unitsDen 1 e (FP.Core.quantum FP.Core.b32 c 1 e)) = m at hn ⊢
  unfold FP.Core.settle FP.Core.bound
  have ht : FP.Core.b32.tails = 8388608 := by decide
  rw [ht]
  intro hh
  split at hh
  · split at hh
    · injection hh with _ h2 _; omega
    · cases hh
  · split at hh
    · injection hh with _ h2 _; omega
    · cases hh
theorem fgd_add {x y : UInt32} (hx : fgd x) (hy : FP.Core.FFin y) : fgd (FP.fadd x y) := by
  refine ⟨?_, ?_⟩
  · have := FP.Core.fadd_out (fgd_nan hx) hy
    exact (FP.Core.notNaN_iff32 _).mp this
  · intro h
    have e : FP.Core.val32 (FP.Core.fadd x y) = .fin true 0 FP.Core.b32.qmin := by
      show FP.Core.val32 (FP.fadd x y) = _
      rw [h]; exact FP.Core.val32_fzeroNeg
    rw [FP.Core.val32_fadd] at e
    obtain ⟨t, d, r, ey⟩ := hy
    have fy := FP.Core.val32_fits y
    have fx := FP.Core.val32_fits x
    cases ex : FP.Core.val32 x with
    | nan => exact hx.1 ex
    | inf s => rw [ex, ey] at e; cases e
    | fin s c q =>
      rw [ex] at fx
      rw [ey] at fy
      rw [ex, ey] at e
      have hm : FP.Core.b32.qmin = -149 := by decide
      have fx1 : FP.Core.b32.qmin ≤ q := fx.2.1
      have fy1 : FP.Core.b32.qmin ≤ r := fy.2.1
      rw [hm] at fx1 fy1
      have e : FP.Core.round FP.Core.b32 (.fin (FP.Core.sumSign s t (FP.Core.sumUnits s c q t d r (min q r))) (FP.Core.sumUnits s c q t d r (min q r)).natAbs (min q r)) = .fin true 0 FP.Core.b32.qmin := e
      by_cases hv : FP.Core.sumUnits s c q t d r (min q r) = 0
      · rw [hv] at e
        have e : FP.Core.Datum.fin (FP.Core.sumSign s t 0) 0 FP.Core.b32.qmin = .fin true 0 FP.Core.b32.qmin := e
        injection e with e1 _ _
        have e1 : (s && t) = true := e1
        rw [Bool.and_eq_true] at e1
        unfold FP.Core.sumUnits at hv
        rw [e1.1, e1.2] at hv
        unfold FP.Core.signed FP.Core.inUnits at hv
        simp only [if_true] at hv
        have hc : c * 2 ^ (q - min q r).toNat = 0 := by omega
        have hc : c = 0 := by
          rcases Nat.mul_eq_zero.mp hc with h | h
          · exact h
          · have := Nat.two_pow_pos (q - min q r).toNat; omega
        refine hx.2 (FP.Core.val32_inj hx.1 ?_)
        rw [ex, e1.1, hc, FP.Core.val32_fzeroNeg]
        rw [hc] at fx
        rw [FP.Core.fits_zero_q FP.Core.good_b32 fx]
      · exact round_nz (by omega) (by omega) e
theorem fgd_sub {x y : UInt32} (hx : fgd x) (hy : FP.Core.FFin y) : fgd (FP.fsub x y) := by
  show fgd (FP.Core.fsub x y)
  rw [FP.Core.fsub_eq]
  refine fgd_add hx ?_
  obtain ⟨s, c, q, e⟩ := hy
  exact ⟨!s, c, q, by rw [FP.Core.val32_fneg, e]; rfl⟩


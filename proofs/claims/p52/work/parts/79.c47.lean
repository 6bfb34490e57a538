/-! THE PURE SIDE 47: load, model; feed -/
theorem fd_255 : ∀ i, i < 32 → (zo 255).toBitVec.getLsbD i = decide (i < 8) := by decide
theorem fd_t (x : Int32) {s : Int} {k : Nat} (hk : k ≤ 24) (e1 : (UInt32.toBitVec ((zo s).toUInt32 &&& Int32.toUInt32 31)) % 32 = BitVec.ofNat 32 k) (e2 : (Int32.toBitVec (zo s &&& 31)).smod 32 = BitVec.ofNat 32 k) : ((x.toUInt32 >>> ((zo s).toUInt32 &&& Int32.toUInt32 31)).toInt32 &&& zo 255) = (x >>> (zo s &&& 31)) &&& zo 255 := by
  apply Int32.toBitVec_inj.1
  rw [Int32.toBitVec_and, Int32.toBitVec_and, Int32.toBitVec_shiftRight, UInt32.toBitVec_toInt32, UInt32.toBitVec_shiftRight, Int32.toBitVec_toUInt32]
  apply BitVec.eq_of_getLsbD_eq
  intro i hi
  rw [BitVec.getLsbD_and, BitVec.getLsbD_and, fd_255 i hi]
  by_cases c : i < 8
  · rw [decide_eq_true c, Bool.and_true, Bool.and_true]
    have h1 : (UInt32.toBitVec ((zo s).toUInt32 &&& Int32.toUInt32 31) % 32).toNat = k := by rw [e1, BitVec.toNat_ofNat]; omega
    have h2 : ((Int32.toBitVec (zo s &&& 31)).smod 32).toNat = k := by rw [e2, BitVec.toNat_ofNat]; omega
    rw [BitVec.ushiftRight_eq', h1, BitVec.sshiftRight_eq', h2, BitVec.getLsbD_ushiftRight, BitVec.getLsbD_sshiftRight]
    rw [decide_eq_false (show ¬ 32 ≤ i by omega), if_pos (by omega)]
    rfl
  · rw [decide_eq_false c, Bool.and_false, Bool.and_false]
/-- byte j of a word -/
def fdB (x : Int32) (j : Nat) : Int := ((x >>> (zo (24 - 8 * (j : Int)) &&& 31)) &&& zo 255).toInt
theorem fdB_zo (x : Int32) (j : Nat) : zo (fdB x j) = (x >>> (zo (24 - 8 * (j : Int)) &&& 31)) &&& zo 255 := Int32.ofInt_toInt _
theorem fdB_c (x : Int32) {j : Nat} (hj : j < 4) : ((x.toUInt32 >>> ((zo (24 - 8 * (j : Int))).toUInt32 &&& Int32.toUInt32 31)).toInt32 &&& zo 255) = zo (fdB x j) := by
  rw [fdB_zo]
  rcases (show j = 0 ∨ j = 1 ∨ j = 2 ∨ j = 3 by omega) with e | e | e | e <;> subst e
  · exact fd_t x (k := 24) (by omega) (by decide) (by decide)
  · exact fd_t x (k := 16) (by omega) (by decide) (by decide)
  · exact fd_t x (k := 8) (by omega) (by decide) (by decide)
  · exact fd_t x (k := 0) (by omega) (by decide) (by decide)
def wds (xa xb xc xd xe : Int32) (q : Nat) : Int32 := if q = 0 then xa else if q = 1 then xb else if q = 2 then xc else if q = 3 then xd else xe
def fdT (tx : Nat → Int) (tn : Nat) (w : Nat → Int32) : Nat → Int := fun i => if i < tn then tx i else fdB (w ((i - tn) / 4)) ((i - tn) % 4)
section DK
variable {S : zS} {d n p t l s k tn : Nat} {a b : Rw} {T : Int} {tx : Nat → Int} {x y z lo hi c v : Int} {st : Et} {u : Nat → Rw} {w : Nat → Int32}
theorem k70_s {xa : Int32} {j f : Nat} (hj : j < 4) (h14 : S.1 1 0 14 1 = zo t) (ht : t < 700) : zy zF (d + 1) 70 (f + 1) 3 [some (za 1 0 14), some (zi xa), some (zi (zo (24 - 8 * (j : Int))))] S = zy zF (d + 1) 70 f 3 [some (za 1 0 14), some (zi xa), some (zi (zo (24 - 8 * ((j + 1 : Nat) : Int))))] (zs_set (zs_set S 1 0 16 t (zo (fdB xa j))) 1 0 14 1 (zo ((t + 1 : Nat) : Int))) := by
  rw [ze_70_3, if_neg (show ¬ zo (24 - 8 * (j : Int)) < zo 0 by rw [zo_lt (by omega) (by omega) (by omega) (by omega)]; omega), h14, fdB_c xa hj, ze_64b, if_neg (show ¬ zo (t : Int) < zo 0 by rw [zo_lt (by omega) (by omega) (by omega) (by omega)]; omega), if_neg (show ¬ zo 700 ≤ zo (t : Int) by rw [zo_le (by omega) (by omega) (by omega) (by omega)]; omega), zin_ok (by omega) (by omega) (by omega), zlt_eq, zr0, zo_nn (by omega) (by omega), Int.toNat_natCast, zs_oth (by omega), h14, zo_add, zo_add, show 24 - 8 * (j : Int) + -8 = 24 - 8 * ((j + 1 : Nat) : Int) by omega]
  rfl
/-- the store behind one word -/
def fdS (S : zS) (t : Nat) (xa : Int32) : Nat → zS
  | 0 => S
  | j + 1 => zs_set (zs_set (fdS S t xa j) 1 0 16 (t + j) (zo (fdB xa j))) 1 0 14 1 (zo ((t + (j + 1) : Nat) : Int))
theorem fdS_p {xa : Int32} (h14 : S.1 1 0 14 1 = zo t) : ∀ j : Nat, (fdS S t xa j).1 1 0 14 1 = zo ((t + j : Nat) : Int) ∧ (∀ i, i < j → (fdS S t xa j).1 1 0 16 (t + i) = zo (fdB xa i)) ∧ (fdS S t xa j).2 = S.2 ∧ ∀ k m o i, ¬(k = 1 ∧ m = 0 ∧ ((o = 14 ∧ i = 1) ∨ (o = 16 ∧ t ≤ i ∧ i < t + j))) → (fdS S t xa j).1 k m o i = S.1 k m o i := by
  intro j
  induction j with
  | zero => exact ⟨h14, fun i hi => by omega, rfl, fun _ _ _ _ _ => rfl⟩
  | succ j ih =>
    obtain ⟨i1, i2, i3, i4⟩ := ih
    refine ⟨zs_self, fun i hi => ?_, i3, fun k m o i b => ?_⟩
    · show (zs_set (zs_set (fdS S t xa j) 1 0 16 (t + j) (zo (fdB xa j))) 1 0 14 1 (zo ((t + (j + 1) : Nat) : Int))).1 1 0 16 (t + i) = _
      rw [zs_oth (by omega)]
      by_cases e : i = j
      · subst e; rw [zs_self]
      · rw [zs_oth (by omega)]; exact i2 i (by omega)
    · show (zs_set (zs_set (fdS S t xa j) 1 0 16 (t + j) (zo (fdB xa j))) 1 0 14 1 (zo ((t + (j + 1) : Nat) : Int))).1 k m o i = _
      rw [zs_oth (by omega), zs_oth (by omega)]
      exact i4 k m o i (by omega)
theorem k70 {xa : Int32} (h14 : S.1 1 0 14 1 = zo t) (ht : t + 4 ≤ 700) : zr_sem zF (d + 2) 70 [za 1 0 14, zi xa] S = some (.inl none, fdS S t xa 4) := by
  have hb := zF1_big
  obtain ⟨f, hf⟩ : ∃ f', zF1 = f' + 5 := ⟨zF1 - 5, by omega⟩
  have P := fdS_p (xa := xa) h14
  rw [ze_70, hf]
  show zy zF (d + 1) 70 (f + 4 + 1) 3 [some (za 1 0 14), some (zi xa), some (zi (zo (24 - 8 * ((0 : Nat) : Int))))] (fdS S t xa 0) = _
  have s0 := k70_s (d := d) (xa := xa) (j := 0) (f := f + 4) (by omega) (P 0).1 (by omega)
  have s1 := k70_s (d := d) (xa := xa) (j := 1) (f := f + 3) (by omega) (P 1).1 (by omega)
  have s2 := k70_s (d := d) (xa := xa) (j := 2) (f := f + 2) (by omega) (P 2).1 (by omega)
  have s3 := k70_s (d := d) (xa := xa) (j := 3) (f := f + 1) (by omega) (P 3).1 (by omega)
  refine s0.trans (s1.trans (s2.trans (s3.trans ?_)))
  rw [ze_70_3, if_pos (by decide)]
  rfl
theorem A89 {xa xb xc xd xe : Int32} (h14 : S.1 1 0 14 1 = zo tn) (htn : tn ≤ 700) (hx : ∀ i, i < tn → S.1 1 0 16 i = zo (tx i)) : if tn + 20 ≤ 700 then ∃ S', zr_sem zF (d + 3) 89 [za 1 0 0, zi xa, zi xb, zi xc, zi xd, zi xe] S = some (.inl (some (zi (zo ((tn + 20 : Nat) : Int)))), S') ∧ S'.1 1 0 14 1 = zo ((tn + 20 : Nat) : Int) ∧ (∀ i, i < tn + 20 → S'.1 1 0 16 i = zo (fdT tx tn (wds xa xb xc xd xe) i)) ∧ S'.2 = S.2 ∧ (∀ k m o j, ¬(k = 1 ∧ m = 0 ∧ ((o = 14 ∧ j = 1) ∨ o = 16)) → S'.1 k m o j = S.1 k m o j) else zr_sem zF (d + 3) 89 [za 1 0 0, zi xa, zi xb, zi xc, zi xd, zi xe] S = some (.inl (some (zi (zo (-1)))), S) := by
  rw [ze_89, h14, zo_add]
  by_cases c : tn + 20 ≤ 700
  · obtain ⟨a1, a2, a3, a4⟩ := fdS_p (xa := xa) h14 4
    obtain ⟨b1, b2, b3, b4⟩ := fdS_p (S := fdS S tn xa 4) (xa := xb) a1 4
    obtain ⟨c1, c2, c3, c4⟩ := fdS_p (S := fdS (fdS S tn xa 4) (tn + 4) xb 4) (xa := xc) b1 4
    obtain ⟨d1, d2, d3, d4⟩ := fdS_p (S := fdS (fdS (fdS S tn xa 4) (tn + 4) xb 4) (tn + 4 + 4) xc 4) (xa := xd) c1 4
    obtain ⟨e1, e2, e3, e4⟩ := fdS_p (S := fdS (fdS (fdS (fdS S tn xa 4) (tn + 4) xb 4) (tn + 4 + 4) xc 4) (tn + 4 + 4 + 4) xd 4) (xa := xe) d1 4
    rw [if_pos c, if_pos (show zo ((tn : Int) + 20) ≤ zo 700 by rw [zo_le (by omega) (by omega) (by omega) (by omega)]; omega), k70 h14 (by omega), zr0, k70 a1 (by omega), zr0, k70 b1 (by omega), zr0, k70 c1 (by omega), zr0, k70 d1 (by omega), zr0, e1]
    refine ⟨_, rfl, e1, fun i hi => ?_, by rw [e3, d3, c3, b3, a3], fun k m o j b => by rw [e4 k m o j (by omega), d4 k m o j (by omega), c4 k m o j (by omega), b4 k m o j (by omega), a4 k m o j (by omega)]⟩
    unfold fdT
    by_cases z : i < tn
    · rw [if_pos z, e4 _ _ _ _ (by omega), d4 _ _ _ _ (by omega), c4 _ _ _ _ (by omega), b4 _ _ _ _ (by omega), a4 _ _ _ _ (by omega)]; exact hx i z
    · rw [if_neg z]
      by_cases q0 : i < tn + 4
      · rw [e4 _ _ _ _ (by omega), d4 _ _ _ _ (by omega), c4 _ _ _ _ (by omega), b4 _ _ _ _ (by omega)]
        have := a2 (i - tn) (by omega)
        rw [show tn + (i - tn) = i by omega] at this
        unfold wds
        rw [this, if_pos (show (i - tn) / 4 = 0 by omega), show (i - tn) % 4 = i - tn by omega]
      · by_cases q1 : i < tn + 8
        · rw [e4 _ _ _ _ (by omega), d4 _ _ _ _ (by omega), c4 _ _ _ _ (by omega)]
          have := b2 (i - tn - 4) (by omega)
          rw [show tn + 4 + (i - tn - 4) = i by omega] at this
          unfold wds
          rw [this, if_neg (show ¬ (i - tn) / 4 = 0 by omega), if_pos (show (i - tn) / 4 = 1 by omega), show (i - tn) % 4 = i - tn - 4 by omega]
        · by_cases q2 : i < tn + 12
          · rw [e4 _ _ _ _ (by omega), d4 _ _ _ _ (by omega)]
            have := c2 (i - tn - 8) (by omega)
            rw [show tn + 4 + 4 + (i - tn - 8) = i by omega] at this
            unfold wds
            rw [this, if_neg (show ¬ (i - tn) / 4 = 0 by omega), if_neg (show ¬ (i - tn) / 4 = 1 by omega), if_pos (show (i - tn) / 4 = 2 by omega), show (i - tn) % 4 = i - tn - 8 by omega]
          · by_cases q3 : i < tn + 16
            · rw [e4 _ _ _ _ (by omega)]
              have := d2 (i - tn - 12) (by omega)
              rw [show tn + 4 + 4 + 4 + (i - tn - 12) = i by omega] at this
              unfold wds
              rw [this, if_neg (show ¬ (i - tn) / 4 = 0 by omega), if_neg (show ¬ (i - tn) / 4 = 1 by omega), if_neg (show ¬ (i - tn) / 4 = 2 by omega), if_pos (show (i - tn) / 4 = 3 by omega), show (i - tn) % 4 = i - tn - 12 by omega]
            · have := e2 (i - tn - 16) (by omega)
              rw [show tn + 4 + 4 + 4 + 4 + (i - tn - 16) = i by omega] at this
              unfold wds
              rw [this, if_neg (show ¬ (i - tn) / 4 = 0 by omega), if_neg (show ¬ (i - tn) / 4 = 1 by omega), if_neg (show ¬ (i - tn) / 4 = 2 by omega), if_neg (show ¬ (i - tn) / 4 = 3 by omega), show (i - tn) % 4 = i - tn - 16 by omega]
  · rw [if_neg c, if_neg (show ¬ zo ((tn : Int) + 20) ≤ zo 700 by rw [zo_le (by omega) (by omega) (by omega) (by omega)]; omega)]
end DK

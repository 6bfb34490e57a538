/-! THE LAW'S PURE SIDE 15: all numbers of the bath -/
def aV1 (a : Rw) : List Int32 := lmp (fun i => zo (sizV a (i : Int))) 15
def aV2 (a : Rw) : List Int32 := aV1 a ++ lct (fun b => lmp (fun i => zo (bnum a b i)) 11) (a 9).toNat
def aV3 (a : Rw) : List Int32 := aV2 a ++ lct (fun b => lmp (fun i => zo (dnum a b i)) 6) (a 7).toNat
def aV4 (a : Rw) : List Int32 := aV3 a ++ lmp (fun i => zo (tnum a i 2)) (a 8).toNat
def allR (a : Rw) : List Int32 := aV4 a ++ lmp (fun i => zo (a (160 + i))) (a 0 * a 1).toNat
theorem aV1_len (a : Rw) : (aV1 a).length = 15 := lmp_len _ _
theorem aV2_len (a : Rw) : (aV2 a).length = 15 + 11 * (a 9).toNat := by
  unfold aV2
  rw [List.length_append, aV1_len, lct_len _ (m := 11) (fun i => lmp_len _ _)]
theorem aV3_len (a : Rw) : (aV3 a).length = 15 + 11 * (a 9).toNat + 6 * (a 7).toNat := by
  unfold aV3
  rw [List.length_append, aV2_len, lct_len _ (m := 6) (fun i => lmp_len _ _)]
theorem aV4_len (a : Rw) : (aV4 a).length = 15 + 11 * (a 9).toNat + 6 * (a 7).toNat + (a 8).toNat := by
  unfold aV4
  rw [List.length_append, aV3_len, lmp_len]
theorem allR_len (a : Rw) : (allR a).length = 15 + 11 * (a 9).toNat + 6 * (a 7).toNat + (a 8).toNat + (a 0 * a 1).toNat := by
  unfold allR
  rw [List.length_append, aV4_len, lmp_len]
theorem Q40_t {T : qS} {d k j f : Nat} {u : Nat → Rw} {a : Rw} {Tm : Int} (hw : WF Tm a) (H : HC T.1 k u a) (hr : zx_nth T.2 j = some (.inr (.inl (0, List.replicate (allR a).length 0)))) : ∃ T', qy (d + 4) 40 ((((((f + (a 0 * a 1).toNat + 1) + (a 8).toNat + 1) + 8 * (a 7).toNat + 1) + 13 * (a 9).toNat + 1) + 15 + 1)) 62 [some (za 1 0 0), some (zi (zo (a 0))), some (zi (zo (a 0 * a 1))), some (zi (zo (a 9))), some (zi (zo (a 7))), some (zi (zo (a 8))), some (za 8 j 0), some (zi (zo 0)), some (zi (zo 0)), none] [] T = some (some (za 8 j 0), T') ∧ AF T T' j ∧ HC T'.1 k u a ∧ zx_nth T'.2 j = some (.inr (.inl (0, allR a))) := by
  have wn := WF_nc hw
  have w7 := hw.1.2.2.2.2.2.2.2
  have al := allR_len a
  have n1 := aV1_len a
  have n2 := aV2_len a
  have n3 := aV3_len a
  have n4 := aV4_len a
  generalize hm0 : (a 0 * a 1).toNat = m0 at *
  generalize hm8 : (a 8).toNat = m8 at *
  generalize hm7 : (a 7).toNat = m7 at *
  generalize hm9 : (a 9).toNat = m9 at *
  have hrow : RW T j ([] ++ lmp (fun i => zo (sizV a (i : Int))) 0) (15 + (11 * m9 + (6 * m7 + (m8 + (m0 + 0))))) := by
    show zx_nth T.2 j = _
    rw [hr, al]
    refine congrArg (fun n => some (.inr (.inl (0, List.replicate n 0)) : qC)) ?_
    omega
  obtain ⟨Ta, a1, a2, a3, a4⟩ := a62 (d := d) (f := (((f + m0 + 1) + m8 + 1) + 8 * m7 + 1) + 13 * m9 + 1) (l1 := zo (a 0)) (l2 := zo (a 0 * a 1)) (l3 := zo (a 9)) (l4 := zo (a 7)) (l5 := zo (a 8)) hw 15 0 _ [] _ rfl H hrow (by rw [List.length_nil]; omega)
  rw [show [] ++ lmp (fun i => zo (sizV a (i : Int))) 15 = aV1 a from rfl] at a1 a4
  have z1 : aV1 a ++ lct (fun b => lmp (fun i => zo (bnum a b i)) 11) 0 = aV1 a := List.append_nil _
  rw [← z1] at a4
  obtain ⟨Tb, b1, b2, b3, b4⟩ := a92 (d := d) (f := ((f + m0 + 1) + m8 + 1) + 8 * m7 + 1) (l1 := zo (a 0)) (l2 := zo (a 0 * a 1)) (l4 := zo (a 7)) (l5 := zo (a 8)) hw m9 0 Ta (aV1 a) (6 * m7 + (m8 + (m0 + 0))) (by omega) a3 a4 (by omega)
  rw [z1] at b1
  rw [show aV1 a ++ lct (fun b => lmp (fun i => zo (bnum a b i)) 11) (a 9).toNat = aV2 a from rfl] at b1 b4
  have z2 : aV2 a ++ lct (fun b => lmp (fun i => zo (dnum a b i)) 6) 0 = aV2 a := List.append_nil _
  rw [← z2] at b4
  obtain ⟨Tc, c1, c2, c3, c4⟩ := a139 (d := d) (f := (f + m0 + 1) + m8 + 1) (l1 := zo (a 0)) (l2 := zo (a 0 * a 1)) (l5 := zo (a 8)) hw m7 0 Tb (aV2 a) (m8 + (m0 + 0)) (by omega) b3 b4 (by omega)
  rw [z2] at c1
  rw [show aV2 a ++ lct (fun b => lmp (fun i => zo (dnum a b i)) 6) (a 7).toNat = aV3 a from rfl] at c1 c4
  have z3 : aV3 a ++ lmp (fun i => zo (tnum a i 2)) 0 = aV3 a := List.append_nil _
  rw [← z3] at c4
  obtain ⟨Td, d1, d2, d3, d4⟩ := a187 (d := d) (f := f + m0 + 1) (l1 := zo (a 0)) (l2 := zo (a 0 * a 1)) hw m8 0 Tc (aV3 a) (m0 + 0) (by omega) c3 c4 (by omega)
  rw [z3] at d1
  rw [show aV3 a ++ lmp (fun i => zo (tnum a i 2)) (a 8).toNat = aV4 a from rfl] at d1 d4
  have z4 : aV4 a ++ lmp (fun i => zo (a (160 + i))) 0 = aV4 a := List.append_nil _
  rw [← z4] at d4
  obtain ⟨Te, g1, g2, g3, g4⟩ := a218 (d := d) (f := f) hw m0 0 Td (aV4 a) 0 (by omega) d3 d4 (by omega)
  rw [z4] at g1
  rw [show aV4 a ++ lmp (fun i => zo (a (160 + i))) (a 0 * a 1).toNat = allR a from rfl] at g4
  refine ⟨Te, a1.trans (b1.trans (c1.trans (d1.trans g1))), (((a2.tr b2).tr c2).tr d2).tr g2, g3, ?_⟩
  unfold RW at g4
  rw [List.replicate_zero, List.append_nil] at g4
  exact g4

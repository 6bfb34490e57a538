/-! THE PURE SIDE 8: a turn's steps on rows -/
def lim (v : Int32) : Int := if zo 300 < v then 300 else if v < zo (-300) then -300 else v.toInt
def limI (x : Int) : Int := if 300 < x then 300 else if x < -300 then -300 else x
theorem lim_b (v : Int32) : -300 ≤ lim v ∧ lim v ≤ 300 := by
  unfold lim
  have h1 : (zo 300).toInt = 300 := zo_toInt (by omega) (by omega)
  have h2 : (zo (-300)).toInt = -300 := zo_toInt (by omega) (by omega)
  split
  · omega
  · split
    · omega
    · rename_i a b
      rw [Int32.lt_iff_toInt_lt, h1] at a
      rw [Int32.lt_iff_toInt_lt, h2] at b
      omega
theorem limI_b (x : Int) : -300 ≤ limI x ∧ limI x ≤ 300 := by unfold limI; split <;> (try split) <;> omega
def lvS (a : Rw) : Int := a 2 + zsum (fun k => a (30 + 2 * k + 1)) (a 8).toNat - zsum (fun k => if wks a k = true then a (10 + 4 * k + 2) else 0) (a 7).toNat
def chL (a : Rw) : Rw := up a 2 (if lvS a < 0 then 0 else if 1000 < lvS a then 1000 else lvS a)
def mov (a : Rw) (b : Nat) (dir : Nat) : Rw :=
  if iab (a (40 + 10 * b + (4 + dir))) < 100 then a else
    let st : Int := if 0 < a (40 + 10 * b + (4 + dir)) then 1 else -1
    let x : Int := a (40 + 10 * b) % a 0 + (if dir = 0 then st else 0)
    let y : Int := a (40 + 10 * b) / a 0 + (if dir = 1 then st else 0)
    if ¬((0 ≤ x ∧ x < a 0) ∧ (0 ≤ y ∧ y < a 1)) then up a (40 + 10 * b + (4 + dir)) 0
    else if occ a (a 0 * y + x) b ≠ -1 then
      up (up (up a (40 + 10 * (occ a (a 0 * y + x) b).toNat + (4 + dir)) (limI (a (40 + 10 * (occ a (a 0 * y + x) b).toNat + (4 + dir)) + (a (40 + 10 * b + (4 + dir)) * a (40 + 10 * b + 1)).tdiv (a (40 + 10 * b + 1) + a (40 + 10 * (occ a (a 0 * y + x) b).toNat + 1))))) (40 + 10 * b + (4 + dir)) 0) (40 + 10 * b + 9) (a (40 + 10 * b + 9) + 1)
    else up (up (up a (40 + 10 * b) (a 0 * y + x)) (40 + 10 * b + (4 + dir)) (a (40 + 10 * b + (4 + dir)) - 100 * st)) (40 + 10 * b + 8) (a (40 + 10 * b + 8) + 1)
def dft (a : Rw) (b : Nat) : Rw :=
  mov (mov (up (up a (40 + 10 * b + 4) (lim (zo (a (40 + 10 * b + 4)) + gro a b 0))) (40 + 10 * b + 5) (lim (zo (a (40 + 10 * b + 5)) + gro a b 1))) b 0) b 1
def enB (a : Rw) (b : Nat) (st : Int) : Rw := up (up a (40 + 10 * b + 6) st) (40 + 10 * b + 7) (a 6)
def sok (a : Rw) (b : Nat) : Rw :=
  if a (40 + 10 * b + 2) < a (40 + 10 * b + 3) + 1 + a (160 + (a (40 + 10 * b)).toNat) / 10 then enB (up a (40 + 10 * b + 3) (a (40 + 10 * b + 3) + 1 + a (160 + (a (40 + 10 * b)).toNat) / 10)) b 1
  else if wdr a (a (40 + 10 * b)) b = true then up (enB (up a (40 + 10 * b + 3) (a (40 + 10 * b + 3) + 1 + a (160 + (a (40 + 10 * b)).toNat) / 10)) b 2) (10 + 4 * (drIn a (a (40 + 10 * b))).toNat + 3) (a (10 + 4 * (drIn a (a (40 + 10 * b))).toNat + 3) + 1)
  else up a (40 + 10 * b + 3) (a (40 + 10 * b + 3) + 1 + a (160 + (a (40 + 10 * b)).toNat) / 10)
def spF (a : Rw) (x y : Int) : Int := if 4 ≤ spIn a x y then 1 else 0
def spA (a : Rw) (c : Nat) : Int := 4 - (if (c : Int) % a 0 = 0 then 1 else 0) - (if (c : Int) / a 0 = 0 then 1 else 0) - (if (c : Int) % a 0 = a 0 - 1 then 1 else 0) - (if (c : Int) / a 0 = a 1 - 1 then 1 else 0)
def spN (a : Rw) (c : Nat) : Int := a (160 + c) - spF a ((c : Int) % a 0) ((c : Int) / a 0) * spA a c + spF a ((c : Int) % a 0 - 1) ((c : Int) / a 0) + spF a ((c : Int) % a 0 + 1) ((c : Int) / a 0) + spF a ((c : Int) % a 0) ((c : Int) / a 0 - 1) + spF a ((c : Int) % a 0) ((c : Int) / a 0 + 1)
def spr (a : Rw) : Rw := fun i => if 160 ≤ i ∧ i < 160 + ncl a then (if 99 < spN a (i - 160) then 99 else spN a (i - 160)) else a i
def drA (a : Rw) (k : Nat) : Rw := if 0 < a 2 ∧ a (40 + 10 * k + 6) = 0 then dft a k else a
def skA (a : Rw) (k : Nat) : Rw := if a (40 + 10 * k + 6) = 0 then sok a k else a
def ps1 (a : Rw) : Rw := chL (up a 6 (a 6 + 1))
def ps2 (a : Rw) : Rw := zfold drA (a 9).toNat (ps1 a)
def ps3 (a : Rw) : Rw := zfold skA (a 9).toNat (ps2 a)
def pas (a : Rw) : Rw := spr (ps3 a)
def pasN : Nat → Rw → Rw
  | 0, a => a
  | k + 1, a => pas (pasN k a)
section WFU
variable {a : Rw} {T : Int} {b : Nat} {v : Int}
theorem WF_b3 (hw : WF T a) (hb : (b : Int) < a 9) (hv : (0 ≤ v ∧ v ≤ 1100) ∧ (a (40 + 10 * b + 6) = 0 → v ≤ a (40 + 10 * b + 2))) : WF T (up a (40 + 10 * b + 3) v) := by
  have hwO := hw; obtain ⟨⟨⟨u0, u0x⟩, ⟨u1, u1x⟩, ⟨u2, u2x⟩, ⟨u3, u3x⟩, ⟨u4, u4x⟩, ⟨u5, u5x⟩, ⟨u6, u6x, uT⟩, ⟨u7, u7x⟩, ⟨u8, u8x⟩, ⟨u9, u9x⟩⟩, uD, uP, uB, uS, uI⟩ := hwO
  refine ⟨?_, fun k hk => ?_, fun k hk => ?_, fun k hk => ?_, fun c hc => ?_, fun k l hk hl => ?_⟩
  · simp (maxSteps := 10000000) (disch := omega) only [up_ne, up_self]; omega
  · simp (maxSteps := 10000000) (disch := omega) only [up_ne, up_self] at hk; simp (maxSteps := 10000000) (disch := omega) only [up_ne, up_self]; exact uD k hk
  · simp (maxSteps := 10000000) (disch := omega) only [up_ne, up_self] at hk; simp (maxSteps := 10000000) (disch := omega) only [up_ne, up_self]; exact uP k hk
  · simp (maxSteps := 10000000) (disch := omega) only [up_ne, up_self] at hk
    have g := uB k hk
    by_cases e : k = b
    · subst e; simp (maxSteps := 10000000) (disch := omega) only [up_ne, up_self]; omega
    · simp (maxSteps := 10000000) (disch := omega) only [up_ne, up_self]; omega
  · simp (maxSteps := 10000000) (disch := omega) only [up_ne, up_self] at hc; simp (maxSteps := 10000000) (disch := omega) only [up_ne, up_self]; exact uS c hc
  · simp (maxSteps := 10000000) (disch := omega) only [up_ne, up_self] at hk hl
    simp (maxSteps := 10000000) (disch := omega) only [up_ne, up_self]; exact uI k l hk hl
theorem WF_b4 (hw : WF T a) (hb : (b : Int) < a 9) (hv : -300 ≤ v ∧ v ≤ 300) : WF T (up a (40 + 10 * b + 4) v) := by
  have hwO := hw; obtain ⟨⟨⟨u0, u0x⟩, ⟨u1, u1x⟩, ⟨u2, u2x⟩, ⟨u3, u3x⟩, ⟨u4, u4x⟩, ⟨u5, u5x⟩, ⟨u6, u6x, uT⟩, ⟨u7, u7x⟩, ⟨u8, u8x⟩, ⟨u9, u9x⟩⟩, uD, uP, uB, uS, uI⟩ := hwO
  refine ⟨?_, fun k hk => ?_, fun k hk => ?_, fun k hk => ?_, fun c hc => ?_, fun k l hk hl => ?_⟩
  · simp (maxSteps := 10000000) (disch := omega) only [up_ne, up_self]; omega
  · simp (maxSteps := 10000000) (disch := omega) only [up_ne, up_self] at hk; simp (maxSteps := 10000000) (disch := omega) only [up_ne, up_self]; exact uD k hk
  · simp (maxSteps := 10000000) (disch := omega) only [up_ne, up_self] at hk; simp (maxSteps := 10000000) (disch := omega) only [up_ne, up_self]; exact uP k hk
  · simp (maxSteps := 10000000) (disch := omega) only [up_ne, up_self] at hk
    have g := uB k hk
    by_cases e : k = b
    · subst e; simp (maxSteps := 10000000) (disch := omega) only [up_ne, up_self]; omega
    · simp (maxSteps := 10000000) (disch := omega) only [up_ne, up_self]; omega
  · simp (maxSteps := 10000000) (disch := omega) only [up_ne, up_self] at hc; simp (maxSteps := 10000000) (disch := omega) only [up_ne, up_self]; exact uS c hc
  · simp (maxSteps := 10000000) (disch := omega) only [up_ne, up_self] at hk hl
    simp (maxSteps := 10000000) (disch := omega) only [up_ne, up_self]; exact uI k l hk hl
theorem WF_b5 (hw : WF T a) (hb : (b : Int) < a 9) (hv : -300 ≤ v ∧ v ≤ 300) : WF T (up a (40 + 10 * b + 5) v) := by
  have hwO := hw; obtain ⟨⟨⟨u0, u0x⟩, ⟨u1, u1x⟩, ⟨u2, u2x⟩, ⟨u3, u3x⟩, ⟨u4, u4x⟩, ⟨u5, u5x⟩, ⟨u6, u6x, uT⟩, ⟨u7, u7x⟩, ⟨u8, u8x⟩, ⟨u9, u9x⟩⟩, uD, uP, uB, uS, uI⟩ := hwO
  refine ⟨?_, fun k hk => ?_, fun k hk => ?_, fun k hk => ?_, fun c hc => ?_, fun k l hk hl => ?_⟩
  · simp (maxSteps := 10000000) (disch := omega) only [up_ne, up_self]; omega
  · simp (maxSteps := 10000000) (disch := omega) only [up_ne, up_self] at hk; simp (maxSteps := 10000000) (disch := omega) only [up_ne, up_self]; exact uD k hk
  · simp (maxSteps := 10000000) (disch := omega) only [up_ne, up_self] at hk; simp (maxSteps := 10000000) (disch := omega) only [up_ne, up_self]; exact uP k hk
  · simp (maxSteps := 10000000) (disch := omega) only [up_ne, up_self] at hk
    have g := uB k hk
    by_cases e : k = b
    · subst e; simp (maxSteps := 10000000) (disch := omega) only [up_ne, up_self]; omega
    · simp (maxSteps := 10000000) (disch := omega) only [up_ne, up_self]; omega
  · simp (maxSteps := 10000000) (disch := omega) only [up_ne, up_self] at hc; simp (maxSteps := 10000000) (disch := omega) only [up_ne, up_self]; exact uS c hc
  · simp (maxSteps := 10000000) (disch := omega) only [up_ne, up_self] at hk hl
    simp (maxSteps := 10000000) (disch := omega) only [up_ne, up_self]; exact uI k l hk hl
theorem WF_b8 (hw : WF T a) (hb : (b : Int) < a 9) (hv : 0 ≤ v ∧ v ≤ 2 * a 6) : WF T (up a (40 + 10 * b + 8) v) := by
  have hwO := hw; obtain ⟨⟨⟨u0, u0x⟩, ⟨u1, u1x⟩, ⟨u2, u2x⟩, ⟨u3, u3x⟩, ⟨u4, u4x⟩, ⟨u5, u5x⟩, ⟨u6, u6x, uT⟩, ⟨u7, u7x⟩, ⟨u8, u8x⟩, ⟨u9, u9x⟩⟩, uD, uP, uB, uS, uI⟩ := hwO
  refine ⟨?_, fun k hk => ?_, fun k hk => ?_, fun k hk => ?_, fun c hc => ?_, fun k l hk hl => ?_⟩
  · simp (maxSteps := 10000000) (disch := omega) only [up_ne, up_self]; omega
  · simp (maxSteps := 10000000) (disch := omega) only [up_ne, up_self] at hk; simp (maxSteps := 10000000) (disch := omega) only [up_ne, up_self]; exact uD k hk
  · simp (maxSteps := 10000000) (disch := omega) only [up_ne, up_self] at hk; simp (maxSteps := 10000000) (disch := omega) only [up_ne, up_self]; exact uP k hk
  · simp (maxSteps := 10000000) (disch := omega) only [up_ne, up_self] at hk
    have g := uB k hk
    by_cases e : k = b
    · subst e; simp (maxSteps := 10000000) (disch := omega) only [up_ne, up_self]; omega
    · simp (maxSteps := 10000000) (disch := omega) only [up_ne, up_self]; omega
  · simp (maxSteps := 10000000) (disch := omega) only [up_ne, up_self] at hc; simp (maxSteps := 10000000) (disch := omega) only [up_ne, up_self]; exact uS c hc
  · simp (maxSteps := 10000000) (disch := omega) only [up_ne, up_self] at hk hl
    simp (maxSteps := 10000000) (disch := omega) only [up_ne, up_self]; exact uI k l hk hl
theorem WF_b9 (hw : WF T a) (hb : (b : Int) < a 9) (hv : 0 ≤ v ∧ v ≤ 2 * a 6) : WF T (up a (40 + 10 * b + 9) v) := by
  have hwO := hw; obtain ⟨⟨⟨u0, u0x⟩, ⟨u1, u1x⟩, ⟨u2, u2x⟩, ⟨u3, u3x⟩, ⟨u4, u4x⟩, ⟨u5, u5x⟩, ⟨u6, u6x, uT⟩, ⟨u7, u7x⟩, ⟨u8, u8x⟩, ⟨u9, u9x⟩⟩, uD, uP, uB, uS, uI⟩ := hwO
  refine ⟨?_, fun k hk => ?_, fun k hk => ?_, fun k hk => ?_, fun c hc => ?_, fun k l hk hl => ?_⟩
  · simp (maxSteps := 10000000) (disch := omega) only [up_ne, up_self]; omega
  · simp (maxSteps := 10000000) (disch := omega) only [up_ne, up_self] at hk; simp (maxSteps := 10000000) (disch := omega) only [up_ne, up_self]; exact uD k hk
  · simp (maxSteps := 10000000) (disch := omega) only [up_ne, up_self] at hk; simp (maxSteps := 10000000) (disch := omega) only [up_ne, up_self]; exact uP k hk
  · simp (maxSteps := 10000000) (disch := omega) only [up_ne, up_self] at hk
    have g := uB k hk
    by_cases e : k = b
    · subst e; simp (maxSteps := 10000000) (disch := omega) only [up_ne, up_self]; omega
    · simp (maxSteps := 10000000) (disch := omega) only [up_ne, up_self]; omega
  · simp (maxSteps := 10000000) (disch := omega) only [up_ne, up_self] at hc; simp (maxSteps := 10000000) (disch := omega) only [up_ne, up_self]; exact uS c hc
  · simp (maxSteps := 10000000) (disch := omega) only [up_ne, up_self] at hk hl
    simp (maxSteps := 10000000) (disch := omega) only [up_ne, up_self]; exact uI k l hk hl
theorem WF_h2 (hw : WF T a) (hv : 0 ≤ v ∧ v ≤ 1000) : WF T (up a 2 v) := by
  have hwO := hw; obtain ⟨⟨⟨u0, u0x⟩, ⟨u1, u1x⟩, ⟨u2, u2x⟩, ⟨u3, u3x⟩, ⟨u4, u4x⟩, ⟨u5, u5x⟩, ⟨u6, u6x, uT⟩, ⟨u7, u7x⟩, ⟨u8, u8x⟩, ⟨u9, u9x⟩⟩, uD, uP, uB, uS, uI⟩ := hwO
  refine ⟨?_, fun k hk => ?_, fun k hk => ?_, fun k hk => ?_, fun c hc => ?_, fun k l hk hl => ?_⟩
  · simp (maxSteps := 10000000) (disch := omega) only [up_ne, up_self]; omega
  · simp (maxSteps := 10000000) (disch := omega) only [up_ne, up_self] at hk; simp (maxSteps := 10000000) (disch := omega) only [up_ne, up_self]; exact uD k hk
  · simp (maxSteps := 10000000) (disch := omega) only [up_ne, up_self] at hk; simp (maxSteps := 10000000) (disch := omega) only [up_ne, up_self]; exact uP k hk
  · simp (maxSteps := 10000000) (disch := omega) only [up_ne, up_self] at hk; simp (maxSteps := 10000000) (disch := omega) only [up_ne, up_self]; exact uB k hk
  · simp (maxSteps := 10000000) (disch := omega) only [up_ne, up_self] at hc; simp (maxSteps := 10000000) (disch := omega) only [up_ne, up_self]; exact uS c hc
  · simp (maxSteps := 10000000) (disch := omega) only [up_ne, up_self] at hk hl; simp (maxSteps := 10000000) (disch := omega) only [up_ne, up_self]; exact uI k l hk hl
theorem WF_h3 (hw : WF T a) (hv : 0 ≤ v ∧ v ≤ 9) : WF T (up a 3 v) := by
  have hwO := hw; obtain ⟨⟨⟨u0, u0x⟩, ⟨u1, u1x⟩, ⟨u2, u2x⟩, ⟨u3, u3x⟩, ⟨u4, u4x⟩, ⟨u5, u5x⟩, ⟨u6, u6x, uT⟩, ⟨u7, u7x⟩, ⟨u8, u8x⟩, ⟨u9, u9x⟩⟩, uD, uP, uB, uS, uI⟩ := hwO
  refine ⟨?_, fun k hk => ?_, fun k hk => ?_, fun k hk => ?_, fun c hc => ?_, fun k l hk hl => ?_⟩
  · simp (maxSteps := 10000000) (disch := omega) only [up_ne, up_self]; omega
  · simp (maxSteps := 10000000) (disch := omega) only [up_ne, up_self] at hk; simp (maxSteps := 10000000) (disch := omega) only [up_ne, up_self]; exact uD k hk
  · simp (maxSteps := 10000000) (disch := omega) only [up_ne, up_self] at hk; simp (maxSteps := 10000000) (disch := omega) only [up_ne, up_self]; exact uP k hk
  · simp (maxSteps := 10000000) (disch := omega) only [up_ne, up_self] at hk; simp (maxSteps := 10000000) (disch := omega) only [up_ne, up_self]; exact uB k hk
  · simp (maxSteps := 10000000) (disch := omega) only [up_ne, up_self] at hc; simp (maxSteps := 10000000) (disch := omega) only [up_ne, up_self]; exact uS c hc
  · simp (maxSteps := 10000000) (disch := omega) only [up_ne, up_self] at hk hl; simp (maxSteps := 10000000) (disch := omega) only [up_ne, up_self]; exact uI k l hk hl
theorem WF_h4 (hw : WF T a) (hv : -99 ≤ v ∧ v ≤ 99) : WF T (up a 4 v) := by
  have hwO := hw; obtain ⟨⟨⟨u0, u0x⟩, ⟨u1, u1x⟩, ⟨u2, u2x⟩, ⟨u3, u3x⟩, ⟨u4, u4x⟩, ⟨u5, u5x⟩, ⟨u6, u6x, uT⟩, ⟨u7, u7x⟩, ⟨u8, u8x⟩, ⟨u9, u9x⟩⟩, uD, uP, uB, uS, uI⟩ := hwO
  refine ⟨?_, fun k hk => ?_, fun k hk => ?_, fun k hk => ?_, fun c hc => ?_, fun k l hk hl => ?_⟩
  · simp (maxSteps := 10000000) (disch := omega) only [up_ne, up_self]; omega
  · simp (maxSteps := 10000000) (disch := omega) only [up_ne, up_self] at hk; simp (maxSteps := 10000000) (disch := omega) only [up_ne, up_self]; exact uD k hk
  · simp (maxSteps := 10000000) (disch := omega) only [up_ne, up_self] at hk; simp (maxSteps := 10000000) (disch := omega) only [up_ne, up_self]; exact uP k hk
  · simp (maxSteps := 10000000) (disch := omega) only [up_ne, up_self] at hk; simp (maxSteps := 10000000) (disch := omega) only [up_ne, up_self]; exact uB k hk
  · simp (maxSteps := 10000000) (disch := omega) only [up_ne, up_self] at hc; simp (maxSteps := 10000000) (disch := omega) only [up_ne, up_self]; exact uS c hc
  · simp (maxSteps := 10000000) (disch := omega) only [up_ne, up_self] at hk hl; simp (maxSteps := 10000000) (disch := omega) only [up_ne, up_self]; exact uI k l hk hl
theorem WF_h5 (hw : WF T a) (hv : -99 ≤ v ∧ v ≤ 99) : WF T (up a 5 v) := by
  have hwO := hw; obtain ⟨⟨⟨u0, u0x⟩, ⟨u1, u1x⟩, ⟨u2, u2x⟩, ⟨u3, u3x⟩, ⟨u4, u4x⟩, ⟨u5, u5x⟩, ⟨u6, u6x, uT⟩, ⟨u7, u7x⟩, ⟨u8, u8x⟩, ⟨u9, u9x⟩⟩, uD, uP, uB, uS, uI⟩ := hwO
  refine ⟨?_, fun k hk => ?_, fun k hk => ?_, fun k hk => ?_, fun c hc => ?_, fun k l hk hl => ?_⟩
  · simp (maxSteps := 10000000) (disch := omega) only [up_ne, up_self]; omega
  · simp (maxSteps := 10000000) (disch := omega) only [up_ne, up_self] at hk; simp (maxSteps := 10000000) (disch := omega) only [up_ne, up_self]; exact uD k hk
  · simp (maxSteps := 10000000) (disch := omega) only [up_ne, up_self] at hk; simp (maxSteps := 10000000) (disch := omega) only [up_ne, up_self]; exact uP k hk
  · simp (maxSteps := 10000000) (disch := omega) only [up_ne, up_self] at hk; simp (maxSteps := 10000000) (disch := omega) only [up_ne, up_self]; exact uB k hk
  · simp (maxSteps := 10000000) (disch := omega) only [up_ne, up_self] at hc; simp (maxSteps := 10000000) (disch := omega) only [up_ne, up_self]; exact uS c hc
  · simp (maxSteps := 10000000) (disch := omega) only [up_ne, up_self] at hk hl; simp (maxSteps := 10000000) (disch := omega) only [up_ne, up_self]; exact uI k l hk hl
theorem WF_time (hw : WF T a) (hT : T + 1 ≤ 1000000) : WF (T + 1) (up a 6 (a 6 + 1)) := by
  have hwO := hw; obtain ⟨⟨⟨u0, u0x⟩, ⟨u1, u1x⟩, ⟨u2, u2x⟩, ⟨u3, u3x⟩, ⟨u4, u4x⟩, ⟨u5, u5x⟩, ⟨u6, u6x, uT⟩, ⟨u7, u7x⟩, ⟨u8, u8x⟩, ⟨u9, u9x⟩⟩, uD, uP, uB, uS, uI⟩ := hwO
  refine ⟨?_, fun k hk => ?_, fun k hk => ?_, fun k hk => ?_, fun c hc => ?_, fun k l hk hl => ?_⟩
  · simp (maxSteps := 10000000) (disch := omega) only [up_ne, up_self]; omega
  · simp (maxSteps := 10000000) (disch := omega) only [up_ne, up_self] at hk; simp (maxSteps := 10000000) (disch := omega) only [up_ne, up_self]; exact uD k hk
  · simp (maxSteps := 10000000) (disch := omega) only [up_ne, up_self] at hk; simp (maxSteps := 10000000) (disch := omega) only [up_ne, up_self]; exact uP k hk
  · simp (maxSteps := 10000000) (disch := omega) only [up_ne, up_self] at hk; simp (maxSteps := 10000000) (disch := omega) only [up_ne, up_self]; have g := uB k hk; omega
  · simp (maxSteps := 10000000) (disch := omega) only [up_ne, up_self] at hc; simp (maxSteps := 10000000) (disch := omega) only [up_ne, up_self]; exact uS c hc
  · simp (maxSteps := 10000000) (disch := omega) only [up_ne, up_self] at hk hl; simp (maxSteps := 10000000) (disch := omega) only [up_ne, up_self]; exact uI k l hk hl
theorem WF_mono {T2 : Int} (hw : WF T a) (h1 : T ≤ T2) (h2 : T2 ≤ 1000000) : WF T2 a := by
  have hwO := hw; obtain ⟨⟨⟨u0, u0x⟩, ⟨u1, u1x⟩, ⟨u2, u2x⟩, ⟨u3, u3x⟩, ⟨u4, u4x⟩, ⟨u5, u5x⟩, ⟨u6, u6x, uT⟩, ⟨u7, u7x⟩, ⟨u8, u8x⟩, ⟨u9, u9x⟩⟩, uD, uP, uB, uS, uI⟩ := hwO
  refine ⟨?_, uD, uP, uB, uS, uI⟩
  omega
theorem WF_d2 {k0 : Nat} (hw : WF T a) (hk0 : (k0 : Int) < a 7) (hv : 0 ≤ v ∧ v ≤ 99) : WF T (up a (10 + 4 * k0 + 2) v) := by
  have hwO := hw; obtain ⟨⟨⟨u0, u0x⟩, ⟨u1, u1x⟩, ⟨u2, u2x⟩, ⟨u3, u3x⟩, ⟨u4, u4x⟩, ⟨u5, u5x⟩, ⟨u6, u6x, uT⟩, ⟨u7, u7x⟩, ⟨u8, u8x⟩, ⟨u9, u9x⟩⟩, uD, uP, uB, uS, uI⟩ := hwO
  refine ⟨?_, fun k hk => ?_, fun k hk => ?_, fun k hk => ?_, fun c hc => ?_, fun k l hk hl => ?_⟩
  · simp (maxSteps := 10000000) (disch := omega) only [up_ne, up_self]; omega
  · simp (maxSteps := 10000000) (disch := omega) only [up_ne, up_self] at hk
    have g := uD k hk
    by_cases e : k = k0
    · subst e; simp (maxSteps := 10000000) (disch := omega) only [up_ne, up_self]; omega
    · simp (maxSteps := 10000000) (disch := omega) only [up_ne, up_self]; omega
  · simp (maxSteps := 10000000) (disch := omega) only [up_ne, up_self] at hk; simp (maxSteps := 10000000) (disch := omega) only [up_ne, up_self]; exact uP k hk
  · simp (maxSteps := 10000000) (disch := omega) only [up_ne, up_self] at hk; simp (maxSteps := 10000000) (disch := omega) only [up_ne, up_self]; exact uB k hk
  · simp (maxSteps := 10000000) (disch := omega) only [up_ne, up_self] at hc; simp (maxSteps := 10000000) (disch := omega) only [up_ne, up_self]; exact uS c hc
  · simp (maxSteps := 10000000) (disch := omega) only [up_ne, up_self] at hk hl; simp (maxSteps := 10000000) (disch := omega) only [up_ne, up_self]; exact uI k l hk hl
theorem WF_d3 {k0 : Nat} (hw : WF T a) (hk0 : (k0 : Int) < a 7) : WF T (up a (10 + 4 * k0 + 3) v) := by
  have hwO := hw; obtain ⟨⟨⟨u0, u0x⟩, ⟨u1, u1x⟩, ⟨u2, u2x⟩, ⟨u3, u3x⟩, ⟨u4, u4x⟩, ⟨u5, u5x⟩, ⟨u6, u6x, uT⟩, ⟨u7, u7x⟩, ⟨u8, u8x⟩, ⟨u9, u9x⟩⟩, uD, uP, uB, uS, uI⟩ := hwO
  refine ⟨?_, fun k hk => ?_, fun k hk => ?_, fun k hk => ?_, fun c hc => ?_, fun k l hk hl => ?_⟩
  · simp (maxSteps := 10000000) (disch := omega) only [up_ne, up_self]; omega
  · simp (maxSteps := 10000000) (disch := omega) only [up_ne, up_self] at hk; simp (maxSteps := 10000000) (disch := omega) only [up_ne, up_self]; exact uD k hk
  · simp (maxSteps := 10000000) (disch := omega) only [up_ne, up_self] at hk; simp (maxSteps := 10000000) (disch := omega) only [up_ne, up_self]; exact uP k hk
  · simp (maxSteps := 10000000) (disch := omega) only [up_ne, up_self] at hk; simp (maxSteps := 10000000) (disch := omega) only [up_ne, up_self]; exact uB k hk
  · simp (maxSteps := 10000000) (disch := omega) only [up_ne, up_self] at hc; simp (maxSteps := 10000000) (disch := omega) only [up_ne, up_self]; exact uS c hc
  · simp (maxSteps := 10000000) (disch := omega) only [up_ne, up_self] at hk hl; simp (maxSteps := 10000000) (disch := omega) only [up_ne, up_self]; exact uI k l hk hl
theorem WF_t1 {k0 : Nat} (hw : WF T a) (hk0 : (k0 : Int) < a 8) (hv : 0 ≤ v ∧ v ≤ 99) : WF T (up a (30 + 2 * k0 + 1) v) := by
  have hwO := hw; obtain ⟨⟨⟨u0, u0x⟩, ⟨u1, u1x⟩, ⟨u2, u2x⟩, ⟨u3, u3x⟩, ⟨u4, u4x⟩, ⟨u5, u5x⟩, ⟨u6, u6x, uT⟩, ⟨u7, u7x⟩, ⟨u8, u8x⟩, ⟨u9, u9x⟩⟩, uD, uP, uB, uS, uI⟩ := hwO
  refine ⟨?_, fun k hk => ?_, fun k hk => ?_, fun k hk => ?_, fun c hc => ?_, fun k l hk hl => ?_⟩
  · simp (maxSteps := 10000000) (disch := omega) only [up_ne, up_self]; omega
  · simp (maxSteps := 10000000) (disch := omega) only [up_ne, up_self] at hk; simp (maxSteps := 10000000) (disch := omega) only [up_ne, up_self]; exact uD k hk
  · simp (maxSteps := 10000000) (disch := omega) only [up_ne, up_self] at hk
    have g := uP k hk
    by_cases e : k = k0
    · subst e; simp (maxSteps := 10000000) (disch := omega) only [up_ne, up_self]; omega
    · simp (maxSteps := 10000000) (disch := omega) only [up_ne, up_self]; omega
  · simp (maxSteps := 10000000) (disch := omega) only [up_ne, up_self] at hk; simp (maxSteps := 10000000) (disch := omega) only [up_ne, up_self]; exact uB k hk
  · simp (maxSteps := 10000000) (disch := omega) only [up_ne, up_self] at hc; simp (maxSteps := 10000000) (disch := omega) only [up_ne, up_self]; exact uS c hc
  · simp (maxSteps := 10000000) (disch := omega) only [up_ne, up_self] at hk hl; simp (maxSteps := 10000000) (disch := omega) only [up_ne, up_self]; exact uI k l hk hl
theorem WF_cell (hw : WF T a) (hb : (b : Int) < a 9) (hv : 0 ≤ v ∧ v < a 0 * a 1) (hf : ∀ k : Nat, (k : Int) < a 9 → k ≠ b → a (40 + 10 * k + 6) = 0 → a (40 + 10 * k) ≠ v) : WF T (up a (40 + 10 * b) v) := by
  have hwO := hw; obtain ⟨⟨⟨u0, u0x⟩, ⟨u1, u1x⟩, ⟨u2, u2x⟩, ⟨u3, u3x⟩, ⟨u4, u4x⟩, ⟨u5, u5x⟩, ⟨u6, u6x, uT⟩, ⟨u7, u7x⟩, ⟨u8, u8x⟩, ⟨u9, u9x⟩⟩, uD, uP, uB, uS, uI⟩ := hwO
  refine ⟨?_, fun k hk => ?_, fun k hk => ?_, fun k hk => ?_, fun c hc => ?_, fun k l hk hl => ?_⟩
  · simp (maxSteps := 10000000) (disch := omega) only [up_ne, up_self]; omega
  · simp (maxSteps := 10000000) (disch := omega) only [up_ne, up_self] at hk; simp (maxSteps := 10000000) (disch := omega) only [up_ne, up_self]; exact uD k hk
  · simp (maxSteps := 10000000) (disch := omega) only [up_ne, up_self] at hk; simp (maxSteps := 10000000) (disch := omega) only [up_ne, up_self]; exact uP k hk
  · simp (maxSteps := 10000000) (disch := omega) only [up_ne, up_self] at hk
    have g := uB k hk
    by_cases e : k = b
    · subst e; simp (maxSteps := 10000000) (disch := omega) only [up_ne, up_self]; omega
    · simp (maxSteps := 10000000) (disch := omega) only [up_ne, up_self]; omega
  · simp (maxSteps := 10000000) (disch := omega) only [up_ne, up_self] at hc; simp (maxSteps := 10000000) (disch := omega) only [up_ne, up_self]; exact uS c hc
  · simp (maxSteps := 10000000) (disch := omega) only [up_ne, up_self] at hk hl
    simp (maxSteps := 10000000) (disch := omega) only [up_ne, up_self]
    intro s1 s2
    by_cases e : k = b
    · by_cases e2 : l = b
      · omega
      · subst e; simp (maxSteps := 10000000) (disch := omega) only [up_ne, up_self]; intro h; exact absurd h.symm (hf l hl e2 s2)
    · by_cases e2 : l = b
      · subst e2; simp (maxSteps := 10000000) (disch := omega) only [up_ne, up_self]; intro h; exact absurd h (hf k hk e s1)
      · simp (maxSteps := 10000000) (disch := omega) only [up_ne, up_self]; exact uI k l hk hl s1 s2
theorem WF_en (hw : WF T a) (hb : (b : Int) < a 9) (hv : v = 1 ∨ v = 2) : WF T (enB a b v) := by
  have hwO := hw; obtain ⟨⟨⟨u0, u0x⟩, ⟨u1, u1x⟩, ⟨u2, u2x⟩, ⟨u3, u3x⟩, ⟨u4, u4x⟩, ⟨u5, u5x⟩, ⟨u6, u6x, uT⟩, ⟨u7, u7x⟩, ⟨u8, u8x⟩, ⟨u9, u9x⟩⟩, uD, uP, uB, uS, uI⟩ := hwO
  unfold enB
  refine ⟨?_, fun k hk => ?_, fun k hk => ?_, fun k hk => ?_, fun c hc => ?_, fun k l hk hl => ?_⟩
  · simp (maxSteps := 10000000) (disch := omega) only [up_ne, up_self]; omega
  · simp (maxSteps := 10000000) (disch := omega) only [up_ne, up_self] at hk; simp (maxSteps := 10000000) (disch := omega) only [up_ne, up_self]; exact uD k hk
  · simp (maxSteps := 10000000) (disch := omega) only [up_ne, up_self] at hk; simp (maxSteps := 10000000) (disch := omega) only [up_ne, up_self]; exact uP k hk
  · simp (maxSteps := 10000000) (disch := omega) only [up_ne, up_self] at hk
    have g := uB k hk
    by_cases e : k = b
    · subst e; simp (maxSteps := 10000000) (disch := omega) only [up_ne, up_self]; omega
    · simp (maxSteps := 10000000) (disch := omega) only [up_ne, up_self]; omega
  · simp (maxSteps := 10000000) (disch := omega) only [up_ne, up_self] at hc; simp (maxSteps := 10000000) (disch := omega) only [up_ne, up_self]; exact uS c hc
  · simp (maxSteps := 10000000) (disch := omega) only [up_ne, up_self] at hk hl
    by_cases e : k = b
    · subst e; simp (maxSteps := 10000000) (disch := omega) only [up_ne, up_self]; omega
    · by_cases e2 : l = b
      · subst e2; simp (maxSteps := 10000000) (disch := omega) only [up_ne, up_self]; omega
      · simp (maxSteps := 10000000) (disch := omega) only [up_ne, up_self]; exact uI k l hk hl
/-- a row that differs in the soap alone -/
theorem WF_soapF {a2 : Rw} (hw : WF T a) (h1 : ∀ i, i < 160 → a2 i = a i) (h2 : ∀ c : Nat, (c : Int) < a 0 * a 1 → 0 ≤ a2 (160 + c) ∧ a2 (160 + c) ≤ 99) : WF T a2 := by
  have hwO := hw; obtain ⟨⟨⟨u0, u0x⟩, ⟨u1, u1x⟩, ⟨u2, u2x⟩, ⟨u3, u3x⟩, ⟨u4, u4x⟩, ⟨u5, u5x⟩, ⟨u6, u6x, uT⟩, ⟨u7, u7x⟩, ⟨u8, u8x⟩, ⟨u9, u9x⟩⟩, uD, uP, uB, uS, uI⟩ := hwO
  have e0 := h1 0 (by omega)
  have e1 := h1 1 (by omega)
  have e2 := h1 2 (by omega)
  have e3 := h1 3 (by omega)
  have e4 := h1 4 (by omega)
  have e5 := h1 5 (by omega)
  have e6 := h1 6 (by omega)
  have e7 := h1 7 (by omega)
  have e8 := h1 8 (by omega)
  have e9 := h1 9 (by omega)
  refine ⟨?_, fun k hk => ?_, fun k hk => ?_, fun k hk => ?_, fun c hc => ?_, fun k l hk hl => ?_⟩
  · simp only [e0, e1, e2, e3, e4, e5, e6, e7, e8, e9]; omega
  · rw [e7] at hk; have g := uD k hk
    simp (disch := omega) only [h1]; exact g
  · rw [e8] at hk; have g := uP k hk
    simp (disch := omega) only [h1]; exact g
  · rw [e9] at hk; have g := uB k hk
    simp (disch := omega) only [h1]; exact g
  · rw [e0, e1] at hc; exact h2 c hc
  · rw [e9] at hk hl; have g := uI k l hk hl
    simp (disch := omega) only [h1]; exact g
end WFU

/-! THE PURE SIDE 10: the model's turn -/
def Fm (q : Nat) (S S' : zS) : Prop := S'.2 = S.2 ∧ ∀ k n o j, ¬(k = 2 ∧ n = q) → ¬(k = 3 ∧ n = 0 ∧ (o = 2 ∨ o = 3 ∨ o = 4)) → S'.1 k n o j = S.1 k n o j
theorem Fm_refl (q : Nat) (S : zS) : Fm q S S := ⟨rfl, fun _ _ _ _ _ _ => rfl⟩
theorem Fm_trans {q : Nat} {S S1 S2 : zS} (h1 : Fm q S S1) (h2 : Fm q S1 S2) : Fm q S S2 := ⟨h2.1.trans h1.1, fun k n o j a b => (h2.2 k n o j a b).trans (h1.2 k n o j a b)⟩
theorem Fm_row {q : Nat} {S S' : zS} (h : Fm q S S') (j : Nat) (v : Int32) : Fm q S (zs_set S' 2 q 0 j v) := by
  refine ⟨h.1, fun k n o i a b => ?_⟩
  rw [zs_at, if_neg (by omega)]
  exact h.2 k n o i a b
theorem Fm_scr {q : Nat} {S S' : zS} (h : Fm q S S') (o j : Nat) (v : Int32) (ho : o = 2 ∨ o = 3 ∨ o = 4) : Fm q S (zs_set S' 3 0 o j v) := by
  refine ⟨h.1, fun k n o2 i a b => ?_⟩
  rw [zs_at, if_neg (by omega)]
  exact h.2 k n o2 i a b
theorem Md_scr {S : zS} {q : Nat} {a : Rw} (h : Md S q a) (o j : Nat) (v : Int32) (ho : o ≠ 0) : Md (zs_set S 3 0 o j v) q a := by
  refine ⟨?_, h.2.1, fun i hi => ?_⟩
  · rw [zs_at, if_neg (by omega)]; exact h.1
  · rw [zs_at, if_neg (by omega)]; exact h.2.2 i hi
def movB (a : Rw) (b dir : Nat) (st : Int) : Rw :=
    if ¬((0 ≤ a (40 + 10 * b) % a 0 + (if dir = 0 then st else 0) ∧ a (40 + 10 * b) % a 0 + (if dir = 0 then st else 0) < a 0) ∧ (0 ≤ a (40 + 10 * b) / a 0 + (if dir = 1 then st else 0) ∧ a (40 + 10 * b) / a 0 + (if dir = 1 then st else 0) < a 1)) then up a (40 + 10 * b + (4 + dir)) 0
    else if occ a (a 0 * (a (40 + 10 * b) / a 0 + (if dir = 1 then st else 0)) + (a (40 + 10 * b) % a 0 + (if dir = 0 then st else 0))) b ≠ -1 then
      up (up (up a (40 + 10 * (occ a (a 0 * (a (40 + 10 * b) / a 0 + (if dir = 1 then st else 0)) + (a (40 + 10 * b) % a 0 + (if dir = 0 then st else 0))) b).toNat + (4 + dir)) (limI (a (40 + 10 * (occ a (a 0 * (a (40 + 10 * b) / a 0 + (if dir = 1 then st else 0)) + (a (40 + 10 * b) % a 0 + (if dir = 0 then st else 0))) b).toNat + (4 + dir)) + (a (40 + 10 * b + (4 + dir)) * a (40 + 10 * b + 1)).tdiv (a (40 + 10 * b + 1) + a (40 + 10 * (occ a (a 0 * (a (40 + 10 * b) / a 0 + (if dir = 1 then st else 0)) + (a (40 + 10 * b) % a 0 + (if dir = 0 then st else 0))) b).toNat + 1))))) (40 + 10 * b + (4 + dir)) 0) (40 + 10 * b + 9) (a (40 + 10 * b + 9) + 1)
    else up (up (up a (40 + 10 * b) (a 0 * (a (40 + 10 * b) / a 0 + (if dir = 1 then st else 0)) + (a (40 + 10 * b) % a 0 + (if dir = 0 then st else 0)))) (40 + 10 * b + (4 + dir)) (a (40 + 10 * b + (4 + dir)) - 100 * st)) (40 + 10 * b + 8) (a (40 + 10 * b + 8) + 1)
theorem mov_B (a : Rw) (b dir : Nat) : mov a b dir = if iab (a (40 + 10 * b + (4 + dir))) < 100 then a else movB a b dir (if 0 < a (40 + 10 * b + (4 + dir)) then 1 else -1) := rfl
theorem tdiv_b {x w1 w2 : Int} (h1 : -300 ≤ x) (h2 : x ≤ 300) (h3 : 1 ≤ w1) (h4 : w1 ≤ 99) (h5 : 1 ≤ w2) : -300 ≤ (x * w1).tdiv (w1 + w2) ∧ (x * w1).tdiv (w1 + w2) ≤ 300 ∧ -29700 ≤ x * w1 ∧ x * w1 ≤ 29700 := by
  have e1 : ((x * w1).tdiv (w1 + w2)).natAbs = (x * w1).natAbs / (w1 + w2).natAbs := Int.natAbs_tdiv _ _
  have e2 : (x * w1).natAbs = x.natAbs * w1.natAbs := Int.natAbs_mul x w1
  have e3 : x.natAbs * w1.natAbs / (w1 + w2).natAbs ≤ x.natAbs := by
    apply Nat.div_le_of_le_mul
    rw [Nat.mul_comm]
    exact Nat.mul_le_mul_right _ (by omega)
  have e4 : x.natAbs * w1.natAbs ≤ 300 * 99 := Nat.mul_le_mul (by omega) (by omega)
  rw [e2] at e1
  omega
section MD
variable {S : zS} {q d : Nat} {a : Rw} {T : Int}
theorem zsum_rate (hw : WF T a) : ∀ k : Nat, (k : Int) ≤ a 8 → 0 ≤ zsum (fun k => a (30 + 2 * k + 1)) k ∧ zsum (fun k => a (30 + 2 * k + 1)) k ≤ 99 * k := by
  intro k hk
  exact ⟨zsum_ge _ _ (fun i hi => (hw.2.2.1 i (by omega)).2.1), zsum_le _ 99 _ (fun i hi => (hw.2.2.1 i (by omega)).2.2)⟩
theorem zsum_drain (hw : WF T a) : ∀ k : Nat, (k : Int) ≤ a 7 → 0 ≤ zsum (fun k => if wks a k = true then a (10 + 4 * k + 2) else 0) k ∧ zsum (fun k => if wks a k = true then a (10 + 4 * k + 2) else 0) k ≤ 99 * k := by
  intro k hk
  refine ⟨zsum_ge _ _ (fun i hi => ?_), zsum_le _ 99 _ (fun i hi => ?_)⟩
  · have := (hw.2.1 i (by omega)).2.2; split <;> omega
  · have := (hw.2.1 i (by omega)).2.2; split <;> omega
theorem m180_d (h : Md S q a) (hw : WF T a) : ∀ (m k n : Nat), k + m = (a 7).toNat → m < n → zy zF (d + 4) 180 n 37 [some (za 3 0 0), some (zi (zo (a 2 + zsum (fun k => a (30 + 2 * k + 1)) (a 8).toNat - zsum (fun k => if wks a k = true then a (10 + 4 * k + 2) else 0) k))), some (zi (zo k))] S = some (.inl none, zs_set S 2 q 0 2 (zo (if lvS a < 0 then 0 else if 1000 < lvS a then 1000 else lvS a))) := by
  have hh := h
  have hO := h; obtain ⟨h1, hq, h2⟩ := hO
  have hwO := hw; obtain ⟨⟨⟨u0, u0x⟩, ⟨u1, u1x⟩, ⟨u2, u2x⟩, ⟨u3, u3x⟩, ⟨u4, u4x⟩, ⟨u5, u5x⟩, ⟨u6, u6x, uT⟩, ⟨u7, u7x⟩, ⟨u8, u8x⟩, ⟨u9, u9x⟩⟩, uD, uP, uB, uS, uI⟩ := hwO
  have s1 := zsum_rate hw (a 8).toNat (by omega)
  intro m
  induction m with
  | zero =>
    intro k n hk hn
    obtain ⟨n, rfl⟩ : ∃ n', n = n' + 1 := ⟨n - 1, by omega⟩
    have s2 := zsum_drain hw k (by omega)
    rw [ze_180_37]
    simp (maxSteps := 10000000) (disch := omega) only [h1, hq, h2, zo_add, zo_sub, zo_mul, zo_neg, zo_lt, zo_le, zo_eq, zo_nn, zin_ok, zlt_eq, zr0, zr1, zr3, zr4, zr0x, zr1x, zr3x, zr4x, zb_and, zb_0, zmin_o, zmax_o, zabs_o, zo_div, zo_mod, ↓reduceIte, Int.reduceToNat, Int.reduceNeg, Int.reduceAdd, Int.reduceMul, Int.reduceSub, Int.reduceEq, Int.reduceLT, Int.reduceLE, if_true, if_false, Nat.reduceAdd, Nat.reduceMul]
    rw [if_pos (by omega)]
    unfold lvS
    rw [show k = (a 7).toNat by omega] at s2 ⊢
    generalize a 2 + zsum (fun k => a (30 + 2 * k + 1)) (a 8).toNat - zsum (fun k => if wks a k = true then a (10 + 4 * k + 2) else 0) (a 7).toNat = x at *
    by_cases c1 : 0 ≤ x
    · rw [if_pos c1, if_neg (show ¬ x < 0 by omega)]
      by_cases c2 : x ≤ 1000
      · rw [if_pos c2, if_neg (show ¬ 1000 < x by omega)]
      · rw [if_neg c2, if_pos (show 1000 < x by omega)]
    · rw [if_neg c1, if_pos (show x < 0 by omega)]
  | succ m ih =>
    intro k n hk hn
    obtain ⟨n, rfl⟩ : ∃ n', n = n' + 1 := ⟨n - 1, by omega⟩
    have gD := uD k (by omega)
    have s2 := zsum_drain hw k (by omega)
    have i := ih (k + 1) n (by omega) (by omega)
    rw [show ((k + 1 : Nat) : Int) = (k : Int) + 1 from rfl] at i
    rw [show zsum (fun k => if wks a k = true then a (10 + 4 * k + 2) else 0) (k + 1) = zsum (fun k => if wks a k = true then a (10 + 4 * k + 2) else 0) k + (if wks a k = true then a (10 + 4 * k + 2) else 0) from rfl] at i
    rw [ze_180_37]
    simp (maxSteps := 10000000) (disch := omega) only [h1, hq, h2, m171 hh hw (k := k) (by omega), m162_2 hh, zo_add, zo_sub, zo_mul, zo_neg, zo_lt, zo_le, zo_eq, zo_nn, zin_ok, zlt_eq, zr0, zr1, zr3, zr4, zr0x, zr1x, zr3x, zr4x, zb_and, zb_0, zmin_o, zmax_o, zabs_o, zo_div, zo_mod, ↓reduceIte, Int.reduceToNat, Int.reduceNeg, Int.reduceAdd, Int.reduceMul, Int.reduceSub, Int.reduceEq, Int.reduceLT, Int.reduceLE, if_true, if_false, Nat.reduceAdd, Nat.reduceMul]
    rw [if_neg (by omega)]
    cases hk2 : wks a k with
    | true =>
      rw [hk2] at i
      rw [if_neg (by decide), Int.sub_sub]
      exact i
    | false =>
      rw [hk2] at i
      rw [if_pos rfl, Int.sub_sub]
      exact i
theorem m180_t (h : Md S q a) (hw : WF T a) : ∀ (m k n : Nat), k + m = (a 8).toNat → m + 10 < n → zy zF (d + 4) 180 n 9 [some (za 3 0 0), some (zi (zo (a 2 + zsum (fun k => a (30 + 2 * k + 1)) k))), some (zi (zo k))] S = some (.inl none, zs_set S 2 q 0 2 (zo (if lvS a < 0 then 0 else if 1000 < lvS a then 1000 else lvS a))) := by
  have hh := h
  have hO := h; obtain ⟨h1, hq, h2⟩ := hO
  have hwO := hw; obtain ⟨⟨⟨u0, u0x⟩, ⟨u1, u1x⟩, ⟨u2, u2x⟩, ⟨u3, u3x⟩, ⟨u4, u4x⟩, ⟨u5, u5x⟩, ⟨u6, u6x, uT⟩, ⟨u7, u7x⟩, ⟨u8, u8x⟩, ⟨u9, u9x⟩⟩, uD, uP, uB, uS, uI⟩ := hwO
  intro m
  induction m with
  | zero =>
    intro k n hk hn
    obtain ⟨n, rfl⟩ : ∃ n', n = n' + 1 := ⟨n - 1, by omega⟩
    have i := m180_d (d := d) hh hw (a 7).toNat 0 n (by omega) (by omega)
    rw [show zsum (fun k => if wks a k = true then a (10 + 4 * k + 2) else 0) 0 = 0 from rfl, Int.sub_zero] at i
    rw [ze_180_9]
    simp (maxSteps := 10000000) (disch := omega) only [h1, hq, h2, zo_add, zo_sub, zo_mul, zo_neg, zo_lt, zo_le, zo_eq, zo_nn, zin_ok, zlt_eq, zr0, zr1, zr3, zr4, zr0x, zr1x, zr3x, zr4x, zb_and, zb_0, zmin_o, zmax_o, zabs_o, zo_div, zo_mod, ↓reduceIte, Int.reduceToNat, Int.reduceNeg, Int.reduceAdd, Int.reduceMul, Int.reduceSub, Int.reduceEq, Int.reduceLT, Int.reduceLE, if_true, if_false, Nat.reduceAdd, Nat.reduceMul]
    rw [if_pos (by omega), show k = (a 8).toNat by omega]
    exact i
  | succ m ih =>
    intro k n hk hn
    obtain ⟨n, rfl⟩ : ∃ n', n = n' + 1 := ⟨n - 1, by omega⟩
    have gD := uP k (by omega)
    have i := ih (k + 1) n (by omega) (by omega)
    rw [show ((k + 1 : Nat) : Int) = (k : Int) + 1 from rfl] at i
    rw [show zsum (fun k => a (30 + 2 * k + 1)) (k + 1) = zsum (fun k => a (30 + 2 * k + 1)) k + a (30 + 2 * k + 1) from rfl] at i
    rw [ze_180_9]
    simp (maxSteps := 10000000) (disch := omega) only [h1, hq, h2, m163_1 hh, zo_add, zo_sub, zo_mul, zo_neg, zo_lt, zo_le, zo_eq, zo_nn, zin_ok, zlt_eq, zr0, zr1, zr3, zr4, zr0x, zr1x, zr3x, zr4x, zb_and, zb_0, zmin_o, zmax_o, zabs_o, zo_div, zo_mod, ↓reduceIte, Int.reduceToNat, Int.reduceNeg, Int.reduceAdd, Int.reduceMul, Int.reduceSub, Int.reduceEq, Int.reduceLT, Int.reduceLE, if_true, if_false, Nat.reduceAdd, Nat.reduceMul]
    rw [if_neg (by omega), Int.add_assoc]
    exact i
theorem m180 (h : Md S q a) (hw : WF T a) : ∃ S', zr_sem zF (d + 5) 180 [za 3 0 0] S = some (.inl none, S') ∧ Md S' q (chL a) ∧ Fm q S S' := by
  have hh := h
  have hb := zF1_big
  have i := m180_t (d := d) hh hw (a 8).toNat 0 zF1 (by have := hw.1.2.2.2.2.2.2.2.2.1; omega) (by have := hw.1.2.2.2.2.2.2.2.2.1; omega)
  rw [show zsum (fun k => a (30 + 2 * k + 1)) 0 = 0 from rfl, Int.add_zero] at i
  refine ⟨_, ?_, Md_set h 2 _, Fm_row (Fm_refl q S) 2 _⟩
  have hO := h; obtain ⟨h1, hq, h2⟩ := hO
  rw [ze_180]
  simp (maxSteps := 10000000) (disch := omega) only [h1, hq, h2, zo_add, zo_sub, zo_mul, zo_neg, zo_lt, zo_le, zo_eq, zo_nn, zin_ok, zlt_eq, zr0, zr1, zr3, zr4, zr0x, zr1x, zr3x, zr4x, zb_and, zb_0, zmin_o, zmax_o, zabs_o, zo_div, zo_mod, ↓reduceIte, Int.reduceToNat, Int.reduceNeg, Int.reduceAdd, Int.reduceMul, Int.reduceSub, Int.reduceEq, Int.reduceLT, Int.reduceLE, if_true, if_false, Nat.reduceAdd, Nat.reduceMul]
  exact i
theorem m181_28_0 (h : Md S q a) (hw : WF T a) {b : Nat} (hb : (b : Int) < a 9) {st : Int} (hst : st = 1 ∨ st = -1) {n : Nat} (hn : 1 ≤ n) : ∃ S', zys zF (d + 3) 181 n 28 [some (za 3 0 0), some (zi (zo b)), some (zi (zo 0)), some (zi (zo (a (40 + 10 * b + 4)))), none, none, none, none, none] [zi (zo st)] S = some (.inl none, S') ∧ Md S' q (movB a b 0 st) ∧ Fm q S S' := by
  obtain ⟨n, rfl⟩ : ∃ n', n = n' + 1 := ⟨n - 1, by omega⟩
  rw [ze_181_28]
  have hwO := hw; obtain ⟨⟨⟨u0, u0x⟩, ⟨u1, u1x⟩, ⟨u2, u2x⟩, ⟨u3, u3x⟩, ⟨u4, u4x⟩, ⟨u5, u5x⟩, ⟨u6, u6x, uT⟩, ⟨u7, u7x⟩, ⟨u8, u8x⟩, ⟨u9, u9x⟩⟩, uD, uP, uB, uS, uI⟩ := hwO
  have uN := WF_nc hw
  have gB := uB b hb
  have g := col_rng hw gB.1.1 gB.1.2
  unfold movB
  simp only [show ((0 : Nat) = 1) = False by simp, show ((1 : Nat) = 0) = False by simp, if_true, if_false, Nat.reduceAdd]
  simp (maxSteps := 10000000) (disch := omega) only [m160_0 h, m155 h hw, m156 h hw, zo_add, zo_sub, zo_mul, zo_neg, zo_lt, zo_le, zo_eq, zo_nn, zin_ok, zlt_eq, zr0, zr1, zr3, zr4, zr0x, zr1x, zr3x, zr4x, zb_and, zb_0, zmin_o, zmax_o, zabs_o, zo_div, zo_mod, ↓reduceIte, Int.reduceToNat, Int.reduceNeg, Int.reduceAdd, Int.reduceMul, Int.reduceSub, Int.reduceEq, Int.reduceLT, Int.reduceLE, if_true, if_false, Nat.reduceAdd, Nat.reduceMul]
  simp (maxSteps := 10000000) (disch := omega) only [m153 h hw, m154 h, zo_add, zo_sub, zo_mul, zo_neg, zo_lt, zo_le, zo_eq, zo_nn, zin_ok, zlt_eq, zr0, zr1, zr3, zr4, zr0x, zr1x, zr3x, zr4x, zb_and, zb_0, zmin_o, zmax_o, zabs_o, zo_div, zo_mod, ↓reduceIte, Int.reduceToNat, Int.reduceNeg, Int.reduceAdd, Int.reduceMul, Int.reduceSub, Int.reduceEq, Int.reduceLT, Int.reduceLE, if_true, if_false, Nat.reduceAdd, Nat.reduceMul]
  generalize hx : a (40 + 10 * b) % a 0 + st = x
  generalize hy : a (40 + 10 * b) / a 0 + 0 = y
  by_cases c : (0 ≤ x ∧ x < a 0) ∧ (0 ≤ y ∧ y < a 1)
  · have gc := cel_lt c
    have o1 := occ_ge a (a 0 * y + x) b
    have o2 := occ_lt (a := a) (a 0 * y + x) b (by omega)
    rw [if_neg (not_not_intro c), if_neg (by simp [c])]
    simp (maxSteps := 10000000) (disch := omega) only [m170 h hw, zo_add, zo_sub, zo_mul, zo_neg, zo_lt, zo_le, zo_eq, zo_nn, zin_ok, zlt_eq, zr0, zr1, zr3, zr4, zr0x, zr1x, zr3x, zr4x, zb_and, zb_0, zmin_o, zmax_o, zabs_o, zo_div, zo_mod, ↓reduceIte, Int.reduceToNat, Int.reduceNeg, Int.reduceAdd, Int.reduceMul, Int.reduceSub, Int.reduceEq, Int.reduceLT, Int.reduceLE, if_true, if_false, Nat.reduceAdd, Nat.reduceMul]
    by_cases c2 : occ a (a 0 * y + x) b = -1
    · rw [if_pos c2, if_neg (not_not_intro c2)]
      have hA := Md_set h (40 + 10 * b) (a 0 * y + x)
      have hB := Md_set hA (40 + 10 * b + 4) (a (40 + 10 * b + 4) - 100 * st)
      have hC := Md_set hB (40 + 10 * b + 8) (a (40 + 10 * b + 8) + 1)
      have e8 : up (up a (40 + 10 * b) (a 0 * y + x)) (40 + 10 * b + 4) (a (40 + 10 * b + 4) - 100 * st) (40 + 10 * b + 8) = a (40 + 10 * b + 8) := by simp (maxSteps := 10000000) (disch := omega) only [up_ne, up_self]
      refine ⟨_, ?_, hC, Fm_row (Fm_row (Fm_row (Fm_refl q S) _ _) _ _) _ _⟩
      simp (maxSteps := 10000000) (disch := omega) only [m154 h, m161_0 h, m161_4 hA, m160_8 hB, m161_8 hB, e8, zo_add, zo_sub, zo_mul, zo_neg, zo_lt, zo_le, zo_eq, zo_nn, zin_ok, zlt_eq, zr0, zr1, zr3, zr4, zr0x, zr1x, zr3x, zr4x, zb_and, zb_0, zmin_o, zmax_o, zabs_o, zo_div, zo_mod, ↓reduceIte, Int.reduceToNat, Int.reduceNeg, Int.reduceAdd, Int.reduceMul, Int.reduceSub, Int.reduceEq, Int.reduceLT, Int.reduceLE, if_true, if_false, Nat.reduceAdd, Nat.reduceMul]
    · rw [if_neg c2, if_pos c2]
      obtain ⟨j, hj⟩ : ∃ j : Nat, occ a (a 0 * y + x) b = j := ⟨(occ a (a 0 * y + x) b).toNat, by omega⟩
      rw [hj] at o1 o2 ⊢
      rw [Int.toNat_natCast]
      have gJ := uB j o2
      have td := tdiv_b (x := a (40 + 10 * b + 4)) (w1 := a (40 + 10 * b + 1)) (w2 := a (40 + 10 * j + 1)) (by omega) (by omega) (by omega) (by omega) (by omega)
      have hA := Md_set h (40 + 10 * j + 4) (limI (a (40 + 10 * j + 4) + (a (40 + 10 * b + 4) * a (40 + 10 * b + 1)).tdiv (a (40 + 10 * b + 1) + a (40 + 10 * j + 1))))
      have hB := Md_set hA (40 + 10 * b + 4) 0
      have hC := Md_set hB (40 + 10 * b + 9) (a (40 + 10 * b + 9) + 1)
      have e9 : up (up a (40 + 10 * j + 4) (limI (a (40 + 10 * j + 4) + (a (40 + 10 * b + 4) * a (40 + 10 * b + 1)).tdiv (a (40 + 10 * b + 1) + a (40 + 10 * j + 1))))) (40 + 10 * b + 4) 0 (40 + 10 * b + 9) = a (40 + 10 * b + 9) := by simp (maxSteps := 10000000) (disch := omega) only [up_ne, up_self]
      have el : ∀ x : Int, (if 300 < x then 300 else if x < -300 then -300 else x) = limI x := fun x => rfl
      refine ⟨_, ?_, hC, Fm_row (Fm_row (Fm_row (Fm_refl q S) _ _) _ _) _ _⟩
      simp (maxSteps := 10000000) (disch := omega) only [m160_1 h, m160_4 h, zo_tdiv, m149, el, m161_4 h, m161_4 hA, m160_9 hB, m161_9 hB, e9, zo_add, zo_sub, zo_mul, zo_neg, zo_lt, zo_le, zo_eq, zo_nn, zin_ok, zlt_eq, zr0, zr1, zr3, zr4, zr0x, zr1x, zr3x, zr4x, zb_and, zb_0, zmin_o, zmax_o, zabs_o, zo_div, zo_mod, ↓reduceIte, Int.reduceToNat, Int.reduceNeg, Int.reduceAdd, Int.reduceMul, Int.reduceSub, Int.reduceEq, Int.reduceLT, Int.reduceLE, if_true, if_false, Nat.reduceAdd, Nat.reduceMul]
      rw [if_neg (by omega)]
  · rw [if_pos c, if_pos (by simp; omega)]
    refine ⟨_, ?_, Md_set h (40 + 10 * b + 4) 0, Fm_row (Fm_refl q S) _ _⟩
    simp (maxSteps := 10000000) (disch := omega) only [m161_4 h, zo_add, zo_sub, zo_mul, zo_neg, zo_lt, zo_le, zo_eq, zo_nn, zin_ok, zlt_eq, zr0, zr1, zr3, zr4, zr0x, zr1x, zr3x, zr4x, zb_and, zb_0, zmin_o, zmax_o, zabs_o, zo_div, zo_mod, ↓reduceIte, Int.reduceToNat, Int.reduceNeg, Int.reduceAdd, Int.reduceMul, Int.reduceSub, Int.reduceEq, Int.reduceLT, Int.reduceLE, if_true, if_false, Nat.reduceAdd, Nat.reduceMul]
theorem m181_0 (h : Md S q a) (hw : WF T a) {b : Nat} (hb : (b : Int) < a 9) : ∃ S', zr_sem zF (d + 4) 181 [za 3 0 0, zi (zo b), zi (zo 0)] S = some (.inl none, S') ∧ Md S' q (mov a b 0) ∧ Fm q S S' := by
  rw [ze_181]
  have hwO := hw; obtain ⟨⟨⟨u0, u0x⟩, ⟨u1, u1x⟩, ⟨u2, u2x⟩, ⟨u3, u3x⟩, ⟨u4, u4x⟩, ⟨u5, u5x⟩, ⟨u6, u6x, uT⟩, ⟨u7, u7x⟩, ⟨u8, u8x⟩, ⟨u9, u9x⟩⟩, uD, uP, uB, uS, uI⟩ := hwO
  have gB := uB b hb
  have hb2 := zF1_big
  have ib := iab_b (a (40 + 10 * b + 4))
  rw [mov_B]
  simp (maxSteps := 10000000) (disch := omega) only [m160_4 h, m150, zo_add, zo_sub, zo_mul, zo_neg, zo_lt, zo_le, zo_eq, zo_nn, zin_ok, zlt_eq, zr0, zr1, zr3, zr4, zr0x, zr1x, zr3x, zr4x, zb_and, zb_0, zmin_o, zmax_o, zabs_o, zo_div, zo_mod, ↓reduceIte, Int.reduceToNat, Int.reduceNeg, Int.reduceAdd, Int.reduceMul, Int.reduceSub, Int.reduceEq, Int.reduceLT, Int.reduceLE, if_true, if_false, Nat.reduceAdd, Nat.reduceMul]
  by_cases c : iab (a (40 + 10 * b + 4)) < 100
  · rw [if_pos c, if_neg (by omega)]
    exact ⟨S, rfl, h, Fm_refl q S⟩
  · rw [if_neg c, if_pos (by omega)]
    by_cases c2 : a (40 + 10 * b + 4) ≤ 0
    · rw [if_pos c2, if_neg (by omega)]
      exact m181_28_0 h hw hb (Or.inr rfl) (by omega)
    · rw [if_neg c2, if_pos (by omega)]
      exact m181_28_0 h hw hb (Or.inl rfl) (by omega)
theorem m181_28_1 (h : Md S q a) (hw : WF T a) {b : Nat} (hb : (b : Int) < a 9) {st : Int} (hst : st = 1 ∨ st = -1) {n : Nat} (hn : 1 ≤ n) : ∃ S', zys zF (d + 3) 181 n 28 [some (za 3 0 0), some (zi (zo b)), some (zi (zo 1)), some (zi (zo (a (40 + 10 * b + 5)))), none, none, none, none, none] [zi (zo st)] S = some (.inl none, S') ∧ Md S' q (movB a b 1 st) ∧ Fm q S S' := by
  obtain ⟨n, rfl⟩ : ∃ n', n = n' + 1 := ⟨n - 1, by omega⟩
  rw [ze_181_28]
  have hwO := hw; obtain ⟨⟨⟨u0, u0x⟩, ⟨u1, u1x⟩, ⟨u2, u2x⟩, ⟨u3, u3x⟩, ⟨u4, u4x⟩, ⟨u5, u5x⟩, ⟨u6, u6x, uT⟩, ⟨u7, u7x⟩, ⟨u8, u8x⟩, ⟨u9, u9x⟩⟩, uD, uP, uB, uS, uI⟩ := hwO
  have uN := WF_nc hw
  have gB := uB b hb
  have g := col_rng hw gB.1.1 gB.1.2
  unfold movB
  simp only [show ((0 : Nat) = 1) = False by simp, show ((1 : Nat) = 0) = False by simp, if_true, if_false, Nat.reduceAdd]
  simp (maxSteps := 10000000) (disch := omega) only [m160_0 h, m155 h hw, m156 h hw, zo_add, zo_sub, zo_mul, zo_neg, zo_lt, zo_le, zo_eq, zo_nn, zin_ok, zlt_eq, zr0, zr1, zr3, zr4, zr0x, zr1x, zr3x, zr4x, zb_and, zb_0, zmin_o, zmax_o, zabs_o, zo_div, zo_mod, ↓reduceIte, Int.reduceToNat, Int.reduceNeg, Int.reduceAdd, Int.reduceMul, Int.reduceSub, Int.reduceEq, Int.reduceLT, Int.reduceLE, if_true, if_false, Nat.reduceAdd, Nat.reduceMul]
  simp (maxSteps := 10000000) (disch := omega) only [m153 h hw, m154 h, zo_add, zo_sub, zo_mul, zo_neg, zo_lt, zo_le, zo_eq, zo_nn, zin_ok, zlt_eq, zr0, zr1, zr3, zr4, zr0x, zr1x, zr3x, zr4x, zb_and, zb_0, zmin_o, zmax_o, zabs_o, zo_div, zo_mod, ↓reduceIte, Int.reduceToNat, Int.reduceNeg, Int.reduceAdd, Int.reduceMul, Int.reduceSub, Int.reduceEq, Int.reduceLT, Int.reduceLE, if_true, if_false, Nat.reduceAdd, Nat.reduceMul]
  generalize hx : a (40 + 10 * b) % a 0 + 0 = x
  generalize hy : a (40 + 10 * b) / a 0 + st = y
  by_cases c : (0 ≤ x ∧ x < a 0) ∧ (0 ≤ y ∧ y < a 1)
  · have gc := cel_lt c
    have o1 := occ_ge a (a 0 * y + x) b
    have o2 := occ_lt (a := a) (a 0 * y + x) b (by omega)
    rw [if_neg (not_not_intro c), if_neg (by simp [c])]
    simp (maxSteps := 10000000) (disch := omega) only [m170 h hw, zo_add, zo_sub, zo_mul, zo_neg, zo_lt, zo_le, zo_eq, zo_nn, zin_ok, zlt_eq, zr0, zr1, zr3, zr4, zr0x, zr1x, zr3x, zr4x, zb_and, zb_0, zmin_o, zmax_o, zabs_o, zo_div, zo_mod, ↓reduceIte, Int.reduceToNat, Int.reduceNeg, Int.reduceAdd, Int.reduceMul, Int.reduceSub, Int.reduceEq, Int.reduceLT, Int.reduceLE, if_true, if_false, Nat.reduceAdd, Nat.reduceMul]
    by_cases c2 : occ a (a 0 * y + x) b = -1
    · rw [if_pos c2, if_neg (not_not_intro c2)]
      have hA := Md_set h (40 + 10 * b) (a 0 * y + x)
      have hB := Md_set hA (40 + 10 * b + 5) (a (40 + 10 * b + 5) - 100 * st)
      have hC := Md_set hB (40 + 10 * b + 8) (a (40 + 10 * b + 8) + 1)
      have e8 : up (up a (40 + 10 * b) (a 0 * y + x)) (40 + 10 * b + 5) (a (40 + 10 * b + 5) - 100 * st) (40 + 10 * b + 8) = a (40 + 10 * b + 8) := by simp (maxSteps := 10000000) (disch := omega) only [up_ne, up_self]
      refine ⟨_, ?_, hC, Fm_row (Fm_row (Fm_row (Fm_refl q S) _ _) _ _) _ _⟩
      simp (maxSteps := 10000000) (disch := omega) only [m154 h, m161_0 h, m161_5 hA, m160_8 hB, m161_8 hB, e8, zo_add, zo_sub, zo_mul, zo_neg, zo_lt, zo_le, zo_eq, zo_nn, zin_ok, zlt_eq, zr0, zr1, zr3, zr4, zr0x, zr1x, zr3x, zr4x, zb_and, zb_0, zmin_o, zmax_o, zabs_o, zo_div, zo_mod, ↓reduceIte, Int.reduceToNat, Int.reduceNeg, Int.reduceAdd, Int.reduceMul, Int.reduceSub, Int.reduceEq, Int.reduceLT, Int.reduceLE, if_true, if_false, Nat.reduceAdd, Nat.reduceMul]
    · rw [if_neg c2, if_pos c2]
      obtain ⟨j, hj⟩ : ∃ j : Nat, occ a (a 0 * y + x) b = j := ⟨(occ a (a 0 * y + x) b).toNat, by omega⟩
      rw [hj] at o1 o2 ⊢
      rw [Int.toNat_natCast]
      have gJ := uB j o2
      have td := tdiv_b (x := a (40 + 10 * b + 5)) (w1 := a (40 + 10 * b + 1)) (w2 := a (40 + 10 * j + 1)) (by omega) (by omega) (by omega) (by omega) (by omega)
      have hA := Md_set h (40 + 10 * j + 5) (limI (a (40 + 10 * j + 5) + (a (40 + 10 * b + 5) * a (40 + 10 * b + 1)).tdiv (a (40 + 10 * b + 1) + a (40 + 10 * j + 1))))
      have hB := Md_set hA (40 + 10 * b + 5) 0
      have hC := Md_set hB (40 + 10 * b + 9) (a (40 + 10 * b + 9) + 1)
      have e9 : up (up a (40 + 10 * j + 5) (limI (a (40 + 10 * j + 5) + (a (40 + 10 * b + 5) * a (40 + 10 * b + 1)).tdiv (a (40 + 10 * b + 1) + a (40 + 10 * j + 1))))) (40 + 10 * b + 5) 0 (40 + 10 * b + 9) = a (40 + 10 * b + 9) := by simp (maxSteps := 10000000) (disch := omega) only [up_ne, up_self]
      have el : ∀ x : Int, (if 300 < x then 300 else if x < -300 then -300 else x) = limI x := fun x => rfl
      refine ⟨_, ?_, hC, Fm_row (Fm_row (Fm_row (Fm_refl q S) _ _) _ _) _ _⟩
      simp (maxSteps := 10000000) (disch := omega) only [m160_1 h, m160_5 h, zo_tdiv, m149, el, m161_5 h, m161_5 hA, m160_9 hB, m161_9 hB, e9, zo_add, zo_sub, zo_mul, zo_neg, zo_lt, zo_le, zo_eq, zo_nn, zin_ok, zlt_eq, zr0, zr1, zr3, zr4, zr0x, zr1x, zr3x, zr4x, zb_and, zb_0, zmin_o, zmax_o, zabs_o, zo_div, zo_mod, ↓reduceIte, Int.reduceToNat, Int.reduceNeg, Int.reduceAdd, Int.reduceMul, Int.reduceSub, Int.reduceEq, Int.reduceLT, Int.reduceLE, if_true, if_false, Nat.reduceAdd, Nat.reduceMul]
      rw [if_neg (by omega)]
  · rw [if_pos c, if_pos (by simp; omega)]
    refine ⟨_, ?_, Md_set h (40 + 10 * b + 5) 0, Fm_row (Fm_refl q S) _ _⟩
    simp (maxSteps := 10000000) (disch := omega) only [m161_5 h, zo_add, zo_sub, zo_mul, zo_neg, zo_lt, zo_le, zo_eq, zo_nn, zin_ok, zlt_eq, zr0, zr1, zr3, zr4, zr0x, zr1x, zr3x, zr4x, zb_and, zb_0, zmin_o, zmax_o, zabs_o, zo_div, zo_mod, ↓reduceIte, Int.reduceToNat, Int.reduceNeg, Int.reduceAdd, Int.reduceMul, Int.reduceSub, Int.reduceEq, Int.reduceLT, Int.reduceLE, if_true, if_false, Nat.reduceAdd, Nat.reduceMul]
theorem m181_1 (h : Md S q a) (hw : WF T a) {b : Nat} (hb : (b : Int) < a 9) : ∃ S', zr_sem zF (d + 4) 181 [za 3 0 0, zi (zo b), zi (zo 1)] S = some (.inl none, S') ∧ Md S' q (mov a b 1) ∧ Fm q S S' := by
  rw [ze_181]
  have hwO := hw; obtain ⟨⟨⟨u0, u0x⟩, ⟨u1, u1x⟩, ⟨u2, u2x⟩, ⟨u3, u3x⟩, ⟨u4, u4x⟩, ⟨u5, u5x⟩, ⟨u6, u6x, uT⟩, ⟨u7, u7x⟩, ⟨u8, u8x⟩, ⟨u9, u9x⟩⟩, uD, uP, uB, uS, uI⟩ := hwO
  have gB := uB b hb
  have hb2 := zF1_big
  have ib := iab_b (a (40 + 10 * b + 5))
  rw [mov_B]
  simp (maxSteps := 10000000) (disch := omega) only [m160_5 h, m150, zo_add, zo_sub, zo_mul, zo_neg, zo_lt, zo_le, zo_eq, zo_nn, zin_ok, zlt_eq, zr0, zr1, zr3, zr4, zr0x, zr1x, zr3x, zr4x, zb_and, zb_0, zmin_o, zmax_o, zabs_o, zo_div, zo_mod, ↓reduceIte, Int.reduceToNat, Int.reduceNeg, Int.reduceAdd, Int.reduceMul, Int.reduceSub, Int.reduceEq, Int.reduceLT, Int.reduceLE, if_true, if_false, Nat.reduceAdd, Nat.reduceMul]
  by_cases c : iab (a (40 + 10 * b + 5)) < 100
  · rw [if_pos c, if_neg (by omega)]
    exact ⟨S, rfl, h, Fm_refl q S⟩
  · rw [if_neg c, if_pos (by omega)]
    by_cases c2 : a (40 + 10 * b + 5) ≤ 0
    · rw [if_pos c2, if_neg (by omega)]
      exact m181_28_1 h hw hb (Or.inr rfl) (by omega)
    · rw [if_neg c2, if_pos (by omega)]
      exact m181_28_1 h hw hb (Or.inl rfl) (by omega)
theorem m149L {v : Int32} : zr_sem zF (d + 1) 149 [zi v, zi (zo 300)] S = some (.inl (some (zi (zo (lim v)))), S) := by
  rw [ze_149]
  have h1 : (zo 300).toInt = 300 := zo_toInt (by omega) (by omega)
  have h2 : (zo (-300)).toInt = -300 := zo_toInt (by omega) (by omega)
  have hv : zo v.toInt = v := Int32.ofInt_toInt v
  rw [zo_neg]
  unfold lim
  simp only [Int32.le_iff_toInt_le, Int32.lt_iff_toInt_lt, h1, h2]
  by_cases c1 : v.toInt ≤ 300
  · by_cases c2 : -300 ≤ v.toInt
    · rw [if_pos c1, if_pos c2, if_neg (by omega), if_neg (by omega), hv]
    · rw [if_pos c1, if_neg c2, if_neg (by omega), if_pos (by omega)]
  · rw [if_neg c1, if_pos (by omega)]
theorem m182 (h : Md S q a) (hw : WF T a) {b : Nat} (hb : (b : Int) < a 9) (hl : a 2 ≠ 0) (h8 : a (40 + 10 * b + 8) + 2 ≤ 2 * a 6) (h9 : a (40 + 10 * b + 9) + 2 ≤ 2 * a 6) : ∃ S', zr_sem zF (d + 7) 182 [za 3 0 0, zi (zo b)] S = some (.inl none, S') ∧ Md S' q (dft a b) ∧ Fm q S S' := by
  rw [ze_182]
  have hwO := hw; obtain ⟨⟨⟨u0, u0x⟩, ⟨u1, u1x⟩, ⟨u2, u2x⟩, ⟨u3, u3x⟩, ⟨u4, u4x⟩, ⟨u5, u5x⟩, ⟨u6, u6x, uT⟩, ⟨u7, u7x⟩, ⟨u8, u8x⟩, ⟨u9, u9x⟩⟩, uD, uP, uB, uS, uI⟩ := hwO
  have gB := uB b hb
  have w1 := WF_b4 hw hb (lim_b (zo (a (40 + 10 * b + 4)) + gro a b 0))
  have w2 := WF_b5 (b := b) w1 (by simp (maxSteps := 10000000) (disch := omega) only [up_ne, up_self]; exact hb) (lim_b (zo (a (40 + 10 * b + 5)) + gro a b 1))
  have hA := Md_set h (40 + 10 * b + 4) (lim (zo (a (40 + 10 * b + 4)) + gro a b 0))
  have hB := Md_set hA (40 + 10 * b + 5) (lim (zo (a (40 + 10 * b + 5)) + gro a b 1))
  have e5 : up a (40 + 10 * b + 4) (lim (zo (a (40 + 10 * b + 4)) + gro a b 0)) (40 + 10 * b + 5) = a (40 + 10 * b + 5) := by simp (maxSteps := 10000000) (disch := omega) only [up_ne, up_self]
  simp (maxSteps := 10000000) (disch := omega) only [m179 h hw hb hl (Or.inl rfl), m179 h hw hb hl (Or.inr rfl), m160_4 h, m149L, m161_4 h, m160_5 hA, e5, m161_5 hA, zr0, zr1]
  have e8 : up (up a (40 + 10 * b + 4) (lim (zo (a (40 + 10 * b + 4)) + gro a b 0))) (40 + 10 * b + 5) (lim (zo (a (40 + 10 * b + 5)) + gro a b 1)) (40 + 10 * b + 8) = a (40 + 10 * b + 8) := by simp (maxSteps := 10000000) (disch := omega) only [up_ne, up_self]
  have e9 : up (up a (40 + 10 * b + 4) (lim (zo (a (40 + 10 * b + 4)) + gro a b 0))) (40 + 10 * b + 5) (lim (zo (a (40 + 10 * b + 5)) + gro a b 1)) (40 + 10 * b + 9) = a (40 + 10 * b + 9) := by simp (maxSteps := 10000000) (disch := omega) only [up_ne, up_self]
  have e6 : up (up a (40 + 10 * b + 4) (lim (zo (a (40 + 10 * b + 4)) + gro a b 0))) (40 + 10 * b + 5) (lim (zo (a (40 + 10 * b + 5)) + gro a b 1)) 6 = a 6 := by simp (maxSteps := 10000000) (disch := omega) only [up_ne, up_self]
  have e99 : up (up a (40 + 10 * b + 4) (lim (zo (a (40 + 10 * b + 4)) + gro a b 0))) (40 + 10 * b + 5) (lim (zo (a (40 + 10 * b + 5)) + gro a b 1)) 9 = a 9 := by simp (maxSteps := 10000000) (disch := omega) only [up_ne, up_self]
  have hF := Fm_row (Fm_row (Fm_refl q S) (40 + 10 * b + 4) (zo (lim (zo (a (40 + 10 * b + 4)) + gro a b 0)))) (40 + 10 * b + 5) (zo (lim (zo (a (40 + 10 * b + 5)) + gro a b 1)))
  unfold dft
  generalize up (up a (40 + 10 * b + 4) (lim (zo (a (40 + 10 * b + 4)) + gro a b 0))) (40 + 10 * b + 5) (lim (zo (a (40 + 10 * b + 5)) + gro a b 1)) = a2 at *
  generalize zs_set (zs_set S 2 q 0 (40 + 10 * b + 4) (zo (lim (zo (a (40 + 10 * b + 4)) + gro a b 0)))) 2 q 0 (40 + 10 * b + 5) (zo (lim (zo (a (40 + 10 * b + 5)) + gro a b 1))) = S2 at *
  obtain ⟨S3, r3, M3, F3⟩ := m181_0 (d := d + 2) hB w2 (b := b) (by omega)
  have k0 := mov_keep (b := b) w2 (by omega) 0 (Or.inl rfl)
  have w3 := WF_mov (b := b) w2 (by omega) 0 (Or.inl rfl) (by omega) (by omega)
  obtain ⟨S4, r4, M4, F4⟩ := m181_1 (d := d + 2) M3 w3 (b := b) (by rw [k0.1 9 (by omega)]; omega)
  rw [r3, zr0, r4, zr0]
  exact ⟨S4, rfl, M4, Fm_trans hF (Fm_trans F3 F4)⟩
theorem m183 (h : Md S q a) {b : Nat} (hb : b < 12) {v : Int} : ∃ S', zr_sem zF (d + 2) 183 [za 3 0 0, zi (zo b), zi (zo v)] S = some (.inl none, S') ∧ Md S' q (enB a b v) ∧ Fm q S S' := by
  rw [ze_183]
  have hA := Md_set h (40 + 10 * b + 6) v
  have e6 : up a (40 + 10 * b + 6) v 6 = a 6 := by simp (maxSteps := 10000000) (disch := omega) only [up_ne, up_self]
  have hB := Md_set hA (40 + 10 * b + 7) (a 6)
  have r6 := hA.2.2 6 (by omega)
  rw [e6] at r6
  have hq := h.2.1
  refine ⟨_, ?_, hB, Fm_row (Fm_row (Fm_refl q S) _ _) _ _⟩
  simp (maxSteps := 10000000) (disch := omega) only [m161_6 h, hA.1, hq, r6, m161_7 hA, zo_add, zo_sub, zo_mul, zo_neg, zo_lt, zo_le, zo_eq, zo_nn, zin_ok, zlt_eq, zr0, zr1, zr3, zr4, zr0x, zr1x, zr3x, zr4x, zb_and, zb_0, zmin_o, zmax_o, zabs_o, zo_div, zo_mod, ↓reduceIte, Int.reduceToNat, Int.reduceNeg, Int.reduceAdd, Int.reduceMul, Int.reduceSub, Int.reduceEq, Int.reduceLT, Int.reduceLE, if_true, if_false, Nat.reduceAdd, Nat.reduceMul]
theorem m184 (h : Md S q a) (hw : WF T a) {b : Nat} (hb : (b : Int) < a 9) (h0 : a (40 + 10 * b + 6) = 0) : ∃ S', zr_sem zF (d + 3) 184 [za 3 0 0, zi (zo b)] S = some (.inl none, S') ∧ Md S' q (sok a b) ∧ Fm q S S' := by
  rw [ze_184]
  have hwO := hw; obtain ⟨⟨⟨u0, u0x⟩, ⟨u1, u1x⟩, ⟨u2, u2x⟩, ⟨u3, u3x⟩, ⟨u4, u4x⟩, ⟨u5, u5x⟩, ⟨u6, u6x, uT⟩, ⟨u7, u7x⟩, ⟨u8, u8x⟩, ⟨u9, u9x⟩⟩, uD, uP, uB, uS, uI⟩ := hwO
  have uN := WF_nc hw
  have gB := uB b hb
  have gS := uS (a (40 + 10 * b)).toNat (by omega)
  have eS := m_ix h (i := 160 + a (40 + 10 * b)) (j := 160 + (a (40 + 10 * b)).toNat) (by omega) (by omega)
  have hq := h.2.1
  have h1 := h.1
  simp (maxSteps := 10000000) (disch := omega) only [m160_0 h, m160_3 h, h1, hq, eS, zo_add, zo_sub, zo_mul, zo_neg, zo_lt, zo_le, zo_eq, zo_nn, zin_ok, zlt_eq, zr0, zr1, zr3, zr4, zr0x, zr1x, zr3x, zr4x, zb_and, zb_0, zmin_o, zmax_o, zabs_o, zo_div, zo_mod, ↓reduceIte, Int.reduceToNat, Int.reduceNeg, Int.reduceAdd, Int.reduceMul, Int.reduceSub, Int.reduceEq, Int.reduceLT, Int.reduceLE, if_true, if_false, Nat.reduceAdd, Nat.reduceMul]
  unfold sok
  generalize hv : a (40 + 10 * b + 3) + 1 + a (160 + (a (40 + 10 * b)).toNat) / 10 = v
  have bv : 1 ≤ v ∧ v ≤ a (40 + 10 * b + 2) + 10 := by have := gB.2.2.2.2.2.2.2.2.2.2 h0; omega
  have hA := Md_set h (40 + 10 * b + 3) v
  have eA : ∀ i, i ≠ 40 + 10 * b + 3 → up a (40 + 10 * b + 3) v i = a i := fun i hi => by simp (maxSteps := 10000000) (disch := omega) only [up_ne, up_self]
  have es : up a (40 + 10 * b + 3) v (40 + 10 * b + 3) = v := by simp (maxSteps := 10000000) (disch := omega) only [up_ne, up_self]
  have r3 := m160_3 (d := d + 1) hA (b := b) (by omega)
  have r2 := m160_2 (d := d + 1) hA (b := b) (by omega)
  have r1 := m160_1 (d := d + 1) hA (b := b) (by omega)
  rw [es] at r3
  rw [eA _ (by omega)] at r2 r1
  have hFA := Fm_row (Fm_refl q S) (40 + 10 * b + 3) (zo v)
  simp (maxSteps := 10000000) (disch := omega) only [m161_3 h, r3, r2, zo_add, zo_sub, zo_mul, zo_neg, zo_lt, zo_le, zo_eq, zo_nn, zin_ok, zlt_eq, zr0, zr1, zr3, zr4, zr0x, zr1x, zr3x, zr4x, zb_and, zb_0, zmin_o, zmax_o, zabs_o, zo_div, zo_mod, ↓reduceIte, Int.reduceToNat, Int.reduceNeg, Int.reduceAdd, Int.reduceMul, Int.reduceSub, Int.reduceEq, Int.reduceLT, Int.reduceLE, if_true, if_false, Nat.reduceAdd, Nat.reduceMul]
  by_cases c1 : a (40 + 10 * b + 2) < v
  · rw [if_pos c1, if_neg (show ¬ v ≤ a (40 + 10 * b + 2) by omega)]
    obtain ⟨S2, e2, M2, F2⟩ := m183 (d := d) hA (b := b) (v := 1) (by omega)
    rw [e2, zr0]
    exact ⟨S2, rfl, M2, Fm_trans hFA F2⟩
  · rw [if_neg c1, if_pos (show v ≤ a (40 + 10 * b + 2) by omega)]
    have wA := WF_b3 (v := v) hw hb ⟨by omega, fun _ => by omega⟩
    have o1 := drIn_ge a (a (40 + 10 * b))
    have o2 := drIn_lt (a := a) (a (40 + 10 * b)) (by omega)
    have ed : drIn (up a (40 + 10 * b + 3) v) (a (40 + 10 * b)) = drIn a (a (40 + 10 * b)) := by
      unfold drIn
      rw [eA 7 (by omega)]
      refine zfst_congr _ _ (fun i _ hi => ?_)
      rw [eA _ (by omega)]
    have m8 := m168 (d := d) hA wA (c := a (40 + 10 * b)) (by omega) (by omega)
    rw [ed] at m8
    simp (maxSteps := 10000000) (disch := omega) only [m8, zo_add, zo_sub, zo_mul, zo_neg, zo_lt, zo_le, zo_eq, zo_nn, zin_ok, zlt_eq, zr0, zr1, zr3, zr4, zr0x, zr1x, zr3x, zr4x, zb_and, zb_0, zmin_o, zmax_o, zabs_o, zo_div, zo_mod, ↓reduceIte, Int.reduceToNat, Int.reduceNeg, Int.reduceAdd, Int.reduceMul, Int.reduceSub, Int.reduceEq, Int.reduceLT, Int.reduceLE, if_true, if_false, Nat.reduceAdd, Nat.reduceMul]
    unfold wdr
    by_cases c2 : drIn a (a (40 + 10 * b)) = -1
    · rw [if_pos c2, if_pos c2]
      exact ⟨_, rfl, hA, hFA⟩
    · rw [if_neg c2, if_neg c2]
      obtain ⟨j, hj⟩ : ∃ j : Nat, drIn a (a (40 + 10 * b)) = j := ⟨(drIn a (a (40 + 10 * b))).toNat, by omega⟩
      rw [hj] at o2 ⊢
      rw [Int.toNat_natCast]
      have gJ := uD j o2
      have p2 := m162_2 (d := d + 1) hA (b := j) (by omega)
      have p1 := m162_1 (d := d + 1) hA (b := j) (by omega)
      rw [eA _ (by omega)] at p2 p1
      simp (maxSteps := 10000000) (disch := omega) only [p2, p1, r1, zo_add, zo_sub, zo_mul, zo_neg, zo_lt, zo_le, zo_eq, zo_nn, zin_ok, zlt_eq, zr0, zr1, zr3, zr4, zr0x, zr1x, zr3x, zr4x, zb_and, zb_0, zmin_o, zmax_o, zabs_o, zo_div, zo_mod, ↓reduceIte, Int.reduceToNat, Int.reduceNeg, Int.reduceAdd, Int.reduceMul, Int.reduceSub, Int.reduceEq, Int.reduceLT, Int.reduceLE, if_true, if_false, Nat.reduceAdd, Nat.reduceMul]
      by_cases c3 : a (10 + 4 * j + 2) ≤ 0
      · rw [if_pos c3, if_pos c3]
        exact ⟨_, rfl, hA, hFA⟩
      · rw [if_neg c3, if_neg c3]
        by_cases c4 : a (40 + 10 * b + 1) ≤ a (10 + 4 * j + 1)
        · rw [if_neg (show ¬ a (10 + 4 * j + 1) < a (40 + 10 * b + 1) by omega), if_pos (decide_eq_true c4)]
          obtain ⟨S2, e2, M2, F2⟩ := m183 (d := d) hA (b := b) (v := 2) (by omega)
          rw [e2, zr0]
          have ix : ((10 : Int) + 4 * j + 3).toNat = 10 + 4 * j + 3 := by omega
          have e3 := M2.2.2 (10 + 4 * j + 3) (by omega)
          rw [enB_at _ _ _ _ (by omega) (by omega), eA _ (by omega)] at e3
          refine ⟨_, ?_, Md_set M2 (10 + 4 * j + 3) (a (10 + 4 * j + 3) + 1), Fm_row (Fm_trans hFA F2) _ _⟩
          have q1 := M2.1
          simp (maxSteps := 10000000) (disch := omega) only [q1, hq, ix, e3, zo_add, zo_sub, zo_mul, zo_neg, zo_lt, zo_le, zo_eq, zo_nn, zin_ok, zlt_eq, zr0, zr1, zr3, zr4, zr0x, zr1x, zr3x, zr4x, zb_and, zb_0, zmin_o, zmax_o, zabs_o, zo_div, zo_mod, ↓reduceIte, Int.reduceToNat, Int.reduceNeg, Int.reduceAdd, Int.reduceMul, Int.reduceSub, Int.reduceEq, Int.reduceLT, Int.reduceLE, if_true, if_false, Nat.reduceAdd, Nat.reduceMul]
        · rw [if_pos (show a (10 + 4 * j + 1) < a (40 + 10 * b + 1) by omega), if_neg (by simp [c4])]
          exact ⟨_, rfl, hA, hFA⟩
theorem m185 (h : Md S q a) (hw : WF T a) {x y : Int} (g1 : -2147483648 ≤ x) (g2 : x < 2147483648) (g3 : -2147483648 ≤ y) (g4 : y < 2147483648) : zr_sem zF (d + 4) 185 [za 3 0 0, zi (zo x), zi (zo y)] S = some (.inl (some (zi (zo (spF a x y)))), S) := by
  rw [ze_185]
  have b := spIn_rng hw x y
  simp (maxSteps := 10000000) (disch := omega) only [m175 h hw g1 g2 g3 g4, zo_add, zo_sub, zo_mul, zo_neg, zo_lt, zo_le, zo_eq, zo_nn, zin_ok, zlt_eq, zr0, zr1, zr3, zr4, zr0x, zr1x, zr3x, zr4x, zb_and, zb_0, zmin_o, zmax_o, zabs_o, zo_div, zo_mod, ↓reduceIte, Int.reduceToNat, Int.reduceNeg, Int.reduceAdd, Int.reduceMul, Int.reduceSub, Int.reduceEq, Int.reduceLT, Int.reduceLE, if_true, if_false, Nat.reduceAdd, Nat.reduceMul]
  unfold spF
  by_cases c : 4 ≤ spIn a x y
  · rw [if_pos c, if_neg (by omega)]
  · rw [if_neg c, if_pos (by omega)]
end MD

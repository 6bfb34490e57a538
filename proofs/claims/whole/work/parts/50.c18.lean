/-! THE PURE SIDE 18: undo and snapshot -/
theorem zs_self {S : zS} {k n o j : Nat} {v : Int32} : (zs_set S k n o j v).1 k n o j = v := by
  rw [zs_at, if_pos ⟨rfl, rfl, rfl, rfl⟩]
theorem zs_oth {S : zS} {k n o j k' n' o' j' : Nat} {v : Int32} (h : ¬(k' = k ∧ n' = n ∧ o' = o ∧ j' = j)) : (zs_set S k n o j v).1 k' n' o' j' = S.1 k' n' o' j' := by
  rw [zs_at, if_neg h]
def UdM (S : zS) (k : Nat) (u : Nat → Rw) : Prop := S.1 3 0 0 9 = zo k ∧ k ≤ 10 ∧ ∀ i j, i < k → j < 260 → S.1 3 0 1 (260 * i + j) = zo (u i j)
def UdC (S : zS) (k : Nat) (u : Nat → Rw) : Prop := ∃ x : Nat, x < 10 ∧ S.1 1 0 1 1 = zo x ∧ S.1 1 0 1 2 = zo k ∧ ∀ i, i < k → Cb (S.1 0 (4 + (x + 10 - k + i) % 10)) (u i)
def recK (k : Nat) : Nat := if k = 10 then 10 else k + 1
def recU (k : Nat) (u : Nat → Rw) (a : Rw) : Nat → Rw := fun i => if k = 10 then (if i < 9 then u (i + 1) else a) else if i = k then a else u i
/-- frames: the model's history; the class's history -/
def FrM (S S' : zS) : Prop := S'.2 = S.2 ∧ ∀ k n o j, ¬(k = 3 ∧ n = 0 ∧ (o = 1 ∨ (o = 0 ∧ j = 9))) → S'.1 k n o j = S.1 k n o j
def FrC (S S' : zS) : Prop := S'.2 = S.2 ∧ ∀ k n o j, ¬(k = 0 ∧ 4 ≤ n ∧ n < 14) → ¬(k = 1 ∧ n = 0 ∧ ((o = 1 ∧ (j = 1 ∨ j = 2)) ∨ (o = 4 ∧ j ≠ 0) ∨ o = 6 ∨ o = 8 ∨ o = 11 ∨ o = 13)) → S'.1 k n o j = S.1 k n o j
section CJ
variable {S : zS} {n d k : Nat} {a : Rw} {T : Int} {u : Nat → Rw}
theorem m249_l : ∀ (m l f : Nat) (S : zS), l + m = 10 → 1 ≤ l → m < f → Md S 0 a → S.1 3 0 0 9 = zo 10 → (∀ i j, i + 1 < l → j < 260 → S.1 3 0 1 (260 * i + j) = zo (u (i + 1) j)) → (∀ i j, l ≤ i + 1 → i < 10 → j < 260 → S.1 3 0 1 (260 * i + j) = zo (u i j)) → ∃ S', zy zF (d + 1) 249 f 11 [some (za 3 0 0), some (zi (zo l))] S = some (.inl none, S') ∧ UdM S' 10 (recU 10 u a) ∧ FrM S S' := by
  intro m
  induction m with
  | zero =>
    intro l f S hl h1 hf h h9 hlo hhi
    obtain ⟨f, rfl⟩ : ∃ f', f = f' + 1 := ⟨f - 1, by omega⟩
    obtain ⟨S1, e1, q1, q2, q3⟩ := m248nh (S := zs_set S 3 0 0 9 (zo 9)) (d := d) (r1 := 0) (r2 := 9) rfl (by omega)
    have r9 : S1.1 3 0 0 9 = zo 9 := by rw [q2 _ _ _ _ (by omega), zs_self]
    refine ⟨zs_set S1 3 0 0 9 (zo 10), ?_, ⟨zs_self, by omega, fun i j hi hj => ?_⟩, q3, fun k n o j hk => ?_⟩
    · rw [ze_249_11]
      simp only [zs_self]
      have e0 : zr_sem zF (d + 1) 248 [za 2 0 0, zi (zo 0), za 3 0 1, zi (zo 9)] (zs_set S 3 0 0 9 (zo 9)) = some (.inl none, S1) := e1
      simp (maxSteps := 10000000) (disch := omega) only [h9, zs_self, e0, r9, zo_add, zo_sub, zo_mul, zo_neg, zo_lt, zo_le, zo_eq, zo_nn, zin_ok, zlt_eq, zr0, zr1, zr3, zr4, zr0x, zr1x, zr3x, zr4x, zb_and, zb_0, zmin_o, zmax_o, zabs_o, zo_div, zo_mod, ↓reduceIte, Int.reduceToNat, Int.reduceNeg, Int.reduceAdd, Int.reduceMul, Int.reduceSub, Int.reduceEq, Int.reduceLT, Int.reduceLE, if_true, if_false, Nat.reduceAdd, Nat.reduceMul]
      rw [if_pos (by omega)]
    · rw [zs_oth (by omega)]
      unfold recU
      rw [if_pos rfl]
      by_cases c : i < 9
      · rw [if_pos c, q2 _ _ _ _ (by omega), zs_oth (by omega)]
        exact hlo i j (by omega) hj
      · rw [if_neg c, show i = 9 by omega, q1 j hj, zs_oth (by omega), Nat.mul_zero, Nat.zero_add]
        exact h.2.2 j hj
    · rw [zs_oth (by omega), q2 _ _ _ _ (by omega), zs_oth (by omega)]
  | succ m ih =>
    intro l f S hl h1 hf h h9 hlo hhi
    obtain ⟨f, rfl⟩ : ∃ f', f = f' + 1 := ⟨f - 1, by omega⟩
    obtain ⟨S1, e1, q1, q2, q3⟩ := m248hh (S := S) (d := d) (r1 := l) (r2 := l - 1) (by omega) (by omega) (by omega)
    have h1m : Md S1 0 a := ⟨by rw [q2 _ _ _ _ (by omega)]; exact h.1, h.2.1, fun j hj => by rw [q2 _ _ _ _ (by omega)]; exact h.2.2 j hj⟩
    obtain ⟨S2, e2, g1, g2⟩ := ih (l + 1) f S1 (by omega) (by omega) (by omega) h1m (by rw [q2 _ _ _ _ (by omega)]; exact h9) (fun i j hi hj => by
      by_cases c : i + 1 = l
      · have := q1 j hj
        rw [show i = l - 1 by omega, this, show l - 1 + 1 = l by omega]
        exact hhi l j (by omega) (by omega) hj
      · rw [q2 _ _ _ _ (by omega)]; exact hlo i j (by omega) hj) (fun i j hi hi2 hj => by rw [q2 _ _ _ _ (by omega)]; exact hhi i j (by omega) hi2 hj)
    refine ⟨S2, ?_, g1, g2.1.trans q3, fun k n o j hk => (g2.2 k n o j hk).trans (q2 k n o j (by omega))⟩
    rw [ze_249_11]
    have e0 : zr_sem zF (d + 1) 248 [za 3 0 1, zi (zo l), za 3 0 1, zi (zo ((l : Int) - 1))] S = some (.inl none, S1) := by rw [show (l : Int) - 1 = ((l - 1 : Nat) : Int) by omega]; exact e1
    simp (maxSteps := 10000000) (disch := omega) only [e0, zo_add, zo_sub, zo_mul, zo_neg, zo_lt, zo_le, zo_eq, zo_nn, zin_ok, zlt_eq, zr0, zr1, zr3, zr4, zr0x, zr1x, zr3x, zr4x, zb_and, zb_0, zmin_o, zmax_o, zabs_o, zo_div, zo_mod, ↓reduceIte, Int.reduceToNat, Int.reduceNeg, Int.reduceAdd, Int.reduceMul, Int.reduceSub, Int.reduceEq, Int.reduceLT, Int.reduceLE, if_true, if_false, Nat.reduceAdd, Nat.reduceMul]
    rw [if_neg (by omega)]
    exact e2
theorem m249 (h : Md S 0 a) (hu : UdM S k u) : ∃ S', zr_sem zF (d + 2) 249 [za 3 0 0] S = some (.inl none, S') ∧ UdM S' (recK k) (recU k u a) ∧ FrM S S' := by
  obtain ⟨h9, hk, hr⟩ := hu
  have hb := zF1_big
  rw [ze_249]
  by_cases c : k = 10
  · subst c
    obtain ⟨S2, e2, g1, g2⟩ := m249_l (d := d) (u := u) 9 1 zF1 S (by omega) (by omega) (by omega) h h9 (fun i j hi hj => by omega) (fun i j hi hi2 hj => hr i j hi2 hj)
    refine ⟨S2, ?_, g1, g2⟩
    rw [h9, if_pos (show zo ((10 : Nat) : Int) = zo 10 from rfl)]
    exact e2
  · obtain ⟨S1, e1, q1, q2, q3⟩ := m248nh (S := S) (d := d) (r1 := 0) (r2 := k) rfl (by omega)
    have r9 : S1.1 3 0 0 9 = zo k := by rw [q2 _ _ _ _ (by omega)]; exact h9
    unfold recK recU
    refine ⟨zs_set S1 3 0 0 9 (zo (k + 1)), ?_, ⟨?_, ?_, fun i j hi hj => ?_⟩, q3, fun k n o j hk => ?_⟩
    · have e0 : zr_sem zF (d + 1) 248 [za 2 0 0, zi (zo 0), za 3 0 1, zi (zo k)] S = some (.inl none, S1) := e1
      simp (maxSteps := 10000000) (disch := omega) only [h9, e0, r9, zo_add, zo_sub, zo_mul, zo_neg, zo_lt, zo_le, zo_eq, zo_nn, zin_ok, zlt_eq, zr0, zr1, zr3, zr4, zr0x, zr1x, zr3x, zr4x, zb_and, zb_0, zmin_o, zmax_o, zabs_o, zo_div, zo_mod, ↓reduceIte, Int.reduceToNat, Int.reduceNeg, Int.reduceAdd, Int.reduceMul, Int.reduceSub, Int.reduceEq, Int.reduceLT, Int.reduceLE, if_true, if_false, Nat.reduceAdd, Nat.reduceMul]
      rw [if_neg (by omega)]
    · rw [zs_self, if_neg c]; rfl
    · rw [if_neg c]; omega
    · rw [if_neg c] at hi
      rw [zs_oth (by omega)]
      simp only [if_neg c]
      by_cases e : i = k
      · rw [if_pos e, e, q1 j hj, Nat.mul_zero, Nat.zero_add]; exact h.2.2 j hj
      · rw [if_neg e, q2 _ _ _ _ (by omega)]; exact hr i j (by omega) hj
    · rw [zs_oth (by omega), q2 _ _ _ _ (by omega)]
theorem c43 (h : Cb (S.1 0 0) a) (hw : WF T a) (hu : UdC S k u) (hk : k ≤ 10) (hF : ∀ n, n < 14 → CbF (S.1 0 n)) : ∃ S', zr_sem zF (d + 3) 43 [za 1 0 1, za 0 0 0] S = some (.inl none, S') ∧ UdC S' (recK k) (recU k u a) ∧ (∀ n, n < 14 → CbF (S'.1 0 n)) ∧ FrC S S' := by
  obtain ⟨x, hx, h1, h2, hr⟩ := hu
  obtain ⟨S1, e1, q1, q2⟩ := c1 (S := S) (n := 4 + x) (p := 0) (d := d) (by omega)
  have r42 : zr_sem zF (d + 2) 42 [za 1 0 1, zi (S.1 1 0 1 1)] S = some (.inl (some (za 0 (4 + x) 0)), S) := by rw [h1]; exact c42 hx
  have hN := q1 a T h hw (hF _ (by omega))
  have f1 : S1.1 1 0 1 1 = zo x := by rw [q2.2 _ _ _ _ (by omega) (by omega)]; exact h1
  have f2 : S1.1 1 0 1 2 = zo k := by rw [q2.2 _ _ _ _ (by omega) (by omega)]; exact h2
  have ob : ∀ p, p ≠ 4 + x → S1.1 0 p = S.1 0 p := fun p hp => by funext o j; exact q2.2 0 p o j (by omega) (by omega)
  have emin : (if 10 < (k : Int) + 1 then 10 else (k : Int) + 1) = (recK k : Nat) := by unfold recK; split <;> split <;> omega
  refine ⟨zs_set (zs_set S1 1 0 1 1 (zo (((x : Int) + 1) % 10))) 1 0 1 2 (zo (recK k)), ?_, ?_, fun n hn => ?_, q2.1, fun k n o j hk1 hk2 => ?_⟩
  · rw [ze_43 r42, e1, zr0]
    have z2 : ∀ v : Int32, (zs_set S1 1 0 1 1 v).1 1 0 1 2 = zo k := fun v => by rw [zs_oth (by omega)]; exact f2
    simp (maxSteps := 10000000) (disch := omega) only [f1, z2, emin, zo_add, zo_sub, zo_mul, zo_neg, zo_lt, zo_le, zo_eq, zo_nn, zin_ok, zlt_eq, zr0, zr1, zr3, zr4, zr0x, zr1x, zr3x, zr4x, zb_and, zb_0, zmin_o, zmax_o, zabs_o, zo_div, zo_mod, ↓reduceIte, Int.reduceToNat, Int.reduceNeg, Int.reduceAdd, Int.reduceMul, Int.reduceSub, Int.reduceEq, Int.reduceLT, Int.reduceLE, if_true, if_false, Nat.reduceAdd, Nat.reduceMul]
    rw [zmod_e]
  · have bb : ∀ p, (zs_set (zs_set S1 1 0 1 1 (zo (((x : Int) + 1) % 10))) 1 0 1 2 (zo (recK k))).1 0 p = S1.1 0 p := fun p => by
      funext o j; rw [zs_oth (by omega), zs_oth (by omega)]
    refine ⟨(x + 1) % 10, by omega, by rw [zs_oth (by omega), zs_self]; rfl, zs_self, fun i hi => ?_⟩
    rw [bb]
    unfold recK at hi ⊢
    unfold recU
    by_cases c : k = 10
    · rw [if_pos c] at hi ⊢
      simp only [if_pos c]
      by_cases c2 : i < 9
      · rw [if_pos c2, ob _ (by omega), show ((x + 1) % 10 + 10 - 10 + i) % 10 = (x + 10 - k + (i + 1)) % 10 by omega]
        exact hr (i + 1) (by omega)
      · rw [if_neg c2, show 4 + ((x + 1) % 10 + 10 - 10 + i) % 10 = 4 + x by omega]; exact hN
    · rw [if_neg c] at hi ⊢
      simp only [if_neg c]
      by_cases c2 : i = k
      · rw [if_pos c2, show 4 + ((x + 1) % 10 + 10 - (k + 1) + i) % 10 = 4 + x by omega]; exact hN
      · rw [if_neg c2, ob _ (by omega), show ((x + 1) % 10 + 10 - (k + 1) + i) % 10 = (x + 10 - k + i) % 10 by omega]
        exact hr i (by omega)
  · have bb : (zs_set (zs_set S1 1 0 1 1 (zo (((x : Int) + 1) % 10))) 1 0 1 2 (zo (recK k))).1 0 n = S1.1 0 n := by
      funext o j; rw [zs_oth (by omega), zs_oth (by omega)]
    rw [bb]
    by_cases e : n = 4 + x
    · rw [e]; exact hN.1
    · rw [ob n e]; exact hF n hn
  · rw [zs_oth (by omega), zs_oth (by omega), q2.2 _ _ _ _ (by omega) (by omega)]
end CJ

/-! THE PURE SIDE 18: undo and snapshot -/
theorem zs_self {S : zS} {k n o j : Nat} {v : Int32} : (zs_set S k n o j v).1 k n o j = v := by
  rw [zs_at, if_pos ⟨rfl, rfl, rfl, rfl⟩]
theorem zs_oth {S : zS} {k n o j k' n' o' j' : Nat} {v : Int32} (h : ¬(k' = k ∧ n' = n ∧ o' = o ∧ j' = j)) : (zs_set S k n o j v).1 k' n' o' j' = S.1 k' n' o' j' := by
  rw [zs_at, if_neg h]
def UdC (S : zS) (k : Nat) (u : Nat → Rw) : Prop := ∃ x : Nat, x < 10 ∧ S.1 1 0 1 1 = zo x ∧ S.1 1 0 1 2 = zo k ∧ ∀ i, i < k → Cb (S.1 0 (4 + (x + 10 - k + i) % 10)) (u i)
def recK (k : Nat) : Nat := if k = 10 then 10 else k + 1
def recU (k : Nat) (u : Nat → Rw) (a : Rw) : Nat → Rw := fun i => if k = 10 then (if i < 9 then u (i + 1) else a) else if i = k then a else u i
def FrC (S S' : zS) : Prop := S'.2 = S.2 ∧ ∀ k n o j, ¬(k = 0 ∧ 4 ≤ n ∧ n < 14) → ¬(k = 1 ∧ n = 0 ∧ ((o = 1 ∧ (j = 1 ∨ j = 2)) ∨ (o = 4 ∧ j ≠ 0) ∨ o = 6 ∨ o = 8 ∨ o = 11 ∨ o = 13)) → S'.1 k n o j = S.1 k n o j
section CJ
variable {S : zS} {n d k : Nat} {a : Rw} {T : Int} {u : Nat → Rw}
theorem c43 (h : Cb (S.1 0 0) a) (hw : WF T a) (hu : UdC S k u) (hk : k ≤ 10) (hF : ∀ n, n < 14 → CbF (S.1 0 n)) : ∃ S', zr_sem zF (d + 3) 43 [za 1 0 1, za 0 0 0] S = some (.inl none, S') ∧ UdC S' (recK k) (recU k u a) ∧ (∀ n, n < 14 → CbF (S'.1 0 n)) ∧ FrC S S' := by
  obtain ⟨x, hx, h1, h2, hr⟩ := hu
  obtain ⟨S1, e1, q1, q2⟩ := c1 (S := S) (n := 4 + x) (p := 0) (d := d) (by omega)
  have r42 : zr_sem zF (d + 2) 42 [za 1 0 1, zi (S.1 1 0 1 1)] S = some (.inl (some (za 0 (4 + x) 0)), S) := by rw [h1]; exact c42 hx
  have hN := q1 a T h hw (hF _ (by omega))
  have f1 : S1.1 1 0 1 1 = zo x := by rw [q2.2 _ _ _ _ (by omega) (by omega)]; exact h1
  have f2 : S1.1 1 0 1 2 = zo k := by rw [q2.2 _ _ _ _ (by omega) (by omega)]; exact h2
  have ob : ∀ p, p ≠ 4 + x → S1.1 0 p = S.1 0 p := fun p hp => by funext o j; exact q2.2 0 p o j (by omega) (by omega)
  have emin : (if 10 < (k : Int) + 1 then 10 else (k : Int) + 1) = (recK k : Nat) := by unfold recK; split <;> split <;> omega
  refine ⟨zs_set (zs_set S1 1 0 1 1 (zo (((x : Int) + 1) % 10))) 1 0 1 2 (zo (recK k)), ?_, ?_, fun n hn => ?_, q2.1, fun k n o j hk1 hk2 => ?_⟩
  · rw [ze_43 r42, e1, zr0]
    have z2 : ∀ v : Int32, (zs_set S1 1 0 1 1 v).1 1 0 1 2 = zo k := fun v => by rw [zs_oth (by omega)]; exact f2
    simp (maxSteps := 10000000) (disch := omega) only [f1, z2, emin, zo_add, zo_sub, zo_mul, zo_neg, zo_lt, zo_le, zo_eq, zo_nn, zin_ok, zlt_eq, zr0, zr1, zr3, zr4, zr0x, zr1x, zr3x, zr4x, zb_and, zb_0, zmin_o, zmax_o, zabs_o, zo_div, zo_mod, ↓reduceIte, Int.reduceToNat, Int.reduceNeg, Int.reduceAdd, Int.reduceMul, Int.reduceSub, Int.reduceEq, Int.reduceLT, Int.reduceLE, if_true, if_false, Nat.reduceAdd, Nat.reduceMul]
    rw [zmod_e]
  · have bb : ∀ p, (zs_set (zs_set S1 1 0 1 1 (zo (((x : Int) + 1) % 10))) 1 0 1 2 (zo (recK k))).1 0 p = S1.1 0 p := fun p => by
      funext o j; rw [zs_oth (by omega), zs_oth (by omega)]
    refine ⟨(x + 1) % 10, by omega, by rw [zs_oth (by omega), zs_self]; rfl, zs_self, fun i hi => ?_⟩
    rw [bb]
    unfold recK at hi ⊢
    unfold recU
    by_cases c : k = 10
    · rw [if_pos c] at hi ⊢
      simp only [if_pos c]
      by_cases c2 : i < 9
      · rw [if_pos c2, ob _ (by omega), show ((x + 1) % 10 + 10 - 10 + i) % 10 = (x + 10 - k + (i + 1)) % 10 by omega]
        exact hr (i + 1) (by omega)
      · rw [if_neg c2, show 4 + ((x + 1) % 10 + 10 - 10 + i) % 10 = 4 + x by omega]; exact hN
    · rw [if_neg c] at hi ⊢
      simp only [if_neg c]
      by_cases c2 : i = k
      · rw [if_pos c2, show 4 + ((x + 1) % 10 + 10 - (k + 1) + i) % 10 = 4 + x by omega]; exact hN
      · rw [if_neg c2, ob _ (by omega), show ((x + 1) % 10 + 10 - (k + 1) + i) % 10 = (x + 10 - k + i) % 10 by omega]
        exact hr i (by omega)
  · have bb : (zs_set (zs_set S1 1 0 1 1 (zo (((x : Int) + 1) % 10))) 1 0 1 2 (zo (recK k))).1 0 n = S1.1 0 n := by
      funext o j; rw [zs_oth (by omega), zs_oth (by omega)]
    rw [bb]
    by_cases e : n = 4 + x
    · rw [e]; exact hN.1
    · rw [ob n e]; exact hF n hn
  · rw [zs_oth (by omega), zs_oth (by omega), q2.2 _ _ _ _ (by omega) (by omega)]
end CJ

/-! THE PURE SIDE 37: undo, snapshots, the formatted bytes, the place of the error -/
def FrP (S S' : zS) : Prop := ∀ k n o j, ¬(k = 0 ∧ (n = 0 ∨ (4 ≤ n ∧ n < 14))) → ¬(k = 1 ∧ n = 0 ∧ ((o = 1 ∧ (j = 1 ∨ j = 2)) ∨ (o = 4 ∧ j ≠ 0) ∨ o = 6 ∨ o = 8 ∨ o = 11 ∨ o = 13)) → S'.1 k n o j = S.1 k n o j
section DB
variable {S : zS} {d k : Nat} {a s : Rw} {T p : Int} {u : Nat → Rw}
theorem A134 (H : HC S k u a) : zr_sem zF (d + 1) 134 [za 1 0 0] S = some (.inl (some (zi (zo k))), S) := by
  obtain ⟨x, x1, x2, x3, x4⟩ := H.2.1
  rw [ze_134, x3]
theorem c44 (H : HC S k u a) (hw : WF T (u (k - 1))) : ∃ S', zr_sem zF (d + 3) 44 [za 1 0 1, za 0 0 0] S = some (.inl (some (zi (zo (if k = 0 then 0 else 1)))), S') ∧ HC S' (k - 1) u (if k = 0 then a else u (k - 1)) ∧ FrP S S' := by
  have HO := H
  obtain ⟨h, hu, hk, hF⟩ := H
  obtain ⟨x, hx, h1, h2, hr⟩ := hu
  have ex : (S.1 1 0 1 1 + zo 10 - zo 1) - (S.1 1 0 1 1 + zo 10 - zo 1) / zo 10 * zo 10 = zo ((x + 9) % 10 : Nat) := by
    rw [h1, zo_add, zo_sub, zo_mod (by omega) (by omega) (by omega) (by omega)]
    congr 1
    omega
  have r42 : zr_sem zF (d + 2) 42 [za 1 0 1, zi ((S.1 1 0 1 1 + zo 10 - zo 1) - (S.1 1 0 1 1 + zo 10 - zo 1) / zo 10 * zo 10)] S = some (.inl (some (za 0 (4 + (x + 9) % 10) 0)), S) := by rw [ex]; exact c42 (by omega)
  rw [ze_44 r42, ex]
  by_cases c : k = 0
  · subst c
    refine ⟨S, ?_, HO, fun _ _ _ _ _ _ => rfl⟩
    rw [if_pos (show S.1 1 0 1 2 = zo 0 from h2), if_pos rfl]
  · obtain ⟨S1, e1, q1, q2⟩ := c1 (S := S) (n := 0) (p := 4 + (x + 9) % 10) (d := d) (by omega)
    have hl := hr (k - 1) (by omega)
    rw [show (x + 10 - k + (k - 1)) % 10 = (x + 9) % 10 by omega] at hl
    have hN := q1 _ T hl hw (hF 0 (by omega))
    have f2 : S1.1 1 0 1 2 = zo k := by rw [q2.2 _ _ _ _ (by omega) (by omega)]; exact h2
    have ob : ∀ p, p ≠ 0 → S1.1 0 p = S.1 0 p := fun p hp => by funext o j; exact q2.2 0 p o j (by omega) (by omega)
    have bb : ∀ v w : Int32, ∀ p, (zs_set (zs_set S1 1 0 1 1 v) 1 0 1 2 w).1 0 p = S1.1 0 p := fun v w p => by
      funext o j; rw [zs_oth (by omega), zs_oth (by omega)]
    refine ⟨zs_set (zs_set S1 1 0 1 1 (zo ((x + 9) % 10 : Nat))) 1 0 1 2 (zo ((k - 1 : Nat) : Int)), ?_, ⟨?_, ⟨(x + 9) % 10, by omega, by rw [zs_oth (by omega), zs_self], zs_self, fun i hi => ?_⟩, by omega, fun n hn => ?_⟩, fun k n o j a b => ?_⟩
    · rw [if_neg (show ¬ S.1 1 0 1 2 = zo 0 by rw [h2, zo_eq (by omega) (by omega) (by omega) (by omega)]; omega), e1, zr0, if_neg c, zs_oth (by omega), f2, zo_sub, show (k : Int) - 1 = ((k - 1 : Nat) : Int) by omega]
    · rw [bb, if_neg c]; exact hN
    · rw [bb, ob _ (by omega), show ((x + 9) % 10 + 10 - (k - 1) + i) % 10 = (x + 10 - k + i) % 10 by omega]
      exact hr i (by omega)
    · rw [bb]
      by_cases e : n = 0
      · rw [e]; exact hN.1
      · rw [ob n e]; exact hF n hn
    · rw [zs_oth (by omega), zs_oth (by omega)]
      exact q2.2 k n o j (by omega) (by omega)
theorem A135 (H : HC S k u a) (hw : WF T (u (k - 1))) : ∃ S', zr_sem zF (d + 4) 135 [za 1 0 0] S = some (.inl (some (zi (zo (if k = 0 then -1 else (k : Int) - 1)))), S') ∧ HC S' (k - 1) u (if k = 0 then a else u (k - 1)) ∧ FrP S S' := by
  obtain ⟨S1, e1, q1, q2⟩ := c44 (d := d) H hw
  refine ⟨S1, ?_, q1, q2⟩
  rw [ze_135, e1, zr1]
  by_cases c : k = 0
  · rw [if_pos c, if_pos c, if_pos rfl]
  · obtain ⟨x, x1, x2, x3, x4⟩ := q1.2.1
    rw [if_neg c, if_neg c, if_neg (by decide), x3, show (k : Int) - 1 = ((k - 1 : Nat) : Int) by omega]
theorem A136 (H : HC S k u a) (hw : WF T a) : ∃ S', zr_sem zF (d + 3) 136 [za 1 0 0] S = some (.inl none, S') ∧ HC S' k u a ∧ Cb (S'.1 0 2) a ∧ S'.1 1 0 0 12 = zo 1 ∧ (∀ k n o j, ¬(k = 0 ∧ n = 2) → ¬(k = 1 ∧ n = 0 ∧ ((o = 0 ∧ j = 12) ∨ (o = 4 ∧ j ≠ 0) ∨ o = 6 ∨ o = 8 ∨ o = 11 ∨ o = 13)) → S'.1 k n o j = S.1 k n o j) := by
  obtain ⟨S1, e1, q1, q2⟩ := c1 (S := S) (n := 2) (p := 0) (d := d) (by omega)
  have hN := q1 a T H.1 hw (H.2.2.2 2 (by omega))
  have ob : ∀ p, p ≠ 2 → (zs_set S1 1 0 0 12 (zo 1)).1 0 p = S.1 0 p := fun p hp => by funext o j; rw [zs_oth (by omega)]; exact q2.2 0 p o j (by omega) (by omega)
  have o2 : (zs_set S1 1 0 0 12 (zo 1)).1 0 2 = S1.1 0 2 := by funext o j; rw [zs_oth (by omega)]
  refine ⟨zs_set S1 1 0 0 12 (zo 1), ?_, ⟨by rw [ob 0 (by omega)]; exact H.1, ?_, H.2.2.1, fun n hn => ?_⟩, by rw [o2]; exact hN, zs_self, fun k n o j a b => ?_⟩
  · rw [ze_136, e1, zr0]
  · obtain ⟨x, x1, x2, x3, x4⟩ := H.2.1
    refine ⟨x, x1, ?_, ?_, fun i hi => ?_⟩
    · rw [zs_oth (by omega), q2.2 _ _ _ _ (by omega) (by omega)]; exact x2
    · rw [zs_oth (by omega), q2.2 _ _ _ _ (by omega) (by omega)]; exact x3
    · rw [ob _ (by omega)]; exact x4 i hi
  · by_cases e : n = 2
    · rw [e, o2]; exact hN.1
    · rw [ob n e]; exact H.2.2.2 n hn
  · rw [zs_oth (by omega)]; exact q2.2 k n o j (by omega) (by omega)
theorem A137 {f : Bool} (H : HC S k u a) (h12 : S.1 1 0 0 12 = zo (bI f)) (hs : f = true → Cb (S.1 0 2) s) (hw : WF T s) : ∃ S', zr_sem zF (d + 3) 137 [za 1 0 0] S = some (.inl (some (zi (zo (bI f)))), S') ∧ HC S' (if f = true then 0 else k) u (if f = true then s else a) ∧ FrP S S' := by
  rw [ze_137, h12]
  cases f with
  | false =>
    exact ⟨S, by rw [if_pos (show zo (bI false) = zo 0 from rfl)]; rfl, H, fun _ _ _ _ _ _ => rfl⟩
  | true =>
    obtain ⟨S1, e1, q1, q2⟩ := c1 (S := S) (n := 0) (p := 2) (d := d) (by omega)
    have hN := q1 s T (hs rfl) hw (H.2.2.2 0 (by omega))
    have ob : ∀ p, p ≠ 0 → (zs_set S1 1 0 1 2 (zo 0)).1 0 p = S.1 0 p := fun p hp => by funext o j; rw [zs_oth (by omega)]; exact q2.2 0 p o j (by omega) (by omega)
    have o2 : (zs_set S1 1 0 1 2 (zo 0)).1 0 0 = S1.1 0 0 := by funext o j; rw [zs_oth (by omega)]
    refine ⟨zs_set S1 1 0 1 2 (zo 0), ?_, ⟨by rw [o2]; exact hN, ?_, ?_, fun n hn => ?_⟩, fun k n o j a b => ?_⟩
    · rw [if_neg (by decide), e1, zr0, ze_45, zr0]; rfl
    · obtain ⟨x, x1, x2, x3, x4⟩ := H.2.1
      refine ⟨x, x1, ?_, zs_self, fun i hi => ?_⟩
      · rw [zs_oth (by omega), q2.2 _ _ _ _ (by omega) (by omega)]; exact x2
      · rw [if_pos rfl] at hi; omega
    · rw [if_pos rfl]; omega
    · by_cases e : n = 0
      · rw [e, o2]; exact hN.1
      · rw [ob n e]; exact H.2.2.2 n hn
    · rw [zs_oth (by omega)]; exact q2.2 k n o j (by omega) (by omega)
end DB

/-! THE PURE SIDE 37: undo, snapshots, the formatted bytes, the place of the error -/
def FrP (S S' : zS) : Prop := ∀ k n o j, ¬(k = 0 ∧ (n = 0 ∨ (4 ≤ n ∧ n < 14))) → ¬(k = 1 ∧ n = 0 ∧ ((o = 1 ∧ (j = 1 ∨ j = 2)) ∨ (o = 4 ∧ j ≠ 0) ∨ o = 6 ∨ o = 8 ∨ o = 11 ∨ o = 13)) → S'.1 k n o j = S.1 k n o j
def FrQ (S S' : zS) : Prop := S'.2 = S.2 ∧ (∀ k n o j, ¬(k = 2 ∧ n = 0) → ¬(k = 3 ∧ n = 0 ∧ (o = 1 ∨ o = 2 ∨ o = 3 ∨ o = 4 ∨ (o = 0 ∧ (j = 9 ∨ j = 10)))) → S'.1 k n o j = S.1 k n o j)
section DB
variable {S : zS} {d k : Nat} {a s : Rw} {T p : Int} {u : Nat → Rw}
theorem A134 (H : HC S k u a) : zr_sem zF (d + 1) 134 [za 1 0 0] S = some (.inl (some (zi (zo k))), S) := by
  obtain ⟨x, x1, x2, x3, x4⟩ := H.2.1
  rw [ze_134, x3]
theorem B250 (H : HM S k u a) : zr_sem zF (d + 1) 250 [za 3 0 0] S = some (.inl (some (zi (zo k))), mt S 0) := by
  rw [ze_250, mt_def, (UdM_mt 0 H.2).1]
theorem c44 (H : HC S k u a) (hw : WF T (u (k - 1))) : ∃ S', zr_sem zF (d + 3) 44 [za 1 0 1, za 0 0 0] S = some (.inl (some (zi (zo (if k = 0 then 0 else 1)))), S') ∧ HC S' (k - 1) u (if k = 0 then a else u (k - 1)) ∧ FrP S S' := by
  have HO := H
  obtain ⟨h, hu, hk, hF⟩ := H
  obtain ⟨x, hx, h1, h2, hr⟩ := hu
  have ex : (S.1 1 0 1 1 + zo 10 - zo 1) - (S.1 1 0 1 1 + zo 10 - zo 1) / zo 10 * zo 10 = zo ((x + 9) % 10 : Nat) := by
    rw [h1, zo_add, zo_sub, zo_mod (by omega) (by omega) (by omega) (by omega)]
    congr 1
    omega
  have r42 : zr_sem zF (d + 2) 42 [za 1 0 1, zi ((S.1 1 0 1 1 + zo 10 - zo 1) - (S.1 1 0 1 1 + zo 10 - zo 1) / zo 10 * zo 10)] S = some (.inl (some (za 0 (4 + (x + 9) % 10) 0)), S) := by rw [ex]; exact c42 (by omega)
  rw [ze_44 r42, ex]
  by_cases c : k = 0
  · subst c
    refine ⟨S, ?_, HO, fun _ _ _ _ _ _ => rfl⟩
    rw [if_pos (show S.1 1 0 1 2 = zo 0 from h2), if_pos rfl]
  · obtain ⟨S1, e1, q1, q2⟩ := c1 (S := S) (n := 0) (p := 4 + (x + 9) % 10) (d := d) (by omega)
    have hl := hr (k - 1) (by omega)
    rw [show (x + 10 - k + (k - 1)) % 10 = (x + 9) % 10 by omega] at hl
    have hN := q1 _ T hl hw (hF 0 (by omega))
    have f2 : S1.1 1 0 1 2 = zo k := by rw [q2.2 _ _ _ _ (by omega) (by omega)]; exact h2
    have ob : ∀ p, p ≠ 0 → S1.1 0 p = S.1 0 p := fun p hp => by funext o j; exact q2.2 0 p o j (by omega) (by omega)
    have bb : ∀ v w : Int32, ∀ p, (zs_set (zs_set S1 1 0 1 1 v) 1 0 1 2 w).1 0 p = S1.1 0 p := fun v w p => by
      funext o j; rw [zs_oth (by omega), zs_oth (by omega)]
    refine ⟨zs_set (zs_set S1 1 0 1 1 (zo ((x + 9) % 10 : Nat))) 1 0 1 2 (zo ((k - 1 : Nat) : Int)), ?_, ⟨?_, ⟨(x + 9) % 10, by omega, by rw [zs_oth (by omega), zs_self], zs_self, fun i hi => ?_⟩, by omega, fun n hn => ?_⟩, fun k n o j a b => ?_⟩
    · rw [if_neg (show ¬ S.1 1 0 1 2 = zo 0 by rw [h2, zo_eq (by omega) (by omega) (by omega) (by omega)]; omega), e1, zr0, if_neg c, zs_oth (by omega), f2, zo_sub, show (k : Int) - 1 = ((k - 1 : Nat) : Int) by omega]
    · rw [bb, if_neg c]; exact hN
    · rw [bb, ob _ (by omega), show ((x + 9) % 10 + 10 - (k - 1) + i) % 10 = (x + 10 - k + i) % 10 by omega]
      exact hr i (by omega)
    · rw [bb]
      by_cases e : n = 0
      · rw [e]; exact hN.1
      · rw [ob n e]; exact hF n hn
    · rw [zs_oth (by omega), zs_oth (by omega)]
      exact q2.2 k n o j (by omega) (by omega)
theorem A135 (H : HC S k u a) (hw : WF T (u (k - 1))) : ∃ S', zr_sem zF (d + 4) 135 [za 1 0 0] S = some (.inl (some (zi (zo (if k = 0 then -1 else (k : Int) - 1)))), S') ∧ HC S' (k - 1) u (if k = 0 then a else u (k - 1)) ∧ FrP S S' := by
  obtain ⟨S1, e1, q1, q2⟩ := c44 (d := d) H hw
  refine ⟨S1, ?_, q1, q2⟩
  rw [ze_135, e1, zr1]
  by_cases c : k = 0
  · rw [if_pos c, if_pos c, if_pos rfl]
  · obtain ⟨x, x1, x2, x3, x4⟩ := q1.2.1
    rw [if_neg c, if_neg c, if_neg (by decide), x3, show (k : Int) - 1 = ((k - 1 : Nat) : Int) by omega]
theorem B251 (H : HM S k u a) : ∃ S', zr_sem zF (d + 2) 251 [za 3 0 0] S = some (.inl (some (zi (zo (if k = 0 then -1 else (k : Int) - 1)))), S') ∧ S'.1 3 0 0 10 = zo 0 ∧ HM S' (k - 1) u (if k = 0 then a else u (k - 1)) ∧ FrQ S S' := by
  have h0 := Md_mt H.1 0
  have hu := UdM_mt 0 H.2
  have h9 := hu.1
  have hk := hu.2.1
  have h8 := h0.1
  have fq : FrQ S (mt S 0) := ⟨rfl, fun k n o j a b => by unfold mt; exact zs_oth (by omega)⟩
  rw [ze_251, mt_def, h9, zo_sub]
  by_cases c : k = 0
  · subst c
    exact ⟨mt S 0, by rw [if_pos (show zo ((0 : Nat) : Int) = zo 0 from rfl), if_pos rfl], mt_10 S 0, ⟨by rw [if_pos rfl]; exact h0, hu⟩, fq⟩
  · obtain ⟨S1, e1, q1, q2, q3⟩ := m248hn (S := zs_set (mt S 0) 3 0 0 9 (zo ((k : Int) - 1))) (d := d) (r1 := k - 1) (r2 := 0) (by omega) rfl
    have r9 : S1.1 3 0 0 9 = zo ((k : Int) - 1) := by rw [q2 _ _ _ _ (by omega), zs_self]
    refine ⟨S1, ?_, by rw [q2 _ _ _ _ (by omega), zs_oth (by omega)]; exact mt_10 S 0, ⟨?_, ⟨by rw [r9, show (k : Int) - 1 = ((k - 1 : Nat) : Int) by omega], by omega, fun i j hi hj => ?_⟩⟩, ?_, fun k n o j a b => ?_⟩
    · rw [if_neg (show ¬ zo (k : Int) = zo 0 by rw [zo_eq (by omega) (by omega) (by omega) (by omega)]; omega), zs_self, if_neg c]
      rw [show ((k - 1 : Nat) : Int) = (k : Int) - 1 by omega] at e1
      have e0 : zr_sem zF (d + 1) 248 [za 3 0 1, zi (zo ((k : Int) - 1)), za 2 0 0, zi (zo 0)] (zs_set (mt S 0) 3 0 0 9 (zo ((k : Int) - 1))) = some (.inl none, S1) := e1
      rw [e0, zr0, r9]
    · rw [if_neg c]
      refine ⟨by rw [q2 _ _ _ _ (by omega), zs_oth (by omega)]; exact h8, by omega, fun j hj => ?_⟩
      have := q1 j hj
      rw [Nat.mul_zero, Nat.zero_add] at this
      rw [this, zs_oth (by omega)]
      exact hu.2.2 (k - 1) j (by omega) hj
    · rw [q2 _ _ _ _ (by omega), zs_oth (by omega)]
      exact hu.2.2 i j (by omega) hj
    · rw [q3]; rfl
    · rw [q2 _ _ _ _ (by omega), zs_oth (by omega)]; exact fq.2 k n o j a b
theorem A136 (H : HC S k u a) (hw : WF T a) : ∃ S', zr_sem zF (d + 3) 136 [za 1 0 0] S = some (.inl none, S') ∧ HC S' k u a ∧ Cb (S'.1 0 2) a ∧ S'.1 1 0 0 12 = zo 1 ∧ (∀ k n o j, ¬(k = 0 ∧ n = 2) → ¬(k = 1 ∧ n = 0 ∧ ((o = 0 ∧ j = 12) ∨ (o = 4 ∧ j ≠ 0) ∨ o = 6 ∨ o = 8 ∨ o = 11 ∨ o = 13)) → S'.1 k n o j = S.1 k n o j) := by
  obtain ⟨S1, e1, q1, q2⟩ := c1 (S := S) (n := 2) (p := 0) (d := d) (by omega)
  have hN := q1 a T H.1 hw (H.2.2.2 2 (by omega))
  have ob : ∀ p, p ≠ 2 → (zs_set S1 1 0 0 12 (zo 1)).1 0 p = S.1 0 p := fun p hp => by funext o j; rw [zs_oth (by omega)]; exact q2.2 0 p o j (by omega) (by omega)
  have o2 : (zs_set S1 1 0 0 12 (zo 1)).1 0 2 = S1.1 0 2 := by funext o j; rw [zs_oth (by omega)]
  refine ⟨zs_set S1 1 0 0 12 (zo 1), ?_, ⟨by rw [ob 0 (by omega)]; exact H.1, ?_, H.2.2.1, fun n hn => ?_⟩, by rw [o2]; exact hN, zs_self, fun k n o j a b => ?_⟩
  · rw [ze_136, e1, zr0]
  · obtain ⟨x, x1, x2, x3, x4⟩ := H.2.1
    refine ⟨x, x1, ?_, ?_, fun i hi => ?_⟩
    · rw [zs_oth (by omega), q2.2 _ _ _ _ (by omega) (by omega)]; exact x2
    · rw [zs_oth (by omega), q2.2 _ _ _ _ (by omega) (by omega)]; exact x3
    · rw [ob _ (by omega)]; exact x4 i hi
  · by_cases e : n = 2
    · rw [e, o2]; exact hN.1
    · rw [ob n e]; exact H.2.2.2 n hn
  · rw [zs_oth (by omega)]; exact q2.2 k n o j (by omega) (by omega)
theorem B252 (H : HM S k u a) : ∃ S', zr_sem zF (d + 2) 252 [za 3 0 0] S = some (.inl none, S') ∧ S'.1 3 0 0 10 = zo 0 ∧ HM S' k u a ∧ (∀ j, j < 260 → S'.1 2 3 0 j = zo (a j)) ∧ S'.1 3 0 0 11 = zo 1 ∧ S'.2 = S.2 ∧ (∀ k n o j, ¬(k = 2 ∧ n = 3) → ¬(k = 3 ∧ n = 0 ∧ o = 0 ∧ (j = 10 ∨ j = 11)) → S'.1 k n o j = S.1 k n o j) := by
  have h0 := Md_mt H.1 0
  have hu := UdM_mt 0 H.2
  obtain ⟨S1, e1, q1, q2, q3⟩ := m248ns (S := mt S 0) (d := d) (r1 := 0) (r2 := 0) rfl rfl
  refine ⟨zs_set S1 3 0 0 11 (zo 1), ?_, by rw [zs_oth (by omega), q2 _ _ _ _ (by omega)]; exact mt_10 S 0, ⟨⟨by rw [zs_oth (by omega), q2 _ _ _ _ (by omega)]; exact h0.1, by omega, fun j hj => by rw [zs_oth (by omega), q2 _ _ _ _ (by omega)]; exact h0.2.2 j hj⟩, ⟨by rw [zs_oth (by omega), q2 _ _ _ _ (by omega)]; exact hu.1, hu.2.1, fun i j hi hj => by rw [zs_oth (by omega), q2 _ _ _ _ (by omega)]; exact hu.2.2 i j hi hj⟩⟩, fun j hj => ?_, zs_self, q3, fun k n o j a b => ?_⟩
  · have e0 : zr_sem zF (d + 1) 248 [za 2 0 0, zi (zo 0), za 2 3 0, zi (zo 0)] (mt S 0) = some (.inl none, S1) := e1
    rw [ze_252, mt_def, e0, zr0]
  · have := q1 j hj
    rw [Nat.mul_zero, Nat.zero_add] at this
    rw [zs_oth (by omega), this]
    exact h0.2.2 j hj
  · rw [zs_oth (by omega), q2 _ _ _ _ (by omega)]
    unfold mt; exact zs_oth (by omega)
theorem A137 {f : Bool} (H : HC S k u a) (h12 : S.1 1 0 0 12 = zo (bI f)) (hs : f = true → Cb (S.1 0 2) s) (hw : WF T s) : ∃ S', zr_sem zF (d + 3) 137 [za 1 0 0] S = some (.inl (some (zi (zo (bI f)))), S') ∧ HC S' (if f = true then 0 else k) u (if f = true then s else a) ∧ FrP S S' := by
  rw [ze_137, h12]
  cases f with
  | false =>
    exact ⟨S, by rw [if_pos (show zo (bI false) = zo 0 from rfl)]; rfl, H, fun _ _ _ _ _ _ => rfl⟩
  | true =>
    obtain ⟨S1, e1, q1, q2⟩ := c1 (S := S) (n := 0) (p := 2) (d := d) (by omega)
    have hN := q1 s T (hs rfl) hw (H.2.2.2 0 (by omega))
    have ob : ∀ p, p ≠ 0 → (zs_set S1 1 0 1 2 (zo 0)).1 0 p = S.1 0 p := fun p hp => by funext o j; rw [zs_oth (by omega)]; exact q2.2 0 p o j (by omega) (by omega)
    have o2 : (zs_set S1 1 0 1 2 (zo 0)).1 0 0 = S1.1 0 0 := by funext o j; rw [zs_oth (by omega)]
    refine ⟨zs_set S1 1 0 1 2 (zo 0), ?_, ⟨by rw [o2]; exact hN, ?_, ?_, fun n hn => ?_⟩, fun k n o j a b => ?_⟩
    · rw [if_neg (by decide), e1, zr0, ze_45, zr0]; rfl
    · obtain ⟨x, x1, x2, x3, x4⟩ := H.2.1
      refine ⟨x, x1, ?_, zs_self, fun i hi => ?_⟩
      · rw [zs_oth (by omega), q2.2 _ _ _ _ (by omega) (by omega)]; exact x2
      · rw [if_pos rfl] at hi; omega
    · rw [if_pos rfl]; omega
    · by_cases e : n = 0
      · rw [e, o2]; exact hN.1
      · rw [ob n e]; exact H.2.2.2 n hn
    · rw [zs_oth (by omega)]; exact q2.2 k n o j (by omega) (by omega)
theorem B253 {f : Bool} (H : HM S k u a) (h11 : S.1 3 0 0 11 = zo (bI f)) (hs : f = true → ∀ j, j < 260 → S.1 2 3 0 j = zo (s j)) : ∃ S', zr_sem zF (d + 2) 253 [za 3 0 0] S = some (.inl (some (zi (zo (bI f)))), S') ∧ S'.1 3 0 0 10 = zo 0 ∧ HM S' (if f = true then 0 else k) u (if f = true then s else a) ∧ FrQ S S' := by
  have h0 := Md_mt H.1 0
  have hu := UdM_mt 0 H.2
  have fq : FrQ S (mt S 0) := ⟨rfl, fun k n o j a b => by unfold mt; exact zs_oth (by omega)⟩
  rw [ze_253, mt_def, show (mt S 0).1 3 0 0 11 = S.1 3 0 0 11 by unfold mt; exact zs_oth (by omega), h11]
  cases f with
  | false =>
    exact ⟨mt S 0, by rw [if_pos (show zo (bI false) = zo 0 from rfl)]; rfl, mt_10 S 0, ⟨h0, hu⟩, fq⟩
  | true =>
    obtain ⟨S1, e1, q1, q2, q3⟩ := m248sn (S := mt S 0) (d := d) (r1 := 0) (r2 := 0) rfl rfl
    have e0 : zr_sem zF (d + 1) 248 [za 2 3 0, zi (zo 0), za 2 0 0, zi (zo 0)] (mt S 0) = some (.inl none, S1) := e1
    refine ⟨zs_set S1 3 0 0 9 (zo 0), ?_, by rw [zs_oth (by omega), q2 _ _ _ _ (by omega)]; exact mt_10 S 0, ⟨⟨by rw [zs_oth (by omega), q2 _ _ _ _ (by omega)]; exact h0.1, by omega, fun j hj => ?_⟩, ⟨zs_self, by rw [if_pos rfl]; omega, fun i j hi hj => ?_⟩⟩, q3, fun k n o j a b => ?_⟩
    · rw [if_neg (by decide), e0, zr0]; rfl
    · have := q1 j hj
      rw [Nat.mul_zero, Nat.zero_add] at this
      rw [zs_oth (by omega), this]
      unfold mt
      rw [zs_oth (by omega)]
      exact hs rfl j hj
    · rw [if_pos rfl] at hi; omega
    · rw [zs_oth (by omega), q2 _ _ _ _ (by omega)]; exact fq.2 k n o j a b
theorem A111 {fl : Int} {fb : Nat → Int} (hl : 0 ≤ fl ∧ fl ≤ 10) (h10 : S.1 1 0 0 10 = zo fl) (hf : ∀ j : Nat, (j : Int) < fl → S.1 1 0 20 j = zo (fb j)) (g1 : -2147483648 ≤ p) (g2 : p < 2147483648) : zr_sem zF (d + 2) 111 [za 1 0 0, zi (zo p)] S = some (.inl (some (zi (zo (if 0 ≤ p ∧ p < fl then fb p.toNat else -1)))), S) := by
  rw [ze_111, h10]
  by_cases c : p < 0
  · rw [if_pos (show zo p < zo 0 by rw [zo_lt (by omega) (by omega) (by omega) (by omega)]; exact c), if_neg (by omega)]
  · rw [if_neg (show ¬ zo p < zo 0 by rw [zo_lt (by omega) (by omega) (by omega) (by omega)]; exact c)]
    by_cases c2 : p < fl
    · rw [if_neg (show ¬ zo fl ≤ zo p by rw [zo_le (by omega) (by omega) (by omega) (by omega)]; omega), if_pos (by omega), ze_63f, if_neg (show ¬ zo p < zo 0 by rw [zo_lt (by omega) (by omega) (by omega) (by omega)]; exact c), if_neg (show ¬ zo 10 ≤ zo p by rw [zo_le (by omega) (by omega) (by omega) (by omega)]; omega), zin_ok (by omega) (by omega) (by omega), zo_nn (by omega) (by omega), hf p.toNat (by omega), zr1]
    · rw [if_pos (show zo fl ≤ zo p by rw [zo_le (by omega) (by omega) (by omega) (by omega)]; omega), if_neg (by omega)]
theorem B247 {fl : Int} {fb : Nat → Int} (hl : 0 ≤ fl ∧ fl ≤ 10) (h13 : S.1 3 0 0 13 = zo fl) (hf : ∀ j : Nat, (j : Int) < fl → S.1 3 0 5 j = zo (fb j)) (g1 : -2147483648 ≤ p) (g2 : p < 2147483648) : zr_sem zF (d + 2) 247 [za 3 0 0, zi (zo p)] S = some (.inl (some (zi (zo (if 0 ≤ p ∧ p < fl then fb p.toNat else -1)))), mt S 0) := by
  rw [ze_247, mt_def, show (mt S 0).1 3 0 0 13 = S.1 3 0 0 13 by unfold mt; exact zs_oth (by omega), h13, zo_sub, m147 (by omega) (by omega) (by omega) (by omega) (by omega) (by omega), zr1]
  by_cases c : 0 ≤ p ∧ p < fl
  · have d1 : decide (0 ≤ p ∧ p ≤ fl - 1) = true := decide_eq_true (by omega)
    rw [d1, if_neg (by decide), if_pos c, zin_ok (by omega) (by omega) (by omega), zo_nn (by omega) (by omega), show (mt S 0).1 3 0 5 p.toNat = S.1 3 0 5 p.toNat by unfold mt; exact zs_oth (by omega), hf p.toNat (by omega)]
  · have d1 : decide (0 ≤ p ∧ p ≤ fl - 1) = false := decide_eq_false (by omega)
    rw [d1, if_pos (by rfl), if_neg c]
theorem A91 {ep : Int} (h : S.1 1 0 0 11 = zo ep) : zr_sem zF (d + 1) 91 [za 1 0 0] S = some (.inl (some (zi (zo ep))), S) := by rw [ze_91, h]
theorem B255 {ep : Int} (h : S.1 3 0 0 22 = zo ep) : zr_sem zF (d + 1) 255 [za 3 0 0] S = some (.inl (some (zi (zo ep))), mt S 0) := by
  rw [ze_255, mt_def, show (mt S 0).1 3 0 0 22 = S.1 3 0 0 22 by unfold mt; exact zs_oth (by omega), h]
end DB

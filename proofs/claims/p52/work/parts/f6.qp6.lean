/-! THE LAW'S PURE SIDE 6: text builders are made, and made texts -/
/-- a made text at k, in the array at j -/
def ST (T : qS) (k j : Nat) (w : List Int32) : Prop := (∃ h z : Int32, zx_nth T.2 k = some (.inl (12, [za 8 j 0, zi (zo 0), zi h, zi z]))) ∧ zx_nth T.2 j = some (.inr (.inl (5, w))) ∧ w.length ≤ 1000
/-- what was before stays -/
def NF (T T' : qS) (a : Nat) : Prop := T'.1 = T.1 ∧ T.2.length ≤ T'.2.length ∧ T'.2.length ≤ T.2.length + a ∧ q_sl T'.2 ≤ q_sl T.2 + 3000 * a ∧ ∀ i c, zx_nth T.2 i = some c → zx_nth T'.2 i = some c
theorem NF.rf (T : qS) : NF T T 0 := ⟨rfl, Nat.le_refl _, Nat.le_refl _, by omega, fun _ _ h => h⟩
theorem NF.tr {T T1 T2 : qS} {a b : Nat} (h1 : NF T T1 a) (h2 : NF T1 T2 b) : NF T T2 (a + b) := ⟨h2.1.trans h1.1, Nat.le_trans h1.2.1 h2.2.1, by have := h1.2.2.1; have := h2.2.2.1; omega, by have := h1.2.2.2.1; have := h2.2.2.2.1; omega, fun i c h => h2.2.2.2.2 i c (h1.2.2.2.2 i c h)⟩
theorem NF.up {T T1 : qS} {a b : Nat} (h : NF T T1 a) (hb : a ≤ b) : NF T T1 b := ⟨h.1, h.2.1, by have := h.2.2.1; omega, by have := h.2.2.2.1; omega, h.2.2.2.2⟩
theorem NF.push (T : qS) (c : qC) (hc : qc_sl c ≤ 3000) : NF T (T.1, T.2 ++ [c]) 1 := ⟨rfl, by show _ ≤ (T.2 ++ [c]).length; rw [List.length_append]; exact Nat.le_add_right _ _, by show (T.2 ++ [c]).length ≤ _; rw [List.length_append]; exact Nat.le_refl _, by show q_sl (T.2 ++ [c]) ≤ _; rw [q_sl_app, q_sl_one]; omega, fun i c' h => qn_app h⟩
/-- a cell made after T may be written -/
theorem NF.set {T T1 : qS} {a k : Nat} {c c0 : qC} (h : NF T T1 a) (hk : T.2.length ≤ k) (h0 : zx_nth T1.2 k = some c0) (hc : qc_sl c = qc_sl c0) : NF T (T1.1, T1.2.set k c) a := by
  have h9 := h0
  rw [zx_nth_get] at h9
  refine ⟨h.1, by show _ ≤ (List.set _ _ _).length; rw [List.length_set]; exact h.2.1, by show (List.set _ _ _).length ≤ _; rw [List.length_set]; exact h.2.2.1, by refine Nat.le_trans (Nat.le_of_eq (q_sl_set _ k _ _ h9 hc)) h.2.2.2.1, fun i c' hi => ?_⟩
  have := qn_lt hi
  show zx_nth (List.set _ _ _) i = _
  rw [qn_ne (by omega)]
  exact h.2.2.2.2 i c' hi
theorem NF.sb {T T1 T2 : qS} {a b k j j' : Nat} (h : NF T T1 a) (hk : T.2.length ≤ k) (hj : T.2.length ≤ j) (f : SBF T1 T2 k j j' b) : NF T T2 (a + b) := ⟨f.1.trans h.1, Nat.le_trans h.2.1 f.2.1, by have := h.2.2.1; have := f.2.2.1; omega, by have := h.2.2.2.1; have := f.2.2.2.1; omega, fun i c hi => by
  have := qn_lt hi
  exact f.2.2.2.2.2 i c (by omega) (by omega) (h.2.2.2.2 i c hi)⟩
section JH
variable {T : qS} {d k j t : Nat} {w bs tx : List Int32}
theorem Q21 (h : SB T k j w bs) (ht : zx_nth zt_texts t = some tx) (hm : w.length + tx.length ≤ 1000) : ∃ T' j' bs', q_sem zF (d + 5) 21 [za 8 k 0, za 6 t 0] T = some (some (za 8 k 0), T') ∧ SB T' k j' (w ++ tx) bs' ∧ SBF T T' k j j' 1 := by
  obtain ⟨T', j', bs', e, g, f⟩ := Q4 (d := d) h ht hm
  exact ⟨T', j', bs', by rw [qn_21_86, qe_21_0_86__7, qp_rc h.1, qr_r e, qe_21_5_86_8_4], g, f⟩
theorem Q22 (h : SB T k j w bs) {c : Int} (h0 : 0 ≤ c) (h1 : c < 128) (hm : w.length + 1 ≤ 1000) : ∃ T' j' bs', q_sem zF (d + 5) 22 [za 8 k 0, zi (zo c)] T = some (some (za 8 k 0), T') ∧ SB T' k j' (w ++ [zo c]) bs' ∧ SBF T T' k j j' 1 := by
  obtain ⟨T', j', bs', e, g, f⟩ := Q5 (d := d) h h0 h1 hm
  exact ⟨T', j', bs', by rw [qn_22_8i, qe_22_0_8i__7, qp_rc h.1, qr_r e, qe_22_5_8i_8_4], g, f⟩
theorem Q23 (h : SB T k j w bs) {x : Int} (h0 : -9999 ≤ x) (h1 : x ≤ 9999) (hm : w.length + (dec x).length ≤ 1000) : ∃ T' j' bs', q_sem zF (d + 5) 23 [za 8 k 0, zi (zo x)] T = some (some (za 8 k 0), T') ∧ SB T' k j' (w ++ dec x) bs' ∧ SBF T T' k j j' 1 := by
  obtain ⟨T', j', bs', e, g, f⟩ := Q6 (d := d) h h0 h1 hm
  exact ⟨T', j', bs', by rw [qn_23_8i, qe_23_0_8i__7, qp_rc h.1, qr_r e, qe_23_5_8i_8_4], g, f⟩
theorem Q25 (h : SB T k j w bs) (ht : zx_nth zt_texts t = some tx) (hm : w.length + tx.length ≤ 1000) : ∃ T' j' bs', q_sem zF (d + 6) 25 [za 8 k 0, za 6 t 0] T = some (some (za 8 k 0), T') ∧ SB T' k j' (w ++ tx) bs' ∧ SBF T T' k j j' 1 := by
  obtain ⟨T', j', bs', e, g, f⟩ := Q21 (d := d) h ht hm
  exact ⟨T', j', bs', by rw [qn_25_86, qe_25_0_86__5, qp_rc h.1, qr_r e, qe_25_5_86_8_2], g, f⟩
/-- new StringBuilder(text): its constructor, on the fresh object at k made after T0 -/
theorem Q0 {T0 : qS} {a : Nat} (hN : NF T0 T a) (hk0 : T0.2.length ≤ k) (h : zx_nth T.2 k = some (.inl (11, qd_obj 11))) (ht : zx_nth zt_texts t = some tx) (hm : tx.length ≤ 900) : ∃ T' j' bs', q_sem zF (d + 7) 0 [za 8 k 0, za 6 t 0] T = some (none, T') ∧ SB T' k j' tx bs' ∧ NF T0 T' (a + 2) ∧ T0.2.length ≤ j' := by
  have h : zx_nth T.2 k = some (.inl (11, [zn, zi (zo 0), zi (zo 0), zi (zo 0)])) := h
  have hkl := qn_lt h
  have hTl : T0.2.length ≤ T.2.length := hN.2.1
  rw [qn_0_86ooo, qe_0_0_86ooo__35, qr_1 (Q14 ht), qe_0_8_86ooo_i_31, if_neg (by rw [zo_le (by omega) (by omega) (by omega) (by omega)]; omega), qr_1 Q18, zo_add, qe_0_29_86iio_i_20, qp_put h (by show 1 < 4; decide) rfl, if_pos rfl, qp_new (by omega) (by omega), qe_0_46_86iii_88_11]
  have h1 : zx_nth (T.2.set k (.inl (11, [zn, zi (zo 0), zi (zo 0), zi (zo 0)]))) k = some (.inl (11, [zn, zi (zo 0), zi (zo 0), zi (zo 0)])) := qn_eq h
  have h2 : zx_nth (T.2.set k (.inl (11, [zn, zi (zo 0), zi (zo 0), zi (zo 0)])) ++ [.inr (.inl (5, List.replicate ((tx.length : Int) + 16).toNat 0))]) k = some (.inl (11, [zn, zi (zo 0), zi (zo 0), zi (zo 0)])) := qn_app h1
  have hlen : (T.2.set k (.inl (11, [zn, zi (zo 0), zi (zo 0), zi (zo 0)]))).length = T.2.length := List.length_set
  have n1 : NF T0 (T.1, T.2.set k (.inl (11, [zn, zi (zo 0), zi (zo 0), zi (zo 0)]))) a := hN.set hk0 h rfl
  have n2 := n1.tr (NF.push (T.1, T.2.set k (.inl (11, [zn, zi (zo 0), zi (zo 0), zi (zo 0)]))) (.inr (.inl (5, List.replicate ((tx.length : Int) + 16).toNat 0))) (by show (List.replicate _ _).length ≤ _; rw [List.length_replicate]; omega))
  have n3 : NF T0 _ (a + 1) := n2.set (c := .inl (11, [za 8 T.2.length 0, zi (zo 0), zi (zo 0), zi (zo 0)])) hk0 h2 rfl
  have hlast : zx_nth (T.2.set k (.inl (11, [zn, zi (zo 0), zi (zo 0), zi (zo 0)])) ++ [.inr (.inl (5, List.replicate ((tx.length : Int) + 16).toNat 0))]) T.2.length = some (.inr (.inl (5, List.replicate ((tx.length : Int) + 16).toNat 0))) := by
    have := qn_last (T.2.set k (.inl (11, [zn, zi (zo 0), zi (zo 0), zi (zo 0)]))) (.inr (.inl (5, List.replicate ((tx.length : Int) + 16).toNat 0)) : qC)
    rw [hlen] at this
    exact this
  have hel : ((T.1, T.2.set k (.inl (11, [zn, zi (zo 0), zi (zo 0), zi (zo 0)]))) : qS).2.length = T.2.length := hlen
  have es : ([zn, zi (zo 0), zi (zo 0), zi (zo 0)] : List zV).set 1 (zi (zo 0)) = [zn, zi (zo 0), zi (zo 0), zi (zo 0)] := rfl
  rw [es, hel, qp_put h2 (by show 0 < 4; decide) rfl]
  have g : SB (T.1, (((T.2.set k (.inl (11, [zn, zi (zo 0), zi (zo 0), zi (zo 0)])) ++ [(.inr (.inl (5, List.replicate ((tx.length : Int) + 16).toNat 0)) : qC)]) : qW)).set k (.inl (11, [za 8 T.2.length 0, zi (zo 0), zi (zo 0), zi (zo 0)]))) k T.2.length [] (List.replicate ((tx.length : Int) + 16).toNat 0) := by
    refine ⟨qn_eq h2, ?_, ⟨_, rfl⟩, by rw [List.length_replicate]; omega, by omega⟩
    show zx_nth (List.set _ k _) T.2.length = _
    rw [qn_ne (by omega)]
    exact hlast
  obtain ⟨T', j', bs', e, g2, f⟩ := Q25 (d := d) g ht (by show 0 + _ ≤ 1000; omega)
  refine ⟨T', j', bs', ?_, g2, n3.sb hk0 (by omega) f, ?_⟩
  · show zx_if (qx_rc (8, k, 0) 11 (T.1, (((T.2.set k (.inl (11, [zn, zi (zo 0), zi (zo 0), zi (zo 0)])) ++ [(.inr (.inl (5, List.replicate ((tx.length : Int) + 16).toNat 0)) : qC)]) : qW)).set k (.inl (11, [za 8 T.2.length 0, zi (zo 0), zi (zo 0), zi (zo 0)])))) _ = _
    rw [qp_rc g.1]
    exact (qr_r e).trans qe_0_61_86iii_8_6
  · rcases f.2.2.2.2.1 with e9 | e9
    · omega
    · have := n3.2.1
      have e9 : _ ≤ j' := e9
      exact Nat.le_trans this e9
theorem Q20 {T0 : qS} {a : Nat} (hN : NF T0 T a) (hk0 : T0.2.length ≤ k) (h : zx_nth T.2 k = some (.inl (11, qd_obj 11))) (ht : zx_nth zt_texts t = some tx) (hm : tx.length ≤ 900) : ∃ T' j' bs', q_sem zF (d + 8) 20 [za 8 k 0, za 6 t 0] T = some (none, T') ∧ SB T' k j' tx bs' ∧ NF T0 T' (a + 2) ∧ T0.2.length ≤ j' := by
  obtain ⟨T', j', bs', e, g⟩ := Q0 (d := d) hN hk0 h ht hm
  exact ⟨T', j', bs', by rw [qn_20_86, qe_20_0_86__5, qr_0 e, qe_20_5_86__2], g⟩
end JH

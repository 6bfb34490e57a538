/-! THE LAW'S PURE SIDE 2: the text builder: what the library's methods do -/
theorem sh_r (x : Int32) : x >>> (zo 0 &&& 31) = x := by
  rw [show (zo 0 &&& 31) = (0 : Int32) by decide]
  simp
theorem sh_l (x : Int32) : x <<< (zo 0 &&& 31) = x := by
  rw [show (zo 0 &&& 31) = (0 : Int32) by decide]
  simp
/-- the text builder at k: it holds w, in the array at j -/
def SB (T : qS) (k j : Nat) (w bs : List Int32) : Prop := zx_nth T.2 k = some (.inl (11, [za 8 j 0, zi (zo 0), zi (zo 0), zi (zo (w.length : Int))])) ∧ zx_nth T.2 j = some (.inr (.inl (5, bs))) ∧ (∃ r, bs = w ++ r) ∧ bs.length ≤ 3000 ∧ k ≠ j
/-- what else stays -/
def SBF (T T' : qS) (k j j' a : Nat) : Prop := T'.1 = T.1 ∧ T.2.length ≤ T'.2.length ∧ T'.2.length ≤ T.2.length + a ∧ q_sl T'.2 ≤ q_sl T.2 + 3000 * a ∧ (j' = j ∨ T.2.length ≤ j') ∧ ∀ i c, i ≠ k → i ≠ j → zx_nth T.2 i = some c → zx_nth T'.2 i = some c
theorem SBF.rf (T : qS) (k j : Nat) : SBF T T k j j 0 := ⟨rfl, Nat.le_refl _, Nat.le_refl _, by omega, Or.inl rfl, fun i c _ _ h => h⟩
theorem SBF.tr {T T1 T2 : qS} {k j j1 j2 a b : Nat} (h1 : SBF T T1 k j j1 a) (h2 : SBF T1 T2 k j1 j2 b) : SBF T T2 k j j2 (a + b) := by
  obtain ⟨a1, a2, a3, a4, a5, a6⟩ := h1
  obtain ⟨b1, b2, b3, b4, b5, b6⟩ := h2
  refine ⟨b1.trans a1, by omega, by omega, by omega, ?_, fun i c hk hj h => b6 i c hk ?_ (a6 i c hk hj h)⟩
  · rcases b5 with e | e
    · rw [e]; exact a5
    · exact Or.inr (by omega)
  · have hl := qn_lt h
    rcases a5 with e | e
    · rw [e]; exact hj
    · omega
theorem SBF.up {T T1 : qS} {k j j1 a b : Nat} (h : SBF T T1 k j j1 a) (hb : a ≤ b) : SBF T T1 k j j1 b := ⟨h.1, h.2.1, by have := h.2.2.1; omega, by have := h.2.2.2.1; omega, h.2.2.2.2.1, h.2.2.2.2.2⟩
section JD
variable {T : qS} {d k j t : Nat} {w bs tx : List Int32}
theorem SB.len (h : SB T k j w bs) : w.length ≤ bs.length := by
  obtain ⟨r, e⟩ := h.2.2.1
  rw [e, List.length_append]
  omega
/-- String.coder, of a text -/
theorem Q18 : q_sem zF (d + 1) 18 [za 6 t 0] T = some (some (zi (zo 0)), T) := by rw [qn_18_6, qe_18_0_6__8]
/-- String.length, of a text -/
theorem Q14 (h : zx_nth zt_texts t = some tx) : q_sem zF (d + 2) 14 [za 6 t 0] T = some (some (zi (zo (tx.length : Int))), T) := by
  rw [qn_14_6, qe_14_0_6__8, qp_lent h, qr_1 Q18, qe_14_9_6_ii_3, sh_r]
  rfl
theorem Q33 {a b c : Int} (h1 : 0 ≤ a) (h2 : a ≤ 10000) (h3 : -10000 ≤ b) (h4 : b ≤ 10000) (h5 : 1 ≤ c) (h6 : c ≤ 10000) : q_sem zF (d + 1) 33 [zi (zo a), zi (zo b), zi (zo c)] T = some (some (zi (zo (a + (if b < c then c else b)))), T) := by
  have hm : (1 : Int) ≤ (if b < c then c else b) ∧ (if b < c then c else b) ≤ 10000 := by split <;> omega
  rw [qn_33_iiio, qe_33_0_iiio__18, zmax_o (by omega) (by omega) (by omega) (by omega), zo_add]
  generalize (if b < c then c else b) = y at hm ⊢
  rw [if_neg (by rw [zo_le (by omega) (by omega) (by omega) (by omega)]; omega), if_neg (by rw [zo_lt (by omega) (by omega) (by omega) (by omega)]; omega)]
/-- newCapacity -/
theorem Q3 (h : SB T k j w bs) {m : Int} (h1 : 0 ≤ m) (h2 : m ≤ 3000) : q_sem zF (d + 2) 3 [za 8 k 0, zi (zo m)] T = some (some (zi (zo ((bs.length : Int) + (if m - bs.length < (bs.length : Int) + 2 then (bs.length : Int) + 2 else m - bs.length)))), T) := by
  have hb := h.2.2.2.1
  have hm : (2 : Int) ≤ (if m - bs.length < (bs.length : Int) + 2 then (bs.length : Int) + 2 else m - bs.length) ∧ (if m - bs.length < (bs.length : Int) + 2 then (bs.length : Int) + 2 else m - bs.length) ≤ 10000 := by split <;> omega
  rw [qn_3_8ioooo, qe_3_0_8ioooo__33, qp_get h.1 rfl, qe_3_4_8ioooo_8_31, qp_len h.2.1, qp_get h.1 rfl, qe_3_11_8iiooo_ii_26, qp_get h.1 rfl, qe_3_27_8iiiio_iiiii_14]
  rw [sh_l, sh_l, qp_on, zo_sub, zo_add, qr_1 (Q33 (by omega) (by omega) (by omega) (by omega) (by omega) (by omega)), qe_3_32_8iiiio_i_11]
  generalize (if m - bs.length < (bs.length : Int) + 2 then (bs.length : Int) + 2 else m - bs.length) = y at hm ⊢
  rw [if_neg (by rw [zo_eq (by omega) (by omega) (by omega) (by omega)]; omega), qp_get h.1 rfl, qe_3_57_8iiiii_ii_4, sh_r]
end JD

/-! THE LAW'S PURE SIDE 10: the law's small helpers; what is said is fed -/
theorem i32_zo (v : Int32) : v = zo v.toInt := (Int32.ofInt_toInt v).symm
def msk (v : Int32) : Int := (v &&& zo 2147483647).toInt
theorem msk_r (v : Int32) : 0 ≤ msk v ∧ msk v < 2147483648 := by
  refine ⟨?_, ?_⟩
  · show 0 ≤ (v &&& zo 2147483647).toBitVec.toInt
    rw [Int32.toBitVec_and, BitVec.toInt_eq_msb_cond, BitVec.msb_and, show (zo 2147483647).toBitVec.msb = false by decide, Bool.and_false]
    exact Int.natCast_nonneg _
  · exact Int32.toInt_lt _
def mst (v : Int32) (m : Int) : Int := msk v % m
theorem mst_r {v : Int32} {m : Int} (h : 0 < m) : 0 ≤ mst v m ∧ mst v m < m := ⟨Int.emod_nonneg _ (by omega), Int.emod_lt_of_pos _ h⟩
/-- cell k of the script -/
def scl (S : zS) (L : Nat) (k : Nat) : Int32 := if k < L then S.1 5 0 0 k else zo (37 * (k : Int))
section LA
variable {T : qS} {d j : Nat}
theorem Q34 {v : Int32} {m : Int} (h1 : 0 < m) (h2 : m ≤ 1000000) : q_sem zF (d + 1) 34 [zi v, zi (zo m)] T = some (some (zi (zo (mst v m))), T) := by
  have r := msk_r v
  rw [qn_34_ii, qe_34_0_ii__7, if_neg (by rw [zo_eq (by omega) (by omega) (by omega) (by omega)]; omega)]
  rw [show v &&& zo 2147483647 = zo (msk v) from (Int32.ofInt_toInt _).symm, zo_mod r.1 r.2 h1 (by omega)]
  rfl
theorem Q35 {L k : Nat} (h : T.1.1 5 0 1 0 = zo (L : Int)) (hL : L ≤ 10000) (hk : k ≤ 10000) : q_sem zF (d + 1) 35 [za 5 0 0, zi (zo (k : Int))] T = some (some (zi (scl T.1 L k)), T) := by
  rw [qn_35_5i, qe_35_0_5i__13]
  show (if T.1.1 5 0 1 0 ≤ zo (k : Int) then _ else _) = _
  rw [h]
  unfold scl
  by_cases c : k < L
  · rw [if_neg (by rw [zo_le (by omega) (by omega) (by omega) (by omega)]; omega), if_pos c]
    show qa_in (zo (k : Int)) (T.1.1 5 0 1 0) (some (some (zi (T.1.1 5 0 0 (zo (k : Int)).toNatClampNeg)), T)) = _
    rw [h, qp_in (by omega) (by omega) (by omega), zo_nn (by omega) (by omega)]
    rfl
  · rw [if_pos (by rw [zo_le (by omega) (by omega) (by omega) (by omega)]; omega), if_neg c, zo_mul]
theorem Q42 {v : Int} (h1 : -1000000 ≤ v) (h2 : v ≤ 1000000) : q_sem zF (d + 1) 42 [zi (zo v)] T = some (some (zi (zo (iab v))), T) := by
  rw [qn_42_i, qe_42_0_i__8]
  unfold iab
  by_cases c : 0 ≤ v
  · rw [if_pos (by rw [zo_le (by omega) (by omega) (by omega) (by omega)]; exact c), if_pos c]
  · rw [if_neg (by rw [zo_le (by omega) (by omega) (by omega) (by omega)]; exact c), if_neg c, zo_neg, show (0 : Int) - v = -v by omega]
end LA
/-- two rows of numbers are alike -/
theorem Q41_l {T : qS} {d i j : Nat} {xs ys : List Int32} (hi : zx_nth T.2 i = some (.inr (.inl (0, xs)))) (hj : zx_nth T.2 j = some (.inr (.inl (0, ys)))) (hl : xs.length = ys.length) (hn : xs.length ≤ 1000) : ∀ (m k f : Nat), k + m = xs.length → qy d 41 (f + m + 1) 11 [some (za 8 i 0), some (za 8 j 0), some (zi (zo (k : Int)))] [] T = some (some (zi (zo (if xs.drop k = ys.drop k then 1 else 0))), T) := by
  intro m
  induction m with
  | zero =>
    intro k f hk
    rw [qy_z (M := (qm_41, 2, 3, 27)) rfl, qe_41_11_88i__27, qp_len hi, qp_on, if_pos (by rw [zo_le (by omega) (by omega) (by omega) (by omega)]; omega)]
    rw [List.drop_eq_nil_of_le (by omega), List.drop_eq_nil_of_le (by omega), if_pos rfl]
  | succ m ih =>
    intro k f hk
    have e1 : xs.drop k = xs.getD k 0 :: xs.drop (k + 1) := by rw [List.drop_eq_getElem_cons (by omega), List.getD_eq_getElem?_getD, List.getElem?_eq_getElem (by omega)]; rfl
    have e2 : ys.drop k = ys.getD k 0 :: ys.drop (k + 1) := by rw [List.drop_eq_getElem_cons (by omega), List.getD_eq_getElem?_getD, List.getElem?_eq_getElem (by omega)]; rfl
    rw [show f + (m + 1) + 1 = (f + m + 1) + 1 by omega, qy_z (M := (qm_41, 2, 3, 27)) rfl, qe_41_11_88i__27, qp_len hi, qp_on, if_neg (by rw [zo_le (by omega) (by omega) (by omega) (by omega)]; omega), qp_ld hi (by omega) (by omega) (by omega), qp_ld hj (by omega) (by omega) (by omega)]
    rw [show ((k : Int)).toNat = k from Int.toNat_natCast k, e1, e2]
    by_cases c : xs.getD k 0 = ys.getD k 0
    · rw [if_pos c, zo_add, show (k : Int) + 1 = ((k + 1 : Nat) : Int) by omega, ih (k + 1) f (by omega), c]
      by_cases c2 : xs.drop (k + 1) = ys.drop (k + 1)
      · rw [if_pos c2, if_pos (by rw [c2])]
      · rw [if_neg c2, if_neg (fun h => c2 (List.cons.inj h).2)]
    · rw [if_neg c, if_neg (fun h => c (List.cons.inj h).1)]
theorem Q41 {T : qS} {d i j : Nat} {xs ys : List Int32} (hi : zx_nth T.2 i = some (.inr (.inl (0, xs)))) (hj : zx_nth T.2 j = some (.inr (.inl (0, ys)))) (hn : xs.length ≤ 1000) (hm : ys.length ≤ 1000) : q_sem zF (d + 1) 41 [za 8 i 0, za 8 j 0] T = some (some (zi (zo (if xs = ys then 1 else 0))), T) := by
  rw [qn_41_88o, qe_41_0_88o__27, qp_len hi, qp_len hj, qp_on, qp_on]
  by_cases c : xs.length = ys.length
  · rw [if_pos (by rw [c])]
    obtain ⟨f, hf⟩ : ∃ f, zF1 = f + xs.length + 1 := ⟨zF1 - xs.length - 1, by have := zF1_big; omega⟩
    rw [hf]
    exact Q41_l hi hj c hn xs.length 0 f (by omega)
  · rw [if_neg (by rw [zo_eq (by omega) (by omega) (by omega) (by omega)]; omega), if_neg (fun h => c (by rw [h]))]

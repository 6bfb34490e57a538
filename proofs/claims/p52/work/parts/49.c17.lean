/-! THE PURE SIDE 17: copies of rows and baths -/
section CI
variable {S : zS} {n p d : Nat} {a : Rw} {T : Int}
/-- one array of a bath from another bath -/
def zcp (S : zS) (p n o m : Nat) : zS := (fun k' n' o' j' => if k' = 0 ∧ n' = n ∧ o' = o ∧ j' < m then S.1 0 p o j' else S.1 k' n' o' j', S.2)
theorem zcp_ne {o m o' j' : Nat} (h : o' = o → m ≤ j') : (zcp S p n o m).1 0 n o' j' = S.1 0 n o' j' := if_neg (fun e => by have := h e.2.2.1; omega)
theorem zcp_eq {o m j : Nat} (h : j < m) : (zcp S p n o m).1 0 n o j = S.1 0 p o j := if_pos ⟨rfl, rfl, rfl, h⟩
theorem zcp_p {o m o' j' : Nat} (h : p ≠ n) : (zcp S p n o m).1 0 p o' j' = S.1 0 p o' j' := if_neg (fun e => h e.2.1)
theorem zs_p {o j o' j' : Nat} {v : Int32} (h : p ≠ n) : (zs_set S 0 n o j v).1 0 p o' j' = S.1 0 p o' j' := by rw [zs_at, if_neg (fun e => h e.2.1)]
theorem Fc_cp {S S' : zS} (h : Fc n S S') (p o m : Nat) : Fc n S (zcp S' p n o m) := by
  refine ⟨h.1, fun k m2 o2 i a b => ?_⟩
  show (if k = 0 ∧ m2 = n ∧ o2 = o ∧ i < m then S'.1 0 p o i else S'.1 k m2 o2 i) = _
  rw [if_neg (by omega)]
  exact h.2 k m2 o2 i a b

set_option maxRecDepth 100000 in
theorem c66s : zr_sem zF (d + 1) 66 [za 0 n 7, za 0 p 7] S = some (.inl none, zcp S p n 8 100) := by
  rw [ze_66s]
  have e : (zo 0 = 0 ∧ zo 0 = 0 ∧ (0 : Int32) ≤ zmin (zo 100) (zo 100) ∧ zmin (zo 100) (zo 100) ≤ Int32.ofNat 100 ∧ zmin (zo 100) (zo 100) ≤ Int32.ofNat 100) := by decide
  show (if (zo 0 = 0 ∧ zo 0 = 0 ∧ (0 : Int32) ≤ zmin (zo 100) (zo 100) ∧ zmin (zo 100) (zo 100) ≤ Int32.ofNat 100 ∧ zmin (zo 100) (zo 100) ≤ Int32.ofNat 100) then (fun S1 : zS => (some (.inl none, S1) : Option zO)) ((fun k' n' o' j' => if k' = 0 ∧ n' = n ∧ o' = 8 ∧ j' < (zmin (zo 100) (zo 100)).toNatClampNeg then S.1 0 p 8 j' else S.1 k' n' o' j', S.2) : zS) else none) = _
  rw [if_pos e]; rfl
set_option maxRecDepth 100000 in
theorem c66o : zr_sem zF (d + 1) 66 [za 0 n 9, za 0 p 9] S = some (.inl none, zcp S p n 10 100) := by
  rw [ze_66o]
  have e : (zo 0 = 0 ∧ zo 0 = 0 ∧ (0 : Int32) ≤ zmin (zo 100) (zo 100) ∧ zmin (zo 100) (zo 100) ≤ Int32.ofNat 100 ∧ zmin (zo 100) (zo 100) ≤ Int32.ofNat 100) := by decide
  show (if (zo 0 = 0 ∧ zo 0 = 0 ∧ (0 : Int32) ≤ zmin (zo 100) (zo 100) ∧ zmin (zo 100) (zo 100) ≤ Int32.ofNat 100 ∧ zmin (zo 100) (zo 100) ≤ Int32.ofNat 100) then (fun S1 : zS => (some (.inl none, S1) : Option zO)) ((fun k' n' o' j' => if k' = 0 ∧ n' = n ∧ o' = 10 ∧ j' < (zmin (zo 100) (zo 100)).toNatClampNeg then S.1 0 p 10 j' else S.1 k' n' o' j', S.2) : zS) else none) = _
  rw [if_pos e]; rfl
set_option maxRecDepth 100000 in
theorem c66e : zr_sem zF (d + 1) 66 [za 0 n 11, za 0 p 11] S = some (.inl none, zcp S p n 12 12) := by
  rw [ze_66e]
  have e : (zo 0 = 0 ∧ zo 0 = 0 ∧ (0 : Int32) ≤ zmin (zo 12) (zo 12) ∧ zmin (zo 12) (zo 12) ≤ Int32.ofNat 12 ∧ zmin (zo 12) (zo 12) ≤ Int32.ofNat 12) := by decide
  show (if (zo 0 = 0 ∧ zo 0 = 0 ∧ (0 : Int32) ≤ zmin (zo 12) (zo 12) ∧ zmin (zo 12) (zo 12) ≤ Int32.ofNat 12 ∧ zmin (zo 12) (zo 12) ≤ Int32.ofNat 12) then (fun S1 : zS => (some (.inl none, S1) : Option zO)) ((fun k' n' o' j' => if k' = 0 ∧ n' = n ∧ o' = 12 ∧ j' < (zmin (zo 12) (zo 12)).toNatClampNeg then S.1 0 p 12 j' else S.1 k' n' o' j', S.2) : zS) else none) = _
  rw [if_pos e]; rfl
set_option maxRecDepth 100000 in
theorem c69b : zr_sem zF (d + 1) 69 [za 0 n 1, za 0 p 1] S = some (.inl none, zcp S p n 2 132) := by
  rw [ze_69b]
  have e : (zo 0 = 0 ∧ zo 0 = 0 ∧ (0 : Int32) ≤ zmin (zo 132) (zo 132) ∧ zmin (zo 132) (zo 132) ≤ Int32.ofNat 132 ∧ zmin (zo 132) (zo 132) ≤ Int32.ofNat 132) := by decide
  show (if (zo 0 = 0 ∧ zo 0 = 0 ∧ (0 : Int32) ≤ zmin (zo 132) (zo 132) ∧ zmin (zo 132) (zo 132) ≤ Int32.ofNat 132 ∧ zmin (zo 132) (zo 132) ≤ Int32.ofNat 132) then (fun S1 : zS => (some (.inl none, S1) : Option zO)) ((fun k' n' o' j' => if k' = 0 ∧ n' = n ∧ o' = 2 ∧ j' < (zmin (zo 132) (zo 132)).toNatClampNeg then S.1 0 p 2 j' else S.1 k' n' o' j', S.2) : zS) else none) = _
  rw [if_pos e]; rfl
set_option maxRecDepth 100000 in
theorem c69d : zr_sem zF (d + 1) 69 [za 0 n 3, za 0 p 3] S = some (.inl none, zcp S p n 4 30) := by
  rw [ze_69d]
  have e : (zo 0 = 0 ∧ zo 0 = 0 ∧ (0 : Int32) ≤ zmin (zo 30) (zo 30) ∧ zmin (zo 30) (zo 30) ≤ Int32.ofNat 30 ∧ zmin (zo 30) (zo 30) ≤ Int32.ofNat 30) := by decide
  show (if (zo 0 = 0 ∧ zo 0 = 0 ∧ (0 : Int32) ≤ zmin (zo 30) (zo 30) ∧ zmin (zo 30) (zo 30) ≤ Int32.ofNat 30 ∧ zmin (zo 30) (zo 30) ≤ Int32.ofNat 30) then (fun S1 : zS => (some (.inl none, S1) : Option zO)) ((fun k' n' o' j' => if k' = 0 ∧ n' = n ∧ o' = 4 ∧ j' < (zmin (zo 30) (zo 30)).toNatClampNeg then S.1 0 p 4 j' else S.1 k' n' o' j', S.2) : zS) else none) = _
  rw [if_pos e]; rfl
set_option maxRecDepth 100000 in
theorem c69t : zr_sem zF (d + 1) 69 [za 0 n 5, za 0 p 5] S = some (.inl none, zcp S p n 6 15) := by
  rw [ze_69t]
  have e : (zo 0 = 0 ∧ zo 0 = 0 ∧ (0 : Int32) ≤ zmin (zo 15) (zo 15) ∧ zmin (zo 15) (zo 15) ≤ Int32.ofNat 15 ∧ zmin (zo 15) (zo 15) ≤ Int32.ofNat 15) := by decide
  show (if (zo 0 = 0 ∧ zo 0 = 0 ∧ (0 : Int32) ≤ zmin (zo 15) (zo 15) ∧ zmin (zo 15) (zo 15) ≤ Int32.ofNat 15 ∧ zmin (zo 15) (zo 15) ≤ Int32.ofNat 15) then (fun S1 : zS => (some (.inl none, S1) : Option zO)) ((fun k' n' o' j' => if k' = 0 ∧ n' = n ∧ o' = 6 ∧ j' < (zmin (zo 15) (zo 15)).toNatClampNeg then S.1 0 p 6 j' else S.1 k' n' o' j', S.2) : zS) else none) = _
  rw [if_pos e]; rfl
theorem c1 (hp : p ≠ n) : ∃ S', zr_sem zF (d + 2) 1 [za 0 n 0, za 0 p 0] S = some (.inl none, S') ∧ (∀ a T, Cb (S.1 0 p) a → WF T a → CbF (S.1 0 n) → Cb (S'.1 0 n) a) ∧ Fc n S S' := by
  rw [ze_1]
  simp (disch := omega) only [c69b, c69d, c69t, c66s, c66o, c66e, zr0, zs_p, zcp_p]
  refine ⟨_, rfl, fun a T h hw hF => ?_, ?_⟩
  · obtain ⟨f1, f2, f3, f4, f5, f6⟩ := hF
    obtain ⟨-, ⟨n6, n7, n8, n9, n10, n11, n12, n13, n14, n15⟩, hD, hT, hB, hS, hOc, hE⟩ := h
    have uN := WF_nc hw
    have u := hw.1.2.2.2.2.2.2.2
    refine ⟨⟨?_, ?_, ?_, ?_, ?_, ?_⟩, ⟨?_, ?_, ?_, ?_, ?_, ?_, ?_, ?_, ?_, ?_⟩, fun k hd => ?_, fun k hd => ?_, fun k hd => ?_, fun c hd => ?_, fun c hd => ?_, ?_, fun i hi => ?_⟩
    iterate 16 (simp (maxSteps := 1000000) (disch := omega) only [zs_ne, zs_eq, zs_p, zcp_ne, zcp_eq, zcp_p, *])
    · have g := hD k hd
      simp (maxSteps := 1000000) (disch := omega) only [zs_ne, zs_eq, zs_p, zcp_ne, zcp_eq, zcp_p]
      exact g
    · have g := hT k hd
      simp (maxSteps := 1000000) (disch := omega) only [zs_ne, zs_eq, zs_p, zcp_ne, zcp_eq, zcp_p]
      exact g
    · have g := hB k hd
      simp (maxSteps := 1000000) (disch := omega) only [zs_ne, zs_eq, zs_p, zcp_ne, zcp_eq, zcp_p]
      exact g
    · have g := hS c hd
      simp (maxSteps := 1000000) (disch := omega) only [zs_ne, zs_eq, zs_p, zcp_ne, zcp_eq, zcp_p]
      exact g
    · have g := hOc c hd
      simp (maxSteps := 1000000) (disch := omega) only [zs_ne, zs_eq, zs_p, zcp_ne, zcp_eq, zcp_p]
      exact g
    · have g := hE.1
      simp (maxSteps := 1000000) (disch := omega) only [zs_ne, zs_eq, zs_p, zcp_ne, zcp_eq, zcp_p]
      exact g
    · obtain ⟨b, g1, g2, g3, g4⟩ := hE.2 i hi
      have l : nen a ≤ 1 * ((a 9).toNat : Int) := zsum_le _ 1 _ (fun i _ => by split <;> omega)
      refine ⟨b, g1, g2, g3, ?_⟩
      simp (maxSteps := 1000000) (disch := omega) only [zs_ne, zs_eq, zs_p, zcp_ne, zcp_eq, zcp_p]
      exact g4
  · refine Fc_set (Fc_set (Fc_set (Fc_set (Fc_set (Fc_set (Fc_set (Fc_set (Fc_set (Fc_set (Fc_set ?_ _ _ _) _ _ _) _ _ _) _ _ _) _ _ _) _ _ _) _ _ _) _ _ _) _ _ _) _ _ _) _ _ _
    exact Fc_cp (Fc_cp (Fc_cp (Fc_cp (Fc_cp (Fc_cp (Fc_refl n S) _ _ _) _ _ _) _ _ _) _ _ _) _ _ _) _ _ _
theorem c42 {x : Nat} (hx : x < 10) : zr_sem zF (d + 1) 42 [za 1 0 1, zi (zo x)] S = some (.inl (some (za 0 (4 + x) 0)), S) := by
  rw [ze_42]
  simp (maxSteps := 10000000) (disch := omega) only [Int.toNat_natCast, zo_add, zo_sub, zo_mul, zo_neg, zo_lt, zo_le, zo_eq, zo_nn, zin_ok, zlt_eq, zr0, zr1, zr3, zr4, zr0x, zr1x, zr3x, zr4x, zb_and, zb_0, zmin_o, zmax_o, zabs_o, zo_div, zo_mod, ↓reduceIte, Int.reduceToNat, Int.reduceNeg, Int.reduceAdd, Int.reduceMul, Int.reduceSub, Int.reduceEq, Int.reduceLT, Int.reduceLE, if_true, if_false, Nat.reduceAdd, Nat.reduceMul]
  rw [if_neg (by omega), if_neg (by omega)]
theorem ze_43 (h : zr_sem zF d 42 [za 1 0 1, zi (S.1 1 0 1 1)] S = some (.inl (some (za 0 p 0)), S)) : zr_sem zF (d + 1) 43 [za 1 0 1, za 0 n 0] S = zx_ret0 (zr_sem zF d 1 [za 0 p 0, za 0 n 0] S) (fun S1 => some (.inl none, zs_set (zs_set S1 1 0 1 1 ((S1.1 1 0 1 1 + zo 1) - (S1.1 1 0 1 1 + zo 1) / zo 10 * zo 10)) 1 0 1 2 (zmin ((zs_set S1 1 0 1 1 ((S1.1 1 0 1 1 + zo 1) - (S1.1 1 0 1 1 + zo 1) / zo 10 * zo 10)).1 1 0 1 2 + zo 1) (zo 10)))) zxx := by
  rw [zr_y (lv := [some (za 1 0 1), some (za 0 n 0), none]) rfl rfl]
  show zx_ret5 (zr_sem zF d 42 [za 1 0 1, zi (S.1 1 0 1 1)] S) _ _ = _
  rw [h]; rfl
theorem ze_44 (h : zr_sem zF d 42 [za 1 0 1, zi ((S.1 1 0 1 1 + zo 10 - zo 1) - (S.1 1 0 1 1 + zo 10 - zo 1) / zo 10 * zo 10)] S = some (.inl (some (za 0 p 0)), S)) : zr_sem zF (d + 1) 44 [za 1 0 1, za 0 n 0] S = if S.1 1 0 1 2 = zo 0 then some (.inl (some (zi (zo 0))), S) else zx_ret0 (zr_sem zF d 1 [za 0 n 0, za 0 p 0] S) (fun S1 => some (.inl (some (zi (zo 1))), zs_set (zs_set S1 1 0 1 1 ((S.1 1 0 1 1 + zo 10 - zo 1) - (S.1 1 0 1 1 + zo 10 - zo 1) / zo 10 * zo 10)) 1 0 1 2 ((zs_set S1 1 0 1 1 ((S.1 1 0 1 1 + zo 10 - zo 1) - (S.1 1 0 1 1 + zo 10 - zo 1) / zo 10 * zo 10)).1 1 0 1 2 - zo 1))) zxx := by
  rw [zr_y (lv := [some (za 1 0 1), some (za 0 n 0), none, none]) rfl rfl]
  show zx_ret5 (zr_sem zF d 42 [za 1 0 1, zi ((S.1 1 0 1 1 + zo 10 - zo 1) - (S.1 1 0 1 1 + zo 10 - zo 1) / zo 10 * zo 10)] S) _ _ = _
  rw [h]; rfl
end CI

/-! THE LAW'S PURE SIDE 47: a bath is drawn: the row that its text is read as -/
section DR
variable {a : Rw} {c h r w s v Tm wd hg : Int} {xs : List Int32} {N c0 j : Nat} {W : List Int}
theorem frB_iff : frB a c = true ↔ (∀ k : Nat, k < (a 7).toNat → a (10 + 4 * k) ≠ c) ∧ (∀ k : Nat, k < (a 8).toNat → a (30 + 2 * k) ≠ c) := by
  unfold frB
  rw [Bool.and_eq_true, decide_eq_true_eq, decide_eq_true_eq]
  have d : drIn a c = -1 ↔ ∀ k : Nat, k < (a 7).toNat → a (10 + 4 * k) ≠ c := by
    constructor
    · intro e k hk
      exact of_decide_eq_false (zfst_none _ _ 0 e k (Nat.zero_le _) (by omega))
    · intro e
      exact zfst_isnone _ _ (fun i hi => decide_eq_false (e i hi))
  have t : tpIn a c = -1 ↔ ∀ k : Nat, k < (a 8).toNat → a (30 + 2 * k) ≠ c := by
    constructor
    · intro e k hk
      exact of_decide_eq_false (zfst_none _ _ 0 e k (Nat.zero_le _) (by omega))
    · intro e
      exact zfst_isnone _ _ (fun i hi => decide_eq_false (e i hi))
  rw [d, t]
theorem ndR_7 : ndR a c h r 7 = a 7 + 1 := up_self _ _ _
theorem ntR_8 : ntR a c r 8 = a 8 + 1 := up_self _ _ _
theorem ndR_o {i : Nat} (h0 : i ≠ 7) (h1 : i < 10 + 4 * (a 7).toNat ∨ 14 + 4 * (a 7).toNat ≤ i) : ndR a c h r i = a i := by
  unfold ndR
  rw [up_ne _ _ h0, up_ne _ _ (by omega), up_ne _ _ (by omega), up_ne _ _ (by omega), up_ne _ _ (by omega)]
theorem ntR_o {i : Nat} (h0 : i ≠ 8) (h1 : i < 30 + 2 * (a 8).toNat ∨ 32 + 2 * (a 8).toNat ≤ i) : ntR a c r i = a i := by
  unfold ntR
  rw [up_ne _ _ h0, up_ne _ _ (by omega), up_ne _ _ (by omega)]
theorem ndR_c (h7 : 0 ≤ a 7) : ndR a c h r (10 + 4 * (a 7).toNat) = c ∧ ndR a c h r (10 + 4 * (a 7).toNat + 3) = 0 := by
  unfold ndR
  refine ⟨?_, ?_⟩
  · rw [up_ne _ _ (by omega), up_ne _ _ (by omega), up_ne _ _ (by omega), up_ne _ _ (by omega), up_self]
  · rw [up_ne _ _ (by omega), up_self]
theorem ntR_c (h8 : 0 ≤ a 8) : ntR a c r (30 + 2 * (a 8).toNat) = c := by
  unfold ntR
  rw [up_ne _ _ (by omega), up_ne _ _ (by omega), up_self]
theorem frB_nd {x : Int} (h7 : 0 ≤ a 7 ∧ a 7 < 5) (h8 : 0 ≤ a 8 ∧ a 8 ≤ 5) : frB (ndR a c h r) x = true ↔ frB a x = true ∧ c ≠ x := by
  rw [frB_iff, frB_iff, ndR_7, ndR_o (i := 8) (by omega) (by omega), show (a 7 + 1).toNat = (a 7).toNat + 1 by omega]
  obtain ⟨e, -⟩ := ndR_c (a := a) (c := c) (h := h) (r := r) h7.1
  constructor
  · intro ⟨g1, g2⟩
    refine ⟨⟨fun k hk => ?_, fun k hk => ?_⟩, ?_⟩
    · have := g1 k (by omega)
      rw [ndR_o (by omega) (by omega)] at this
      exact this
    · have := g2 k hk
      rw [ndR_o (by omega) (by omega)] at this
      exact this
    · have := g1 (a 7).toNat (by omega)
      rw [e] at this
      exact this
  · intro ⟨⟨g1, g2⟩, g3⟩
    refine ⟨fun k hk => ?_, fun k hk => ?_⟩
    · by_cases z : k = (a 7).toNat
      · rw [z, e]; exact g3
      · rw [ndR_o (by omega) (by omega)]
        exact g1 k (by omega)
    · rw [ndR_o (by omega) (by omega)]
      exact g2 k hk
theorem frB_nt {x : Int} (h7 : 0 ≤ a 7 ∧ a 7 ≤ 5) (h8 : 0 ≤ a 8 ∧ a 8 < 5) : frB (ntR a c r) x = true ↔ frB a x = true ∧ c ≠ x := by
  rw [frB_iff, frB_iff, ntR_8, ntR_o (i := 7) (by omega) (by omega), show (a 8 + 1).toNat = (a 8).toNat + 1 by omega]
  have e := ntR_c (a := a) (c := c) (r := r) h8.1
  constructor
  · intro ⟨g1, g2⟩
    refine ⟨⟨fun k hk => ?_, fun k hk => ?_⟩, ?_⟩
    · have := g1 k hk
      rw [ntR_o (by omega) (by omega)] at this
      exact this
    · have := g2 k (by omega)
      rw [ntR_o (by omega) (by omega)] at this
      exact this
    · have := g2 (a 8).toNat (by omega)
      rw [e] at this
      exact this
  · intro ⟨⟨g1, g2⟩, g3⟩
    refine ⟨fun k hk => ?_, fun k hk => ?_⟩
    · rw [ntR_o (by omega) (by omega)]
      exact g1 k hk
    · by_cases z : k = (a 8).toNat
      · rw [z, e]; exact g3
      · rw [ntR_o (by omega) (by omega)]
        exact g2 k (by omega)
/-- what is taken by drains and taps -/
def TK (a : Rw) (xs : List Int32) (N : Nat) : Prop := xs.length = N ∧ ∀ c : Nat, c < N → (xs.getD c 0 = zo 0 ↔ frB a (c : Int) = true)
theorem setD {c1 : Nat} (h0 : c0 < xs.length) : (xs.set c0 1).getD c1 0 = if c1 = c0 then 1 else xs.getD c1 0 := by
  rw [List.getD_eq_getElem?_getD, List.getD_eq_getElem?_getD]
  by_cases e : c1 = c0
  · subst e
    rw [if_pos rfl, List.getElem?_set_self h0]
    rfl
  · rw [if_neg e, List.getElem?_set_ne (fun z => e z.symm)]
theorem TK_set {a2 : Rw} (hT : TK a xs N) (h0 : c0 < N) (hf : ∀ x : Int, frB a2 x = true ↔ frB a x = true ∧ (c0 : Int) ≠ x) : TK a2 (xs.set c0 1) N := by
  refine ⟨by rw [List.length_set]; exact hT.1, fun c1 hc => ?_⟩
  rw [setD (by rw [hT.1]; exact h0), hf]
  by_cases e : c1 = c0
  · rw [if_pos e]
    constructor
    · intro z; exact absurd z (by decide)
    · intro z; exact absurd (by omega) z.2
  · rw [if_neg e, hT.2 c1 hc]
    constructor
    · intro z; exact ⟨z, by omega⟩
    · intro z; exact z.1
theorem TK_free (hT : TK a xs N) (h7 : 0 ≤ a 7) (h8 : 0 ≤ a 8) (hN : a 7 + a 8 < N) : ∃ c0, c0 < N ∧ xs.getD c0 0 = zo 0 := by
  by_cases e : ∃ c0, c0 < N ∧ xs.getD c0 0 = zo 0
  · exact e
  · have al : ∀ c0, c0 < N → ¬ frB a (c0 : Int) = true := fun c0 h z => e ⟨c0, h, (hT.2 c0 h).mpr z⟩
    have s1 : ∀ c0, c0 < N → (1 : Int) ≤ zsum (fun k => if a (10 + 4 * k) = (c0 : Int) then 1 else 0) (a 7).toNat + zsum (fun k => if a (30 + 2 * k) = (c0 : Int) then 1 else 0) (a 8).toNat := by
      intro c0 h
      have p1 : 0 ≤ zsum (fun k => if a (10 + 4 * k) = (c0 : Int) then 1 else 0) (a 7).toNat := zsum_ge _ _ (fun i _ => by split <;> omega)
      have p2 : 0 ≤ zsum (fun k => if a (30 + 2 * k) = (c0 : Int) then 1 else 0) (a 8).toNat := zsum_ge _ _ (fun i _ => by split <;> omega)
      by_cases z : 1 ≤ zsum (fun k => if a (10 + 4 * k) = (c0 : Int) then 1 else 0) (a 7).toNat + zsum (fun k => if a (30 + 2 * k) = (c0 : Int) then 1 else 0) (a 8).toNat
      · exact z
      · have g : ∀ (f : Nat → Int) (n : Nat), (∀ i, i < n → 0 ≤ f i) → zsum f n ≤ 0 → ∀ i, i < n → f i ≤ 0 := by
          intro f n
          induction n with
          | zero => intro _ _ i hi; omega
          | succ n ih =>
            intro h1 h2 i hi
            have h2 : zsum f n + f n ≤ 0 := h2
            have q1 := zsum_ge f n (fun i hi => h1 i (by omega))
            have q2 := h1 n (by omega)
            by_cases ei : i = n
            · rw [ei]; omega
            · exact ih (fun i hi => h1 i (by omega)) (by omega) i (by omega)
        refine absurd (frB_iff.mpr ⟨fun k hk e2 => ?_, fun k hk e2 => ?_⟩) (al c0 h)
        · have := g _ _ (fun i _ => by split <;> omega) (show zsum (fun k => if a (10 + 4 * k) = (c0 : Int) then 1 else 0) (a 7).toNat ≤ 0 by omega) k hk
          rw [if_pos e2] at this
          omega
        · have := g _ _ (fun i _ => by split <;> omega) (show zsum (fun k => if a (30 + 2 * k) = (c0 : Int) then 1 else 0) (a 8).toNat ≤ 0 by omega) k hk
          rw [if_pos e2] at this
          omega
    have one : ∀ (z : Int), zsum (fun c0 : Nat => if z = (c0 : Int) then 1 else 0) N ≤ 1 := by
      intro z
      by_cases hz : 0 ≤ z ∧ z < N
      · rw [zsum_one (b := z.toNat) (by omega) (fun i hi hn => if_neg (by omega))]
        split <;> omega
      · rw [zsum_congr (g := fun _ => 0) N (fun i hi => if_neg (by omega)), zsum_0]
        omega
    have t1 := zsum_mono (f := fun _ => (1 : Int)) N s1
    rw [zsum_add, zsum_swap (fun (c0 : Nat) k => if a (10 + 4 * k) = (c0 : Int) then (1 : Int) else 0), zsum_swap (fun (c0 : Nat) k => if a (30 + 2 * k) = (c0 : Int) then (1 : Int) else 0)] at t1
    have t2 := zsum_le _ 1 (a 7).toNat (fun i _ => one (a (10 + 4 * i)))
    have t3 := zsum_le _ 1 (a 8).toNat (fun i _ => one (a (30 + 2 * i)))
    have t4 : zsum (fun _ => (1 : Int)) N = N := by
      clear hT al s1 one t1 t2 t3 e hN
      induction N with
      | zero => rfl
      | succ n ih => show zsum _ n + 1 = _; omega
    omega
/-- the text so far, and its row -/
def DW (wd hg : Int) (W : List Int) (a : Rw) (j : Nat) : Prop := PR j W a ∧ WF 0 a ∧ a 0 = wd ∧ a 1 = hg
theorem DW_c (hD : DW wd hg W a j) {c : Nat} (hc : (c : Int) < wd * hg) : vC a ((c : Int) % wd) ((c : Int) / wd) ∧ a 0 * ((c : Int) / wd) + (c : Int) % wd = c := by
  obtain ⟨p1, p2, p3, p4⟩ := hD
  have := cellr p2 (c := (c : Int)) (by rw [p3, p4]; omega)
  rw [p3] at this
  rw [p3]
  exact this
theorem DW_D (hD : DW wd hg W a j) (hj : j < 700) {c : Nat} (hc : (c : Int) < wd * hg) (h7 : a 7 < 5) (hf : frB a (c : Int) = true) (hh : 1 ≤ h ∧ h ≤ 99) (hr : 0 ≤ r ∧ r ≤ 99) : DW wd hg (W ++ clD ((c : Int) % wd) ((c : Int) / wd) h r) (ndR a c h r) (j + 1) := by
  obtain ⟨v1, v2⟩ := DW_c hD hc
  obtain ⟨p1, p2, p3, p4⟩ := hD
  refine ⟨p1.step hj (fun tx n hA => ?_), WF_nd p2 h7 (by rw [p3, p4]; omega) hh hr, ?_, ?_⟩
  · have := RD_D hA v1 p2.1.1.2 p2.1.2.1.2 h7 (by rw [v2]; exact hf) hh hr
    rw [v2] at this
    exact this
  · rw [ndR_o (by omega) (by omega)]; exact p3
  · rw [ndR_o (by omega) (by omega)]; exact p4
theorem DW_T (hD : DW wd hg W a j) (hj : j < 700) {c : Nat} (hc : (c : Int) < wd * hg) (h8 : a 8 < 5) (hf : frB a (c : Int) = true) (hr : 0 ≤ r ∧ r ≤ 99) : DW wd hg (W ++ clT ((c : Int) % wd) ((c : Int) / wd) r) (ntR a c r) (j + 1) := by
  obtain ⟨v1, v2⟩ := DW_c hD hc
  obtain ⟨p1, p2, p3, p4⟩ := hD
  refine ⟨p1.step hj (fun tx n hA => ?_), WF_nt p2 h8 (by rw [p3, p4]; omega) hr, ?_, ?_⟩
  · have := RD_T hA v1 p2.1.1.2 p2.1.2.1.2 h8 (by rw [v2]; exact hf) hr
    rw [v2] at this
    exact this
  · rw [ntR_o (by omega) (by omega)]; exact p3
  · rw [ntR_o (by omega) (by omega)]; exact p4
theorem DW_B {wt : Option Int} (hD : DW wd hg W a j) (hj : j < 700) {c : Nat} (hc : (c : Int) < wd * hg) (h9 : a 9 < 12) (hf : occ a (c : Int) (-1) = -1) (hw : 1 ≤ w ∧ w ≤ 99) (hs : 1 ≤ s ∧ s ≤ 999) (ht : 0 ≤ wtV wt ∧ wtV wt ≤ s) : DW wd hg (W ++ clB ((c : Int) % wd) ((c : Int) / wd) w s wt) (nbR a c w s (wtV wt)) (j + 1) := by
  obtain ⟨v1, v2⟩ := DW_c hD hc
  obtain ⟨p1, p2, p3, p4⟩ := hD
  refine ⟨p1.step hj (fun tx n hA => ?_), WF_nb p2 h9 (by rw [p3, p4]; omega) hf hw hs ht, ?_, ?_⟩
  · have := RD_B hA v1 p2.1.1.2 p2.1.2.1.2 h9 (by rw [v2]; exact hf) hw hs ht
    rw [v2] at this
    exact this
  · rw [nbR_lo (by omega) (by omega)]; exact p3
  · rw [nbR_lo (by omega) (by omega)]; exact p4
theorem DW_S {x y : Int} (hD : DW wd hg W a j) (hj : j < 700) (hx : 0 ≤ x ∧ x < wd) (hy : 0 ≤ y ∧ y < hg) (hv : 1 ≤ v ∧ v ≤ 99) : DW wd hg (W ++ clS x y v) (up a (160 + (a 0 * y + x).toNat) v) (j + 1) := by
  obtain ⟨p1, p2, p3, p4⟩ := hD
  have vc : vC a x y := ⟨by omega, by omega⟩
  have l := cel_lt vc
  refine ⟨p1.step hj (fun tx n hA => RD_S hA vc p2.1.1.2 p2.1.2.1.2 hv), WF_soapF p2 (fun i hi => up_ne _ _ (by omega)) (fun c hc => ?_), ?_, ?_⟩
  · by_cases e : c = (a 0 * y + x).toNat
    · subst e
      rw [up_self]
      omega
    · rw [up_ne _ _ (by omega)]
      exact p2.2.2.2.2.1 c hc
  · rw [up_ne _ _ (by omega)]; exact p3
  · rw [up_ne _ _ (by omega)]; exact p4
end DR

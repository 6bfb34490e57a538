/-! THE PURE SIDE 12: the class's bath is written -/
theorem zs_ne {S : zS} {n o j o' j' : Nat} {v : Int32} (h : o' = o → j' ≠ j) : (zs_set S 0 n o j v).1 0 n o' j' = S.1 0 n o' j' := by
  rw [zs_at, if_neg (fun e => h e.2.2.1 e.2.2.2)]
theorem zs_eq {S : zS} {n o j : Nat} {v : Int32} : (zs_set S 0 n o j v).1 0 n o j = v := by
  rw [zs_at, if_pos ⟨rfl, rfl, rfl, rfl⟩]
theorem occ_cg {a a2 : Rw} (h9 : a2 9 = a 9) (h : ∀ k : Nat, (k : Int) < a 9 → a2 (40 + 10 * k) = a (40 + 10 * k) ∧ a2 (40 + 10 * k + 6) = a (40 + 10 * k + 6)) (c b : Int) : occ a2 c b = occ a c b := by
  unfold occ
  rw [h9]
  refine zfst_congr _ _ (fun i _ hi => ?_)
  have := h i (by omega)
  rw [this.1, this.2]
theorem nen_cg {a a2 : Rw} (h9 : a2 9 = a 9) (h : ∀ k : Nat, (k : Int) < a 9 → a2 (40 + 10 * k + 6) = a (40 + 10 * k + 6)) : nen a2 = nen a := by
  unfold nen
  rw [h9]
  refine zsum_congr _ (fun i hi => ?_)
  rw [h i (by omega)]
theorem rnk_cg {a a2 : Rw} (h9 : a2 9 = a 9) (h : ∀ k : Nat, (k : Int) < a 9 → a2 (40 + 10 * k + 6) = a (40 + 10 * k + 6) ∧ a2 (40 + 10 * k + 7) = a (40 + 10 * k + 7)) {b : Nat} (hb : (b : Int) < a 9) : rnk a2 b = rnk a b := by
  unfold rnk
  rw [h9]
  refine zsum_congr _ (fun i hi => ?_)
  rw [(h i (by omega)).1, (h i (by omega)).2, (h b hb).2]
/-- the bounds alone; and with the cells -/
def WB (T : Int) (a : Rw) : Prop := ((3 ≤ a 0 ∧ a 0 ≤ 10) ∧ (3 ≤ a 1 ∧ a 1 ≤ 10) ∧ (0 ≤ a 2 ∧ a 2 ≤ 1000) ∧ (0 ≤ a 3 ∧ a 3 ≤ 9) ∧ (-99 ≤ a 4 ∧ a 4 ≤ 99) ∧ (-99 ≤ a 5 ∧ a 5 ≤ 99) ∧ (0 ≤ a 6 ∧ a 6 ≤ T ∧ T ≤ 1000000) ∧ (0 ≤ a 7 ∧ a 7 ≤ 5) ∧ (0 ≤ a 8 ∧ a 8 ≤ 5) ∧ (0 ≤ a 9 ∧ a 9 ≤ 12))
def WE (T : Int) (a : Rw) : Prop := WB T a ∧ (∀ k : Nat, (k : Int) < a 9 → 0 ≤ a (40 + 10 * k) ∧ a (40 + 10 * k) < a 0 * a 1) ∧ (∀ k l : Nat, (k : Int) < a 9 → (l : Int) < a 9 → a (40 + 10 * k + 6) = 0 → a (40 + 10 * l + 6) = 0 → a (40 + 10 * k) = a (40 + 10 * l) → k = l)
theorem WE_of {T : Int} {a : Rw} (hw : WF T a) : WE T a := ⟨hw.1, fun k hk => (hw.2.2.2.1 k hk).1, hw.2.2.2.2.2⟩
theorem WB_nc {T : Int} {a : Rw} (hw : WB T a) : 9 ≤ a 0 * a 1 ∧ a 0 * a 1 ≤ 100 := by
  have u0 := hw.1
  have u1 := hw.2.1
  have h1 : 3 * 3 ≤ a 0 * a 1 := Int.mul_le_mul u0.1 u1.1 (by omega) (by omega)
  have h2 : a 0 * a 1 ≤ 10 * 10 := Int.mul_le_mul u0.2 u1.2 (by omega) (by omega)
  omega
/-- the frame of the class's works on a bath -/
def Fc (n : Nat) (S S' : zS) : Prop := S'.2 = S.2 ∧ ∀ k m o j, ¬(k = 0 ∧ m = n) → ¬(k = 1 ∧ m = 0 ∧ ((o = 4 ∧ j ≠ 0) ∨ o = 6 ∨ o = 8 ∨ o = 11 ∨ o = 13)) → S'.1 k m o j = S.1 k m o j
theorem Fc_refl (n : Nat) (S : zS) : Fc n S S := ⟨rfl, fun _ _ _ _ _ _ => rfl⟩
theorem Fc_trans {n : Nat} {S S1 S2 : zS} (h1 : Fc n S S1) (h2 : Fc n S1 S2) : Fc n S S2 := ⟨h2.1.trans h1.1, fun k m o j a b => (h2.2 k m o j a b).trans (h1.2 k m o j a b)⟩
theorem Fc_set {n : Nat} {S S' : zS} (h : Fc n S S') (o j : Nat) (v : Int32) : Fc n S (zs_set S' 0 n o j v) := by
  refine ⟨h.1, fun k m o2 i a b => ?_⟩
  rw [zs_at, if_neg (by omega)]
  exact h.2 k m o2 i a b
theorem Fc_fl {n : Nat} {S S' : zS} (h : Fc n S S') (u v : UInt32) : Fc n S (zfl S' u v) := by
  refine ⟨h.1, fun k m o j a b => ?_⟩
  show (if k = 1 ∧ m = 0 ∧ o = 4 ∧ j = 1 then u.toInt32 else if k = 1 ∧ m = 0 ∧ o = 4 ∧ j = 2 then v.toInt32 else S'.1 k m o j) = _
  rw [if_neg (by omega), if_neg (by omega)]
  exact h.2 k m o j a b
section CC
variable {S : zS} {n d : Nat} {a a2 : Rw} {T v : Int} {B B2 : Nat → Nat → Int32}
theorem CbE_cg (h : CbE B a) (h16 : B2 0 16 = B 0 16) (h12 : ∀ j, B2 12 j = B 12 j) (h9 : a2 9 = a 9) (hk : ∀ k : Nat, (k : Int) < a 9 → a2 (40 + 10 * k + 6) = a (40 + 10 * k + 6) ∧ a2 (40 + 10 * k + 7) = a (40 + 10 * k + 7)) : CbE B2 a2 := by
  have e := nen_cg (a := a) (a2 := a2) h9 (fun k h => (hk k h).1)
  refine ⟨by rw [h16, e]; exact h.1, fun i hi => ?_⟩
  rw [e] at hi
  obtain ⟨b, g1, g2, g3, g4⟩ := h.2 i hi
  exact ⟨b, by rw [h9]; exact g1, by rw [(hk b g1).1]; exact g2, by rw [rnk_cg h9 hk g1]; exact g3, by rw [h12]; exact g4⟩
theorem tF (h : CbF B) (e : ∀ o, o = 1 ∨ o = 3 ∨ o = 5 ∨ o = 7 ∨ o = 9 ∨ o = 11 → B2 o 1 = B o 1) : CbF B2 := by
  obtain ⟨f1, f2, f3, f4, f5, f6⟩ := h
  exact ⟨by rw [e _ (by omega)]; exact f1, by rw [e _ (by omega)]; exact f2, by rw [e _ (by omega)]; exact f3, by rw [e _ (by omega)]; exact f4, by rw [e _ (by omega)]; exact f5, by rw [e _ (by omega)]; exact f6⟩
theorem tN (h : CbN B a) (e : ∀ j, 6 ≤ j → j ≤ 15 → B2 0 j = B 0 j) (ha : ∀ i, i < 10 → a2 i = a i) : CbN B2 a2 := by
  unfold CbN at h ⊢
  simp (disch := omega) only [e, ha]
  exact h
theorem tD (h : CbD B a) (hw : WB T a) (e : ∀ j, B2 4 j = B 4 j) (ha : ∀ i, i < 30 → (i = 0 ∨ i = 7 ∨ 10 ≤ i) → a2 i = a i) : CbD B2 a2 := by
  have u := hw.2.2.2.2.2.2.2
  intro k hk
  rw [ha 7 (by omega) (by omega)] at hk
  have g := h k hk
  simp (disch := omega) only [e, ha]
  exact g
theorem tT (h : CbT B a) (hw : WB T a) (e : ∀ j, B2 6 j = B 6 j) (ha : ∀ i, i < 40 → (i = 0 ∨ i = 8 ∨ 30 ≤ i) → a2 i = a i) : CbT B2 a2 := by
  have u := hw.2.2.2.2.2.2.2
  intro k hk
  rw [ha 8 (by omega) (by omega)] at hk
  have g := h k hk
  simp (disch := omega) only [e, ha]
  exact g
theorem tB (h : CbB B a) (hw : WB T a) (e : ∀ j, B2 2 j = B 2 j) (h0 : a2 0 = a 0) (h9 : a2 9 = a 9) (ha : ∀ i, 40 ≤ i → i < 160 → a2 i = a i) : CbB B2 a2 := by
  have u := hw.2.2.2.2.2.2.2.2.2
  intro k hk
  rw [h9] at hk
  have g := h k hk
  simp (disch := omega) only [e, ha, h0]
  exact g
theorem tS (h : CbS B a) (e : ∀ j, B2 8 j = B 8 j) (h0 : a2 0 = a 0) (h1 : a2 1 = a 1) (ha : ∀ i, 160 ≤ i → a2 i = a i) : CbS B2 a2 := by
  intro c hc
  rw [h0, h1] at hc
  rw [e, ha _ (by omega)]; exact h c hc
theorem tO (h : CbO B a) (e : ∀ j, B2 10 j = B 10 j) (h0 : a2 0 = a 0) (h1 : a2 1 = a 1) (h9 : a2 9 = a 9) (hk : ∀ k : Nat, (k : Int) < a 9 → a2 (40 + 10 * k) = a (40 + 10 * k) ∧ a2 (40 + 10 * k + 6) = a (40 + 10 * k + 6)) : CbO B2 a2 := by
  intro c hc
  rw [h0, h1] at hc
  rw [e, occ_cg h9 hk]; exact h c hc

theorem Cb_b3 (h : Cb (S.1 0 n) a) (hw : WF T a) {b : Nat} (hb : (b : Int) < a 9) : Cb ((zs_set S 0 n 2 (11 * b + 4) (zo v)).1 0 n) (up a (40 + 10 * b + 3) v) := by
  have u9 := hw.1.2.2.2.2.2.2.2.2.2
  refine ⟨tF h.1 (fun o _ => zs_ne (by omega)), tN h.2.1 (fun j _ _ => zs_ne (by omega)) (fun i hi => up_ne _ _ (by omega)), tD h.2.2.1 hw.1 (fun j => zs_ne (by omega)) (fun i hi _ => up_ne _ _ (by omega)), tT h.2.2.2.1 hw.1 (fun j => zs_ne (by omega)) (fun i hi _ => up_ne _ _ (by omega)), fun k hk => ?_, tS h.2.2.2.2.2.1 (fun j => zs_ne (by omega)) (up_ne _ _ (by omega)) (up_ne _ _ (by omega)) (fun i hi => up_ne _ _ (by omega)), tO h.2.2.2.2.2.2.1 (fun j => zs_ne (by omega)) (up_ne _ _ (by omega)) (up_ne _ _ (by omega)) (up_ne _ _ (by omega)) (fun k hk => ⟨up_ne _ _ (by omega), up_ne _ _ (by omega)⟩), CbE_cg h.2.2.2.2.2.2.2 (zs_ne (by omega)) (fun j => zs_ne (by omega)) (up_ne _ _ (by omega)) (fun k hk => ⟨up_ne _ _ (by omega), up_ne _ _ (by omega)⟩)⟩
  rw [up_ne _ _ (by omega)] at hk
  have g := h.2.2.2.2.1 k hk
  by_cases e : k = b
  · subst e
    simp (disch := omega) only [zs_ne, zs_eq, up_ne, up_self, g, and_self]
  · simp (disch := omega) only [zs_ne, up_ne, g, and_self]
theorem Cb_b4 (h : Cb (S.1 0 n) a) (hw : WF T a) {b : Nat} (hb : (b : Int) < a 9) : Cb ((zs_set S 0 n 2 (11 * b + 5) (zo v)).1 0 n) (up a (40 + 10 * b + 4) v) := by
  have u9 := hw.1.2.2.2.2.2.2.2.2.2
  refine ⟨tF h.1 (fun o _ => zs_ne (by omega)), tN h.2.1 (fun j _ _ => zs_ne (by omega)) (fun i hi => up_ne _ _ (by omega)), tD h.2.2.1 hw.1 (fun j => zs_ne (by omega)) (fun i hi _ => up_ne _ _ (by omega)), tT h.2.2.2.1 hw.1 (fun j => zs_ne (by omega)) (fun i hi _ => up_ne _ _ (by omega)), fun k hk => ?_, tS h.2.2.2.2.2.1 (fun j => zs_ne (by omega)) (up_ne _ _ (by omega)) (up_ne _ _ (by omega)) (fun i hi => up_ne _ _ (by omega)), tO h.2.2.2.2.2.2.1 (fun j => zs_ne (by omega)) (up_ne _ _ (by omega)) (up_ne _ _ (by omega)) (up_ne _ _ (by omega)) (fun k hk => ⟨up_ne _ _ (by omega), up_ne _ _ (by omega)⟩), CbE_cg h.2.2.2.2.2.2.2 (zs_ne (by omega)) (fun j => zs_ne (by omega)) (up_ne _ _ (by omega)) (fun k hk => ⟨up_ne _ _ (by omega), up_ne _ _ (by omega)⟩)⟩
  rw [up_ne _ _ (by omega)] at hk
  have g := h.2.2.2.2.1 k hk
  by_cases e : k = b
  · subst e
    simp (disch := omega) only [zs_ne, zs_eq, up_ne, up_self, g, and_self]
  · simp (disch := omega) only [zs_ne, up_ne, g, and_self]
theorem Cb_b5 (h : Cb (S.1 0 n) a) (hw : WF T a) {b : Nat} (hb : (b : Int) < a 9) : Cb ((zs_set S 0 n 2 (11 * b + 6) (zo v)).1 0 n) (up a (40 + 10 * b + 5) v) := by
  have u9 := hw.1.2.2.2.2.2.2.2.2.2
  refine ⟨tF h.1 (fun o _ => zs_ne (by omega)), tN h.2.1 (fun j _ _ => zs_ne (by omega)) (fun i hi => up_ne _ _ (by omega)), tD h.2.2.1 hw.1 (fun j => zs_ne (by omega)) (fun i hi _ => up_ne _ _ (by omega)), tT h.2.2.2.1 hw.1 (fun j => zs_ne (by omega)) (fun i hi _ => up_ne _ _ (by omega)), fun k hk => ?_, tS h.2.2.2.2.2.1 (fun j => zs_ne (by omega)) (up_ne _ _ (by omega)) (up_ne _ _ (by omega)) (fun i hi => up_ne _ _ (by omega)), tO h.2.2.2.2.2.2.1 (fun j => zs_ne (by omega)) (up_ne _ _ (by omega)) (up_ne _ _ (by omega)) (up_ne _ _ (by omega)) (fun k hk => ⟨up_ne _ _ (by omega), up_ne _ _ (by omega)⟩), CbE_cg h.2.2.2.2.2.2.2 (zs_ne (by omega)) (fun j => zs_ne (by omega)) (up_ne _ _ (by omega)) (fun k hk => ⟨up_ne _ _ (by omega), up_ne _ _ (by omega)⟩)⟩
  rw [up_ne _ _ (by omega)] at hk
  have g := h.2.2.2.2.1 k hk
  by_cases e : k = b
  · subst e
    simp (disch := omega) only [zs_ne, zs_eq, up_ne, up_self, g, and_self]
  · simp (disch := omega) only [zs_ne, up_ne, g, and_self]
theorem Cb_b8 (h : Cb (S.1 0 n) a) (hw : WF T a) {b : Nat} (hb : (b : Int) < a 9) : Cb ((zs_set S 0 n 2 (11 * b + 9) (zo v)).1 0 n) (up a (40 + 10 * b + 8) v) := by
  have u9 := hw.1.2.2.2.2.2.2.2.2.2
  refine ⟨tF h.1 (fun o _ => zs_ne (by omega)), tN h.2.1 (fun j _ _ => zs_ne (by omega)) (fun i hi => up_ne _ _ (by omega)), tD h.2.2.1 hw.1 (fun j => zs_ne (by omega)) (fun i hi _ => up_ne _ _ (by omega)), tT h.2.2.2.1 hw.1 (fun j => zs_ne (by omega)) (fun i hi _ => up_ne _ _ (by omega)), fun k hk => ?_, tS h.2.2.2.2.2.1 (fun j => zs_ne (by omega)) (up_ne _ _ (by omega)) (up_ne _ _ (by omega)) (fun i hi => up_ne _ _ (by omega)), tO h.2.2.2.2.2.2.1 (fun j => zs_ne (by omega)) (up_ne _ _ (by omega)) (up_ne _ _ (by omega)) (up_ne _ _ (by omega)) (fun k hk => ⟨up_ne _ _ (by omega), up_ne _ _ (by omega)⟩), CbE_cg h.2.2.2.2.2.2.2 (zs_ne (by omega)) (fun j => zs_ne (by omega)) (up_ne _ _ (by omega)) (fun k hk => ⟨up_ne _ _ (by omega), up_ne _ _ (by omega)⟩)⟩
  rw [up_ne _ _ (by omega)] at hk
  have g := h.2.2.2.2.1 k hk
  by_cases e : k = b
  · subst e
    simp (disch := omega) only [zs_ne, zs_eq, up_ne, up_self, g, and_self]
  · simp (disch := omega) only [zs_ne, up_ne, g, and_self]
theorem Cb_b9 (h : Cb (S.1 0 n) a) (hw : WF T a) {b : Nat} (hb : (b : Int) < a 9) : Cb ((zs_set S 0 n 2 (11 * b + 10) (zo v)).1 0 n) (up a (40 + 10 * b + 9) v) := by
  have u9 := hw.1.2.2.2.2.2.2.2.2.2
  refine ⟨tF h.1 (fun o _ => zs_ne (by omega)), tN h.2.1 (fun j _ _ => zs_ne (by omega)) (fun i hi => up_ne _ _ (by omega)), tD h.2.2.1 hw.1 (fun j => zs_ne (by omega)) (fun i hi _ => up_ne _ _ (by omega)), tT h.2.2.2.1 hw.1 (fun j => zs_ne (by omega)) (fun i hi _ => up_ne _ _ (by omega)), fun k hk => ?_, tS h.2.2.2.2.2.1 (fun j => zs_ne (by omega)) (up_ne _ _ (by omega)) (up_ne _ _ (by omega)) (fun i hi => up_ne _ _ (by omega)), tO h.2.2.2.2.2.2.1 (fun j => zs_ne (by omega)) (up_ne _ _ (by omega)) (up_ne _ _ (by omega)) (up_ne _ _ (by omega)) (fun k hk => ⟨up_ne _ _ (by omega), up_ne _ _ (by omega)⟩), CbE_cg h.2.2.2.2.2.2.2 (zs_ne (by omega)) (fun j => zs_ne (by omega)) (up_ne _ _ (by omega)) (fun k hk => ⟨up_ne _ _ (by omega), up_ne _ _ (by omega)⟩)⟩
  rw [up_ne _ _ (by omega)] at hk
  have g := h.2.2.2.2.1 k hk
  by_cases e : k = b
  · subst e
    simp (disch := omega) only [zs_ne, zs_eq, up_ne, up_self, g, and_self]
  · simp (disch := omega) only [zs_ne, up_ne, g, and_self]
theorem Cb_n2 (h : Cb (S.1 0 n) a) (hw : WF T a) : Cb ((zs_set S 0 n 0 8 (zo v)).1 0 n) (up a 2 v) := by
  have u9 := hw.1.2.2.2.2.2.2.2.2.2
  refine ⟨tF h.1 (fun o _ => zs_ne (by omega)), ?_, tD h.2.2.1 hw.1 (fun j => zs_ne (by omega)) (fun i hi _ => up_ne _ _ (by omega)), tT h.2.2.2.1 hw.1 (fun j => zs_ne (by omega)) (fun i hi _ => up_ne _ _ (by omega)), tB h.2.2.2.2.1 hw.1 (fun j => zs_ne (by omega)) (up_ne _ _ (by omega)) (up_ne _ _ (by omega)) (fun i hi _ => up_ne _ _ (by omega)), tS h.2.2.2.2.2.1 (fun j => zs_ne (by omega)) (up_ne _ _ (by omega)) (up_ne _ _ (by omega)) (fun i hi => up_ne _ _ (by omega)), tO h.2.2.2.2.2.2.1 (fun j => zs_ne (by omega)) (up_ne _ _ (by omega)) (up_ne _ _ (by omega)) (up_ne _ _ (by omega)) (fun k hk => ⟨up_ne _ _ (by omega), up_ne _ _ (by omega)⟩), CbE_cg h.2.2.2.2.2.2.2 (zs_ne (by omega)) (fun j => zs_ne (by omega)) (up_ne _ _ (by omega)) (fun k hk => ⟨up_ne _ _ (by omega), up_ne _ _ (by omega)⟩)⟩
  have g := h.2.1
  unfold CbN at g ⊢
  simp (disch := omega) only [zs_ne, zs_eq, up_ne, up_self, g, and_self]
theorem Cb_n3 (h : Cb (S.1 0 n) a) (hw : WF T a) : Cb ((zs_set S 0 n 0 9 (zo v)).1 0 n) (up a 3 v) := by
  have u9 := hw.1.2.2.2.2.2.2.2.2.2
  refine ⟨tF h.1 (fun o _ => zs_ne (by omega)), ?_, tD h.2.2.1 hw.1 (fun j => zs_ne (by omega)) (fun i hi _ => up_ne _ _ (by omega)), tT h.2.2.2.1 hw.1 (fun j => zs_ne (by omega)) (fun i hi _ => up_ne _ _ (by omega)), tB h.2.2.2.2.1 hw.1 (fun j => zs_ne (by omega)) (up_ne _ _ (by omega)) (up_ne _ _ (by omega)) (fun i hi _ => up_ne _ _ (by omega)), tS h.2.2.2.2.2.1 (fun j => zs_ne (by omega)) (up_ne _ _ (by omega)) (up_ne _ _ (by omega)) (fun i hi => up_ne _ _ (by omega)), tO h.2.2.2.2.2.2.1 (fun j => zs_ne (by omega)) (up_ne _ _ (by omega)) (up_ne _ _ (by omega)) (up_ne _ _ (by omega)) (fun k hk => ⟨up_ne _ _ (by omega), up_ne _ _ (by omega)⟩), CbE_cg h.2.2.2.2.2.2.2 (zs_ne (by omega)) (fun j => zs_ne (by omega)) (up_ne _ _ (by omega)) (fun k hk => ⟨up_ne _ _ (by omega), up_ne _ _ (by omega)⟩)⟩
  have g := h.2.1
  unfold CbN at g ⊢
  simp (disch := omega) only [zs_ne, zs_eq, up_ne, up_self, g, and_self]
theorem Cb_n4 (h : Cb (S.1 0 n) a) (hw : WF T a) : Cb ((zs_set S 0 n 0 10 (zo v)).1 0 n) (up a 4 v) := by
  have u9 := hw.1.2.2.2.2.2.2.2.2.2
  refine ⟨tF h.1 (fun o _ => zs_ne (by omega)), ?_, tD h.2.2.1 hw.1 (fun j => zs_ne (by omega)) (fun i hi _ => up_ne _ _ (by omega)), tT h.2.2.2.1 hw.1 (fun j => zs_ne (by omega)) (fun i hi _ => up_ne _ _ (by omega)), tB h.2.2.2.2.1 hw.1 (fun j => zs_ne (by omega)) (up_ne _ _ (by omega)) (up_ne _ _ (by omega)) (fun i hi _ => up_ne _ _ (by omega)), tS h.2.2.2.2.2.1 (fun j => zs_ne (by omega)) (up_ne _ _ (by omega)) (up_ne _ _ (by omega)) (fun i hi => up_ne _ _ (by omega)), tO h.2.2.2.2.2.2.1 (fun j => zs_ne (by omega)) (up_ne _ _ (by omega)) (up_ne _ _ (by omega)) (up_ne _ _ (by omega)) (fun k hk => ⟨up_ne _ _ (by omega), up_ne _ _ (by omega)⟩), CbE_cg h.2.2.2.2.2.2.2 (zs_ne (by omega)) (fun j => zs_ne (by omega)) (up_ne _ _ (by omega)) (fun k hk => ⟨up_ne _ _ (by omega), up_ne _ _ (by omega)⟩)⟩
  have g := h.2.1
  unfold CbN at g ⊢
  simp (disch := omega) only [zs_ne, zs_eq, up_ne, up_self, g, and_self]
theorem Cb_n5 (h : Cb (S.1 0 n) a) (hw : WF T a) : Cb ((zs_set S 0 n 0 11 (zo v)).1 0 n) (up a 5 v) := by
  have u9 := hw.1.2.2.2.2.2.2.2.2.2
  refine ⟨tF h.1 (fun o _ => zs_ne (by omega)), ?_, tD h.2.2.1 hw.1 (fun j => zs_ne (by omega)) (fun i hi _ => up_ne _ _ (by omega)), tT h.2.2.2.1 hw.1 (fun j => zs_ne (by omega)) (fun i hi _ => up_ne _ _ (by omega)), tB h.2.2.2.2.1 hw.1 (fun j => zs_ne (by omega)) (up_ne _ _ (by omega)) (up_ne _ _ (by omega)) (fun i hi _ => up_ne _ _ (by omega)), tS h.2.2.2.2.2.1 (fun j => zs_ne (by omega)) (up_ne _ _ (by omega)) (up_ne _ _ (by omega)) (fun i hi => up_ne _ _ (by omega)), tO h.2.2.2.2.2.2.1 (fun j => zs_ne (by omega)) (up_ne _ _ (by omega)) (up_ne _ _ (by omega)) (up_ne _ _ (by omega)) (fun k hk => ⟨up_ne _ _ (by omega), up_ne _ _ (by omega)⟩), CbE_cg h.2.2.2.2.2.2.2 (zs_ne (by omega)) (fun j => zs_ne (by omega)) (up_ne _ _ (by omega)) (fun k hk => ⟨up_ne _ _ (by omega), up_ne _ _ (by omega)⟩)⟩
  have g := h.2.1
  unfold CbN at g ⊢
  simp (disch := omega) only [zs_ne, zs_eq, up_ne, up_self, g, and_self]
theorem Cb_n6 (h : Cb (S.1 0 n) a) (hw : WF T a) : Cb ((zs_set S 0 n 0 12 (zo v)).1 0 n) (up a 6 v) := by
  have u9 := hw.1.2.2.2.2.2.2.2.2.2
  refine ⟨tF h.1 (fun o _ => zs_ne (by omega)), ?_, tD h.2.2.1 hw.1 (fun j => zs_ne (by omega)) (fun i hi _ => up_ne _ _ (by omega)), tT h.2.2.2.1 hw.1 (fun j => zs_ne (by omega)) (fun i hi _ => up_ne _ _ (by omega)), tB h.2.2.2.2.1 hw.1 (fun j => zs_ne (by omega)) (up_ne _ _ (by omega)) (up_ne _ _ (by omega)) (fun i hi _ => up_ne _ _ (by omega)), tS h.2.2.2.2.2.1 (fun j => zs_ne (by omega)) (up_ne _ _ (by omega)) (up_ne _ _ (by omega)) (fun i hi => up_ne _ _ (by omega)), tO h.2.2.2.2.2.2.1 (fun j => zs_ne (by omega)) (up_ne _ _ (by omega)) (up_ne _ _ (by omega)) (up_ne _ _ (by omega)) (fun k hk => ⟨up_ne _ _ (by omega), up_ne _ _ (by omega)⟩), CbE_cg h.2.2.2.2.2.2.2 (zs_ne (by omega)) (fun j => zs_ne (by omega)) (up_ne _ _ (by omega)) (fun k hk => ⟨up_ne _ _ (by omega), up_ne _ _ (by omega)⟩)⟩
  have g := h.2.1
  unfold CbN at g ⊢
  simp (disch := omega) only [zs_ne, zs_eq, up_ne, up_self, g, and_self]
theorem Cb_d2 (h : Cb (S.1 0 n) a) (hw : WF T a) {b : Nat} (hb : (b : Int) < a 7) : Cb ((zs_set S 0 n 4 (6 * b + 3) (zo v)).1 0 n) (up a (10 + 4 * b + 2) v) := by
  have u9 := hw.1.2.2.2.2.2.2.2
  refine ⟨tF h.1 (fun o _ => zs_ne (by omega)), tN h.2.1 (fun j _ _ => zs_ne (by omega)) (fun i hi => up_ne _ _ (by omega)), fun k hk => ?_, tT h.2.2.2.1 hw.1 (fun j => zs_ne (by omega)) (fun i hi _ => up_ne _ _ (by omega)), tB h.2.2.2.2.1 hw.1 (fun j => zs_ne (by omega)) (up_ne _ _ (by omega)) (up_ne _ _ (by omega)) (fun i hi _ => up_ne _ _ (by omega)), tS h.2.2.2.2.2.1 (fun j => zs_ne (by omega)) (up_ne _ _ (by omega)) (up_ne _ _ (by omega)) (fun i hi => up_ne _ _ (by omega)), tO h.2.2.2.2.2.2.1 (fun j => zs_ne (by omega)) (up_ne _ _ (by omega)) (up_ne _ _ (by omega)) (up_ne _ _ (by omega)) (fun k hk => ⟨up_ne _ _ (by omega), up_ne _ _ (by omega)⟩), CbE_cg h.2.2.2.2.2.2.2 (zs_ne (by omega)) (fun j => zs_ne (by omega)) (up_ne _ _ (by omega)) (fun k hk => ⟨up_ne _ _ (by omega), up_ne _ _ (by omega)⟩)⟩
  rw [up_ne _ _ (by omega)] at hk
  have g := h.2.2.1 k hk
  by_cases e : k = b
  · subst e
    simp (disch := omega) only [zs_ne, zs_eq, up_ne, up_self, g, and_self]
  · simp (disch := omega) only [zs_ne, up_ne, g, and_self]
theorem Cb_d3 (h : Cb (S.1 0 n) a) (hw : WF T a) {b : Nat} (hb : (b : Int) < a 7) : Cb ((zs_set S 0 n 4 (6 * b + 5) (zo v)).1 0 n) (up a (10 + 4 * b + 3) v) := by
  have u9 := hw.1.2.2.2.2.2.2.2
  refine ⟨tF h.1 (fun o _ => zs_ne (by omega)), tN h.2.1 (fun j _ _ => zs_ne (by omega)) (fun i hi => up_ne _ _ (by omega)), fun k hk => ?_, tT h.2.2.2.1 hw.1 (fun j => zs_ne (by omega)) (fun i hi _ => up_ne _ _ (by omega)), tB h.2.2.2.2.1 hw.1 (fun j => zs_ne (by omega)) (up_ne _ _ (by omega)) (up_ne _ _ (by omega)) (fun i hi _ => up_ne _ _ (by omega)), tS h.2.2.2.2.2.1 (fun j => zs_ne (by omega)) (up_ne _ _ (by omega)) (up_ne _ _ (by omega)) (fun i hi => up_ne _ _ (by omega)), tO h.2.2.2.2.2.2.1 (fun j => zs_ne (by omega)) (up_ne _ _ (by omega)) (up_ne _ _ (by omega)) (up_ne _ _ (by omega)) (fun k hk => ⟨up_ne _ _ (by omega), up_ne _ _ (by omega)⟩), CbE_cg h.2.2.2.2.2.2.2 (zs_ne (by omega)) (fun j => zs_ne (by omega)) (up_ne _ _ (by omega)) (fun k hk => ⟨up_ne _ _ (by omega), up_ne _ _ (by omega)⟩)⟩
  rw [up_ne _ _ (by omega)] at hk
  have g := h.2.2.1 k hk
  by_cases e : k = b
  · subst e
    simp (disch := omega) only [zs_ne, zs_eq, up_ne, up_self, g, and_self]
  · simp (disch := omega) only [zs_ne, up_ne, g, and_self]
theorem Cb_t1 (h : Cb (S.1 0 n) a) (hw : WF T a) {b : Nat} (hb : (b : Int) < a 8) : Cb ((zs_set S 0 n 6 (3 * b + 2) (zo v)).1 0 n) (up a (30 + 2 * b + 1) v) := by
  have u9 := hw.1.2.2.2.2.2.2.2
  refine ⟨tF h.1 (fun o _ => zs_ne (by omega)), tN h.2.1 (fun j _ _ => zs_ne (by omega)) (fun i hi => up_ne _ _ (by omega)), tD h.2.2.1 hw.1 (fun j => zs_ne (by omega)) (fun i hi _ => up_ne _ _ (by omega)), fun k hk => ?_, tB h.2.2.2.2.1 hw.1 (fun j => zs_ne (by omega)) (up_ne _ _ (by omega)) (up_ne _ _ (by omega)) (fun i hi _ => up_ne _ _ (by omega)), tS h.2.2.2.2.2.1 (fun j => zs_ne (by omega)) (up_ne _ _ (by omega)) (up_ne _ _ (by omega)) (fun i hi => up_ne _ _ (by omega)), tO h.2.2.2.2.2.2.1 (fun j => zs_ne (by omega)) (up_ne _ _ (by omega)) (up_ne _ _ (by omega)) (up_ne _ _ (by omega)) (fun k hk => ⟨up_ne _ _ (by omega), up_ne _ _ (by omega)⟩), CbE_cg h.2.2.2.2.2.2.2 (zs_ne (by omega)) (fun j => zs_ne (by omega)) (up_ne _ _ (by omega)) (fun k hk => ⟨up_ne _ _ (by omega), up_ne _ _ (by omega)⟩)⟩
  rw [up_ne _ _ (by omega)] at hk
  have g := h.2.2.2.1 k hk
  by_cases e : k = b
  · subst e
    simp (disch := omega) only [zs_ne, zs_eq, up_ne, up_self, g, and_self]
  · simp (disch := omega) only [zs_ne, up_ne, g, and_self]
theorem Cb_s (h : Cb (S.1 0 n) a) (hw : WF T a) {c : Nat} (hc : (c : Int) < a 0 * a 1) : Cb ((zs_set S 0 n 8 c (zo v)).1 0 n) (up a (160 + c) v) := by
  have u9 := hw.1.2.2.2.2.2.2.2
  refine ⟨tF h.1 (fun o _ => zs_ne (by omega)), tN h.2.1 (fun j _ _ => zs_ne (by omega)) (fun i hi => up_ne _ _ (by omega)), tD h.2.2.1 hw.1 (fun j => zs_ne (by omega)) (fun i hi _ => up_ne _ _ (by omega)), tT h.2.2.2.1 hw.1 (fun j => zs_ne (by omega)) (fun i hi _ => up_ne _ _ (by omega)), tB h.2.2.2.2.1 hw.1 (fun j => zs_ne (by omega)) (up_ne _ _ (by omega)) (up_ne _ _ (by omega)) (fun i hi _ => up_ne _ _ (by omega)), fun k hk => ?_, tO h.2.2.2.2.2.2.1 (fun j => zs_ne (by omega)) (up_ne _ _ (by omega)) (up_ne _ _ (by omega)) (up_ne _ _ (by omega)) (fun k hk => ⟨up_ne _ _ (by omega), up_ne _ _ (by omega)⟩), CbE_cg h.2.2.2.2.2.2.2 (zs_ne (by omega)) (fun j => zs_ne (by omega)) (up_ne _ _ (by omega)) (fun k hk => ⟨up_ne _ _ (by omega), up_ne _ _ (by omega)⟩)⟩
  rw [up_ne _ _ (by omega), up_ne _ _ (by omega)] at hk
  have g := h.2.2.2.2.2.1 k hk
  by_cases e : k = c
  · subst e; rw [zs_eq, up_self]
  · rw [zs_ne (by omega), up_ne _ _ (by omega)]; exact g
end CC

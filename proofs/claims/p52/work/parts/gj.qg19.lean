/-! THE LAW'S PURE SIDE 29: counts of the rows -/
/-- how many of the first n boats are afloat -/
def afc (a : Rw) (n : Nat) : Int := zsum (fun k => if a (40 + 10 * k + 6) = 0 then 1 else 0) n
theorem afc_s (a : Rw) (n : Nat) : afc a (n + 1) = afc a n + (if a (40 + 10 * n + 6) = 0 then 1 else 0) := rfl
theorem afc_mono (a : Rw) (n : Nat) : ∀ m, afc a n ≤ afc a (n + m)
  | 0 => Int.le_refl _
  | m + 1 => by
    have := afc_mono a n m
    rw [← Nat.add_assoc, afc_s]
    split <;> omega
theorem afc_ge (a : Rw) (n : Nat) : 0 ≤ afc a n := zsum_ge _ _ (fun i _ => by split <;> omega)
theorem afc_le (a : Rw) (n : Nat) : afc a n ≤ n := by
  have := zsum_le (fun k => if a (40 + 10 * k + 6) = 0 then 1 else 0) 1 n (fun i _ => by split <;> omega)
  unfold afc
  omega
theorem afS_at {a : Rw} {b : Nat} (h6 : a (40 + 10 * b + 6) = 0) : ∀ m k : Nat, k ≤ b → b < k + m → afS a m k (afc a b - afc a k) = b := by
  intro m
  induction m with
  | zero => intro k h1 h2; omega
  | succ m ih =>
    intro k h1 h2
    rw [afS_succ]
    by_cases e : k = b
    · subst e
      rw [if_pos h6, if_pos (by omega)]
    · have i := ih (k + 1) (by omega) (by omega)
      have mo := afc_mono a (k + 1) (b - (k + 1))
      rw [show k + 1 + (b - (k + 1)) = b by omega] at mo
      rw [afc_s] at i mo
      by_cases c : a (40 + 10 * k + 6) = 0
      · rw [if_pos c] at i mo
        rw [if_pos c, if_neg (by omega), show afc a b - afc a k - 1 = afc a b - (afc a k + 1) by omega]
        exact i
      · rw [if_neg c] at i mo
        rw [if_neg c]
        rw [Int.add_zero] at i
        exact i
theorem afS_b {a : Rw} {b : Nat} (hb : (b : Int) < a 9) (h6 : a (40 + 10 * b + 6) = 0) : afS a (a 9).toNat 0 (afc a b) = b := by
  have := afS_at h6 (a 9).toNat 0 (Nat.zero_le _) (by omega)
  rw [show afc a 0 = 0 from rfl, Int.sub_zero] at this
  exact this
theorem afc_lt {a : Rw} {b : Nat} (hb : (b : Int) < a 9) (h6 : a (40 + 10 * b + 6) = 0) : afc a b < cnt a 0 := by
  have mo := afc_mono a (b + 1) ((a 9).toNat - (b + 1))
  rw [show b + 1 + ((a 9).toNat - (b + 1)) = (a 9).toNat by omega, afc_s, if_pos h6] at mo
  show afc a b < afc a (a 9).toNat
  omega
theorem cnt_all {a : Rw} {Tm : Int} (hw : WF Tm a) : cnt a 0 + cnt a 1 + cnt a 2 = a 9 := by
  have u9 := hw.1.2.2.2.2.2.2.2.2.2
  have : ∀ m : Nat, (m : Int) ≤ a 9 → zsum (fun k => if a (40 + 10 * k + 6) = 0 then 1 else 0) m + zsum (fun k => if a (40 + 10 * k + 6) = 1 then 1 else 0) m + zsum (fun k => if a (40 + 10 * k + 6) = 2 then 1 else 0) m = m := by
    intro m
    induction m with
    | zero => intro _; rfl
    | succ m ih =>
      intro hm
      have g := hw.2.2.2.1 m (by omega)
      have i := ih (by omega)
      unfold zsum
      by_cases c0 : a (40 + 10 * m + 6) = 0
      · rw [if_pos c0, if_neg (by omega), if_neg (by omega)]; omega
      · by_cases c1 : a (40 + 10 * m + 6) = 1
        · rw [if_neg c0, if_pos c1, if_neg (by omega)]; omega
        · rw [if_neg c0, if_neg c1, if_pos (by omega)]; omega
  have := this (a 9).toNat (by omega)
  unfold cnt
  omega
theorem cnt_r {a : Rw} {Tm : Int} (hw : WF Tm a) (st : Int) : 0 ≤ cnt a st ∧ cnt a st ≤ 12 := by
  have u9 := hw.1.2.2.2.2.2.2.2.2.2
  have l1 : 0 ≤ cnt a st := zsum_ge _ _ (fun i _ => by split <;> omega)
  have l2 : cnt a st ≤ 1 * ((a 9).toNat : Int) := zsum_le _ 1 _ (fun i _ => by split <;> omega)
  omega
theorem wkn_r {a : Rw} {Tm : Int} (hw : WF Tm a) : 0 ≤ wkn a ∧ wkn a ≤ 5 := by
  have u7 := hw.1.2.2.2.2.2.2.2.1
  have l1 : 0 ≤ wkn a := zsum_ge _ _ (fun i _ => by split <;> omega)
  have l2 : wkn a ≤ 1 * ((a 7).toNat : Int) := zsum_le _ 1 _ (fun i _ => by split <;> omega)
  omega
theorem zsum_add (f g : Nat → Int) : ∀ n, zsum (fun i => f i + g i) n = zsum f n + zsum g n
  | 0 => rfl
  | n + 1 => by
    have := zsum_add f g n
    unfold zsum
    omega
theorem zsum_0 : ∀ n, zsum (fun _ => 0) n = 0
  | 0 => rfl
  | n + 1 => by
    have := zsum_0 n
    unfold zsum
    omega
theorem zsum_swap (f : Nat → Nat → Int) (m : Nat) : ∀ n, zsum (fun i => zsum (fun j => f i j) m) n = zsum (fun j => zsum (fun i => f i j) n) m
  | 0 => (zsum_0 m).symm
  | n + 1 => by
    rw [show zsum (fun i => zsum (fun j => f i j) m) (n + 1) = zsum (fun i => zsum (fun j => f i j) m) n + zsum (fun j => f n j) m from rfl, zsum_swap f m n]
    exact (zsum_add (fun j => zsum (fun i => f i j) n) (fun j => f n j) m).symm
/-- one of them, or none -/
theorem zsum_one {f : Nat → Int} {n b : Nat} (hb : b < n) (h : ∀ i, i < n → i ≠ b → f i = 0) : zsum f n = f b := by
  have := zsum_at (f := fun _ => 0) (g := f) b n hb h
  rw [this, zsum_0]
  omega
/-- is a boat afloat in a cell -/
def isb (a : Rw) (c : Nat) : Int := if occ a c (-1) < 0 then 0 else 1
theorem isb_sum {a : Rw} {Tm : Int} (hw : WF Tm a) (c : Nat) : isb a c = zsum (fun b => if a (40 + 10 * b + 6) = 0 ∧ a (40 + 10 * b) = c then 1 else 0) (a 9).toNat := by
  unfold isb
  by_cases h : occ a c (-1) = -1
  · rw [if_pos (by omega)]
    refine (zsum_0 (a 9).toNat).symm.trans (zsum_congr _ (fun i hi => ?_))
    rw [if_neg]
    intro e
    exact occ_free h i (by omega) (by omega) e.1 e.2
  · obtain ⟨j, e1, e2, e3, e4, e5⟩ := occ_at h
    rw [if_neg (by omega), zsum_one (b := j) (by omega) (fun i hi hn => ?_), if_pos ⟨e4, e5⟩]
    rw [if_neg]
    intro e
    exact hn (hw.2.2.2.2.2 i j (by omega) e2 e.1 e4 (by rw [e5]; exact e.2))
/-- as many cells have a boat as boats are afloat -/
theorem isb_cnt {a : Rw} {Tm : Int} (hw : WF Tm a) : zsum (isb a) (a 0 * a 1).toNat = cnt a 0 := by
  rw [zsum_congr _ (fun c _ => isb_sum hw c), zsum_swap (fun c b => if a (40 + 10 * b + 6) = 0 ∧ a (40 + 10 * b) = (c : Int) then 1 else 0)]
  unfold cnt
  refine zsum_congr _ (fun b hb => ?_)
  have g := hw.2.2.2.1 b (by omega)
  by_cases c : a (40 + 10 * b + 6) = 0
  · rw [if_pos c, zsum_one (b := (a (40 + 10 * b)).toNat) (by omega) (fun i hi hn => ?_), if_pos ⟨c, by omega⟩]
    rw [if_neg]
    intro e
    omega
  · rw [if_neg c]
    exact (zsum_congr (g := fun _ => 0) _ (fun i hi => if_neg (fun e => c e.1))).trans (zsum_0 (a 0 * a 1).toNat)
/-- the i-th that ended -/
theorem end_at {B : Nat → Nat → Int32} {a : Rw} (h : Cb B a) {i : Nat} (hi : (i : Int) < nen a) : ∃ b : Nat, endB a i = b ∧ (b : Int) < a 9 ∧ a (40 + 10 * b + 6) ≠ 0 ∧ rnk a b = i := by
  obtain ⟨b, q1, q2, q3, -⟩ := h.2.2.2.2.2.2.2.2 i hi
  exact ⟨b, endB_is q1 q2 q3, q1, q2, q3⟩
theorem end_lt {a : Rw} {p b : Nat} (hp : (p : Int) < a 9) (p6 : a (40 + 10 * p + 6) ≠ 0) (hb : (b : Int) < a 9) (b6 : a (40 + 10 * b + 6) ≠ 0) (h : rnk a p < rnk a b) : a (40 + 10 * p + 7) < a (40 + 10 * b + 7) ∨ (a (40 + 10 * p + 7) = a (40 + 10 * b + 7) ∧ p < b) := by
  by_cases c : a (40 + 10 * p + 7) < a (40 + 10 * b + 7) ∨ (a (40 + 10 * p + 7) = a (40 + 10 * b + 7) ∧ p < b)
  · exact c
  · by_cases e : p = b
    · subst e; omega
    · have := rnk_lt (a := a) (k := b) (b := p) hb b6 (by omega)
      omega
theorem wks_iff {a : Rw} {Tm : Int} (hw : WF Tm a) {k : Nat} (hk : (k : Int) < a 7) : wks a k = true ↔ (0 < a (10 + 4 * k + 2) ∧ (occ a (a (10 + 4 * k)) (-1) = -1 ∨ a (40 + 10 * (occ a (a (10 + 4 * k)) (-1)).toNat + 1) ≤ a (10 + 4 * k + 1))) := by
  have g := hw.2.1 k hk
  unfold wks
  by_cases c : a (10 + 4 * k + 2) = 0
  · rw [if_pos c]
    constructor
    · intro h; cases h
    · intro h; omega
  · rw [if_neg c]
    by_cases c2 : occ a (a (10 + 4 * k)) (-1) = -1
    · rw [if_pos c2]
      exact ⟨fun _ => ⟨by omega, Or.inl c2⟩, fun _ => rfl⟩
    · rw [if_neg c2]
      constructor
      · intro h; exact ⟨by omega, Or.inr (of_decide_eq_true h)⟩
      · intro h; exact decide_eq_true (by omega)

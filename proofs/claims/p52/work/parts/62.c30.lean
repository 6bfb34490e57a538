/-! THE PURE SIDE 30: towing: the distances -/
def nb4 (a : Rw) (c : Int) (s : Nat) : Int := if s = 0 then cAt a (c % a 0) (c / a 0 - 1) else if s = 1 then cAt a (c % a 0 - 1) (c / a 0) else if s = 2 then cAt a (c % a 0 + 1) (c / a 0) else cAt a (c % a 0) (c / a 0 + 1)
def intr (a : Rw) (b : Nat) (c : Int) : Bool := !(wdr a c b) && decide (occ a c b = -1)
def fre (a : Rw) (b : Nat) (c : Int) : Bool := decide (c = a (40 + 10 * b)) || intr a b c
def wgt (a : Rw) (b : Nat) (c : Int) : Int := if fre a b c = true then 1 + a (160 + c.toNat) else 1000000
def thr (w : Int → Int) (D : Int → Int) (c : Int) : Int := if c = -1 then 2000000 else w c + D c
def nea (w : Int → Int) (D : Int → Int) (p q : Int) : Int := if thr w D q < thr w D p then q else p
def bst (a : Rw) (w : Int → Int) (D : Int → Int) (c : Int) : Int := nea w D (nea w D (nea w D (nb4 a c 0) (nb4 a c 1)) (nb4 a c 2)) (nb4 a c 3)
def inN (a : Rw) (c : Int) : Prop := 0 ≤ c ∧ c < a 0 * a 1
def Wok (a : Rw) (w : Int → Int) : Prop := ∀ c, inN a c → 1 ≤ w c ∧ w c ≤ 1000000
/-- the distances to t -/
def Sol (a : Rw) (w : Int → Int) (t : Int) (D : Int → Int) : Prop := D t = 0 ∧ ∀ c, inN a c → (0 ≤ D c ∧ D c ≤ 1000000) ∧ (c ≠ t → D c = if thr w D (bst a w D c) < 1000000 then thr w D (bst a w D c) else 1000000)
section CV
variable {a : Rw} {T t : Int} {b : Nat} {w D D2 g : Int → Int}
theorem nb4_rng (a : Rw) (c : Int) (s : Nat) : nb4 a c s = -1 ∨ inN a (nb4 a c s) := by
  unfold nb4 inN
  split
  · exact cAt_rng _ _ _
  · split
    · exact cAt_rng _ _ _
    · split <;> exact cAt_rng _ _ _
theorem nea_le (p q : Int) : thr w D (nea w D p q) ≤ thr w D p ∧ thr w D (nea w D p q) ≤ thr w D q ∧ (nea w D p q = p ∨ nea w D p q = q) := by
  unfold nea
  split
  · exact ⟨by omega, Int.le_refl _, Or.inr rfl⟩
  · exact ⟨Int.le_refl _, by omega, Or.inl rfl⟩
theorem bst_mem (c : Int) : ∃ s, s < 4 ∧ bst a w D c = nb4 a c s := by
  unfold bst
  have h1 := (nea_le (w := w) (D := D) (nb4 a c 0) (nb4 a c 1)).2.2
  have h2 := (nea_le (w := w) (D := D) (nea w D (nb4 a c 0) (nb4 a c 1)) (nb4 a c 2)).2.2
  have h3 := (nea_le (w := w) (D := D) (nea w D (nea w D (nb4 a c 0) (nb4 a c 1)) (nb4 a c 2)) (nb4 a c 3)).2.2
  rcases h3 with e | e
  · rcases h2 with e2 | e2
    · rcases h1 with e1 | e1
      · exact ⟨0, by omega, by rw [e, e2, e1]⟩
      · exact ⟨1, by omega, by rw [e, e2, e1]⟩
    · exact ⟨2, by omega, by rw [e, e2]⟩
  · exact ⟨3, by omega, e⟩
theorem bst_le (c : Int) {s : Nat} (hs : s < 4) : thr w D (bst a w D c) ≤ thr w D (nb4 a c s) := by
  have h1 := nea_le (w := w) (D := D) (nb4 a c 0) (nb4 a c 1)
  have h2 := nea_le (w := w) (D := D) (nea w D (nb4 a c 0) (nb4 a c 1)) (nb4 a c 2)
  have h3 := nea_le (w := w) (D := D) (nea w D (nea w D (nb4 a c 0) (nb4 a c 1)) (nb4 a c 2)) (nb4 a c 3)
  unfold bst
  have : s = 0 ∨ s = 1 ∨ s = 2 ∨ s = 3 := by omega
  rcases this with z | z | z | z <;> subst z <;> omega
theorem bst_rng (c : Int) : bst a w D c = -1 ∨ inN a (bst a w D c) := by
  obtain ⟨s, _, e⟩ := bst_mem (a := a) (w := w) (D := D) c
  rw [e]; exact nb4_rng a c s
/-- below FAR: a true neighbour -/
theorem bst_in (c : Int) (h : thr w D (bst a w D c) < 2000000) : inN a (bst a w D c) := by
  rcases bst_rng (a := a) (w := w) (D := D) c with e | e
  · rw [e] at h; unfold thr at h; rw [if_pos rfl] at h; omega
  · exact e
theorem thr_in {c : Int} (h : inN a c) : thr w D c = w c + D c := by unfold thr; rw [if_neg (by have := h.1; omega)]
/-- monotone -/
theorem mn_mono (h : ∀ c, inN a c → D c ≤ D2 c) (c : Int) : thr w D (bst a w D c) ≤ thr w D2 (bst a w D2 c) := by
  obtain ⟨s, hs, e⟩ := bst_mem (a := a) (w := w) (D := D2) c
  have l := bst_le (a := a) (w := w) (D := D) c hs
  rw [e]
  rcases nb4_rng a c s with z | z
  · rw [z] at l ⊢
    unfold thr at l ⊢
    rw [if_pos rfl] at l ⊢
    exact l
  · have := h _ z
    rw [thr_in z] at l ⊢
    omega
/-- one step of the iteration -/
def itF (a : Rw) (w : Int → Int) (t : Int) (D : Int → Int) : Int → Int := fun c => if c = t then 0 else if thr w D (bst a w D c) < 1000000 then thr w D (bst a w D c) else 1000000
def itN (a : Rw) (w : Int → Int) (t : Int) : Nat → Int → Int
  | 0 => fun c => if c = t then 0 else 1000000
  | k + 1 => itF a w t (itN a w t k)
theorem itN_dec (hW : Wok a w) : ∀ k : Nat, (∀ c, inN a c → 0 ≤ itN a w t k c ∧ itN a w t k c ≤ 1000000) ∧ (∀ c, inN a c → itN a w t (k + 1) c ≤ itN a w t k c) := by
  have step : ∀ D : Int → Int, (∀ c, inN a c → 0 ≤ D c ∧ D c ≤ 1000000) → ∀ c, inN a c → 0 ≤ itF a w t D c ∧ itF a w t D c ≤ 1000000 := by
    intro D hD c hc
    unfold itF
    split
    · omega
    · split
      · rename_i h
        have hi := bst_in (a := a) (w := w) (D := D) c (by omega)
        rw [thr_in hi] at h ⊢
        have := hD _ hi
        have := hW _ hi
        omega
      · omega
  intro k
  induction k with
  | zero =>
    have h0 : ∀ c, inN a c → 0 ≤ itN a w t 0 c ∧ itN a w t 0 c ≤ 1000000 := by
      intro c _; unfold itN; split <;> omega
    refine ⟨h0, fun c hc => ?_⟩
    show itF a w t (itN a w t 0) c ≤ (if c = t then 0 else 1000000)
    unfold itF
    split
    · exact Int.le_refl 0
    · split <;> omega
  | succ k ih =>
    refine ⟨step _ ih.1, fun c hc => ?_⟩
    show itF a w t (itN a w t (k + 1)) c ≤ itF a w t (itN a w t k) c
    unfold itF
    split
    · exact Int.le_refl 0
    · have := mn_mono (w := w) ih.2 c
      split <;> split <;> omega
theorem Sol_ex (hw : WF T a) (hW : Wok a w) (ht : inN a t) : ∃ D, Sol a w t D := by
  have uN := WF_nc hw
  let f : Nat → Int := fun k => zsum (fun i => itN a w t k (i : Int)) (a 0 * a 1).toNat
  have inr : ∀ i : Nat, i < (a 0 * a 1).toNat → inN a (i : Int) := fun i hi => ⟨by omega, by omega⟩
  have fge : ∀ k, 0 ≤ f k := fun k => zsum_ge _ _ (fun i hi => ((itN_dec (t := t) hW k).1 _ (inr i hi)).1)
  have key : ∀ k : Nat, (∃ j, ∀ c, inN a c → itN a w t (j + 1) c = itN a w t j c) ∨ f k ≤ f 0 - k := by
    intro k
    induction k with
    | zero => exact Or.inr (by omega)
    | succ k ih =>
      rcases ih with h | h
      · exact Or.inl h
      · by_cases e : ∀ c, inN a c → itN a w t (k + 1) c = itN a w t k c
        · exact Or.inl ⟨k, e⟩
        · have ⟨c, hc⟩ := Classical.not_forall.mp e
          have ⟨h1, h2⟩ := Classical.not_imp.mp hc
          have d := (itN_dec (t := t) hW k).2
          have : f (k + 1) < f k := by
            obtain ⟨i, hi⟩ : ∃ i : Nat, c = i := ⟨c.toNat, by have := h1.1; omega⟩
            subst hi
            exact zsum_lt (k := i) _ (by have := h1.2; omega) (fun j hj => d _ (inr j hj)) (by have := d _ h1; omega)
          exact Or.inr (by omega)
  rcases key ((f 0).toNat + 1) with ⟨j, hj⟩ | h
  · refine ⟨itN a w t j, ?_, fun c hc => ⟨(itN_dec hW j).1 c hc, fun hct => ?_⟩⟩
    · rw [← hj t ht]
      show itF a w t (itN a w t j) t = 0
      unfold itF
      rw [if_pos rfl]
    · have := hj c hc
      rw [← this]
      show itF a w t (itN a w t j) c = _
      unfold itF
      rw [if_neg hct]
  · have := fge ((f 0).toNat + 1)
    have := fge 0
    omega
/-- a state of the distances on the way -/
def Ap (a : Rw) (t : Int) (D g : Int → Int) : Prop := g t = 0 ∧ ∀ c, inN a c → D c ≤ g c ∧ g c ≤ 1000000
/-- how many cells are not settled -/
def usD (a : Rw) (D g : Int → Int) : Int := zsum (fun i => if g (i : Int) = D (i : Int) then 0 else 1) (a 0 * a 1).toNat
theorem Sol_le (h : Sol a w t D) {c e : Int} {s : Nat} (hs : s < 4) (hc : inN a c) (he : inN a e) (hce : nb4 a c s = e) (hct : c ≠ t) : D c ≤ w e + D e := by
  have h1 := (h.2 c hc).2 hct
  have l := bst_le (a := a) (w := w) (D := D) c hs
  rw [hce, thr_in he] at l
  have := (h.2 c hc).1
  split at h1 <;> omega
theorem us_0 (hw : WF T a) (h : usD a D g = 0) : ∀ c, inN a c → g c = D c := by
  intro c hc
  have uN := WF_nc hw
  have h1 := hc.1
  have h2 := hc.2
  obtain ⟨i, rfl⟩ : ∃ i : Nat, c = i := ⟨c.toNat, by omega⟩
  by_cases e : g (i : Int) = D (i : Int)
  · exact e
  · have : zsum (fun _ => 0) (a 0 * a 1).toNat < usD a D g := zsum_lt (k := i) _ (by omega) (fun j _ => by split <;> omega) (by rw [if_neg e]; omega)
    have z : ∀ m : Nat, zsum (fun _ => (0 : Int)) m = 0 := by intro m; induction m with | zero => rfl | succ m ih => unfold zsum; rw [ih]; rfl
    rw [z] at this
    omega
theorem us_ge (a : Rw) (D g : Int → Int) : 0 ≤ usD a D g := zsum_ge _ _ (fun i _ => by split <;> omega)
/-- an unsettled cell with a settled best neighbour -/
theorem unset (hW : Wok a w) (h : Sol a w t D) (hA : Ap a t D g) : ∀ (m : Nat) (c : Int), D c ≤ m → inN a c → g c ≠ D c → ∃ (c e : Int) (s : Nat), inN a c ∧ g c ≠ D c ∧ s < 4 ∧ nb4 a c s = e ∧ inN a e ∧ g e = D e ∧ D c = w e + D e ∧ D c < 1000000 ∧ c ≠ t := by
  intro m
  induction m with
  | zero =>
    intro c hm hc hg
    exfalso
    have l := hA.2 c hc
    have b := (h.2 c hc).1
    have hct : c ≠ t := fun e => hg (by rw [e, hA.1, h.1])
    have e := (h.2 c hc).2 hct
    have hi := bst_in (a := a) (w := w) (D := D) c (by split at e <;> omega)
    rw [thr_in hi] at e
    have := hW _ hi
    have := (h.2 _ hi).1
    split at e <;> omega
  | succ m ih =>
    intro c hm hc hg
    have l := hA.2 c hc
    have hct : c ≠ t := fun e => hg (by rw [e, hA.1, h.1])
    have e := (h.2 c hc).2 hct
    have hi := bst_in (a := a) (w := w) (D := D) c (by split at e <;> omega)
    obtain ⟨s, hs, es⟩ := bst_mem (a := a) (w := w) (D := D) c
    rw [thr_in hi] at e
    have wi := hW _ hi
    have bi := (h.2 _ hi).1
    by_cases q : g (bst a w D c) = D (bst a w D c)
    · exact ⟨c, bst a w D c, s, hc, hg, hs, es.symm, hi, q, by split at e <;> omega, by omega, hct⟩
    · exact ih (bst a w D c) (by split at e <;> omega) hi q
theorem us_drop (hw : WF T a) {g2 : Int → Int} (hA : Ap a t D g) (h2 : ∀ c, inN a c → D c ≤ g2 c ∧ g2 c ≤ g c) {c : Int} (hc : inN a c) (h : g c ≠ D c) (h3 : g2 c = D c) : usD a D g2 < usD a D g := by
  have uN := WF_nc hw
  have e1 := hc.1
  have e2 := hc.2
  obtain ⟨i, rfl⟩ : ∃ i : Nat, c = i := ⟨c.toNat, by omega⟩
  refine zsum_lt (k := i) _ (by omega) (fun j hj => ?_) (by rw [if_pos h3, if_neg h]; omega)
  have hj2 : inN a (j : Int) := ⟨by omega, by omega⟩
  have := h2 _ hj2
  by_cases z : g (j : Int) = D (j : Int)
  · rw [if_pos z, if_pos (by omega)]; exact Int.le_refl 0
  · rw [if_neg z]; split <;> omega
theorem us_same (hw : WF T a) {g2 : Int → Int} (h : ∀ c, inN a c → g2 c = g c) : usD a D g2 = usD a D g := by
  have uN := WF_nc hw
  exact zsum_congr _ (fun i hi => by rw [h _ ⟨by omega, by omega⟩])
/-- the start -/
theorem us_start (hw : WF T a) (ht : inN a t) (h : Sol a w t D) : usD a D (fun c => if c = t then 0 else 1000000) ≤ 99 ∧ Ap a t D (fun c => if c = t then 0 else 1000000) := by
  have uN := WF_nc hw
  refine ⟨?_, if_pos rfl, fun c hc => ?_⟩
  · have e1 := ht.1
    have e2 := ht.2
    obtain ⟨i, hi⟩ : ∃ i : Nat, t = i := ⟨t.toNat, by omega⟩
    have z : ∀ m : Nat, zsum (fun _ => (1 : Int)) m = m := by intro m; induction m with | zero => rfl | succ m ih => unfold zsum; rw [ih]; omega
    have : usD a D (fun c => if c = t then 0 else 1000000) < zsum (fun _ => 1) (a 0 * a 1).toNat := zsum_lt (k := i) _ (by omega) (fun j _ => by split <;> omega) (by
      have e0 : (fun c => if c = t then (0 : Int) else 1000000) (i : Int) = D (i : Int) := by
        show (if (i : Int) = t then (0 : Int) else 1000000) = _
        rw [if_pos hi.symm, ← hi, h.1]
      show (if (fun c => if c = t then (0 : Int) else 1000000) (i : Int) = D (i : Int) then (0 : Int) else 1) < 1
      rw [if_pos e0]; omega)
    rw [z] at this
    omega
  · have := (h.2 c hc).1
    by_cases e : c = t
    · subst e; rw [h.1]; simp
    · simp only [if_neg e]; omega
theorem wgt_ok (hw : WF T a) (b : Nat) : Wok a (wgt a b) := by
  intro c hc
  have g := hw.2.2.2.2.1 c.toNat (by have := hc.1; have := hc.2; omega)
  unfold wgt
  split <;> omega
end CV

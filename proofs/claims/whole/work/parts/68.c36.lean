/-! THE PURE SIDE 36: calm: model -/
def mm (t : Int) : Int := if t = 0 then 2 else if t = 1 then 0 else 1
def Em (S : zS) (a : Rw) (e : Int → Int) : Prop := ∀ i : Nat, (i : Int) < a 0 * a 1 → S.1 3 0 4 i = zo (mm (e i))
def Fn (S S' : zS) : Prop := S'.2 = S.2 ∧ ∀ k m o j, ¬(k = 3 ∧ m = 0 ∧ o = 4) → S'.1 k m o j = S.1 k m o j
theorem Fn_refl (S : zS) : Fn S S := ⟨rfl, fun _ _ _ _ _ => rfl⟩
theorem Fn_trans {S S1 S2 : zS} (h1 : Fn S S1) (h2 : Fn S1 S2) : Fn S S2 := ⟨h2.1.trans h1.1, fun k m o j a => (h2.2 k m o j a).trans (h1.2 k m o j a)⟩
theorem Fn_set {S S' : zS} (h : Fn S S') (j : Nat) (v : Int32) : Fn S (zs_set S' 3 0 4 j v) := ⟨h.1, fun k m o i b => by rw [zs_oth (by omega)]; exact h.2 k m o i b⟩
theorem Fn_Md {S S' : zS} {q : Nat} {a : Rw} (h : Fn S S') (hM : Md S q a) : Md S' q a := ⟨by rw [h.2 _ _ _ _ (by omega)]; exact hM.1, hM.2.1, fun j hj => by rw [h.2 _ _ _ _ (by omega)]; exact hM.2.2 j hj⟩
def ope (a : Rw) (e : Int → Int) : Int := zsum (fun i => if e (i : Int) = 1 then 1 else 0) (a 0 * a 1).toNat
section DA
variable {S : zS} {d q : Nat} {a : Rw} {T v p r x l : Int} {e : Int → Int}
theorem mm_b (t : Int) : 0 ≤ mm t ∧ mm t ≤ 2 := by
  unfold mm
  split
  · omega
  · split <;> omega
theorem mm_n1 {t : Int} (h : ¬ t = 2) (b : 0 ≤ t ∧ t ≤ 2) : ¬ mm t = 1 := by
  unfold mm
  split
  · omega
  · split <;> omega
theorem mm_n0 {t : Int} (h : ¬ t = 1) : ¬ mm t = 0 := by
  unfold mm
  by_cases z : t = 0
  · rw [if_pos z]; omega
  · rw [if_neg z, if_neg h]; omega
theorem nb_num (hw : WF T a) {c : Int} (hc : inN a c) : nb4 a c 0 = (if c < a 0 then -1 else c - a 0) ∧ nb4 a c 1 = (if c % a 0 ≤ 0 then -1 else c - 1) ∧ nb4 a c 2 = (if a 0 - 1 ≤ c % a 0 then -1 else c + 1) ∧ nb4 a c 3 = (if a 0 * a 1 - a 0 ≤ c then -1 else c + a 0) := by
  have u0 := hw.1.1
  have u1 := hw.1.2.1
  have cf := cel_of (by omega) hc.1 hc.2
  obtain ⟨⟨⟨x1, x2⟩, y1, y2⟩, ce⟩ := cf
  have n0 : nb4 a c 0 = cAt a (c % a 0) (c / a 0 - 1) := rfl
  have n1 : nb4 a c 1 = cAt a (c % a 0 - 1) (c / a 0) := rfl
  have n2 : nb4 a c 2 = cAt a (c % a 0 + 1) (c / a 0) := rfl
  have n3 : nb4 a c 3 = cAt a (c % a 0) (c / a 0 + 1) := rfl
  rw [n0, n1, n2, n3]
  generalize hx : c % a 0 = x at *
  generalize hy : c / a 0 = y at *
  have e1 : a 0 * (y - 1) = a 0 * y - a 0 := by rw [Int.mul_sub, Int.mul_one]
  have e2 : a 0 * (y + 1) = a 0 * y + a 0 := by rw [Int.mul_add, Int.mul_one]
  clear n0 n1 n2 n3 hx hy
  refine ⟨?_, ?_, ?_, ?_⟩
  · by_cases z : y = 0
    · rw [z, Int.mul_zero] at ce
      rw [cAt_out (by omega), if_pos (by omega)]
    · have m1 : a 0 * 1 ≤ a 0 * y := Int.mul_le_mul_of_nonneg_left (by omega) (by omega)
      rw [cAt_in ⟨⟨x1, x2⟩, by omega, by omega⟩, if_neg (by omega), e1]; omega
  · by_cases z : x ≤ 0
    · rw [cAt_out (by omega), if_pos z]
    · rw [cAt_in ⟨⟨by omega, by omega⟩, y1, y2⟩, if_neg z]; omega
  · by_cases z : a 0 - 1 ≤ x
    · rw [cAt_out (by omega), if_pos z]
    · rw [cAt_in ⟨⟨by omega, by omega⟩, y1, y2⟩, if_neg z]; omega
  · by_cases z : y + 1 = a 1
    · have e3 : a 0 * a 1 = a 0 * y + a 0 := by rw [← z, e2]
      rw [cAt_out (by omega), if_pos (by omega)]
    · have m1 : a 0 * (y + 2) ≤ a 0 * a 1 := Int.mul_le_mul_of_nonneg_left (by omega) (by omega)
      have e3 : a 0 * (y + 2) = a 0 * y + a 0 * 2 := by rw [Int.mul_add]
      rw [cAt_in ⟨⟨x1, x2⟩, by omega, by omega⟩, if_neg (by omega), e2]; omega
theorem Em_st (hw : WF T a) (hE : Em S a e) (hB : eB a e) {j : Int} (hj : inN a j) {b : Bool} : za_in (zo j) (zo 100) (if S.1 3 0 4 (zo j).toNatClampNeg = zo 1 then (some (.inl (some (zi (zo 1))), S) : Option zO) else some (.inl (some (zi (zo (bI b)))), S)) = some (.inl (some (zi (zo (bI (decide (rv e j = 2) || b))))), S) := by
  have uN := WF_nc hw
  have j1 := hj.1
  have j2 := hj.2
  have bj := hB j hj
  rw [zin_ok (by omega) (by omega) (by omega), zo_nn (by omega) (by omega), rv_in hj]
  obtain ⟨i, rfl⟩ : ∃ i : Nat, j = i := ⟨j.toNat, by omega⟩
  rw [Int.toNat_natCast, hE i j2]
  have bm := mm_b (e i)
  by_cases z : e i = 2
  · rw [if_pos (show zo (mm (e i)) = zo 1 by rw [z]; rfl), decide_eq_true z]; rfl
  · rw [if_neg (show ¬ zo (mm (e i)) = zo 1 by rw [zo_eq (by omega) (by omega) (by omega) (by omega)]; exact mm_n1 z bj), decide_eq_false z]; rfl
theorem m207_29 (h : Md S q a) (hw : WF T a) (hE : Em S a e) (hB : eB a e) {c : Int} (hc : inN a c) {f : Nat} : zy zF (d + 1) 207 (f + 1) 29 [some (za 3 0 0), some (zi (zo c)), some (zi (zo (a 0))), some (zi (zo (c % a 0)))] S = some (.inl (some (zi (zo (bI (decide (rv e (nb4 a c 2) = 2) || (decide (rv e (nb4 a c 0) = 2) || decide (rv e (nb4 a c 3) = 2))))))), S) := by
  have uN := WF_nc hw
  have u0 := hw.1.1
  have hc1 := hc.1
  have hc2 := hc.2
  obtain ⟨k0, k1, k2, k3⟩ := nb_num hw hc
  have r0 := nb4_rng a c 0
  have r2 := nb4_rng a c 2
  have r3 := nb4_rng a c 3
  have cf := cel_of (by omega) hc.1 hc.2
  have x1 := cf.1.1
  have rvm : rv e (-1) = 0 := if_pos rfl
  have t3 : zx_ret1 (zr_sem zF (d + 1) 152 [za 3 0 0] S) (fun x3 S1 => if x3 - zo (a 0) ≤ zo c then (some (.inl (some (zi (zo 0))), S1) : Option zO) else za_in (zo c + zo (a 0)) (zo 100) (if S1.1 3 0 4 (zo c + zo (a 0)).toNatClampNeg = zo 1 then (some (.inl (some (zi (zo 1))), S1) : Option zO) else some (.inl (some (zi (zo 0))), S1))) zxx = some (.inl (some (zi (zo (bI (decide (rv e (nb4 a c 3) = 2)))))), S) := by
    rw [m152 h, zr1, zo_sub, zo_add]
    by_cases z : a 0 * a 1 - a 0 ≤ c
    · rw [if_pos (show zo (a 0 * a 1 - a 0) ≤ zo c by rw [zo_le (by omega) (by omega) (by omega) (by omega)]; exact z), k3, if_pos z, rvm]; rfl
    · rw [if_neg (show ¬ zo (a 0 * a 1 - a 0) ≤ zo c by rw [zo_le (by omega) (by omega) (by omega) (by omega)]; exact z), k3, if_neg z]
      rw [k3, if_neg z] at r3
      have i3 : inN a (c + a 0) := r3.resolve_left (by omega)
      have := Em_st hw hE hB i3 (b := false)
      rw [Bool.or_false] at this
      exact this
  have t0 : (if zo c < zo (a 0) then zx_ret1 (zr_sem zF (d + 1) 152 [za 3 0 0] S) (fun x3 S1 => if x3 - zo (a 0) ≤ zo c then (some (.inl (some (zi (zo 0))), S1) : Option zO) else za_in (zo c + zo (a 0)) (zo 100) (if S1.1 3 0 4 (zo c + zo (a 0)).toNatClampNeg = zo 1 then (some (.inl (some (zi (zo 1))), S1) : Option zO) else some (.inl (some (zi (zo 0))), S1))) zxx else za_in (zo c - zo (a 0)) (zo 100) (if S.1 3 0 4 (zo c - zo (a 0)).toNatClampNeg = zo 1 then (some (.inl (some (zi (zo 1))), S) : Option zO) else zx_ret1 (zr_sem zF (d + 1) 152 [za 3 0 0] S) (fun x3 S1 => if x3 - zo (a 0) ≤ zo c then (some (.inl (some (zi (zo 0))), S1) : Option zO) else za_in (zo c + zo (a 0)) (zo 100) (if S1.1 3 0 4 (zo c + zo (a 0)).toNatClampNeg = zo 1 then (some (.inl (some (zi (zo 1))), S1) : Option zO) else some (.inl (some (zi (zo 0))), S1))) zxx)) = some (.inl (some (zi (zo (bI (decide (rv e (nb4 a c 0) = 2) || decide (rv e (nb4 a c 3) = 2)))))), S) := by
    rw [t3]
    by_cases z : c < a 0
    · rw [if_pos (show zo c < zo (a 0) by rw [zo_lt (by omega) (by omega) (by omega) (by omega)]; exact z), k0, if_pos z, rvm]; rfl
    · rw [if_neg (show ¬ zo c < zo (a 0) by rw [zo_lt (by omega) (by omega) (by omega) (by omega)]; exact z), k0, if_neg z, zo_sub]
      rw [k0, if_neg z] at r0
      exact Em_st hw hE hB (r0.resolve_left (by omega))
  rw [ze_207_29]
  refine Eq.trans (b := if zo (a 0) - zo 1 ≤ zo (c % a 0) then some (.inl (some (zi (zo (bI (decide (rv e (nb4 a c 0) = 2) || decide (rv e (nb4 a c 3) = 2)))))), S) else za_in (zo c + zo 1) (zo 100) (if S.1 3 0 4 (zo c + zo 1).toNatClampNeg = zo 1 then (some (.inl (some (zi (zo 1))), S) : Option zO) else some (.inl (some (zi (zo (bI (decide (rv e (nb4 a c 0) = 2) || decide (rv e (nb4 a c 3) = 2)))))), S))) ?_ ?_
  · rw [← t0]
  · rw [zo_sub, zo_add]
    by_cases z : a 0 - 1 ≤ c % a 0
    · rw [if_pos (show zo (a 0 - 1) ≤ zo (c % a 0) by rw [zo_le (by omega) (by omega) (by omega) (by omega)]; exact z), k2, if_pos z, rvm]; rfl
    · rw [if_neg (show ¬ zo (a 0 - 1) ≤ zo (c % a 0) by rw [zo_le (by omega) (by omega) (by omega) (by omega)]; exact z), k2, if_neg z]
      rw [k2, if_neg z] at r2
      exact Em_st hw hE hB (r2.resolve_left (by omega))
theorem m207 (h : Md S q a) (hw : WF T a) (hE : Em S a e) (hB : eB a e) {c : Int} (hc : inN a c) : zr_sem zF (d + 2) 207 [za 3 0 0, zi (zo c)] S = some (.inl (some (zi (zo (bI (adj a e c))))), S) := by
  have hb := zF1_big
  have uN := WF_nc hw
  have u0 := hw.1.1
  have hc1 := hc.1
  have hc2 := hc.2
  obtain ⟨k0, k1, k2, k3⟩ := nb_num hw hc
  have r1 := nb4_rng a c 1
  have cf := cel_of (by omega) hc.1 hc.2
  have x1 := cf.1.1
  have rvm : rv e (-1) = 0 := if_pos rfl
  obtain ⟨f, hf⟩ : ∃ f', zF1 = f' + 1 := ⟨zF1 - 1, by omega⟩
  rw [ze_207, if_pos (by rw [h.1]; exact h.2.1), zin_ok (by omega) (by omega) (by omega), m155 h hw hc1 (by omega), zr1, h.1, show (zo 0).toNatClampNeg = 0 from rfl, h.2.2 0 (by omega), hf, m207_29 h hw hE hB hc]
  have ea : adj a e c = (decide (rv e (nb4 a c 1) = 2) || (decide (rv e (nb4 a c 2) = 2) || (decide (rv e (nb4 a c 0) = 2) || decide (rv e (nb4 a c 3) = 2)))) := by
    unfold adj
    generalize decide (rv e (nb4 a c 0) = 2) = b0
    generalize decide (rv e (nb4 a c 1) = 2) = b1
    generalize decide (rv e (nb4 a c 2) = 2) = b2
    generalize decide (rv e (nb4 a c 3) = 2) = b3
    cases b0 <;> cases b1 <;> cases b2 <;> cases b3 <;> rfl
  rw [ea, zo_sub]
  by_cases z : c % a 0 ≤ 0
  · rw [if_pos (show zo (c % a 0) ≤ zo 0 by rw [zo_le (by omega) (by omega) (by omega) (by omega)]; exact z), k1, if_pos z, rvm]; rfl
  · rw [if_neg (show ¬ zo (c % a 0) ≤ zo 0 by rw [zo_le (by omega) (by omega) (by omega) (by omega)]; exact z), k1, if_neg z]
    have m0 := Int.mul_nonneg (show 0 ≤ a 0 by omega) cf.1.2.1
    have m1 := cf.2
    rw [k1, if_neg z] at r1
    exact Em_st hw hE hB (r1.resolve_left (by omega))
theorem Em_gup (h : Em S a e) {k : Nat} : Em (zs_set S 3 0 4 k (zo 1)) a (gup e k 2) := fun i hi => by
  unfold gup
  by_cases z : i = k
  · subst z; rw [zs_self, if_pos rfl]; rfl
  · rw [zs_oth (by omega), if_neg (by omega)]; exact h i hi
theorem m206_120 (hw : WF T a) (hB : eB a e) (hl : 0 ≤ l ∧ l ≤ 1000000) : ∀ (m k f : Nat) (S : zS), k + m = (a 0 * a 1).toNat → m + 1 < f → Md S q a → Em S a (swF a e k) → ∃ S' f', f ≤ f' + (m + 1) ∧ zy zF (d + 2) 206 f 120 [some (za 3 0 0), none, none, none, none, some (zi (zo (l + swS a e k))), some (zi (zo (if swS a e k = 0 then 0 else 1))), some (zi (zo k))] S = zy zF (d + 2) 206 f' 109 [some (za 3 0 0), none, none, none, none, some (zi (zo (l + swS a e (a 0 * a 1).toNat))), some (zi (zo (if swS a e (a 0 * a 1).toNat = 0 then 0 else 1))), none] S' ∧ Em S' a (swF a e (a 0 * a 1).toNat) ∧ Fn S S' := by
  have uN := WF_nc hw
  intro m
  induction m with
  | zero =>
    intro k f S hk hf h hE
    obtain ⟨f, rfl⟩ : ∃ f', f = f' + 1 := ⟨f - 1, by omega⟩
    rw [show k = (a 0 * a 1).toNat by omega] at hE ⊢
    refine ⟨S, f, by omega, ?_, hE, Fn_refl S⟩
    rw [ze_206_120, m152 h, zr1, if_pos (show zo (a 0 * a 1) ≤ zo (((a 0 * a 1).toNat : Nat) : Int) by rw [zo_le (by omega) (by omega) (by omega) (by omega)]; omega)]
  | succ m ih =>
    intro k f S hk hf h hE
    obtain ⟨f, rfl⟩ : ∃ f', f = f' + 1 := ⟨f - 1, by omega⟩
    have ic : inN a (k : Int) := ⟨by omega, by omega⟩
    have bS := swF_B hB k
    have bk := bS _ ic
    have bs := swS_b (a := a) (e := e) k
    have bm := mm_b (swF a e k k)
    rw [ze_206_120, m152 h, zr1, if_neg (show ¬ zo (a 0 * a 1) ≤ zo (k : Int) by rw [zo_le (by omega) (by omega) (by omega) (by omega)]; omega), zin_ok (by omega) (by omega) (by omega), zo_nn (by omega) (by omega), Int.toNat_natCast, hE k ic.2, m207 h hw hE bS ic, zr1, zo_add, show (k : Int) + 1 = ((k + 1 : Nat) : Int) from rfl]
    by_cases z : swF a e k k = 1
    · rw [if_pos (show zo (mm (swF a e k k)) = zo 0 by rw [z]; rfl)]
      by_cases j : adj a (swF a e k) k = true
      · have e2 : swF a e (k + 1) = gup (swF a e k) k 2 := by rw [swF_s, if_pos ⟨z, j⟩]
        have e3 : swS a e (k + 1) = swS a e k + 1 := by rw [swS_s, if_pos ⟨z, j⟩]
        have hE2 := Em_gup hE (k := k)
        rw [← e2] at hE2
        have hF := Fn_set (Fn_refl S) k (zo 1)
        obtain ⟨S2, f2, q1, q2, q3, q4⟩ := ih (k + 1) f (zs_set S 3 0 4 k (zo 1)) (by omega) (by omega) (Fn_Md hF h) hE2
        rw [e3, if_neg (show ¬ swS a e k + 1 = 0 by omega), ← Int.add_assoc] at q2
        refine ⟨S2, f2, by omega, ?_, q3, Fn_trans hF q4⟩
        rw [j, if_neg (by decide), zin_ok (by omega) (by omega) (by omega), zlt_eq, zo_add]
        exact q2
      · have e2 : swF a e (k + 1) = swF a e k := by rw [swF_s, if_neg (fun t => j t.2)]
        have e3 : swS a e (k + 1) = swS a e k := by rw [swS_s, if_neg (fun t => j t.2)]
        obtain ⟨S2, f2, q1, q2, q3, q4⟩ := ih (k + 1) f S (by omega) (by omega) h (by rw [e2]; exact hE)
        rw [e3] at q2
        refine ⟨S2, f2, by omega, ?_, q3, q4⟩
        rw [Bool.eq_false_iff.2 j, if_pos (show zo (bI false) = zo 0 from rfl)]
        exact q2
    · have e2 : swF a e (k + 1) = swF a e k := by rw [swF_s, if_neg (fun t => z t.1)]
      have e3 : swS a e (k + 1) = swS a e k := by rw [swS_s, if_neg (fun t => z t.1)]
      obtain ⟨S2, f2, q1, q2, q3, q4⟩ := ih (k + 1) f S (by omega) (by omega) h (by rw [e2]; exact hE)
      rw [e3] at q2
      refine ⟨S2, f2, by omega, ?_, q3, q4⟩
      rw [if_neg (show ¬ zo (mm (swF a e k k)) = zo 0 by rw [zo_eq (by omega) (by omega) (by omega) (by omega)]; exact mm_n0 z)]
      exact q2
theorem ope_s : ∀ k : Nat, k ≤ (a 0 * a 1).toNat → ope a (swF a e k) = ope a e - swS a e k := by
  intro k
  induction k with
  | zero => intro _; show ope a e = ope a e - 0; omega
  | succ k ih =>
    intro hk
    have i := ih (by omega)
    by_cases z : swF a e k k = 1 ∧ adj a (swF a e k) k = true
    · rw [swF_s, swS_s, if_pos z, if_pos z]
      have t := zsum_at (f := fun i => if swF a e k (i : Int) = 1 then 1 else 0) (g := fun i => if gup (swF a e k) k 2 (i : Int) = 1 then 1 else 0) k (a 0 * a 1).toNat (by omega) (fun i hi hn => by unfold gup; rw [if_neg (show ¬ (i : Int) = k by omega)])
      have t2 : (if gup (swF a e k) k 2 (k : Int) = 1 then (1 : Int) else 0) = 0 := by unfold gup; rw [if_pos rfl]; rfl
      rw [t2, if_pos z.1] at t
      unfold ope at i ⊢
      omega
    · rw [swF_s, swS_s, if_neg z, if_neg z]; exact i
theorem ope_ge (a : Rw) (e : Int → Int) : 0 ≤ ope a e := zsum_ge _ _ (fun i _ => by split <;> omega)
theorem m206_109 (hw : WF T a) : ∀ (m f : Nat) (S : zS) (e : Int → Int) (l : Int), ope a e ≤ m → 110 * (m + 2) < f → 0 ≤ l ∧ l + 100 * m ≤ 100000 → Md S q a → Em S a e → eB a e → ∃ S', zy zF (d + 2) 206 f 109 [some (za 3 0 0), none, none, none, none, some (zi (zo l)), some (zi (zo 1)), none] S = some (.inl (some (zi (zo (l + rou a (m + 1) e)))), S') ∧ Fn S S' := by
  have uN := WF_nc hw
  intro m
  induction m with
  | zero =>
    intro f S e l ho hf hl h hE hB
    obtain ⟨f, rfl⟩ : ∃ f', f = f' + 1 := ⟨f - 1, by omega⟩
    obtain ⟨S1, f1, p0, p1, p2, p3⟩ := m206_120 (d := d) hw hB (l := l) (by omega) (a 0 * a 1).toNat 0 f S (by omega) (by omega) h hE
    rw [show swS a e 0 = 0 from rfl, if_pos rfl, Int.add_zero] at p1
    have o1 := ope_s (a := a) (e := e) _ (Nat.le_refl _)
    have o2 := ope_ge a (swF a e (a 0 * a 1).toNat)
    have bs := swS_b (a := a) (e := e) (a 0 * a 1).toNat
    obtain ⟨f1, rfl⟩ : ∃ f', f1 = f' + 1 := ⟨f1 - 1, by omega⟩
    refine ⟨S1, ?_, p3⟩
    rw [ze_206_109, if_neg (by decide)]
    refine p1.trans ?_
    have z : swS a e (a 0 * a 1).toNat = 0 := by omega
    rw [z, if_pos rfl, Int.add_zero, ze_206_109, if_pos rfl, rou_s, if_pos z, Int.add_zero]
  | succ m ih =>
    intro f S e l ho hf hl h hE hB
    obtain ⟨f, rfl⟩ : ∃ f', f = f' + 1 := ⟨f - 1, by omega⟩
    obtain ⟨S1, f1, p0, p1, p2, p3⟩ := m206_120 (d := d) hw hB (l := l) (by omega) (a 0 * a 1).toNat 0 f S (by omega) (by omega) h hE
    rw [show swS a e 0 = 0 from rfl, if_pos rfl, Int.add_zero] at p1
    have o1 := ope_s (a := a) (e := e) _ (Nat.le_refl _)
    have o2 := ope_ge a (swF a e (a 0 * a 1).toNat)
    have bs := swS_b (a := a) (e := e) (a 0 * a 1).toNat
    obtain ⟨f1, rfl⟩ : ∃ f', f1 = f' + 1 := ⟨f1 - 1, by omega⟩
    by_cases z : swS a e (a 0 * a 1).toNat = 0
    · refine ⟨S1, ?_, p3⟩
      rw [ze_206_109, if_neg (by decide)]
      refine p1.trans ?_
      rw [z, if_pos rfl, Int.add_zero, ze_206_109, if_pos rfl, rou_s, if_pos z, Int.add_zero]
    · obtain ⟨S2, q1, q2⟩ := ih (f1 + 1) S1 (swF a e (a 0 * a 1).toNat) (l + swS a e (a 0 * a 1).toNat) (by omega) (by omega) (by omega) (Fn_Md p3 h) p2 (swF_B hB _)
      refine ⟨S2, ?_, Fn_trans p3 q2⟩
      rw [ze_206_109, if_neg (by decide)]
      refine p1.trans ?_
      rw [if_neg z, rou_s (m + 1), if_neg z, ← Int.add_assoc]
      exact q1
theorem m206_35 (hw : WF T a) {x y : Int} (hc : vC a x y) (g1 : -2147483648 ≤ v) (g2 : v < 2147483648) : ∀ (m k f : Nat) (S : zS), k + m = (a 0 * a 1).toNat → m + 20000 < f → Md S q a → (∀ i : Nat, i < k → S.1 3 0 4 i = zo (mm (rsF a v i))) → ∃ S', zy zF (d + 6) 206 f 35 [some (za 3 0 0), some (zi (zo x)), some (zi (zo y)), some (zi (zo v)), some (zi (zo k)), none, none, none] S = some (.inl (some (zi (zo (clmV a (a 0 * y + x) v)))), S') ∧ Fn S S' := by
  have uN := WF_nc hw
  have ic := cel_inN hc
  have i1 := ic.1
  have i2 := ic.2
  intro m
  induction m with
  | zero =>
    intro k f S hk hf h hE
    obtain ⟨f, rfl⟩ : ∃ f', f = f' + 1 := ⟨f - 1, by omega⟩
    have hE : Em S a (rsF a v) := fun i hi => hE i (by omega)
    rw [ze_206_35, m152 h, zr1, if_pos (show zo (a 0 * a 1) ≤ zo (k : Int) by rw [zo_le (by omega) (by omega) (by omega) (by omega)]; omega), m154 h, zr1]
    obtain ⟨i, hi⟩ : ∃ i : Nat, a 0 * y + x = i := ⟨(a 0 * y + x).toNat, by omega⟩
    rw [hi] at ic i2 ⊢
    have bb := rsF_B a v _ ic
    have bm := mm_b (rsF a v i)
    rw [zin_ok (by omega) (by omega) (by omega), zo_nn (by omega) (by omega), Int.toNat_natCast, hE i i2, zin_ok (by omega) (by omega) (by omega), zlt_eq]
    unfold clmV
    by_cases z : rsF a v i = 1
    · rw [if_neg (show ¬ zo (mm (rsF a v i)) = zo 2 by rw [z]; decide), if_pos z, Int.toNat_natCast]
      have hF := Fn_set (Fn_refl S) i (zo 1)
      have t := zsum_at (f := fun j => if rsF a v (j : Int) = 1 then 1 else 0) (g := fun j => if gup (rsF a v) i 2 (j : Int) = 1 then 1 else 0) i (a 0 * a 1).toNat (by omega) (fun j hj hn => by unfold gup; rw [if_neg (show ¬ (j : Int) = i by omega)])
      have t2 : (if gup (rsF a v) i 2 (i : Int) = 1 then (1 : Int) else 0) = 0 := by unfold gup; rw [if_pos rfl]; rfl
      have t3 := zsum_le (fun j => if rsF a v (j : Int) = 1 then 1 else 0) 1 (a 0 * a 1).toNat (fun j _ => by show (if _ then (1 : Int) else 0) ≤ 1; split <;> omega)
      rw [t2, if_pos z] at t
      obtain ⟨S2, q1, q2⟩ := m206_109 (d := d + 4) hw 99 f _ _ 1 (show ope a (gup (rsF a v) i 2) ≤ ((99 : Nat) : Int) by unfold ope; omega) (by omega) (by omega) (Fn_Md hF h) (Em_gup hE (k := i)) (gup_B (rsF_B a v) (by omega))
      exact ⟨S2, q1, Fn_trans hF q2⟩
    · refine ⟨S, ?_, Fn_refl S⟩
      have z0 : rsF a v i = 0 := by
        unfold rsF at z ⊢
        split at z
        · rename_i y; rw [if_pos y]
        · omega
      rw [if_pos (show zo (mm (rsF a v i)) = zo 2 by rw [z0]; rfl), if_neg z]
  | succ m ih =>
    intro k f S hk hf h hE
    obtain ⟨f, rfl⟩ : ∃ f', f = f' + 1 := ⟨f - 1, by omega⟩
    have st : ∀ i : Nat, i < k + 1 → (zs_set S 3 0 4 k (zo (mm (rsF a v k)))).1 3 0 4 i = zo (mm (rsF a v i)) := fun i hi => by
      by_cases z : i = k
      · subst z; rw [zs_self]
      · rw [zs_oth (by omega)]; exact hE i (by omega)
    have hF := Fn_set (Fn_refl S) k (zo (mm (rsF a v k)))
    obtain ⟨S2, q1, q2⟩ := ih (k + 1) f _ (by omega) (by omega) (Fn_Md hF h) st
    refine ⟨S2, ?_, Fn_trans hF q2⟩
    rw [ze_206_35, m152 h, zr1, if_neg (show ¬ zo (a 0 * a 1) ≤ zo (k : Int) by rw [zo_le (by omega) (by omega) (by omega) (by omega)]; omega), m178 h hw (c := (k : Int)) (by omega) (by omega), zr3, zin_ok (by omega) (by omega) (by omega), zin_ok (by omega) (by omega) (by omega), zlt_eq, zlt_eq, zo_nn (by omega) (by omega), Int.toNat_natCast, zo_add]
    by_cases z : zo 0 < Op.cmpValue (FP.fcmp (frc a k) (FP.i2f (zo v))) .g
    · have e1 : rsF a v k = 0 := if_pos z
      rw [e1] at q1
      rw [if_pos z]
      exact q1
    · have e1 : rsF a v k = 1 := if_neg z
      rw [e1] at q1
      rw [if_neg z]
      exact q1
theorem MA_n {mi : Nat} {av : List zV} {v : Int} {S' : zS} (h : zr_sem zF d mi av S = some (.inl (some (zi (zo v))), S')) (hF : Fn (mt S 0) S') : MA d mi av S 0 v := ⟨S', v, h, by rw [hF.2 _ _ _ _ (by omega)]; exact mt_10 S 0, fun _ => rfl, RM_trans (RM_mt S 0) ⟨hF.1, fun k n o j _ b => hF.2 k n o j (by omega)⟩⟩
theorem B206 (h : Md S 0 a) (hw : WF T a) (g1 : -2147483648 ≤ p) (g2 : p < 2147483648) (g3 : -2147483648 ≤ r) (g4 : r < 2147483648) (g5 : -2147483648 ≤ x) (g6 : x < 2147483648) : MA (d + 7) 206 [za 3 0 0, zi (zo p), zi (zo r), zi (zo x)] S (if vC a p r then (if 0 ≤ x ∧ x ≤ 9999 then 0 else 2) else 1) (clmV a (a 0 * r + p) x) := by
  have hb := zF1_big
  have uN := WF_nc hw
  have h0 := Md_mt h 0
  by_cases c : vC a p r
  · have d2 : decide ((0 ≤ p ∧ p < a 0) ∧ 0 ≤ r ∧ r < a 1) = true := decide_eq_true c
    rw [if_pos c]
    by_cases c2 : 0 ≤ x ∧ x ≤ 9999
    · have d3 : decide (0 ≤ x ∧ x ≤ 9999) = true := decide_eq_true c2
      rw [if_pos c2]
      obtain ⟨S1, q1, q2⟩ := m206_35 (d := d) hw c g5 g6 (a 0 * a 1).toNat 0 zF1 (mt S 0) (by omega) (by omega) h0 (fun i z => by omega)
      refine MA_n (S' := S1) ?_ q2
      rw [ze_206]
      simp (maxSteps := 10000000) (disch := omega) only [m153 h hw, d2, bI_t, m148_1, m147, d3, zo_add, zo_sub, zo_mul, zo_neg, zo_lt, zo_le, zo_eq, zo_nn, zin_ok, zlt_eq, zr0, zr1, zr3, zr4, zr0x, zr1x, zr3x, zr4x, zb_and, zb_0, zmin_o, zmax_o, zabs_o, zo_div, zo_mod, ↓reduceIte, Int.reduceToNat, Int.reduceNeg, Int.reduceAdd, Int.reduceMul, Int.reduceSub, Int.reduceEq, Int.reduceLT, Int.reduceLE, if_true, if_false, Nat.reduceAdd, Nat.reduceMul]
      exact q1
    · have d3 : decide (0 ≤ x ∧ x ≤ 9999) = false := decide_eq_false c2
      rw [if_neg c2]
      refine MA_x (t := 1) (w := 0) ?_
      rw [ze_206]
      simp (maxSteps := 10000000) (disch := omega) only [m153 h hw, d2, bI_t, bI_f, m148_1, m147, d3, m146, mt_mt, zo_add, zo_sub, zo_mul, zo_neg, zo_lt, zo_le, zo_eq, zo_nn, zin_ok, zlt_eq, zr0, zr1, zr3, zr4, zr0x, zr1x, zr3x, zr4x, zb_and, zb_0, zmin_o, zmax_o, zabs_o, zo_div, zo_mod, ↓reduceIte, Int.reduceToNat, Int.reduceNeg, Int.reduceAdd, Int.reduceMul, Int.reduceSub, Int.reduceEq, Int.reduceLT, Int.reduceLE, if_true, if_false, Nat.reduceAdd, Nat.reduceMul]
      rfl
  · have d2 : decide ((0 ≤ p ∧ p < a 0) ∧ 0 ≤ r ∧ r < a 1) = false := decide_eq_false c
    rw [if_neg c]
    refine MA_x (t := 0) (w := 0) ?_
    rw [ze_206]
    simp (maxSteps := 10000000) (disch := omega) only [m153 h hw, d2, bI_f, m148_0, zo_add, zo_sub, zo_mul, zo_neg, zo_lt, zo_le, zo_eq, zo_nn, zin_ok, zlt_eq, zr0, zr1, zr3, zr4, zr0x, zr1x, zr3x, zr4x, zb_and, zb_0, zmin_o, zmax_o, zabs_o, zo_div, zo_mod, ↓reduceIte, Int.reduceToNat, Int.reduceNeg, Int.reduceAdd, Int.reduceMul, Int.reduceSub, Int.reduceEq, Int.reduceLT, Int.reduceLE, if_true, if_false, Nat.reduceAdd, Nat.reduceMul]
    rfl
end DA

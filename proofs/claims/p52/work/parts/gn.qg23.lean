/-! THE LAW'S PURE SIDE 33: soap is not lost -/
theorem zshift {g h : Nat → Int} {W : Nat} : ∀ n : Nat, (∀ c, c < W → g c = 0) → (∀ c, c < n → g (W + c) = h c) → zsum g (W + n) = zsum h n
  | 0, h0, _ => by
    rw [Nat.add_zero, zsum_congr W h0, zsum_0]
    rfl
  | n + 1, h0, h1 => by
    have i := zshift n h0 (fun c hc => h1 c (by omega))
    have e := h1 n (by omega)
    show zsum g (W + n) + g (W + n) = zsum h n + h n
    omega
theorem ztail {h : Nat → Int} {n : Nat} : ∀ m : Nat, (∀ c, n ≤ c → c < n + m → h c = 0) → zsum h (n + m) = zsum h n
  | 0, _ => rfl
  | m + 1, h1 => by
    have i := ztail m (fun c hc hm => h1 c hc (by omega))
    have e := h1 (n + m) (by omega) (by omega)
    show zsum h (n + m) + h (n + m) = _
    omega
theorem zshift2 {g h : Nat → Int} {W N : Nat} (hN : W ≤ N) (h0 : ∀ c, c < W → g c = 0) (h1 : ∀ c, c < N - W → g (W + c) = h c) (h2 : ∀ c, N - W ≤ c → c < N → h c = 0) : zsum g N = zsum h N := by
  have e1 := zshift (g := g) (h := h) (N - W) h0 h1
  have e2 := ztail (h := h) (n := N - W) W (fun c a b => h2 c a (by omega))
  rw [show W + (N - W) = N by omega] at e1
  rw [show N - W + W = N by omega] at e2
  omega
theorem md1 {c W : Int} (hW : 0 < W) : (c + 1) % W = if c % W = W - 1 then 0 else c % W + 1 := by
  have e := Int.emod_add_mul_ediv c W
  have r0 := Int.emod_nonneg c (show W ≠ 0 by omega)
  have r1 := Int.emod_lt_of_pos c hW
  by_cases h : c % W = W - 1
  · rw [if_pos h, show c + 1 = W * (c / W + 1) by rw [Int.mul_add, Int.mul_one]; omega, Int.mul_emod_right]
  · rw [if_neg h, show c + 1 = (c % W + 1) + W * (c / W) by omega, Int.add_mul_emod_self_left]
    exact Int.emod_eq_of_lt (by omega) (by omega)
section SO
variable {a : Rw} {Tm : Int}
def sF (a : Rw) (c : Nat) : Int := if 4 ≤ a (160 + c) then 1 else 0
theorem sF_b (a : Rw) (c : Nat) : sF a c = 0 ∨ sF a c = 1 := by unfold sF; split <;> omega
theorem spF_in {x y : Int} {c : Nat} (h : vC a x y) (e : a 0 * y + x = c) : spF a x y = sF a c := by
  unfold spF spIn sF
  rw [if_pos h, e, Int.toNat_natCast]
theorem spF_oo {x y : Int} (h : ¬ vC a x y) : spF a x y = 0 := by
  unfold spF spIn
  rw [if_neg h]
  rfl
theorem soap_sum (hw : WF Tm a) : zsum (spN a) (a 0 * a 1).toNat = zsum (fun c => a (160 + c)) (a 0 * a 1).toNat := by
  have w0 := hw.1.1
  have w1 := hw.1.2.1
  have wn := WF_nc hw
  have eW : (((a 0).toNat : Nat) : Int) = a 0 := by omega
  have eN : (((a 0 * a 1).toNat : Nat) : Int) = a 0 * a 1 := by omega
  have em : a 0 * (a 1 - 1) = a 0 * a 1 - a 0 := by rw [Int.mul_sub, Int.mul_one]
  have hWN : a 0 ≤ a 0 * a 1 := by
    have := Int.mul_le_mul_of_nonneg_left (show 1 ≤ a 1 by omega) (show 0 ≤ a 0 by omega)
    rw [Int.mul_one] at this
    exact this
  generalize hN : (a 0 * a 1).toNat = N at eN
  generalize hW : (a 0).toNat = W at eW
  -- columns and rows of the cells
  have cel : ∀ c : Nat, c < N → vC a ((c : Int) % a 0) ((c : Int) / a 0) ∧ a 0 * ((c : Int) / a 0) + (c : Int) % a 0 = c := fun c hc => cellr hw (by omega)
  have y0 : ∀ c : Nat, c < W → (c : Int) / a 0 = 0 := fun c hc => Int.ediv_eq_zero_of_lt (by omega) (by omega)
  have yl : ∀ c : Nat, c < N - W → (c : Int) / a 0 < a 1 - 1 := fun c hc => Int.ediv_lt_of_lt_mul (by omega) (by rw [Int.mul_comm, em]; omega)
  have yh : ∀ c : Nat, N - W ≤ c → c < N → (c : Int) / a 0 = a 1 - 1 := fun c hc hc2 => by
    have h1 : a 1 - 1 ≤ (c : Int) / a 0 := Int.le_ediv_of_mul_le (by omega) (by rw [Int.mul_comm, em]; omega)
    have h2 := (cel c hc2).1
    omega
  have y1 : ∀ c : Nat, c < N - W → ((W + c : Nat) : Int) / a 0 = (c : Int) / a 0 + 1 ∧ ((W + c : Nat) : Int) % a 0 = (c : Int) % a 0 := fun c hc => by
    obtain ⟨h1, h2⟩ := cel c (by omega)
    have h3 := yl c hc
    have h4 : (0 ≤ (c : Int) % a 0 ∧ (c : Int) % a 0 < a 0) ∧ (0 ≤ (c : Int) / a 0 + 1 ∧ (c : Int) / a 0 + 1 < a 1) := by omega
    have h5 := cel_mod h4
    rw [Int.mul_add, Int.mul_one] at h5
    rw [show ((W + c : Nat) : Int) = a 0 * ((c : Int) / a 0) + a 0 + (c : Int) % a 0 by omega]
    exact ⟨h5.2, h5.1⟩
  have x0 : ((0 : Nat) : Int) % a 0 = 0 := Int.zero_emod _
  have xl : ((N - 1 : Nat) : Int) % a 0 = a 0 - 1 := by
    have h5 := cel_mod (a := a) (x := a 0 - 1) (y := a 1 - 1) (by omega)
    rw [em] at h5
    rw [show ((N - 1 : Nat) : Int) = a 0 * a 1 - a 0 + (a 0 - 1) by omega]
    exact h5.1
  have x1 : ∀ c : Nat, ((1 + c : Nat) : Int) % a 0 = if (c : Int) % a 0 = a 0 - 1 then 0 else (c : Int) % a 0 + 1 := fun c => by
    rw [show ((1 + c : Nat) : Int) = (c : Int) + 1 by omega]
    exact md1 (by omega)
  -- the four shifts
  have sL : zsum (fun c => if (c : Int) % a 0 = 0 then 0 else sF a (c - 1)) N = zsum (fun c => if (c : Int) % a 0 = a 0 - 1 then 0 else sF a c) N := by
    refine zshift2 (W := 1) (by omega) (fun c hc => ?_) (fun c hc => ?_) (fun c hc hc2 => ?_)
    · rw [show c = 0 by omega, if_pos x0]
    · obtain ⟨h1, h2⟩ := cel c (by omega)
      have e := x1 c
      by_cases k : (c : Int) % a 0 = a 0 - 1
      · rw [if_pos k] at e
        rw [if_pos k, if_pos e]
      · rw [if_neg k] at e
        rw [if_neg k, if_neg (by omega), show 1 + c - 1 = c by omega]
    · rw [show c = N - 1 by omega, if_pos xl]
  have sR : zsum (fun c => if (c : Int) % a 0 = 0 then 0 else sF a c) N = zsum (fun c => if (c : Int) % a 0 = a 0 - 1 then 0 else sF a (c + 1)) N := by
    refine zshift2 (W := 1) (by omega) (fun c hc => ?_) (fun c hc => ?_) (fun c hc hc2 => ?_)
    · rw [show c = 0 by omega, if_pos x0]
    · obtain ⟨h1, h2⟩ := cel c (by omega)
      have e := x1 c
      by_cases k : (c : Int) % a 0 = a 0 - 1
      · rw [if_pos k] at e
        rw [if_pos k, if_pos e]
      · rw [if_neg k] at e
        rw [if_neg k, if_neg (by omega), Nat.add_comm]
    · rw [show c = N - 1 by omega, if_pos xl]
  have sU : zsum (fun c => if (c : Int) / a 0 = 0 then 0 else sF a (c - W)) N = zsum (fun c => if (c : Int) / a 0 = a 1 - 1 then 0 else sF a c) N := by
    refine zshift2 (W := W) (by omega) (fun c hc => ?_) (fun c hc => ?_) (fun c hc hc2 => ?_)
    · rw [if_pos (y0 c hc)]
    · obtain ⟨h1, h2⟩ := cel c (by omega)
      have e := (y1 c hc).1
      have e2 := yl c hc
      rw [if_neg (by omega), if_neg (by omega), show W + c - W = c by omega]
    · rw [if_pos (yh c hc hc2)]
  have sD : zsum (fun c => if (c : Int) / a 0 = 0 then 0 else sF a c) N = zsum (fun c => if (c : Int) / a 0 = a 1 - 1 then 0 else sF a (c + W)) N := by
    refine zshift2 (W := W) (by omega) (fun c hc => ?_) (fun c hc => ?_) (fun c hc hc2 => ?_)
    · rw [if_pos (y0 c hc)]
    · obtain ⟨h1, h2⟩ := cel c (by omega)
      have e := (y1 c hc).1
      have e2 := yl c hc
      rw [if_neg (by omega), if_neg (by omega), Nat.add_comm]
    · rw [if_pos (yh c hc hc2)]
  -- cell by cell
  have pw : ∀ c, c < N → spN a c + ((if (c : Int) % a 0 = a 0 - 1 then 0 else sF a c) + ((if (c : Int) % a 0 = 0 then 0 else sF a c) + ((if (c : Int) / a 0 = a 1 - 1 then 0 else sF a c) + (if (c : Int) / a 0 = 0 then 0 else sF a c)))) = a (160 + c) + ((if (c : Int) % a 0 = 0 then 0 else sF a (c - 1)) + ((if (c : Int) % a 0 = a 0 - 1 then 0 else sF a (c + 1)) + ((if (c : Int) / a 0 = 0 then 0 else sF a (c - W)) + (if (c : Int) / a 0 = a 1 - 1 then 0 else sF a (c + W))))) := by
    intro c hc
    obtain ⟨h1, h2⟩ := cel c hc
    unfold spN spA
    have f0 : spF a ((c : Int) % a 0) ((c : Int) / a 0) = sF a c := spF_in h1 h2
    have f1 : spF a ((c : Int) % a 0 - 1) ((c : Int) / a 0) = if (c : Int) % a 0 = 0 then 0 else sF a (c - 1) := by
      by_cases k : (c : Int) % a 0 = 0
      · rw [if_pos k]; exact spF_oo (fun z => by have := z.1.1; omega)
      · rw [if_neg k]
        have : a 0 * ((c : Int) / a 0) ≥ 0 := Int.mul_nonneg (by omega) (by omega)
        exact spF_in (by omega) (by omega)
    have f2 : spF a ((c : Int) % a 0 + 1) ((c : Int) / a 0) = if (c : Int) % a 0 = a 0 - 1 then 0 else sF a (c + 1) := by
      by_cases k : (c : Int) % a 0 = a 0 - 1
      · rw [if_pos k]; exact spF_oo (fun z => by have := z.1.2; omega)
      · rw [if_neg k]
        exact spF_in (by omega) (by omega)
    have f3 : spF a ((c : Int) % a 0) ((c : Int) / a 0 - 1) = if (c : Int) / a 0 = 0 then 0 else sF a (c - W) := by
      by_cases k : (c : Int) / a 0 = 0
      · rw [if_pos k]; exact spF_oo (fun z => by have := z.2.1; omega)
      · rw [if_neg k]
        have k2 : W ≤ c := by
          by_cases q : c < W
          · exact absurd (y0 c q) k
          · omega
        exact spF_in (by omega) (by rw [Int.mul_sub, Int.mul_one]; omega)
    have f4 : spF a ((c : Int) % a 0) ((c : Int) / a 0 + 1) = if (c : Int) / a 0 = a 1 - 1 then 0 else sF a (c + W) := by
      by_cases k : (c : Int) / a 0 = a 1 - 1
      · rw [if_pos k]; exact spF_oo (fun z => by have := z.2.2; omega)
      · rw [if_neg k]
        exact spF_in (by omega) (by rw [Int.mul_add, Int.mul_one]; omega)
    rw [f0, f1, f2, f3, f4]
    have k : sF a c * (4 - (if (c : Int) % a 0 = 0 then 1 else 0) - (if (c : Int) / a 0 = 0 then 1 else 0) - (if (c : Int) % a 0 = a 0 - 1 then 1 else 0) - (if (c : Int) / a 0 = a 1 - 1 then 1 else 0)) = (if (c : Int) % a 0 = a 0 - 1 then 0 else sF a c) + ((if (c : Int) % a 0 = 0 then 0 else sF a c) + ((if (c : Int) / a 0 = a 1 - 1 then 0 else sF a c) + (if (c : Int) / a 0 = 0 then 0 else sF a c))) := by
      rcases sF_b a c with e | e
      · rw [e, Int.zero_mul, ite_self, ite_self, ite_self, ite_self]
        rfl
      · rw [e, Int.one_mul]
        split <;> split <;> split <;> split <;> omega
    omega
  have t := zsum_congr N pw
  simp only [zsum_add] at t
  omega
theorem spr_160 {c : Nat} (hc : c < ncl a) : spr a (160 + c) = if 99 < spN a c then 99 else spN a c := by
  unfold spr
  rw [if_pos (by omega), show 160 + c - 160 = c by omega]
theorem zsum_mono {f g : Nat → Int} : ∀ n : Nat, (∀ i, i < n → f i ≤ g i) → zsum f n ≤ zsum g n
  | 0, _ => Int.le_refl _
  | n + 1, h => by
    have i := zsum_mono n (fun i hi => h i (by omega))
    have e := h n (by omega)
    show zsum f n + f n ≤ zsum g n + g n
    omega
/-- a cell gets no more than 4 -/
theorem spN_up (hw : WF Tm a) {c : Nat} (hc : (c : Int) < a 0 * a 1) : spN a c ≤ a (160 + c) + 4 := by
  have f0 := spF_b a ((c : Int) % a 0) ((c : Int) / a 0)
  have f1 := spF_b a ((c : Int) % a 0 - 1) ((c : Int) / a 0)
  have f2 := spF_b a ((c : Int) % a 0 + 1) ((c : Int) / a 0)
  have f3 := spF_b a ((c : Int) % a 0) ((c : Int) / a 0 - 1)
  have f4 := spF_b a ((c : Int) % a 0) ((c : Int) / a 0 + 1)
  have k : 0 ≤ spA a c := by unfold spA; split <;> split <;> split <;> split <;> omega
  have m := Int.mul_nonneg f0.1 k
  unfold spN
  omega
theorem spm_pas (hw : WF Tm a) (hT : Tm + 1 ≤ 1000000) : spm (pas a) ≤ spm a ∧ (mxS a (a 0 * a 1).toNat ≤ 95 → spm (pas a) = spm a) := by
  obtain ⟨w3, z0, z1, zs⟩ := ps3_s hw hT
  have e := soap_sum w3
  have n3 : ncl (ps3 a) = (a 0 * a 1).toNat := by unfold ncl; rw [z0, z1]
  have n4 : ncl (pas a) = (a 0 * a 1).toNat := by
    obtain ⟨-, -, k⟩ := pas_ok hw hT
    unfold ncl
    rw [k 0 (by omega) (by omega) (by omega), k 1 (by omega) (by omega) (by omega)]
  have s0 : spm a = zsum (fun c => ps3 a (160 + c)) (a 0 * a 1).toNat := zsum_congr _ (fun c _ => (zs _ (by omega)).symm)
  have s1 : spm (pas a) = zsum (fun c => spr (ps3 a) (160 + c)) (a 0 * a 1).toNat := by
    unfold spm
    rw [n4]
    rfl
  rw [z0, z1] at e
  rw [s0, s1, ← e]
  refine ⟨zsum_mono _ (fun c hc => ?_), fun hm => zsum_congr _ (fun c hc => ?_)⟩
  · rw [spr_160 (by rw [n3]; exact hc)]
    split <;> omega
  · have le := mxS_le (a := a) (a 0 * a 1).toNat c hc
    have u := spN_up w3 (c := c) (by rw [z0, z1]; omega)
    rw [zs _ (by omega)] at u
    rw [spr_160 (by rw [n3]; exact hc), if_neg (by omega)]
end SO

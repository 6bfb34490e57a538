/-! THE LAW'S PURE SIDE 27: what a turn does to one boat: soaks; the whole turn -/
section LR
variable {a : Rw} {Tm : Int}
theorem sok_b (hw : WF Tm a) {b : Nat} (hb : (b : Int) < a 9) : (∀ i, i < 10 → i ≠ 3 → i ≠ 6 → i ≠ 7 → sok a b (40 + 10 * b + i) = a (40 + 10 * b + i)) ∧ a (40 + 10 * b + 3) < sok a b (40 + 10 * b + 3) ∧ sok a b (40 + 10 * b + 3) ≤ a (40 + 10 * b + 3) + 10 := by
  have uN := WF_nc hw
  have gB := hw.2.2.2.1 b hb
  have gS := hw.2.2.2.2.1 (a (40 + 10 * b)).toNat (by omega)
  have w7 := hw.1.2.2.2.2.2.2.2
  have dl := drIn_lt (a := a) (a (40 + 10 * b)) (by omega)
  have dg := drIn_ge a (a (40 + 10 * b))
  unfold sok
  have hv : a (40 + 10 * b + 3) < a (40 + 10 * b + 3) + 1 + a (160 + (a (40 + 10 * b)).toNat) / 10 ∧ a (40 + 10 * b + 3) + 1 + a (160 + (a (40 + 10 * b)).toNat) / 10 ≤ a (40 + 10 * b + 3) + 10 := by omega
  generalize a (40 + 10 * b + 3) + 1 + a (160 + (a (40 + 10 * b)).toNat) / 10 = v at hv ⊢
  split
  · refine ⟨fun i h1 h3 h6 h7 => ?_, ?_⟩
    · rw [enB_at _ _ _ _ (by omega) (by omega), up_ne _ _ (by omega)]
    · rw [enB_at _ _ _ _ (by omega) (by omega), up_self]; exact hv
  · split
    · refine ⟨fun i h1 h3 h6 h7 => ?_, ?_⟩
      · rw [up_ne _ _ (by omega), enB_at _ _ _ _ (by omega) (by omega), up_ne _ _ (by omega)]
      · rw [up_ne _ _ (by omega), enB_at _ _ _ _ (by omega) (by omega), up_self]; exact hv
    · refine ⟨fun i h1 h3 h6 h7 => ?_, ?_⟩
      · rw [up_ne _ _ (by omega)]
      · rw [up_self]; exact hv
theorem skA_b (hw : WF Tm a) : ∀ n : Nat, (n : Int) ≤ a 9 → ∀ j : Nat, (j : Int) < a 9 → (∀ i, i < 10 → i ≠ 3 → i ≠ 6 → i ≠ 7 → zfold skA n a (40 + 10 * j + i) = a (40 + 10 * j + i)) ∧ (a (40 + 10 * j + 6) = 0 → j < n → a (40 + 10 * j + 3) < zfold skA n a (40 + 10 * j + 3) ∧ zfold skA n a (40 + 10 * j + 3) ≤ a (40 + 10 * j + 3) + 10) := by
  intro n
  have u9 := hw.1.2.2.2.2.2.2.2.2.2
  induction n with
  | zero => exact fun _ j hj => ⟨fun _ _ _ _ _ => rfl, fun _ h => absurd h (by omega)⟩
  | succ n ih =>
    intro hn j hj
    obtain ⟨i1, i2, i3, i4, i5, i6⟩ := skA_inv hw n (by omega)
    obtain ⟨j1, j2⟩ := ih (by omega) j hj
    rw [show zfold skA (n + 1) a = (if zfold skA n a (40 + 10 * n + 6) = 0 then sok (zfold skA n a) n else zfold skA n a) from rfl]
    have e9 := i2 9 (by omega)
    have e7 := i4 n 6 (by omega) (by omega) (by omega)
    by_cases c : zfold skA n a (40 + 10 * n + 6) = 0
    · rw [if_pos c]
      obtain ⟨d1, d2, d3, d4, d5⟩ := sok_ok (b := n) i1 (by omega) c
      obtain ⟨b1, b2⟩ := sok_b (b := n) i1 (by omega)
      by_cases e : j = n
      · subst e
        refine ⟨fun i h1 h3 h6 h7 => (b1 i h1 h3 h6 h7).trans (j1 i h1 h3 h6 h7), fun _ _ => ?_⟩
        rw [i4 j 3 (by omega) (by omega) (by omega)] at b2
        exact b2
      · refine ⟨fun i h1 h3 h6 h7 => (d4 j i (by omega) e h1).trans (j1 i h1 h3 h6 h7), fun h6 hjn => ?_⟩
        rw [d4 j 3 (by omega) e (by omega)]
        exact j2 h6 (by omega)
    · rw [if_neg c]
      refine ⟨j1, fun h6 hjn => ?_⟩
      by_cases e : j = n
      · subst e
        exact absurd h6 (by rw [← e7]; exact c)
      · exact j2 h6 (by omega)
/-- a turn, boat by boat -/
theorem pas_b (hw : WF Tm a) (hT : Tm + 1 ≤ 1000000) {j : Nat} (hj : (j : Int) < a 9) : Mv a (pas a) j ∧ (a (40 + 10 * j + 6) ≠ 0 → ∀ i, i < 10 → pas a (40 + 10 * j + i) = a (40 + 10 * j + i)) ∧ (a (40 + 10 * j + 6) = 0 → (a (40 + 10 * j + 3) < pas a (40 + 10 * j + 3) ∧ pas a (40 + 10 * j + 3) ≤ a (40 + 10 * j + 3) + 10) ∧ (pas a (40 + 10 * j + 6) ≠ 0 → pas a (40 + 10 * j + 7) = a 6 + 1)) ∧ (ps1 a 2 = 0 → pas a (40 + 10 * j) = a (40 + 10 * j)) ∧ (∀ i, i = 1 ∨ i = 2 → pas a (40 + 10 * j + i) = a (40 + 10 * j + i)) := by
  have u9 := hw.1.2.2.2.2.2.2.2.2.2
  obtain ⟨w1, e6, e1⟩ := ps1_ok hw hT
  have mv := ps1_mv hw hT
  have e9 := e1 9 (by omega) (by omega)
  have e0 := e1 0 (by omega) (by omega)
  have f : ∀ i, ps1 a (40 + 10 * j + i) = a (40 + 10 * j + i) := fun i => e1 _ (by omega) (by omega)
  obtain ⟨d1, d2, d3, d4, -⟩ := drA_inv w1 mv (a 9).toNat (by omega)
  obtain ⟨m1, -, m3⟩ := drA_mv w1 mv (a 9).toNat (by omega) j (by omega)
  have d4 := fun i hi => d4 j i (by omega) hi
  have z : ps1 a 2 = 0 → zfold drA (a 9).toNat (ps1 a) = ps1 a := fun h => drA_0 h _
  have f9 := d2 9 (by omega)
  have f6 := d2 6 (by omega)
  obtain ⟨s1, s2, s3, s4, s5, s6⟩ := skA_inv d1 (a 9).toNat (by omega)
  obtain ⟨b1, b2⟩ := skA_b d1 (a 9).toNat (by omega) j (by omega)
  have s5 := s5 j (by omega)
  have s6 := s6 j (by omega)
  obtain ⟨-, p2⟩ := spr_ok s1
  have p : ∀ i, i < 10 → pas a (40 + 10 * j + i) = zfold skA (a 9).toNat (zfold drA (a 9).toNat (ps1 a)) (40 + 10 * j + i) := fun i hi => p2 _ (by omega)
  generalize zfold skA (a 9).toNat (zfold drA (a 9).toNat (ps1 a)) = a3 at *
  generalize zfold drA (a 9).toNat (ps1 a) = a2 at *
  have g0 := (p 0 (by omega)).trans (b1 0 (by omega) (by omega) (by omega) (by omega))
  have g8 := (p 8 (by omega)).trans (b1 8 (by omega) (by omega) (by omega) (by omega))
  have g9 := (p 9 (by omega)).trans (b1 9 (by omega) (by omega) (by omega) (by omega))
  refine ⟨Mv_cg m1 e0 (f 0) (f 8) (f 9) g0 g8 g9, fun h6 i hi => ?_, fun h6 => ⟨?_, fun hn => ?_⟩, fun h2 => ?_, fun i hi => ?_⟩
  · have h1 : ps1 a (40 + 10 * j + 6) ≠ 0 := by rw [f]; exact h6
    have h2 : a2 (40 + 10 * j + 6) ≠ 0 := by rw [m3 h1 6 (by omega)]; exact h1
    rw [p i hi, s5 h2 i hi, m3 h1 i hi, f]
  · have h2 : a2 (40 + 10 * j + 6) = 0 := by rw [d4 6 (by omega), f]; exact h6
    have b2 := b2 h2 (by omega)
    rw [d4 3 (by omega), f] at b2
    rw [p 3 (by omega)]
    exact b2
  · have h2 : a2 (40 + 10 * j + 6) = 0 := by rw [d4 6 (by omega), f]; exact h6
    rw [p 6 (by omega)] at hn
    rw [p 7 (by omega), s6 h2 hn, f6, e6]
  · rw [z h2] at g0
    exact g0.trans (f 0)
  · rw [p i (by omega), b1 i (by omega) (by omega) (by omega) (by omega), d4 i (by omega), f]
theorem ps1_2 (a : Rw) (hw : WF Tm a) : ps1 a 2 = if lvS a < 0 then 0 else if 1000 < lvS a then 1000 else lvS a := by
  have w7 := hw.1.2.2.2.2.2.2.2
  have e : lvS (up a 6 (a 6 + 1)) = lvS a := by
    have o : ∀ i, i ≠ 6 → up a 6 (a 6 + 1) i = a i := fun i hi => up_ne _ _ hi
    unfold lvS
    rw [o 2 (by omega), o 8 (by omega), o 7 (by omega)]
    rw [zsum_congr (f := fun k => up a 6 (a 6 + 1) (30 + 2 * k + 1)) (g := fun k => a (30 + 2 * k + 1)) _ (fun i hi => o _ (by omega))]
    rw [zsum_congr (f := fun k => if wks (up a 6 (a 6 + 1)) k = true then up a 6 (a 6 + 1) (10 + 4 * k + 2) else 0) (g := fun k => if wks a k = true then a (10 + 4 * k + 2) else 0) _ (fun i hi => ?_)]
    have eo : ∀ c b, occ (up a 6 (a 6 + 1)) c b = occ a c b := fun c b => occ_cg (o 9 (by omega)) (fun k hk => ⟨o _ (by omega), o _ (by omega)⟩) c b
    have ew : wks (up a 6 (a 6 + 1)) i = wks a i := by
      unfold wks
      rw [eo, o (10 + 4 * i) (by omega), o (10 + 4 * i + 2) (by omega), o (10 + 4 * i + 1) (by omega), o (40 + 10 * _ + 1) (by omega)]
    rw [ew, o _ (by omega)]
  show up (up a 6 (a 6 + 1)) 2 _ 2 = _
  rw [e]
  exact up_self _ _ _
theorem pas_2 (hw : WF Tm a) (hT : Tm + 1 ≤ 1000000) : pas a 2 = ps1 a 2 := by
  obtain ⟨w1, e6, e1⟩ := ps1_ok hw hT
  have u9 := w1.1.2.2.2.2.2.2.2.2.2
  have mv := ps1_mv hw hT
  have e9 := e1 9 (by omega) (by omega)
  obtain ⟨d1, d2, -, -, -⟩ := drA_inv w1 mv (a 9).toNat (by omega)
  have f9 := d2 9 (by omega)
  obtain ⟨s1, s2, -, -, -, -⟩ := skA_inv d1 (a 9).toNat (by omega)
  obtain ⟨p1, p2⟩ := spr_ok s1
  unfold pas ps3 ps2
  rw [p2 2 (by omega), s2 2 (by omega), d2 2 (by omega)]
theorem ps3_s (hw : WF Tm a) (hT : Tm + 1 ≤ 1000000) : WF (Tm + 1) (ps3 a) ∧ ps3 a 0 = a 0 ∧ ps3 a 1 = a 1 ∧ ∀ i, 160 ≤ i → ps3 a i = a i := by
  obtain ⟨w1, e6, e1⟩ := ps1_ok hw hT
  have u9 := w1.1.2.2.2.2.2.2.2.2.2
  have mv := ps1_mv hw hT
  have e9 := e1 9 (by omega) (by omega)
  obtain ⟨d1, d2, d3, -, -⟩ := drA_inv w1 mv (a 9).toNat (by omega)
  have f9 := d2 9 (by omega)
  obtain ⟨s1, s2, s3, -, -, -⟩ := skA_inv d1 (a 9).toNat (by omega)
  unfold ps3 ps2
  refine ⟨s1, ?_, ?_, fun i hi => ?_⟩
  · rw [s2 0 (by omega), d2 0 (by omega), e1 0 (by omega) (by omega)]
  · rw [s2 1 (by omega), d2 1 (by omega), e1 1 (by omega) (by omega)]
  · rw [s3 i hi, d3 i hi, e1 i (by omega) (by omega)]
end LR

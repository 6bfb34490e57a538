/-! THE LAW'S PURE SIDE 35: one turn does what turns do: the level, what the boats had -/
section LW
variable {S : zS} {w w0 W : qW} {d f n : Nat} {a : Rw} {Tm : Int} {A : Nat → List Int32} {l1 l2 l3 l4 l5 l6 : Int32}
theorem t9 (h : Cb (S.1 0 0) a) (hw : WF Tm a) : ∀ (m q : Nat), q + m = (a 8).toNat → qy (d + 4) 45 (f + m + 1) 9 [some (za 1 0 0), some (zi (zo (a 2 + zsum (fun k => a (30 + 2 * k + 1)) q))), some (zi (zo (q : Int))), none, none, none, none, none, none, none, none, none] [] (S, w) = qy (d + 4) 45 f 35 [some (za 1 0 0), some (zi (zo (a 2 + zsum (fun k => a (30 + 2 * k + 1)) (a 8).toNat))), some (zi (zo 0)), none, none, none, none, none, none, none, none, none] [] (S, w) := by
  have w7 := hw.1.2.2.2.2.2.2.2
  intro m
  induction m with
  | zero =>
    intro q hq
    rw [qy45]
    simp (disch := omega) only [qe_45_9_1iiooooooooo__313, qe_45_15_1iiooooooooo_ii_309, ps_3 h hw, ↓ie_p]
    rw [show q = (a 8).toNat by omega]
  | succ m ih =>
    intro q hq
    have hq8 : (q : Int) < a 8 := by omega
    have i := ih (q + 1) (by omega)
    rw [show zsum (fun k => a (30 + 2 * k + 1)) (q + 1) = zsum (fun k => a (30 + 2 * k + 1)) q + a (30 + 2 * q + 1) from rfl, show ((q + 1 : Nat) : Int) = (q : Int) + 1 from rfl, ← Int.add_assoc] at i
    rw [show f + (m + 1) + 1 = (f + m + 1) + 1 by omega, qy45]
    simp (disch := omega) only [qe_45_9_1iiooooooooo__313, qe_45_15_1iiooooooooo_ii_309, qe_45_25_1iiooooooooo_ii_303, ps_3 h hw, pt_2 h hw hq8, zo_add, ↓ie_n]
    exact i
theorem bI_mul (b : Bool) (v : Int) : bI b * v = if b = true then v else 0 := by
  cases b
  · rw [if_neg (by decide)]; exact Int.zero_mul v
  · rw [if_pos rfl]; exact Int.one_mul v
theorem t35 (h : Cb (S.1 0 0) a) (hw : WF Tm a) {c : Int} : ∀ (m q : Nat), q + m = (a 7).toNat → qy (d + 4) 45 (f + m) 35 [some (za 1 0 0), some (zi (zo (c - zsum (fun k => if wks a k = true then a (10 + 4 * k + 2) else 0) q))), some (zi (zo (q : Int))), none, none, none, none, none, none, none, none, none] [] (S, w) = qy (d + 4) 45 f 35 [some (za 1 0 0), some (zi (zo (c - zsum (fun k => if wks a k = true then a (10 + 4 * k + 2) else 0) (a 7).toNat))), some (zi (zo (a 7))), none, none, none, none, none, none, none, none, none] [] (S, w) := by
  have w7 := hw.1.2.2.2.2.2.2.2
  intro m
  induction m with
  | zero =>
    intro q hq
    rw [show q = (a 7).toNat by omega, show (((a 7).toNat : Nat) : Int) = a 7 by omega]
    rfl
  | succ m ih =>
    intro q hq
    have hq7 : (q : Int) < a 7 := by omega
    have i := ih (q + 1) (by omega)
    rw [show zsum (fun k => if wks a k = true then a (10 + 4 * k + 2) else 0) (q + 1) = zsum (fun k => if wks a k = true then a (10 + 4 * k + 2) else 0) q + (if wks a q = true then a (10 + 4 * q + 2) else 0) from rfl, ← bI_mul, show ((q + 1 : Nat) : Int) = (q : Int) + 1 from rfl, ← Int.sub_sub] at i
    rw [show f + (m + 1) = (f + m) + 1 by omega, qy45]
    generalize zsum (fun k => if wks a k = true then a (10 + 4 * k + 2) else 0) q = z at i ⊢
    simp (disch := omega) only [qe_45_35_1iiooooooooo__313, qe_45_41_1iiooooooooo_ii_309, qe_45_51_1iiooooooooo_ii_303, qe_45_57_1iiooooooooo_iii_299, ps_2 h hw, pd_4 h hw hq7, pd_3 h hw hq7, zo_add, zo_mul, zo_sub, ↓ie_n]
    exact i
theorem lvS_b (hw : WF Tm a) : -2000 ≤ lvS a ∧ lvS a ≤ 2000 := by
  have w2 := hw.1.2.2.1
  have w7 := hw.1.2.2.2.2.2.2.2
  have z1 := zsum_rate hw (a 8).toNat (by omega)
  have z2 := zsum_drain hw (a 7).toNat (by omega)
  unfold lvS
  omega
theorem lv_clamp (hw : WF Tm a) : zmax (zo 0) (zmin (zo 1000) (zo (lvS a))) = zo (ps1 a 2) := by
  have b := lvS_b hw
  rw [zmin_o (by omega) (by omega) (by omega) (by omega)]
  have c : -2000 ≤ (if lvS a < 1000 then lvS a else 1000) ∧ (if lvS a < 1000 then lvS a else 1000) ≤ 1000 := by split <;> omega
  rw [zmax_o (by omega) (by omega) (by omega) (by omega), ps1_2 a hw]
  congr 1
  by_cases c1 : lvS a < 1000
  · rw [if_pos c1]
    split <;> split <;> (try split) <;> omega
  · rw [if_neg c1]
    split <;> split <;> (try split) <;> omega
/-- from the level to the rows -/
theorem t35x (h : Cb (S.1 0 0) a) (hw : WF Tm a) : ∃ W, HD w (a 9).toNat (fun _ => List.replicate 11 0) W ∧ qy (d + 5) 45 (f + 1) 35 [some (za 1 0 0), some (zi (zo (lvS a))), some (zi (zo (a 7))), none, none, none, none, none, none, none, none, none] [] (S, w) = qy (d + 5) 45 f 135 [some (za 1 0 0), some (zi (zo (ps1 a 2))), some (zi (zo (spm a))), some (zi (zo (if mxS a (a 0 * a 1).toNat ≤ 95 then 0 else 1))), some (zi (zo (a 9))), some (zi (zo (a 6))), some (zi (zo (cnt a 0))), some (za 8 w.length 0), some (zi (zo 0)), none, none, none] [] (S, W) := by
  have w7 := hw.1.2.2.2.2.2.2.2
  have wn := WF_nc hw
  have mr := mxS_r hw (a 0 * a 1).toNat (by omega)
  have lc := lv_clamp hw
  have px := fun (st : List zV) (nx : List zV → qS → Option qO) => px_44 (d := d) (w := w) (st := st) (nx := nx) h hw
  by_cases c : mxS a (a 0 * a 1).toNat ≤ 95
  · obtain ⟨W, h1, h2⟩ := qp_new2 (S := S) (w0 := w) (n := (a 9).toNat) (by omega) (nx := fun v1 T2 => qz (d + 5) 45 f 277 130 [some (za 1 0 0), some (zi (zo (ps1 a 2))), some (zi (zo (spm a))), some (zi (zo 0)), some (zi (zo (a 9))), some (zi (zo (a 6))), some (zi (zo (cnt a 0))), none, none, none, none, none] [v1] T2)
    refine ⟨W, h1, ?_⟩
    rw [show (((a 9).toNat : Nat) : Int) = a 9 by omega] at h2
    rw [if_pos c, qy45]
    simp (disch := omega) only [qe_45_35_1iiooooooooo__313, qe_45_41_1iiooooooooo_ii_309, qe_45_84_1iiooooooooo_i_299, qe_45_89_1iiooooooooo_i_296, qe_45_105_1iiioooooooo_i_289, qe_45_113_1iiiiooooooo_i_285, qe_45_120_1iiiiioooooo_i_281, ps_2 h hw, ps_12 h hw, ps_4 h hw, ps_8 h hw, ps_5 h hw, lc, px, ↓ie_p, ↓ie_n]
    rw [h2, qe_45_130_1iiiiiiooooo_8_277]
  · obtain ⟨W, h1, h2⟩ := qp_new2 (S := S) (w0 := w) (n := (a 9).toNat) (by omega) (nx := fun v1 T2 => qz (d + 5) 45 f 276 130 [some (za 1 0 0), some (zi (zo (ps1 a 2))), some (zi (zo (spm a))), some (zi (zo 1)), some (zi (zo (a 9))), some (zi (zo (a 6))), some (zi (zo (cnt a 0))), none, none, none, none, none] [v1] T2)
    refine ⟨W, h1, ?_⟩
    rw [show (((a 9).toNat : Nat) : Int) = a 9 by omega] at h2
    rw [if_neg c, qy45]
    simp (disch := omega) only [qe_45_35_1iiooooooooo__313, qe_45_41_1iiooooooooo_ii_309, qe_45_84_1iiooooooooo_i_299, qe_45_89_1iiooooooooo_i_296, qe_45_105_1iiioooooooo_i_288, qe_45_113_1iiiiooooooo_i_284, qe_45_120_1iiiiioooooo_i_280, ps_2 h hw, ps_12 h hw, ps_4 h hw, ps_8 h hw, ps_5 h hw, lc, px, ↓ie_p, ↓ie_n]
    rw [h2, qe_45_130_1iiiiiiooooo_8_276]
theorem t145 (h : Cb (S.1 0 0) a) (hw : WF Tm a) (hn : n = (a 9).toNat) {b : Nat} (hb : b < n) : ∀ (m k : Nat) (W : qW) (A : Nat → List Int32), k + m = 11 → HD w0 n A W → A b = lmp (fun t => zo (bnum a b t)) k ++ List.replicate m 0 → ∃ W' A', HD w0 n A' W' ∧ A' b = lmp (fun t => zo (bnum a b t)) 11 ∧ (∀ i, i ≠ b → A' i = A i) ∧ qy (d + 4) 45 (f + m + 1) 145 [some (za 1 0 0), some (zi l1), some (zi l2), some (zi l3), some (zi l4), some (zi l5), some (zi l6), some (za 8 w0.length 0), some (zi (zo (b : Int))), some (zi (zo (k : Int))), none, none] [] (S, W) = qy (d + 4) 45 f 135 [some (za 1 0 0), some (zi l1), some (zi l2), some (zi l3), some (zi l4), some (zi l5), some (zi l6), some (za 8 w0.length 0), some (zi (zo ((b : Int) + 1))), none, none, none] [] (S, W') := by
  have w7 := hw.1.2.2.2.2.2.2.2
  intro m
  induction m with
  | zero =>
    intro k W A hk H hA
    rw [Nat.add_zero] at hk
    subst hk
    refine ⟨W, A, H, ?_, fun _ _ => rfl, ?_⟩
    · rw [hA]; exact List.append_nil _
    · rw [qy45]
      simp (disch := omega) only [qe_45_145_1iiiiii8iioo__313, zo_add, ↓ie_p]
  | succ m ih =>
    intro k W A hk H hA
    have hl : (lmp (fun t => zo (bnum a b t)) k).length = k := lmp_len _ _
    have hx : lmp (fun t => zo (bnum a b t)) (k + 1) = lmp (fun t => zo (bnum a b t)) k ++ [zo (bnum a b k)] := rfl
    obtain ⟨W', A', g1, g2, g3, g4⟩ := ih (k + 1) (W.set (w0.length + 1 + b) (.inr (.inl (0, lmp (fun t => zo (bnum a b t)) (k + 1) ++ List.replicate m 0)))) (fun i => if i = b then lmp (fun t => zo (bnum a b t)) (k + 1) ++ List.replicate m 0 else A i) (by omega) (H.set hb (by rw [hA, hx]; exact row_len _ _ _)) (if_pos rfl)
    refine ⟨W', A', g1, g2, fun i hi => (g3 i hi).trans (if_neg hi), ?_⟩
    have hr := H.2.2.2.1 b hb
    rw [hA] at hr
    have ldr := fun (nx : zV → Option qO) => H.ldr (S := S) (nx := nx) hb (by omega)
    have zq : zr_sem zF (d + 4) 94 [za 1 0 0, zi (zo (b : Int)), zi (zo (k : Int))] S = _ := zq_b h hw (b := b) (w := k) (by omega) (by omega)
    rw [show f + (m + 1) + 1 = (f + m + 1) + 1 by omega, qy45, qe_45_145_1iiiiii8iioo__313, ie_n (by omega) (by omega) (by omega), ldr, qe_45_157_1iiiiii8iioo_8_307]
    refine (qz_1 zq).trans ?_
    rw [qe_45_167_1iiiiii8iioo_ii8_302]
    have st := qp_nxt (T := (S, W)) (j := w0.length + 1 + b) (x := zo (bnum a b k)) (nx := fun T1 => qy (d + 4) 45 (f + m + 1) 145 [some (za 1 0 0), some (zi l1), some (zi l2), some (zi l3), some (zi l4), some (zi l5), some (zi l6), some (za 8 w0.length 0), some (zi (zo (b : Int))), some (zi (zo (k : Int) + zo 1)), none, none] [] T1) hr (by omega)
    rw [hl] at st
    refine st.trans ?_
    rw [zo_add]
    exact g4
theorem t135 (h : Cb (S.1 0 0) a) (hw : WF Tm a) (hn : n = (a 9).toNat) : ∀ (m b : Nat) (W : qW) (A : Nat → List Int32), b + m = n → HD w0 n A W → (∀ i, i < b → A i = lmp (fun t => zo (bnum a i t)) 11) → (∀ i, b ≤ i → i < n → A i = List.replicate 11 0) → ∃ W' A', HD w0 n A' W' ∧ (∀ i, i < n → A' i = lmp (fun t => zo (bnum a i t)) 11) ∧ qy (d + 4) 45 (f + 13 * m) 135 [some (za 1 0 0), some (zi l1), some (zi l2), some (zi l3), some (zi (zo (a 9))), some (zi l5), some (zi l6), some (za 8 w0.length 0), some (zi (zo (b : Int))), none, none, none] [] (S, W) = qy (d + 4) 45 f 135 [some (za 1 0 0), some (zi l1), some (zi l2), some (zi l3), some (zi (zo (a 9))), some (zi l5), some (zi l6), some (za 8 w0.length 0), some (zi (zo (a 9))), none, none, none] [] (S, W') := by
  have w7 := hw.1.2.2.2.2.2.2.2
  intro m
  induction m with
  | zero =>
    intro b W A hb H h1 h2
    refine ⟨W, A, H, fun i hi => h1 i (by omega), ?_⟩
    rw [show (b : Int) = a 9 by omega]
    rfl
  | succ m ih =>
    intro b W A hb H h1 h2
    obtain ⟨W1, A1, g1, g2, g3, g4⟩ := t145 (d := d) (f := f + 13 * m) (l1 := l1) (l2 := l2) (l3 := l3) (l4 := zo (a 9)) (l5 := l5) (l6 := l6) h hw hn (b := b) (by omega) 11 0 W A rfl H (h2 b (Nat.le_refl _) (by omega))
    obtain ⟨W', A', k1, k2, k3⟩ := ih (b + 1) W1 A1 (by omega) g1 (fun i hi => by
      by_cases e : i = b
      · subst e; exact g2
      · rw [g3 i e]; exact h1 i (by omega)) (fun i hi hn => by
      rw [g3 i (by omega)]; exact h2 i (by omega) hn)
    refine ⟨W', A', k1, k2, ?_⟩
    rw [show f + 13 * (m + 1) = (f + 13 * m + 11 + 1) + 1 by omega, qy45, qe_45_135_1iiiiii8iooo__313, ie_n (by omega) (by omega) (by omega)]
    exact g4.trans k3
end LW

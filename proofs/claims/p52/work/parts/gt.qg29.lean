/-! THE LAW'S PURE SIDE 39: an act, the method; what it keeps -/
section MA2
variable {S : zS} {w : qW} {d n k : Nat} {a : Rw} {u : Nat → Rw} {Tm : Int}
/-- an act, of the word v -/
noncomputable def actS (a : Rw) (v : Int32) : Sp := actR a (mst v 14) (v >>> (zo 4 &&& 31)) ((v >>> (zo 4 &&& 31)) >>> (zo 3 &&& 31)) ((v >>> (zo 4 &&& 31)) >>> (zo 4 &&& 31)) (mst (v >>> (zo 4 &&& 31)) (a 0)) (mst ((v >>> (zo 4 &&& 31)) >>> (zo 2 &&& 31)) (a 1)) (mst ((v >>> (zo 4 &&& 31)) >>> (zo 1 &&& 31)) (a 9))
theorem Q46 {v : Int32} (H : HC S k u a) (hw : WF Tm a) (hl : LI a) (hT : Tm + 400 ≤ 1000000) (h9 : 1 ≤ a 9) (hK : S.1 1 0 10 1 = zo 1000000 ∧ S.1 1 0 12 1 = zo 1000000) : ∃ S' W, q_sem zF (d + 10) 46 [za 1 0 0, zi v] (S, w) = some (some (zi (zo 1)), (S', W)) ∧ AR S S' w W k u a (actS a v) := by
  have h := H.1
  have w0 := hw.1.1
  have w1 := hw.1.2.1
  have w9 := hw.1.2.2.2.2.2.2.2
  have rw9 := mst_r (v := v) (m := 14) (by omega)
  rw [qn_46_1iooooo]
  simp (disch := omega) only [qe_46_0_1iooooo__228, qe_46_6_1iooooo_i_225, qe_46_17_1iiiooo_ii_216, qe_46_20_1iiiooo_i_215, qe_46_30_1iiiioo_ii_208, qe_46_33_1iiiioo_i_207, qe_46_43_1iiiiio_ii_200, ps_0 h hw, ps_1 h hw, ps_4 h hw, px_34]
  unfold actS actR
  generalize hu : v >>> (zo 4 &&& 31) = u0
  have rx := mst_r (v := u0) (m := a 0) (by omega)
  have ry := mst_r (v := u0 >>> (zo 2 &&& 31)) (m := a 1) (by omega)
  have rb := mst_r (v := u0 >>> (zo 1 &&& 31)) (m := a 9) (by omega)
  generalize mst u0 (a 0) = x at rx ⊢
  generalize mst (u0 >>> (zo 2 &&& 31)) (a 1) = y at ry ⊢
  generalize mst (u0 >>> (zo 1 &&& 31)) (a 9) = b at rb ⊢
  generalize mst v 14 = wh at rw9 ⊢
  have c : vC a x y := ⟨rx, ry⟩
  by_cases c4 : wh < 4
  · rw [if_pos c4]
    obtain ⟨S', W, g1, g2, g3, g4⟩ := Q45 (d := d) (w := w) H hw hT
    refine ⟨S', W, ?_, g2, ?_, g4⟩
    · simp (disch := omega) only [qe_46_46_1iiiiio_i_199, ↓ie_n]
      refine (qr_1 g1).trans ?_
      rw [qe_46_57_1iiiiii_i_193]
      rfl
    · exact g3
  have cs : wh = 4 ∨ wh = 5 ∨ wh = 6 ∨ wh = 7 ∨ wh = 8 ∨ wh = 9 ∨ wh = 10 ∨ wh = 11 ∨ wh = 12 ∨ wh = 13 := by omega
  rw [if_neg c4]
  rcases cs with e | e | e | e | e | e | e | e | e | e <;> subst e
  · rw [if_pos rfl]
    obtain ⟨S', g1, g2⟩ := act_t (d := d + 1) (n := zF1) (w := w) (l1 := v) (v := u0) (x := x) (y := y) (b := b) H hw hl hT
    exact ⟨S', w, g1, g2⟩
  · rw [if_neg (by decide), if_pos rfl]
    obtain ⟨S', g1, g2⟩ := act_add (d := d + 1) (n := zF1) (w := w) (l1 := v) (v := u0) (x := x) (y := y) (b := b) H hw hl hT c
    exact ⟨S', w, g1, g2⟩
  · rw [if_neg (by decide), if_neg (by decide), if_pos rfl]
    obtain ⟨S', g1, g2⟩ := act_carry (d := d + 1) (n := zF1) (w := w) (l1 := v) (v := u0) (x := x) (y := y) (b := b) H hw hl hT rb c
    exact ⟨S', w, g1, g2⟩
  · rw [if_neg (by decide), if_neg (by decide), if_neg (by decide), if_pos rfl]
    obtain ⟨S', g1, g2⟩ := act_blow (d := d + 1) (n := zF1) (w := w) (l1 := v) (v := u0) (x := x) (y := y) (b := b) H hw hl hT rb
    exact ⟨S', w, g1, g2⟩
  · rw [if_neg (by decide), if_neg (by decide), if_neg (by decide), if_neg (by decide), if_pos rfl]
    obtain ⟨S', g1, g2⟩ := act_pull (d := d + 1) (n := zF1) (w := w) (l1 := v) (v := u0) (x := x) (y := y) (b := b) H hw hl hT hK rb c
    exact ⟨S', w, g1, g2⟩
  · rw [if_neg (by decide), if_neg (by decide), if_neg (by decide), if_neg (by decide), if_neg (by decide), if_pos rfl]
    obtain ⟨S', g1, g2⟩ := act_drop (d := d + 1) (n := zF1) (w := w) (l1 := v) (v := u0) (x := x) (y := y) (b := b) H hw hl hT c
    exact ⟨S', w, g1, g2⟩
  · rw [if_neg (by decide), if_neg (by decide), if_neg (by decide), if_neg (by decide), if_neg (by decide), if_neg (by decide), if_pos rfl]
    obtain ⟨S', g1, g2⟩ := act_wipe (d := d + 1) (n := zF1) (w := w) (l1 := v) (v := u0) (x := x) (y := y) (b := b) H hw hl hT c
    exact ⟨S', w, g1, g2⟩
  · rw [if_neg (by decide), if_neg (by decide), if_neg (by decide), if_neg (by decide), if_neg (by decide), if_neg (by decide), if_neg (by decide), if_pos rfl]
    obtain ⟨S', g1, g2⟩ := act_setD (d := d + 1) (n := zF1) (w := w) (l1 := v) (v := u0) (x := x) (y := y) (b := b) H hw hl hT
    exact ⟨S', w, g1, g2⟩
  · rw [if_neg (by decide), if_neg (by decide), if_neg (by decide), if_neg (by decide), if_neg (by decide), if_neg (by decide), if_neg (by decide), if_neg (by decide), if_pos rfl]
    obtain ⟨S', g1, g2⟩ := act_setT (d := d + 1) (n := zF1) (w := w) (l1 := v) (v := u0) (x := x) (y := y) (b := b) H hw hl hT
    exact ⟨S', w, g1, g2⟩
  · rw [if_neg (by decide), if_neg (by decide), if_neg (by decide), if_neg (by decide), if_neg (by decide), if_neg (by decide), if_neg (by decide), if_neg (by decide), if_neg (by decide)]
    obtain ⟨S', g1, g2⟩ := act_lev (d := d + 1) (n := zF1) (w := w) (l1 := v) (v := u0) (x := x) (y := y) (b := b) H hw hl hT
    exact ⟨S', w, g1, g2⟩
/-- what an act keeps -/
theorem act_GE {v : Int32} (hw : WF Tm a) (hl : LI a) (hT : Tm + 400 ≤ 1000000) (h9 : 1 ≤ a 9) : GE Tm a (actS a v).2.2.2 := by
  have w0 := hw.1.1
  have w1 := hw.1.2.1
  have w9 := hw.1.2.2.2.2.2.2.2
  unfold actS actR
  generalize hu : v >>> (zo 4 &&& 31) = u0
  have rx := mst_r (v := u0) (m := a 0) (by omega)
  have ry := mst_r (v := u0 >>> (zo 2 &&& 31)) (m := a 1) (by omega)
  have rb := mst_r (v := u0 >>> (zo 1 &&& 31)) (m := a 9) (by omega)
  generalize mst u0 (a 0) = x at rx ⊢
  generalize mst (u0 >>> (zo 2 &&& 31)) (a 1) = y at ry ⊢
  generalize mst (u0 >>> (zo 1 &&& 31)) (a 9) = b at rb ⊢
  have c : vC a x y := ⟨rx, ry⟩
  have r1 := fun (t : Int32) => mst_r (v := t) (m := 30) (by omega)
  have r2 := fun (t : Int32) => mst_r (v := t) (m := 99) (by omega)
  have r3 := fun (t : Int32) => mst_r (v := t) (m := 400) (by omega)
  have r4 := fun (t : Int32) => mst_r (v := t) (m := 601) (by omega)
  have r5 := fun (t : Int32) => mst_r (v := t) (m := 100) (by omega)
  have r6 := fun (t : Int32) => mst_r (v := t) (m := 1001) (by omega)
  generalize u0 >>> (zo 3 &&& 31) = u3
  generalize u0 >>> (zo 4 &&& 31) = u4
  split
  · exact (spTurn_ok (t := 1) hw hl hT (p := 1) (by omega)).2.2
  split
  · have := r1 u0
    exact (spTurn_ok (t := 1) hw hl hT (p := 1 + mst u0 30) (by omega)).2.2
  split
  · have := r2 u3
    have := r3 u4
    exact (spAdd_ok hw hl hT c (by omega)).2.2
  split
  · exact (spCarry_ok hw hl hT rb c).2.2
  split
  · have := r4 u0
    have := r4 u3
    exact (spBlow_ok hw hl hT rb (by omega)).2.2
  split
  · have := r5 u0
    exact (spPull_ok hw hl hT rb c (by omega) (Dsl_ok hw (wgt_ok hw b.toNat) (cel_inN c))).2.2
  split
  · have := r2 u4
    exact (spDrop_ok hw hl hT c (by omega)).2.2
  split
  · exact (spWipe_ok hw hl hT c).2.2.1
  split
  · split
    · exact GE_rf hT hw hl
    · have := r5 u3
      exact (spSetD_ok hw hl hT (mst_r (by omega)) (by omega)).2.2
  split
  · split
    · exact GE_rf hT hw hl
    · have := r5 u3
      exact (spSetT_ok hw hl hT (mst_r (by omega)) (by omega)).2.2
  · have := r6 u0
    exact (spLev_ok (t := 1) hw hl hT (by omega)).2.2
/-- not recorded: nothing has changed -/
def SM (a : Rw) (s : Sp) : Prop := s.2.2.1 = false → s.2.2.2 = a
theorem SM_t {a2 : Rw} {t : Nat} {v : Int} : SM a (t, v, true, a2) := fun h => absurd (show true = false from h) (by decide)
theorem SM_f {t : Nat} {v : Int} : SM a (t, v, false, a) := fun _ => rfl
theorem SM_tu {t : Nat} {p : Int} : SM a (spTurn t a p) := by
  unfold spTurn
  repeat' split
  all_goals first | exact SM_t | exact SM_f
theorem SM_ad {x y p q : Int} : SM a (spAdd a x y p q) := by
  unfold spAdd
  repeat' split
  all_goals first | exact SM_t | exact SM_f
theorem SM_ca {p x y : Int} : SM a (spCarry a p x y) := by
  unfold spCarry
  repeat' split
  all_goals first | exact SM_t | exact SM_f
theorem SM_bl {p x y : Int} : SM a (spBlow a p x y) := by
  unfold spBlow
  repeat' split
  all_goals first | exact SM_t | exact SM_f
theorem SM_pu {p x y q : Int} {D : Int → Int} : SM a (spPull a D p x y q) := by
  unfold spPull
  repeat' split
  all_goals first | exact SM_t | exact SM_f
theorem SM_dr {x y q : Int} : SM a (spDrop a x y q) := by
  unfold spDrop
  repeat' split
  all_goals first | exact SM_t | exact SM_f
theorem SM_wi {x y : Int} : SM a (spWipe a x y) := by
  unfold spWipe
  repeat' split
  all_goals first | exact SM_t | exact SM_f
theorem SM_sd {x y : Int} : SM a (spSetD a x y) := by
  unfold spSetD
  repeat' split
  all_goals first | exact SM_t | exact SM_f
theorem SM_st {x y : Int} : SM a (spSetT a x y) := by
  unfold spSetT
  repeat' split
  all_goals first | exact SM_t | exact SM_f
theorem SM_le {t : Nat} {p : Int} : SM a (spLev t a p) := by
  unfold spLev
  repeat' split
  all_goals first | exact SM_t | exact SM_f
theorem SM_i {c : Prop} {i : Decidable c} {s s2 : Sp} (h1 : SM a s) (h2 : SM a s2) : SM a (@ite _ c i s s2) := by
  by_cases h : c
  · rw [if_pos h]; exact h1
  · rw [if_neg h]; exact h2
theorem SM_act {v : Int32} : SM a (actS a v) := by
  unfold actS actR
  exact SM_i SM_tu (SM_i SM_tu (SM_i SM_ad (SM_i SM_ca (SM_i SM_bl (SM_i SM_pu (SM_i SM_dr (SM_i SM_wi (SM_i (SM_i SM_f SM_sd) (SM_i (SM_i SM_f SM_st) SM_le)))))))))
end MA2

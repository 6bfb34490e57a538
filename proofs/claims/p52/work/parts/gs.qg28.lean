/-! THE LAW'S PURE SIDE 38: an act -/
section LZ
variable {S : zS} {w : qW} {d n k : Nat} {a : Rw} {u : Nat → Rw} {Tm : Int}
theorem px_34 {T : qS} {v : Int32} {m : Int} {st : List zV} {nx : List zV → qS → Option qO} (h1 : 0 < m) (h2 : m ≤ 1000000) : qx_ret 1 (q_sem zF (d + 4) 34 [zi v, zi (zo m)] T) st nx = nx (zi (zo (mst v m)) :: st) T := qr_1 (Q34 h1 h2)
/-- distances to a cell, for one boat -/
noncomputable def Dsl (a : Rw) (w : Int → Int) (t : Int) : Int → Int := Classical.epsilon (Sol a w t)
theorem Dsl_ok {w : Int → Int} {t : Int} (hw : WF Tm a) (hW : Wok a w) (ht : inN a t) : Sol a w t (Dsl a w t) := Classical.epsilon_spec (Sol_ex hw hW ht)
/-- what an act does: which, its numbers -/
noncomputable def actR (a : Rw) (wh : Int) (u u3 u4 : Int32) (x y b : Int) : Sp :=
  if wh < 4 then spTurn 1 a 1
  else if wh = 4 then spTurn 1 a (1 + mst u 30)
  else if wh = 5 then spAdd a x y (1 + mst u3 99) (1 + mst u4 400)
  else if wh = 6 then spCarry a b x y
  else if wh = 7 then spBlow a b (mst u 601 - 300) (mst u3 601 - 300)
  else if wh = 8 then spPull a (Dsl a (wgt a b.toNat) (a 0 * y + x)) b x y (mst u 100)
  else if wh = 9 then spDrop a x y (1 + mst u4 99)
  else if wh = 10 then spWipe a x y
  else if wh = 11 then (if a 7 = 0 then (0, 0, false, a) else spSetD a (mst u (a 7)) (mst u3 100))
  else if wh = 12 then (if a 8 = 0 then (0, 0, false, a) else spSetT a (mst u (a 8)) (mst u3 100))
  else spLev 1 a (mst u 1001)
/-- what an act leaves -/
def AR (S S' : zS) (w W : qW) (k : Nat) (u : Nat → Rw) (a : Rw) (sp : Sp) : Prop := FrP S S' ∧ HC S' (if sp.2.2.1 = true then recK k else k) (if sp.2.2.1 = true then recU k u a else u) sp.2.2.2 ∧ KW w W 13 144
theorem AR_0 (H : HC S k u a) : AR S S w w k u a (0, 0, false, a) := ⟨fun _ _ _ _ _ _ => rfl, H, (KW.rf w).up (by omega) (by omega)⟩
theorem AR_op {S' : zS} {sp : Sp} (g1 : FrP S S') (g2 : HC S' (if sp.2.2.1 = true then recK k else k) (if sp.2.2.1 = true then recU k u a else u) sp.2.2.2) : AR S S' w w k u a sp := ⟨g1, g2, (KW.rf w).up (by omega) (by omega)⟩
section AC
variable {l1 v : Int32} {x y b : Int}
theorem act_t (H : HC S k u a) (hw : WF Tm a) (hl : LI a) (hT : Tm + 400 ≤ 1000000) : ∃ S', (qz (d + 8) 46 n 199 46 [some (za 1 0 0), some (zi l1), some (zi (zo 4)), some (zi v), some (zi (zo x)), some (zi (zo y)), none] [zi (zo b)] (S, w) = some (some (zi (zo 1)), (S', w))) ∧ AR S S' w w k u a (spTurn 1 a (1 + mst v 30)) := by
  have r := mst_r (v := v) (m := 30) (by omega)
  obtain ⟨z, zv, -⟩ := spTurn_ok (t := 1) hw hl hT (p := 1 + mst v 30) (by omega)
  obtain ⟨S', g1, g2, g3⟩ := qz_op H (A133 (d := d) (p := 1 + mst v 30) H hw hT (by omega) (by omega)) z
  refine ⟨S', ?_, AR_op g1 g2⟩
  simp (disch := omega) only [qe_46_46_1iiiiio_i_199, qe_46_71_1iiiiii_ii1_187, qe_46_75_1iiiiii_i_185, g3, px_34, zo_add, ↓ie_p, ↓ie_n, ↓il_n, ↓iq_p, ↓iq_n]
theorem act_add (H : HC S k u a) (hw : WF Tm a) (hl : LI a) (hT : Tm + 400 ≤ 1000000) (c : vC a x y) : ∃ S', (qz (d + 8) 46 n 199 46 [some (za 1 0 0), some (zi l1), some (zi (zo 5)), some (zi v), some (zi (zo x)), some (zi (zo y)), none] [zi (zo b)] (S, w) = some (some (zi (zo 1)), (S', w))) ∧ AR S S' w w k u a (spAdd a x y (1 + mst (v >>> (zo 3 &&& 31)) 99) (1 + mst (v >>> (zo 4 &&& 31)) 400)) := by
  have w0 := hw.1.1
  have w1 := hw.1.2.1
  have r := mst_r (v := v >>> (zo 3 &&& 31)) (m := 99) (by omega)
  have r2 := mst_r (v := v >>> (zo 4 &&& 31)) (m := 400) (by omega)
  obtain ⟨z, zv, -⟩ := spAdd_ok hw hl hT c (w := 1 + mst (v >>> (zo 3 &&& 31)) 99) (s := 1 + mst (v >>> (zo 4 &&& 31)) 400) (by omega)
  obtain ⟨S', g1, g2, g3⟩ := qz_op H (A122 (d := d + 4) H hw (p := x) (r := y) (x := 1 + mst (v >>> (zo 3 &&& 31)) 99) (q := 1 + mst (v >>> (zo 4 &&& 31)) 400) (by omega) (by omega) (by omega) (by omega) (by omega) (by omega) (by omega) (by omega)) z
  refine ⟨S', ?_, AR_op g1 g2⟩
  simp (disch := omega) only [qe_46_46_1iiiiio_i_199, qe_46_103_1iiiiii_iiii1_180, qe_46_114_1iiiiii_iiiii1_173, qe_46_118_1iiiiii_i_171, g3, px_34, zo_add, ↓ie_p, ↓ie_n, ↓il_n, ↓iq_p, ↓iq_n]
theorem act_carry (H : HC S k u a) (hw : WF Tm a) (hl : LI a) (hT : Tm + 400 ≤ 1000000) (cb : vB a b) (c : vC a x y) : ∃ S', (qz (d + 8) 46 n 199 46 [some (za 1 0 0), some (zi l1), some (zi (zo 6)), some (zi v), some (zi (zo x)), some (zi (zo y)), none] [zi (zo b)] (S, w) = some (some (zi (zo 1)), (S', w))) ∧ AR S S' w w k u a (spCarry a b x y) := by
  have w0 := hw.1.1
  have w1 := hw.1.2.1
  have w9 := hw.1.2.2.2.2.2.2.2
  obtain ⟨z, zv, -⟩ := spCarry_ok hw hl hT cb c
  obtain ⟨S', g1, g2, g3⟩ := qz_op H (A123 (d := d + 4) H hw (p := b) (r := x) (x := y) (by omega) (by omega) (by omega) (by omega) (by omega) (by omega)) z
  refine ⟨S', ?_, AR_op g1 g2⟩
  simp (disch := omega) only [qe_46_46_1iiiiio_i_199, g3, qe_46_145_1iiiiii_i_181, ↓ie_p, ↓ie_n, ↓il_n, ↓iq_p, ↓iq_n]
theorem act_blow (H : HC S k u a) (hw : WF Tm a) (hl : LI a) (hT : Tm + 400 ≤ 1000000) (cb : vB a b) : ∃ S', (qz (d + 8) 46 n 199 46 [some (za 1 0 0), some (zi l1), some (zi (zo 7)), some (zi v), some (zi (zo x)), some (zi (zo y)), none] [zi (zo b)] (S, w) = some (some (zi (zo 1)), (S', w))) ∧ AR S S' w w k u a (spBlow a b (mst v 601 - 300) (mst (v >>> (zo 3 &&& 31)) 601 - 300)) := by
  have w9 := hw.1.2.2.2.2.2.2.2
  have r := mst_r (v := v) (m := 601) (by omega)
  have r2 := mst_r (v := v >>> (zo 3 &&& 31)) (m := 601) (by omega)
  obtain ⟨z, zv, -⟩ := spBlow_ok hw hl hT cb (x := mst v 601 - 300) (y := mst (v >>> (zo 3 &&& 31)) 601 - 300) (by omega)
  obtain ⟨S', g1, g2, g3⟩ := qz_op H (A124 (d := d + 4) H hw (p := b) (r := mst v 601 - 300) (x := mst (v >>> (zo 3 &&& 31)) 601 - 300) (by omega) (by omega) (by omega) (by omega) (by omega) (by omega)) z
  refine ⟨S', ?_, AR_op g1 g2⟩
  simp (disch := omega) only [qe_46_46_1iiiiio_i_199, qe_46_172_1iiiiii_ii1_178, qe_46_185_1iiiiii_iii1_171, g3, qe_46_192_1iiiiii_i_168, px_34, zo_sub, ↓ie_p, ↓ie_n, ↓il_n, ↓iq_p, ↓iq_n]
theorem act_pull (H : HC S k u a) (hw : WF Tm a) (hl : LI a) (hT : Tm + 400 ≤ 1000000) (hK : S.1 1 0 10 1 = zo 1000000 ∧ S.1 1 0 12 1 = zo 1000000) (cb : vB a b) (c : vC a x y) : ∃ S', (qz (d + 8) 46 n 199 46 [some (za 1 0 0), some (zi l1), some (zi (zo 8)), some (zi v), some (zi (zo x)), some (zi (zo y)), none] [zi (zo b)] (S, w) = some (some (zi (zo 1)), (S', w))) ∧ AR S S' w w k u a (spPull a (Dsl a (wgt a b.toNat) (a 0 * y + x)) b x y (mst v 100)) := by
  have w0 := hw.1.1
  have w1 := hw.1.2.1
  have w9 := hw.1.2.2.2.2.2.2.2
  have r := mst_r (v := v) (m := 100) (by omega)
  have hS := Dsl_ok hw (wgt_ok hw b.toNat) (cel_inN c)
  obtain ⟨z, zv, -⟩ := spPull_ok hw hl hT cb c (bud := mst v 100) (by omega) hS
  obtain ⟨S', g1, g2, g3⟩ := qz_op H (A114 (d := d + 1) H hw hK (p := b) (r := x) (x := y) (bud := mst v 100) (by omega) (by omega) (by omega) (by omega) (by omega) (by omega) (by omega) (by omega) (fun _ _ => hS)) z
  refine ⟨S', ?_, AR_op g1 g2⟩
  simp (disch := omega) only [qe_46_46_1iiiiio_i_199, qe_46_223_1iiiiii_iiii1_173, g3, qe_46_226_1iiiiii_i_172, px_34, ↓ie_p, ↓ie_n, ↓il_n, ↓iq_p, ↓iq_n]
theorem act_drop (H : HC S k u a) (hw : WF Tm a) (hl : LI a) (hT : Tm + 400 ≤ 1000000) (c : vC a x y) : ∃ S', (qz (d + 8) 46 n 199 46 [some (za 1 0 0), some (zi l1), some (zi (zo 9)), some (zi v), some (zi (zo x)), some (zi (zo y)), none] [zi (zo b)] (S, w) = some (some (zi (zo 1)), (S', w))) ∧ AR S S' w w k u a (spDrop a x y (1 + mst (v >>> (zo 4 &&& 31)) 99)) := by
  have w0 := hw.1.1
  have w1 := hw.1.2.1
  have r := mst_r (v := v >>> (zo 4 &&& 31)) (m := 99) (by omega)
  obtain ⟨z, zv, -⟩ := spDrop_ok hw hl hT c (v := 1 + mst (v >>> (zo 4 &&& 31)) 99) (by omega)
  obtain ⟨S', g1, g2, g3⟩ := qz_op H (A128 (d := d + 4) H hw (p := x) (r := y) (x := 1 + mst (v >>> (zo 4 &&& 31)) 99) (by omega) (by omega) (by omega) (by omega) (by omega) (by omega)) z
  refine ⟨S', ?_, AR_op g1 g2⟩
  simp (disch := omega) only [qe_46_46_1iiiiio_i_199, qe_46_257_1iiiiii_iiii1_168, qe_46_261_1iiiiii_i_166, g3, px_34, zo_add, ↓ie_p, ↓ie_n, ↓il_n, ↓iq_p, ↓iq_n]
theorem act_wipe (H : HC S k u a) (hw : WF Tm a) (hl : LI a) (hT : Tm + 400 ≤ 1000000) (c : vC a x y) : ∃ S', (qz (d + 8) 46 n 199 46 [some (za 1 0 0), some (zi l1), some (zi (zo 10)), some (zi v), some (zi (zo x)), some (zi (zo y)), none] [zi (zo b)] (S, w) = some (some (zi (zo 1)), (S', w))) ∧ AR S S' w w k u a (spWipe a x y) := by
  have w0 := hw.1.1
  have w1 := hw.1.2.1
  obtain ⟨z, zv, zg, z1, z2, z3⟩ := spWipe_ok hw hl hT c
  obtain ⟨S', g1, g2, g3⟩ := qz_op H (A129 (d := d + 4) H hw (p := x) (r := y) (by omega) (by omega) (by omega) (by omega)) z
  have c2 : vC (spWipe a x y).2.2.2 x y := ⟨by rw [z2]; exact c.1, by rw [z3]; exact c.2⟩
  have pc := fun (st : List zV) (nx : List zV → qS → Option qO) => pc_0 (d := d + 4) (w := w) (st := st) (nx := nx) g2.1 zg.1 c2
  rw [z2, z1] at pc
  refine ⟨S', ?_, AR_op g1 g2⟩
  simp (disch := omega) only [qe_46_46_1iiiiio_i_199, g3, qe_46_284_1iiiiii_i_170, pc, qe_46_295_1iiiiii_i_165, ↓ie_p, ↓ie_n, ↓il_n, ↓iq_p, ↓iq_n]
theorem act_setD (H : HC S k u a) (hw : WF Tm a) (hl : LI a) (hT : Tm + 400 ≤ 1000000) : ∃ S', (qz (d + 8) 46 n 199 46 [some (za 1 0 0), some (zi l1), some (zi (zo 11)), some (zi v), some (zi (zo x)), some (zi (zo y)), none] [zi (zo b)] (S, w) = some (some (zi (zo 1)), (S', w))) ∧ AR S S' w w k u a (if a 7 = 0 then (0, 0, false, a) else spSetD a (mst v (a 7)) (mst (v >>> (zo 3 &&& 31)) 100)) := by
  have h := H.1
  have w9 := hw.1.2.2.2.2.2.2.2
  by_cases e : a 7 = 0
  · rw [if_pos e]
    refine ⟨S, ?_, AR_0 H⟩
    simp (disch := omega) only [qe_46_46_1iiiiio_i_199, ps_2 h hw, qe_46_315_1iiiiii_i_168, ↓ie_p, ↓ie_n, ↓il_n, ↓iq_p, ↓iq_n]
  · rw [if_neg e]
    have r := mst_r (v := v) (m := a 7) (by omega)
    have r2 := mst_r (v := v >>> (zo 3 &&& 31)) (m := 100) (by omega)
    obtain ⟨z, zv, -⟩ := spSetD_ok hw hl hT (p := mst v (a 7)) (r := mst (v >>> (zo 3 &&& 31)) 100) r (by omega)
    obtain ⟨S', g1, g2, g3⟩ := qz_op H (A126 (d := d + 4) H hw (p := mst v (a 7)) (r := mst (v >>> (zo 3 &&& 31)) 100) (by omega) (by omega) (by omega) (by omega)) z
    refine ⟨S', ?_, AR_op g1 g2⟩
    simp (disch := omega) only [qe_46_46_1iiiiio_i_199, ps_2 h hw, qe_46_315_1iiiiii_i_168, qe_46_325_1iiiiii_ii1_162, qe_46_328_1iiiiii_i1_161, qe_46_336_1iiiiii_ii1_156, g3, qe_46_339_1iiiiii_i_155, px_34, ↓ie_p, ↓ie_n, ↓il_n, ↓iq_p, ↓iq_n]
theorem act_setT (H : HC S k u a) (hw : WF Tm a) (hl : LI a) (hT : Tm + 400 ≤ 1000000) : ∃ S', (qz (d + 8) 46 n 199 46 [some (za 1 0 0), some (zi l1), some (zi (zo 12)), some (zi v), some (zi (zo x)), some (zi (zo y)), none] [zi (zo b)] (S, w) = some (some (zi (zo 1)), (S', w))) ∧ AR S S' w w k u a (if a 8 = 0 then (0, 0, false, a) else spSetT a (mst v (a 8)) (mst (v >>> (zo 3 &&& 31)) 100)) := by
  have h := H.1
  have w9 := hw.1.2.2.2.2.2.2.2
  by_cases e : a 8 = 0
  · rw [if_pos e]
    refine ⟨S, ?_, AR_0 H⟩
    simp (disch := omega) only [qe_46_46_1iiiiio_i_199, ps_3 h hw, qe_46_359_1iiiiii_i_165, ↓ie_p, ↓ie_n, ↓il_n, ↓iq_p, ↓iq_n]
  · rw [if_neg e]
    have r := mst_r (v := v) (m := a 8) (by omega)
    have r2 := mst_r (v := v >>> (zo 3 &&& 31)) (m := 100) (by omega)
    obtain ⟨z, zv, -⟩ := spSetT_ok hw hl hT (p := mst v (a 8)) (r := mst (v >>> (zo 3 &&& 31)) 100) r (by omega)
    obtain ⟨S', g1, g2, g3⟩ := qz_op H (A127 (d := d + 4) H hw (p := mst v (a 8)) (r := mst (v >>> (zo 3 &&& 31)) 100) (by omega) (by omega) (by omega) (by omega)) z
    refine ⟨S', ?_, AR_op g1 g2⟩
    simp (disch := omega) only [qe_46_46_1iiiiio_i_199, ps_3 h hw, qe_46_359_1iiiiii_i_165, qe_46_369_1iiiiii_ii1_159, qe_46_372_1iiiiii_i1_158, qe_46_380_1iiiiii_ii1_153, g3, qe_46_383_1iiiiii_i_152, px_34, ↓ie_p, ↓ie_n, ↓il_n, ↓iq_p, ↓iq_n]
theorem act_lev (H : HC S k u a) (hw : WF Tm a) (hl : LI a) (hT : Tm + 400 ≤ 1000000) : ∃ S', (qz (d + 8) 46 n 199 46 [some (za 1 0 0), some (zi l1), some (zi (zo 13)), some (zi v), some (zi (zo x)), some (zi (zo y)), none] [zi (zo b)] (S, w) = some (some (zi (zo 1)), (S', w))) ∧ AR S S' w w k u a (spLev 1 a (mst v 1001)) := by
  have r := mst_r (v := v) (m := 1001) (by omega)
  obtain ⟨z, zv, -⟩ := spLev_ok (t := 1) hw hl hT (p := mst v 1001) (by omega)
  obtain ⟨S', g1, g2, g3⟩ := qz_op H (A132 (d := d + 4) H hw (p := mst v 1001) (by omega) (by omega)) z
  refine ⟨S', ?_, AR_op g1 g2⟩
  simp (disch := omega) only [qe_46_46_1iiiiio_i_199, qe_46_400_1iiiiii_i1_164, g3, qe_46_403_1iiiiii_i_163, px_34, ↓ie_p, ↓ie_n, ↓il_n, ↓iq_p, ↓iq_n]
end AC
end LZ

/-! THE LAW'S PURE SIDE 51: a bath is drawn, the method -/
section DF2
variable {T0 T : qS} {kb A d n L : Nat} {wd hg : Int} {v : Int32}
theorem hd_all (b : BB T0 T kb (txw 1 ++ 32 :: (numI wd ++ 32 :: numI hg)) A none) (hN : 0 < wd * hg ∧ wd * hg ≤ 36) : ∃ (lv pu : Option Int) (wi : Option (Int × Int)) (q : Nat) (T' : qS), BB T0 T' kb (hLa wd hg lv pu wi) (A + 10) (some (q, .inr (.inl (6, List.replicate (wd * hg).toNat 0)))) ∧ hOk lv pu wi ∧ (hLa wd hg lv pu wi).length ≤ 60 ∧ qz (d + 11) 39 n 336 57 [some (za 5 0 0), some (zi (zo 0)), some (zi v), some (zi (zo wd)), some (zi (zo hg)), some (za 8 kb 0), none, none, none, none, none, none, none, none, none] [zi (zo (mst (v >>> (zo 5 &&& 31)) 2))] T = qy (d + 11) 39 n 203 [some (za 5 0 0), some (zi (zo 0)), some (zi v), some (zi (zo wd)), some (zi (zo hg)), some (za 8 kb 0), some (za 8 q 0), some (zi (zo (mst (v >>> (zo 10 &&& 31)) 4))), some (zi (zo (mst (v >>> (zo 12 &&& 31)) 3))), some (zi (zo 0)), none, none, none, none, none] [] T' := by
  have l0 : (txw 1).length + (32 :: (numI wd ++ 32 :: numI hg)).length ≤ 14 := by
    have z0 : (txw 1).length = 4 := rfl
    have z1 := numI_len wd
    have z2 := numI_len hg
    simp only [List.length_append, List.length_cons]
    omega
  obtain ⟨lv, T3, a1, a2, a3, a4⟩ := hd57 (d := d) (n := n) (v := v) (wd := wd) (hg := hg) b (by rw [List.length_append]; omega)
  rcases a4 with a4 | a4
  · obtain ⟨pu, T4, b1, b2, b3, b4⟩ := hd88_330 (d := d) (n := n) (v := v) (wd := wd) (hg := hg) a1 (by simp only [List.length_append]; omega)
    rcases b4 with b4 | b4
    · obtain ⟨wi, q, T5, c1, c2, c3, c4⟩ := hd118_324 (d := d) (n := n) (v := v) (wd := wd) (hg := hg) b1 (by simp only [List.length_append]; omega) hN
      rw [← hLa_p] at c1
      exact ⟨lv, pu, wi, q, T5, c1.up (by omega), ⟨a3, b3, c3⟩, by rw [hLa_p]; simp only [List.length_append]; omega, a4.trans (b4.trans c4)⟩
    · obtain ⟨wi, q, T5, c1, c2, c3, c4⟩ := hd118_314 (d := d) (n := n) (v := v) (wd := wd) (hg := hg) b1 (by simp only [List.length_append]; omega) hN
      rw [← hLa_p] at c1
      exact ⟨lv, pu, wi, q, T5, c1.up (by omega), ⟨a3, b3, c3⟩, by rw [hLa_p]; simp only [List.length_append]; omega, a4.trans (b4.trans c4)⟩
  · obtain ⟨pu, T4, b1, b2, b3, b4⟩ := hd88_320 (d := d) (n := n) (v := v) (wd := wd) (hg := hg) a1 (by simp only [List.length_append]; omega)
    rcases b4 with b4 | b4
    · obtain ⟨wi, q, T5, c1, c2, c3, c4⟩ := hd118_314 (d := d) (n := n) (v := v) (wd := wd) (hg := hg) b1 (by simp only [List.length_append]; omega) hN
      rw [← hLa_p] at c1
      exact ⟨lv, pu, wi, q, T5, c1.up (by omega), ⟨a3, b3, c3⟩, by rw [hLa_p]; simp only [List.length_append]; omega, a4.trans (b4.trans c4)⟩
    · obtain ⟨wi, q, T5, c1, c2, c3, c4⟩ := hd118_304 (d := d) (n := n) (v := v) (wd := wd) (hg := hg) b1 (by simp only [List.length_append]; omega) hN
      rw [← hLa_p] at c1
      exact ⟨lv, pu, wi, q, T5, c1.up (by omega), ⟨a3, b3, c3⟩, by rw [hLa_p]; simp only [List.length_append]; omega, a4.trans (b4.trans c4)⟩
theorem LI_0 {a : Rw} (h9 : a 9 = 0) (hz : ∀ i : Nat, i < (a 7).toNat → a (10 + 4 * i + 3) = 0) : LI a := by
  refine ⟨fun b hb => by omega, ?_⟩
  rw [zsum_congr (g := fun _ => 0) _ (fun i hi => hz i hi), zsum_0]
  unfold cnt
  rw [h9]
  rfl
theorem Q39 {T : qS} (hL : T.1.1 5 0 1 0 = zo (L : Int)) (hL2 : L ≤ 10000) : ∃ (T' : qS) (k' j' : Nat) (W : List Int) (a : Rw) (j : Nat), q_sem zF (d + 12) 39 [za 5 0 0, zi (zo 0)] T = some (some (za 8 k' 0), T') ∧ ST T' k' j' (W.map zo) ∧ NF T T' 300 ∧ T.2.length ≤ k' ∧ T.2.length ≤ j' ∧ plain W ∧ W.length ≤ 500 ∧ PR j W a ∧ WF 0 a ∧ LI a ∧ 1 ≤ a 9 := by
  have z35 : ∀ (st : List zV) (nx : List zV → qS → Option qO), qx_ret 1 (q_sem zF (d + 11) 35 [za 5 0 0, zi (zo 0)] T) st nx = nx (zi (scl T.1 L 0) :: st) T := fun st nx => qr_1 (Q35 (d := d + 10) (k := 0) hL hL2 (by omega))
  generalize scl T.1 L 0 = v at z35
  have rw0 := mst_r (v := v) (m := 4) (by omega)
  have rh0 := mst_r (v := v >>> (zo 3 &&& 31)) (m := 4) (by omega)
  have rdr := mst_r (v := v >>> (zo 10 &&& 31)) (m := 4) (by omega)
  have rtp := mst_r (v := v >>> (zo 12 &&& 31)) (m := 3) (by omega)
  have rbo := mst_r (v := v >>> (zo 14 &&& 31)) (m := 5) (by omega)
  have rso := mst_r (v := v >>> (zo 16 &&& 31)) (m := 4) (by omega)
  obtain ⟨T2, j2, bs2, e20, g2, n2, l2⟩ := Q20 (d := d + 3) (NF.push T (.inl (11, qd_obj 11)) (by show 4 ≤ 3000; decide)) (Nat.le_refl _) (qn_last T.2 (.inl (11, qd_obj 11))) tx_31 (by decide)
  have b0 : BB T T2 T.2.length (txw 1 ++ [32]) 3 none := ⟨plain_w (by decide), j2, bs2, g2, Nat.le_refl _, l2, n2, fun q c hq => nomatch hq⟩
  generalize hwd : 3 + mst v 4 = wd
  generalize hhg : 3 + mst (v >>> (zo 3 &&& 31)) 4 = hg
  have hw : 3 ≤ wd ∧ wd ≤ 6 := by omega
  have hh : 3 ≤ hg ∧ hg ≤ 6 := by omega
  have hN : 9 ≤ wd * hg ∧ wd * hg ≤ 36 := by
    have h1 : 3 * 3 ≤ wd * hg := Int.mul_le_mul hw.1 hh.1 (by omega) (by omega)
    have h2 : wd * hg ≤ 6 * 6 := Int.mul_le_mul hw.2 hh.2 (by omega) (by omega)
    omega
  have hNx : (((wd * hg).toNat : Nat) : Int) = wd * hg := by omega
  have z0 : (txw 1).length = 4 := rfl
  have z1 := decI_len wd
  have z2 := decI_len hg
  obtain ⟨T3, b1, e1⟩ := b0.nn (d := d) (x := wd) (by omega) (by omega) (by simp only [List.length_append, List.length_cons, List.length_nil]; omega)
  obtain ⟨T4, b2, e2⟩ := b1.cc (d := d) (c := 32) (by decide) (by decide) (by simp only [List.length_append, List.length_cons, List.length_nil]; omega)
  obtain ⟨T5, b3, e3⟩ := b2.nn (d := d) (x := hg) (by omega) (by omega) (by simp only [List.length_append, List.length_cons, List.length_nil]; omega)
  rw [decI_nn (by omega), decI_nn (by omega)] at b3
  have b3 : BB T T5 T.2.length (txw 1 ++ 32 :: (numI wd ++ 32 :: numI hg)) 6 none := by
    simp only [List.append_assoc, List.cons_append, List.nil_append] at b3 ⊢
    exact b3
  obtain ⟨lv, pu, wi, q, T6, c1, c2, c3, c4⟩ := hd_all (d := d) (n := zF1) (v := v) b3 (by omega)
  obtain ⟨hR, hRe⟩ := hRb_ok (w := wd) (h := hg) c2 (by omega) (by omega)
  have D0 : DW wd hg (hLa wd hg lv pu wi) (hRb lv pu wi (begR wd hg)) 0 := ⟨PR_head (by omega) (by omega) c2, hR, hRe 0 (by omega) (by omega) (by omega) (by omega), hRe 1 (by omega) (by omega) (by omega) (by omega)⟩
  have r7 : hRb lv pu wi (begR wd hg) 7 = 0 := hRe 7 (by omega) (by omega) (by omega) (by omega)
  have r8 : hRb lv pu wi (begR wd hg) 8 = 0 := hRe 8 (by omega) (by omega) (by omega) (by omega)
  have r9 : hRb lv pu wi (begR wd hg) 9 = 0 := hRe 9 (by omega) (by omega) (by omega) (by omega)
  generalize hRb lv pu wi (begR wd hg) = a0 at hR hRe D0 r7 r8 r9
  have gR : ∀ (N c : Nat), c < N → (List.replicate N (0 : Int32)).getD c 0 = zo 0 := fun N c hc => by
    rw [List.getD_eq_getElem?_getD, List.getElem?_replicate, if_pos hc]
    rfl
  have K0 : TK a0 (List.replicate (wd * hg).toNat 0) (wd * hg).toNat := ⟨List.length_replicate, fun c hc => ⟨fun _ => frB_iff.mpr ⟨fun k hk => by rw [r7] at hk; exact absurd hk (Nat.not_lt_zero _), fun k hk => by rw [r8] at hk; exact absurd hk (Nat.not_lt_zero _)⟩, fun _ => gR _ c hc⟩⟩
  have hb := zF1_big
  obtain ⟨W1, a1, T7, j1, f1, d1, d2, d3, d4, d5, d6, d7, d8⟩ := lp203 (d := d) (v := v) (q := q) hL hL2 hw hh hN hNx (dr := mst (v >>> (zo 10 &&& 31)) 4) (tp := mst (v >>> (zo 12 &&& 31)) 3) (by omega) (by omega) (mst (v >>> (zo 10 &&& 31)) 4 + mst (v >>> (zo 12 &&& 31)) 3).toNat 0 T6 _ a0 _ _ zF1 (by omega) (by omega) c1 D0 K0 r9 (fun i hi => by rw [r7] at hi; exact absurd hi (Nat.not_lt_zero _)) (by rw [if_pos (by omega)]; exact r7) (by rw [if_pos (by omega)]; exact r8) (by omega)
  obtain ⟨q2, T8, e5, e6⟩ := d1.new (n := wd * hg) (by omega) (by omega)
  have li1 := LI_0 d4 d5
  obtain ⟨W2, a2, T9, j3, f2, g1, g2', g3, g4, g5, g6, g7, g8⟩ := lp388 (d := d) (v := v) (q := q2) hL hL2 hw hh hN hNx (bo := 1 + mst (v >>> (zo 14 &&& 31)) 5) (by omega) (1 + mst (v >>> (zo 14 &&& 31)) 5).toNat 0 T8 W1 a1 _ _ j1 f1 (by omega) (by omega) e5 d2 (by omega) li1 List.length_replicate (fun c hc => ⟨fun _ => by unfold occ; rw [d4]; rfl, fun _ => gR _ c hc⟩) d4 (by omega)
  obtain ⟨W3, a3, T10, j4, f3, h1, h2, h3, h4, h5, h6, h7⟩ := lp584 (d := d) (v := v) hL hL2 hw hh (so := mst (v >>> (zo 16 &&& 31)) 4) rfl (mst (v >>> (zo 16 &&& 31)) 4).toNat 0 T9 W2 a2 _ j3 f2 (by omega) (by omega) g1 g2' (by omega) g4 (by omega) (by omega)
  obtain ⟨x0, j5, bs5, x1, x2, x3, x4, x5⟩ := h1
  obtain ⟨T11, k', j', y1, y2, y3, y4, y5⟩ := Q24 (d := d + 5) x1 (by rw [List.length_map]; omega)
  have xl := x4.2.1
  refine ⟨T11, k', j', W3, a3, j4, ?_, y2, (x4.tr y3).up (by omega), by omega, by omega, x0, h5, h2.1, h2.2.1, h3, h4⟩
  obtain ⟨f4, ef⟩ : ∃ f4, f3 = f4 + 1 := ⟨f3 - 1, by omega⟩
  rw [qn_39_5iooooooooooooo, qe_39_0_5iooooooooooooo__370, z35, qe_39_5_5iooooooooooooo_i_367, px_34 (by omega) (by omega), qe_39_12_5iioooooooooooo_ii_362, zo_add, hwd, px_34 (by omega) (by omega), qe_39_22_5iiiooooooooooo_ii_354, zo_add, hhg]
  refine (qr_0 e20).trans ?_
  rw [qe_39_34_5iiiioooooooooo_8_348, e1, qe_39_38_5iiiioooooooooo_8_346, e2, qe_39_43_5iiiioooooooooo_8_344, e3, qe_39_48_5iiiioooooooooo_8_342, px_34 (by omega) (by omega), c4]
  refine d8.trans ?_
  rw [qe_39_203_5iiii88iiiooooo__370, zo_add, ie_p (by omega) (by omega) (by omega), zo_mul, e6, qe_39_371_5iiii88iiiooooo_8_361, px_34 (by omega) (by omega), qe_39_382_5iiii88ii8ooooo_ii_354, zo_add]
  refine g8.trans (h7.trans ?_)
  rw [ef, qy39, qe_39_584_5iiii8oooooiooo__370, px_34 (by omega) (by omega), qe_39_594_5iiii8oooooiooo_ii_364, ie_p (by omega) (by omega) (by omega), qp_rc x1.1, qr_r y1, qe_39_680_5iiii8oooooiooo_8_361]
end DF2

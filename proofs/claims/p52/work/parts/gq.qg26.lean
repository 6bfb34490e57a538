/-! THE LAW'S PURE SIDE 36: one turn does what turns do: each boat; the method -/
section LX
variable {S : zS} {w w0 W : qW} {d f n : Nat} {a a2 : Rw} {Tm lv : Int} {A : Nat → List Int32}
/-- what a turn does to boat b -/
def TB (a a2 : Rw) (lv : Int) (b : Nat) : Prop := Mv a a2 b ∧ (a (40 + 10 * b + 6) ≠ 0 → ∀ i, i < 10 → a2 (40 + 10 * b + i) = a (40 + 10 * b + i)) ∧ (a (40 + 10 * b + 6) = 0 → (a (40 + 10 * b + 3) < a2 (40 + 10 * b + 3) ∧ a2 (40 + 10 * b + 3) ≤ a (40 + 10 * b + 3) + 10) ∧ (a2 (40 + 10 * b + 6) ≠ 0 → a2 (40 + 10 * b + 7) = a 6 + 1)) ∧ (lv = 0 → a2 (40 + 10 * b) = a (40 + 10 * b))
theorem t511 (h : Cb (S.1 0 0) a2) (hw : WF Tm a2) (hn : n = (a2 9).toNat) {b : Nat} (hb : b < n) (H : HD w0 n A W) (hA : ∀ i, i < n → A i = lmp (fun t => zo (bnum a i t)) 11) (h6 : 0 < a (40 + 10 * b + 6) ∧ a (40 + 10 * b + 6) < 1000) (he : ∀ t, t < 11 → bnum a2 b t = bnum a b t) {l1 l4 l5 : Int32} : ∀ (m k : Nat), k + m = 11 → qy (d + 4) 45 (f + m + 1) 511 [some (za 1 0 0), some (zi l1), none, none, some (zi l4), some (zi l5), none, some (za 8 w0.length 0), some (zi (zo (b : Int))), none, none, some (zi (zo (k : Int)))] [] (S, W) = qy (d + 4) 45 f 253 [some (za 1 0 0), some (zi l1), none, none, some (zi l4), some (zi l5), none, some (za 8 w0.length 0), some (zi (zo ((b : Int) + 1))), none, none, none] [] (S, W) := by
  have w7 := hw.1.2.2.2.2.2.2.2
  intro m
  induction m with
  | zero =>
    intro k hk
    rw [qy45, qe_45_511_1iooiio8iooi__313, ie_p (by omega) (by omega) (by omega), zo_add]
  | succ m ih =>
    intro k hk
    have hl : (A b).length = 11 := by rw [hA b hb, lmp_len]
    have ldr := fun (nx : zV → Option qO) => H.ldr (S := S) (nx := nx) hb (by omega)
    have ld7 := fun (nx : Int32 → Option qO) => H.ld (S := S) (nx := nx) hb (t := 7) (by omega) (by omega)
    have ldk := fun (nx : Int32 → Option qO) => H.ld (S := S) (nx := nx) hb (t := k) (by omega) (by omega)
    rw [hA b hb, lmp_get _ _ (by omega)] at ld7 ldk
    have ld7 : ∀ nx : Int32 → Option qO, qa_ld (8, w0.length + 1 + b, 0) (zo 7) (S, W) nx = nx (zo (a (40 + 10 * b + 6))) := ld7
    have zq : zr_sem zF (d + 4) 94 [za 1 0 0, zi (zo (b : Int)), zi (zo (k : Int))] S = _ := zq_b h hw (b := b) (w := k) (by omega) (by omega)
    rw [show f + (m + 1) + 1 = (f + m + 1) + 1 by omega, qy45, qe_45_511_1iooiio8iooi__313, ie_n (by omega) (by omega) (by omega), ldr, qe_45_523_1iooiio8iooi_8_307, ld7, ie_n (by omega) (by omega) (by omega)]
    refine (qz_1 zq).trans ?_
    rw [qe_45_537_1iooiio8iooi_i_300, ldr, qe_45_542_1iooiio8iooi_8i_297, ldk, he k (by omega), if_pos rfl, zo_add]
    exact ih (k + 1) (by omega)
theorem t253 (h : Cb (S.1 0 0) a2) (hw2 : WF (Tm + 1) a2) (hw : WF Tm a) (e0 : a2 0 = a 0) (e1 : a2 1 = a 1) (e9 : a2 9 = a 9) (hlv : 0 ≤ lv ∧ lv ≤ 1000) (hn : n = (a 9).toNat) (H : HD w0 n A W) (hA : ∀ i, i < n → A i = lmp (fun t => zo (bnum a i t)) 11) (hT : ∀ b, b < n → TB a a2 lv b) : ∀ (m b f : Nat), b + m = n → 20 * m + 20 ≤ f → qy (d + 4) 45 f 253 [some (za 1 0 0), some (zi (zo lv)), none, none, some (zi (zo (a 9))), some (zi (zo (a 6))), none, some (za 8 w0.length 0), some (zi (zo (b : Int))), none, none, none] [] (S, W) = some (some (zi (zo 1)), (S, W)) := by
  have w0' := hw.1.1
  have w1' := hw.1.2.1
  have w6 := hw.1.2.2.2.2.2.2.1
  have w26 := hw2.1.2.2.2.2.2.2.1
  have w7 := hw.1.2.2.2.2.2.2.2
  intro m
  induction m with
  | zero =>
    intro b f hb hf
    obtain ⟨f, rfl⟩ : ∃ f', f = f' + 1 := ⟨f - 1, by omega⟩
    rw [qy45, qe_45_253_1iooiio8iooo__313, ie_p (by omega) (by omega) (by omega)]
  | succ m ih =>
    intro b f hb hf
    have hbn : b < n := by omega
    have hb9 : (b : Int) < a 9 := by omega
    have hb29 : (b : Int) < a2 9 := by omega
    obtain ⟨⟨s, t, g, q1, q2, q3, q4, q5, q6, q7⟩, ta, tb, tc⟩ := hT b hbn
    have gb := hw.2.2.2.1 b hb9
    have gb2 := hw2.2.2.2.1 b hb29
    have cb := (cellr hw gb.1).1
    have cb2 : (0 ≤ a2 (40 + 10 * b) % a2 0 ∧ a2 (40 + 10 * b) % a2 0 < a2 0) ∧ (0 ≤ a2 (40 + 10 * b) / a2 0 ∧ a2 (40 + 10 * b) / a2 0 < a2 1) := (cellr hw2 gb2.1).1
    rw [e0, e1] at cb2
    have hl : (A b).length = 11 := by rw [hA b hbn, lmp_len]
    have ldr := fun (nx : zV → Option qO) => H.ldr (S := S) (nx := nx) hbn (by omega)
    have ld := fun (t : Nat) (ht : t < 11) (nx : Int32 → Option qO) => H.ld (S := S) (nx := nx) hbn (t := t) (by omega) (by omega)
    have ld : ∀ (t : Nat) (ht : t < 11) (nx : Int32 → Option qO), qa_ld (8, w0.length + 1 + b, 0) (zo (t : Int)) (S, W) nx = nx (zo (bnum a b t)) := fun t ht nx => by
      rw [ld t ht nx, hA b hbn, lmp_get _ _ ht]
    have r0 : ∀ nx : Int32 → Option qO, qa_ld (8, w0.length + 1 + b, 0) (zo 0) (S, W) nx = nx (zo (a (40 + 10 * b) % a 0)) := fun nx => ld 0 (by omega) nx
    have r1 : ∀ nx : Int32 → Option qO, qa_ld (8, w0.length + 1 + b, 0) (zo 1) (S, W) nx = nx (zo (a (40 + 10 * b) / a 0)) := fun nx => ld 1 (by omega) nx
    have r4 : ∀ nx : Int32 → Option qO, qa_ld (8, w0.length + 1 + b, 0) (zo 4) (S, W) nx = nx (zo (a (40 + 10 * b + 3))) := fun nx => ld 4 (by omega) nx
    have r7 : ∀ nx : Int32 → Option qO, qa_ld (8, w0.length + 1 + b, 0) (zo 7) (S, W) nx = nx (zo (a (40 + 10 * b + 6))) := fun nx => ld 7 (by omega) nx
    have r9 : ∀ nx : Int32 → Option qO, qa_ld (8, w0.length + 1 + b, 0) (zo 9) (S, W) nx = nx (zo (a (40 + 10 * b + 8))) := fun nx => ld 9 (by omega) nx
    have r10 : ∀ nx : Int32 → Option qO, qa_ld (8, w0.length + 1 + b, 0) (zo 10) (S, W) nx = nx (zo (a (40 + 10 * b + 9))) := fun nx => ld 10 (by omega) nx
    have hst : lv = 0 → s + t ≤ 0 := fun h0 => by
      rw [tc h0, Int.sub_self] at q6 q7
      have : iab 0 = 0 := rfl
      omega
    have nxt : ∀ f, 20 * m + 20 ≤ f → qy (d + 4) 45 f 253 [some (za 1 0 0), some (zi (zo lv)), none, none, some (zi (zo (a 9))), some (zi (zo (a 6))), none, some (za 8 w0.length 0), some (zi (zo ((b : Int) + 1))), none, none, none] [] (S, W) = some (some (zi (zo 1)), (S, W)) := fun f hf => ih (b + 1) f (by omega) hf
    have pre : ∀ f, qy (d + 4) 45 (f + 1) 253 [some (za 1 0 0), some (zi (zo lv)), none, none, some (zi (zo (a 9))), some (zi (zo (a 6))), none, some (za 8 w0.length 0), some (zi (zo (b : Int))), none, none, none] [] (S, W) = qy (d + 4) 45 f 455 [some (za 1 0 0), some (zi (zo lv)), none, none, some (zi (zo (a 9))), some (zi (zo (a 6))), none, some (za 8 w0.length 0), some (zi (zo (b : Int))), some (zi (zo s)), some (zi (zo t)), none] [] (S, W) := by
      intro f
      rw [qy45]
      by_cases c : a (40 + 10 * b + 6) = 0
      · have tb := tb c
        simp (disch := omega) only [qe_45_253_1iooiio8iooo__313, qe_45_267_1iooiio8iooo_i_306, qe_45_272_1iooiio8iooo_8i_303, qe_45_278_1iooiio8iooo_i_299, qe_45_287_1iooiio8iioo_i_294, qe_45_292_1iooiio8iioo_8i_291, qe_45_298_1iooiio8iioo_i_287, qe_45_320_1iooiio8iiio_i_276, qe_45_325_1iooiio8iiio_8i_273, qe_45_345_1iooiio8iiio_i_262, qe_45_350_1iooiio8iiio_8i_259, qe_45_364_1iooiio8iiio_i_252, qe_45_369_1iooiio8iiio_8i_249, qe_45_390_1iooiio8iiio_8_237, qe_45_403_1iooiio8iiio_i_230, qe_45_408_1iooiio8iiio_8i_227, qe_45_420_1iooiio8iiio_i_220, qe_45_425_1iooiio8iiio_8i_217, pb_0 h hw2 hb29, pb_1 h hw2 hb29, pb_4 h hw2 hb29, pb_9 h hw2 hb29, pb_10 h hw2 hb29, e0, q6, q7, r0, r1, r4, r7, r9, r10, ldr, px_42, zo_add, zo_sub, c, ↓ie_p, ↓ie_n, ↓il_n, ↓iq_p, ↓iq_n]
      · have ta := ta c 3 (by omega)
        simp (disch := omega) only [qe_45_253_1iooiio8iooo__313, qe_45_267_1iooiio8iooo_i_306, qe_45_272_1iooiio8iooo_8i_303, qe_45_278_1iooiio8iooo_i_299, qe_45_287_1iooiio8iioo_i_294, qe_45_292_1iooiio8iioo_8i_291, qe_45_298_1iooiio8iioo_i_287, qe_45_320_1iooiio8iiio_i_276, qe_45_325_1iooiio8iiio_8i_273, qe_45_345_1iooiio8iiio_i_262, qe_45_350_1iooiio8iiio_8i_259, qe_45_364_1iooiio8iiio_i_252, qe_45_369_1iooiio8iiio_8i_249, qe_45_390_1iooiio8iiio_8_237, qe_45_443_1iooiio8iiio_i_230, qe_45_448_1iooiio8iiio_8i_227, pb_0 h hw2 hb29, pb_1 h hw2 hb29, pb_4 h hw2 hb29, pb_9 h hw2 hb29, pb_10 h hw2 hb29, e0, q6, q7, r0, r1, r4, r7, r9, r10, ldr, px_42, zo_add, zo_sub, ↓ie_p, ↓ie_n, ↓il_n, ↓iq_p, ↓iq_n]
    by_cases c : a (40 + 10 * b + 6) = 0
    · obtain ⟨f, rfl⟩ : ∃ f', f = f' + 3 := ⟨f - 3, by omega⟩
      have tb := tb c
      rw [pre, qy45]
      have fin : qy (d + 4) 45 (f + 1) 511 [some (za 1 0 0), some (zi (zo lv)), none, none, some (zi (zo (a 9))), some (zi (zo (a 6))), none, some (za 8 w0.length 0), some (zi (zo (b : Int))), none, none, some (zi (zo 0))] [] (S, W) = some (some (zi (zo 1)), (S, W)) := by
        rw [qy45]
        simp (disch := omega) only [qe_45_511_1iooiio8iooi__313, qe_45_523_1iooiio8iooi_8_307, ldr, r7, c, zo_add, ↓ie_p, ↓ie_n]
        exact nxt f (by omega)
      by_cases c2 : a2 (40 + 10 * b + 6) = 0
      · by_cases c3 : lv = 0
        · have hst := hst c3
          simp (disch := omega) only [qe_45_455_1iooiio8iiio__313, qe_45_460_1iooiio8iiio_8_310, qe_45_474_1iooiio8iiio_i_303, pb_7 h hw2 hb29, ldr, r7, c, c2, zo_add, ↓ie_p, ↓ie_n, ↓iq_p, ↓iq_n]
          exact fin
        · simp (disch := omega) only [qe_45_455_1iooiio8iiio__313, qe_45_460_1iooiio8iiio_8_310, qe_45_474_1iooiio8iiio_i_303, pb_7 h hw2 hb29, ldr, r7, c, c2, zo_add, ↓ie_p, ↓ie_n, ↓iq_p, ↓iq_n]
          exact fin
      · have tb2 := tb.2 c2
        by_cases c3 : lv = 0
        · have hst := hst c3
          simp (disch := omega) only [qe_45_455_1iooiio8iiio__313, qe_45_460_1iooiio8iiio_8_310, qe_45_474_1iooiio8iiio_i_303, qe_45_485_1iooiio8iiio_i_298, pb_7 h hw2 hb29, pb_8 h hw2 hb29, ldr, r7, c, zo_add, ↓ie_p, ↓ie_n, ↓iq_p, ↓iq_n]
          exact fin
        · simp (disch := omega) only [qe_45_455_1iooiio8iiio__313, qe_45_460_1iooiio8iiio_8_310, qe_45_474_1iooiio8iiio_i_303, qe_45_485_1iooiio8iiio_i_298, pb_7 h hw2 hb29, pb_8 h hw2 hb29, ldr, r7, c, zo_add, ↓ie_p, ↓ie_n, ↓iq_p, ↓iq_n]
          exact fin
    · obtain ⟨f, rfl⟩ : ∃ f', f = f' + 14 := ⟨f - 14, by omega⟩
      have ta := ta c
      have he : ∀ t, t < 11 → bnum a2 b t = bnum a b t := by
        intro t ht
        have z := ta 0 (by omega)
        rw [Nat.add_zero] at z
        unfold bnum
        rw [e0, z]
        by_cases t0 : t = 0
        · rw [if_pos t0, if_pos t0]
        · rw [if_neg t0, if_neg t0]
          by_cases t1 : t = 1
          · rw [if_pos t1, if_pos t1]
          · rw [if_neg t1, if_neg t1]
            exact ta (t - 1) (by omega)
      rw [show f + 14 = (f + 11 + 1 + 1) + 1 by omega, pre, qy45]
      have fin := t511 (d := d) (f := f) (l1 := zo lv) (l4 := zo (a 9)) (l5 := zo (a 6)) h hw2 (n := n) (by omega) hbn H hA (by omega) he 11 0 rfl
      by_cases c3 : lv = 0
      · have hst := hst c3
        simp (disch := omega) only [qe_45_455_1iooiio8iiio__313, qe_45_460_1iooiio8iiio_8_310, ldr, r7, zo_add, ↓ie_p, ↓ie_n, ↓iq_p, ↓iq_n]
        exact fin.trans (nxt f (by omega))
      · simp (disch := omega) only [qe_45_455_1iooiio8iiio__313, qe_45_460_1iooiio8iiio_8_310, ldr, r7, zo_add, ↓ie_p, ↓ie_n, ↓iq_p, ↓iq_n]
        exact fin.trans (nxt f (by omega))
/-- what else the law's steps keep of its own cells -/
def KW (w W : qW) (c s : Nat) : Prop := W.length ≤ w.length + c ∧ q_sl W ≤ q_sl w + s ∧ ∀ i x, zx_nth w i = some x → zx_nth W i = some x
theorem KW.rf (w : qW) : KW w w 0 0 := ⟨Nat.le_refl _, Nat.le_refl _, fun _ _ h => h⟩
theorem KW.tr {w W W2 : qW} {c s c2 s2 : Nat} (h1 : KW w W c s) (h2 : KW W W2 c2 s2) : KW w W2 (c + c2) (s + s2) := ⟨by have := h1.1; have := h2.1; omega, by have := h1.2.1; have := h2.2.1; omega, fun i x h => h2.2.2 i x (h1.2.2 i x h)⟩
theorem KW.up {w W : qW} {c s c2 s2 : Nat} (h1 : KW w W c s) (hc : c ≤ c2) (hs : s ≤ s2) : KW w W c2 s2 := ⟨by have := h1.1; omega, by have := h1.2.1; omega, h1.2.2⟩
theorem Q45 {k : Nat} {u : Nat → Rw} (HH : HC S k u a) (hw : WF Tm a) (hT : Tm + 400 ≤ 1000000) : ∃ S' W, q_sem zF (d + 9) 45 [za 1 0 0] (S, w) = some (some (zi (zo 1)), (S', W)) ∧ FrP S S' ∧ HC S' (recK k) (recU k u a) (pas a) ∧ KW w W 13 144 := by
  have h := HH.1
  have w0' := hw.1.1
  have w1' := hw.1.2.1
  have w2' := hw.1.2.2.1
  have w6 := hw.1.2.2.2.2.2.2.1
  have w7 := hw.1.2.2.2.2.2.2.2
  have wn := WF_nc hw
  obtain ⟨p1, p2, p3⟩ := pas_ok hw (by omega)
  have e0 := p3 0 (by omega) (by omega) (by omega)
  have e1 := p3 1 (by omega) (by omega) (by omega)
  have e9 := p3 9 (by omega) (by omega) (by omega)
  have e2 := pas_2 hw (by omega)
  have lb := p1.1.2.2.1
  rw [e2] at lb
  have mr := mxS_r hw (a 0 * a 1).toNat (by omega)
  obtain ⟨so1, so2⟩ := spm_pas hw (by omega)
  have spb : -1000000 ≤ spm a ∧ spm a ≤ 1000000 := by
    have l1 : 0 ≤ spm a := zsum_ge _ _ (fun i hi => (hw.2.2.2.2.1 i (by unfold ncl at hi; omega)).1)
    have l2 : spm a ≤ 99 * ((ncl a : Nat) : Int) := zsum_le _ 99 _ (fun i hi => (hw.2.2.2.2.1 i (by unfold ncl at hi; omega)).2)
    have : ((ncl a : Nat) : Int) = a 0 * a 1 := by unfold ncl; omega
    omega
  have spb2 : -1000000 ≤ spm (pas a) := by
    have : 0 ≤ spm (pas a) := zsum_ge _ _ (fun i hi => (p1.2.2.2.2.1 i (by unfold ncl at hi; omega)).1)
    omega
  obtain ⟨S', g1, g2, g3⟩ := qz_op HH (A133 (d := d) (p := 1) HH hw hT (by omega) (by omega)) rfl
  have g2 : HC S' (recK k) (recU k u a) (pas a) := g2
  have g3 : ∀ (w : qW) (st : List zV) (nx : List zV → qS → Option qO), qz_ret 1 (zr_sem zF (d + 8) 133 [za 1 0 0, zi (zo 1)] S) w st nx = nx (zi (zo (cnt a 0 - cnt (pas a) 0)) :: st) (S', w) := g3
  have h' := g2.1
  obtain ⟨f, hf⟩ : ∃ f, zF1 = (f + 1 + 13 * (a 9).toNat + 1 + (a 7).toNat) + (a 8).toNat + 1 ∧ 500 ≤ f := ⟨zF1 - 1 - (a 8).toNat - (a 7).toNat - 1 - 13 * (a 9).toNat - 1, by have := zF1_big; omega⟩
  obtain ⟨hf, hf5⟩ := hf
  obtain ⟨W1, k1, k2⟩ := t35x (d := d + 3) (f := f + 1 + 13 * (a 9).toNat) (w := w) h hw
  obtain ⟨W2, A, k3, k4, k5⟩ := t135 (d := d + 4) (f := f + 1) (n := (a 9).toNat) (l1 := zo (ps1 a 2)) (l2 := zo (spm a)) (l3 := zo (if mxS a (a 0 * a 1).toNat ≤ 95 then 0 else 1)) (l5 := zo (a 6)) (l6 := zo (cnt a 0)) h hw rfl (a 9).toNat 0 W1 _ (by omega) k1 (fun i hi => by omega) (fun _ _ _ => rfl)
  refine ⟨S', W2, ?_, g1, g2, ?_⟩
  · have fin := t253 (d := d + 4) (lv := ps1 a 2) h' p1 hw e0 e1 e9 lb (n := (a 9).toNat) rfl k3 k4 (fun b hb => by
      obtain ⟨b1, b2, b3, b4, -⟩ := pas_b hw (by omega) (j := b) (by omega)
      exact ⟨b1, b2, b3, b4⟩) (a 9).toNat 0 f (by omega) (by omega)
    rw [qn_45_1ooooooooooo, hf]
    have st : qz (d + 8) 45 ((f + 1 + 13 * (a 9).toNat + 1 + (a 7).toNat) + (a 8).toNat + 1) 313 0 [some (za 1 0 0), none, none, none, none, none, none, none, none, none, none, none] [] (S, w) = qy (d + 8) 45 ((f + 1 + 13 * (a 9).toNat + 1 + (a 7).toNat) + (a 8).toNat + 1) 9 [some (za 1 0 0), some (zi (zo (a 2))), some (zi (zo 0)), none, none, none, none, none, none, none, none, none] [] (S, w) := by
      simp (disch := omega) only [qe_45_0_1ooooooooooo__313, qe_45_6_1ooooooooooo_i_310, ps_9 h hw]
    refine st.trans ?_
    refine Eq.trans (b := qy (d + 8) 45 (f + 1) 135 [some (za 1 0 0), some (zi (zo (ps1 a 2))), some (zi (zo (spm a))), some (zi (zo (if mxS a (a 0 * a 1).toNat ≤ 95 then 0 else 1))), some (zi (zo (a 9))), some (zi (zo (a 6))), some (zi (zo (cnt a 0))), some (za 8 w.length 0), some (zi (zo (a 9))), none, none, none] [] (S, W2)) ?_ ?_
    · have x9 := t9 (d := d + 4) (f := f + 1 + 13 * (a 9).toNat + 1 + (a 7).toNat) (w := w) h hw (a 8).toNat 0 (by omega)
      rw [show zsum (fun k => a (30 + 2 * k + 1)) 0 = 0 from rfl, Int.add_zero] at x9
      have x35 := t35 (d := d + 4) (f := f + 1 + 13 * (a 9).toNat + 1) (w := w) (c := a 2 + zsum (fun k => a (30 + 2 * k + 1)) (a 8).toNat) h hw (a 7).toNat 0 (by omega)
      rw [show zsum (fun k => if wks a k = true then a (10 + 4 * k + 2) else 0) 0 = 0 from rfl, Int.sub_zero] at x35
      exact x9.trans (x35.trans (k2.trans k5))
    · rw [qy45]
      by_cases c : mxS a (a 0 * a 1).toNat ≤ 95
      · have so2 := so2 c
        rw [if_pos c]
        simp (disch := omega) only [qe_45_135_1iiiiii8iooo__313, qe_45_185_1iiiiii8iooo_i_307, qe_45_192_1iiiiii8iooo_iii_303, qe_45_202_1iiiiii8iooo_i_298, qe_45_215_1iiiiii8iooo_i_291, qe_45_244_1iiiiii8iooo_i_284, g3, ps_5 h' p1, ps_8 h' p1, ps_9 h' p1, ps_12 h' p1, zo_add, zo_sub, ↓ie_p, ↓ie_n, ↓iq_p, ↓iq_n]
        exact fin
      · rw [if_neg c]
        simp (disch := omega) only [qe_45_135_1iiiiii8iooo__313, qe_45_185_1iiiiii8iooo_i_307, qe_45_192_1iiiiii8iooo_iii_303, qe_45_202_1iiiiii8iooo_i_298, qe_45_215_1iiiiii8iooo_i_291, qe_45_231_1iiiiii8iooo_i_284, g3, ps_5 h' p1, ps_8 h' p1, ps_9 h' p1, ps_12 h' p1, zo_add, zo_sub, ↓ie_p, ↓ie_n, ↓iq_p, ↓iq_n]
        exact fin
  · have k9 := k3.1
    have k10 := k3.2.1
    exact ⟨by omega, by omega, k3.2.2.2.2⟩
end LX

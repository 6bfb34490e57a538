/-! THE LAW'S PURE SIDE 16: all numbers of the bath, the method -/
theorem allR_le {a : Rw} {Tm : Int} (hw : WF Tm a) : (allR a).length ≤ 300 := by
  have wn := WF_nc hw
  have w7 := hw.1.2.2.2.2.2.2.2
  rw [allR_len]
  omega
theorem Q40 {T : qS} {d k : Nat} {u : Nat → Rw} {a : Rw} {Tm : Int} (hw : WF Tm a) (H : HC T.1 k u a) : ∃ T', q_sem zF (d + 5) 40 [za 1 0 0] T = some (some (za 8 T.2.length 0), T') ∧ RC T.1 T'.1 ∧ HC T'.1 k u a ∧ T'.2.length = T.2.length + 1 ∧ q_sl T'.2 = q_sl T.2 + (allR a).length ∧ zx_nth T'.2 T.2.length = some (.inr (.inl (0, allR a))) ∧ ∀ i c, zx_nth T.2 i = some c → zx_nth T'.2 i = some c := by
  have al := allR_len a
  have ll := allR_le hw
  have wn := WF_nc hw
  have w7 := hw.1.2.2.2.2.2.2.2
  obtain ⟨S0, r0, H0, e0⟩ := qq_s (d := d) H hw (p := 0) (by omega) (by omega)
  obtain ⟨S1, r1, H1, e1⟩ := qq_s (d := d) H0 hw (p := 1) (by omega) (by omega)
  obtain ⟨S4, r4, H4, e4⟩ := qq_s (d := d) H1 hw (p := 4) (by omega) (by omega)
  obtain ⟨S2, r2, H2, e2⟩ := qq_s (d := d) H4 hw (p := 2) (by omega) (by omega)
  obtain ⟨S3, r3, H3, e3⟩ := qq_s (d := d) H2 hw (p := 3) (by omega) (by omega)
  have en : zo 15 + zo 11 * zo (a 9) + zo 6 * zo (a 7) + zo (a 8) + zo (a 0 * a 1) = zo ((allR a).length : Int) := by
    rw [zo_mul, zo_mul, zo_add, zo_add, zo_add, zo_add, al]
    congr 1
    omega
  obtain ⟨f, hf⟩ : ∃ f, zF1 = ((((((f + (a 0 * a 1).toNat + 1) + (a 8).toNat + 1) + 8 * (a 7).toNat + 1) + 13 * (a 9).toNat + 1) + 15 + 1)) := ⟨zF1 - ((((((a 0 * a 1).toNat + 1) + (a 8).toNat + 1) + 8 * (a 7).toNat + 1) + 13 * (a 9).toNat + 1) + 15 + 1), by have := zF1_big; omega⟩
  have hl0 : zx_nth (T.2 ++ [(.inr (.inl (0, List.replicate (allR a).length 0)) : qC)]) T.2.length = some (.inr (.inl (0, List.replicate (allR a).length 0))) := qn_last _ _
  obtain ⟨Te, g1, g2, g3, g4⟩ := Q40_t (T := (S3, T.2 ++ [.inr (.inl (0, List.replicate (allR a).length 0))])) (d := d) (f := f) hw H3 hl0
  rw [← hf] at g1
  refine ⟨Te, ?_, (r0.tr (r1.tr (r4.tr (r2.tr r3)))).tr g2.2.2.2, g3, ?_, ?_, g4, fun i c hi => ?_⟩
  · rw [qn_40_1ooooooooo, qe_40_0_1ooooooooo__134, e0, qe_40_5_1ooooooooo_i_131]
    refine (e1 _ _ _).trans ?_
    rw [qe_40_12_1ioooooooo_ii_126]
    refine (e4 _ _ _).trans ?_
    rw [qe_40_19_1iiooooooo_i_121]
    refine (e2 _ _ _).trans ?_
    rw [qe_40_25_1iiioooooo_i_117]
    refine (e3 _ _ _).trans ?_
    rw [qe_40_32_1iiiiooooo_i_113]
    rw [show zo (sizV a 0) = zo (a 0) from rfl, show zo (sizV a 1) = zo (a 1) from rfl, show zo (sizV a 4) = zo (a 9) from rfl, show zo (sizV a 2) = zo (a 7) from rfl, show zo (sizV a 3) = zo (a 8) from rfl, zo_mul (a 0) (a 1), en]
    refine (qp_new (T := (S3, T.2)) (by omega) (by omega)).trans ?_
    rw [Int.toNat_natCast]
    refine (qe_40_54_1iiiiioooo_8_98).trans ?_
    exact g1
  · rw [g2.1]
    show (T.2 ++ _).length = _
    rw [List.length_append]; rfl
  · rw [g2.2.1]
    show q_sl (T.2 ++ _) = _
    rw [q_sl_app, q_sl_one]
    show _ + (List.replicate _ _).length = _
    rw [List.length_replicate]
  · have hl := qn_lt hi
    rw [g2.2.2.1 i (by omega)]
    exact qn_app hi

/-! THE LAW'S PURE SIDE 40: the law's rounds -/
theorem qy47 {d n pc : Nat} {lv : zL} {st : List zV} {T : qS} : qy d 47 (n + 1) pc lv st T = qz d 47 n 1000000000000000 pc lv st T := qy_z (M := (qm_47, 2, 9, zF)) rfl
/-- what the law's steps keep of the class's store -/
def KF (S S' : zS) : Prop := (∀ o j, S'.1 5 0 o j = S.1 5 0 o j) ∧ (S'.1 1 0 10 1 = S.1 1 0 10 1 ∧ S'.1 1 0 12 1 = S.1 1 0 12 1) ∧ S'.1 0 2 = S.1 0 2 ∧ S'.1 1 0 0 12 = S.1 1 0 0 12
theorem KF.rf (S : zS) : KF S S := ⟨fun _ _ => rfl, ⟨rfl, rfl⟩, rfl, rfl⟩
theorem KF.tr {S S1 S2 : zS} (h1 : KF S S1) (h2 : KF S1 S2) : KF S S2 := ⟨fun o j => (h2.1 o j).trans (h1.1 o j), ⟨h2.2.1.1.trans h1.2.1.1, h2.2.1.2.trans h1.2.1.2⟩, h2.2.2.1.trans h1.2.2.1, h2.2.2.2.trans h1.2.2.2⟩
theorem FrP.kf {S S' : zS} (h : FrP S S') : KF S S' := ⟨fun o j => h 5 0 o j (by omega) (by omega), ⟨h 1 0 10 1 (by omega) (by omega), h 1 0 12 1 (by omega) (by omega)⟩, by funext o j; exact h 0 2 o j (by omega) (by omega), h 1 0 0 12 (by omega) (by omega)⟩
theorem RC.kf {S S' : zS} (h : RC S S') : KF S S' := ⟨fun o j => h.1 5 0 o j (by omega) (by omega), ⟨h.1 1 0 10 1 (by omega) (by omega), h.1 1 0 12 1 (by omega) (by omega)⟩, by funext o j; exact h.1 0 2 o j (by omega) (by omega), h.1 1 0 0 12 (by omega) (by omega)⟩
theorem KF.scl {S S' : zS} (h : KF S S') (L k : Nat) : scl S' L k = scl S L k := by
  unfold _root_.Jvm.Pilot.CBathBoatsLaw_law_r5915_0bb2af.scl
  rw [h.1]
/-- what holds between the law's steps -/
def IV (Tm : Int) (L : Nat) (S : zS) (k : Nat) (u : Nat → Rw) (a : Rw) : Prop := HC S k u a ∧ (WF Tm a ∧ LI a ∧ 1 ≤ a 9) ∧ (∀ i, i < k → WF Tm (u i) ∧ LI (u i) ∧ 1 ≤ u i 9) ∧ (S.1 1 0 10 1 = zo 1000000 ∧ S.1 1 0 12 1 = zo 1000000) ∧ S.1 5 0 1 0 = zo (L : Int)
section MB2
variable {S : zS} {w : qW} {d n k L : Nat} {a : Rw} {u : Nat → Rw} {Tm : Int}
theorem IV.cg {S' : zS} (h : IV Tm L S k u a) (H : HC S' k u a) (f : KF S S') : IV Tm L S' k u a := ⟨H, h.2.1, h.2.2.1, ⟨f.2.1.1.trans h.2.2.2.1.1, f.2.1.2.trans h.2.2.2.1.2⟩, (f.1 1 0).trans h.2.2.2.2⟩
theorem IV.up {T2 : Int} (h : IV Tm L S k u a) (h1 : Tm ≤ T2) (h2 : T2 ≤ 1000000) : IV T2 L S k u a := ⟨h.1, ⟨WF_mono h.2.1.1 h1 h2, h.2.1.2⟩, fun i hi => ⟨WF_mono (h.2.2.1 i hi).1 h1 h2, (h.2.2.1 i hi).2⟩, h.2.2.2⟩
theorem IV.act {S' : zS} {W : qW} {v : Int32} (h : IV Tm L S k u a) (hT : Tm + 400 ≤ 1000000) (r : AR S S' w W k u a (actS a v)) : IV (Tm + 200) L S' (if (actS a v).2.2.1 = true then recK k else k) (if (actS a v).2.2.1 = true then recU k u a else u) (actS a v).2.2.2 ∧ KF S S' := by
  obtain ⟨H, ⟨hw, hl, h9⟩, hu, hK, hL⟩ := h
  obtain ⟨r1, r2, r3⟩ := r
  obtain ⟨g1, g2, g3, g4⟩ := act_GE (v := v) hw hl hT h9
  have f := r1.kf
  refine ⟨⟨r2, ⟨g1, g2, by omega⟩, ?_, ⟨f.2.1.1.trans hK.1, f.2.1.2.trans hK.2⟩, (f.1 1 0).trans hL⟩, f⟩
  have ha : WF (Tm + 200) a ∧ LI a ∧ 1 ≤ a 9 := ⟨WF_mono hw (by omega) (by omega), hl, h9⟩
  have hu2 : ∀ i, i < k → WF (Tm + 200) (u i) ∧ LI (u i) ∧ 1 ≤ u i 9 := fun i hi => ⟨WF_mono (hu i hi).1 (by omega) (by omega), (hu i hi).2⟩
  split
  · intro i hi
    unfold recK at hi
    unfold recU
    by_cases c : k = 10
    · rw [if_pos c] at hi
      rw [if_pos c]
      by_cases c2 : i < 9
      · rw [if_pos c2]; exact hu2 (i + 1) (by omega)
      · rw [if_neg c2]; exact ha
    · rw [if_neg c] at hi
      rw [if_neg c]
      by_cases c2 : i = k
      · rw [if_pos c2]; exact ha
      · rw [if_neg c2]; exact hu2 i (by omega)
  · exact hu2
theorem px_40 (h : IV Tm L S k u a) : ∃ S' W, IV Tm L S' k u a ∧ KF S S' ∧ zx_nth W w.length = some (.inr (.inl (0, allR a))) ∧ KW w W 1 300 ∧ ∀ (st : List zV) (nx : List zV → qS → Option qO), qx_ret 5 (q_sem zF (d + 12) 40 [za 1 0 0] (S, w)) st nx = nx (za 8 w.length 0 :: st) (S', W) := by
  obtain ⟨⟨S', W⟩, e1, e2, e3, e4, e5, e6, e7⟩ := Q40 (d := d + 7) (T := (S, w)) h.2.1.1 h.1
  have al := allR_le h.2.1.1
  have e4 : W.length = w.length + 1 := e4
  have e5 : q_sl W = q_sl w + (allR a).length := e5
  exact ⟨S', W, h.cg e3 e2.kf, e2.kf, e6, ⟨by omega, by omega, e7⟩, fun st nx => qr_r e1⟩
theorem px_41 {T : qS} {i j : Nat} {xs : List Int32} (hi : zx_nth T.2 i = some (.inr (.inl (0, xs)))) (hj : zx_nth T.2 j = some (.inr (.inl (0, xs)))) (hn : xs.length ≤ 1000) {st : List zV} {nx : List zV → qS → Option qO} : qx_ret 1 (q_sem zF (d + 12) 41 [za 8 i 0, za 8 j 0] T) st nx = nx (zi (zo 1) :: st) T := by
  have e := Q41 (d := d + 11) hi hj hn hn
  rw [if_pos rfl] at e
  exact qr_1 e
theorem px_43 (h : IV Tm L S k u a) {st : List zV} {nx : List zV → qS → Option qO} : qx_ret 1 (q_sem zF (d + 12) 43 [za 1 0 0] (S, w)) st nx = nx (zi (zo 1) :: st) (S, w) := qr_1 (Q43 (d := d + 7) h.1.1 h.2.1.1 h.2.1.2.1)
theorem px_46 {v : Int32} (h : IV Tm L S k u a) (hT : Tm + 400 ≤ 1000000) : ∃ S' W, IV (Tm + 200) L S' (if (actS a v).2.2.1 = true then recK k else k) (if (actS a v).2.2.1 = true then recU k u a else u) (actS a v).2.2.2 ∧ KF S S' ∧ KW w W 13 144 ∧ ∀ (st : List zV) (nx : List zV → qS → Option qO), qx_ret 1 (q_sem zF (d + 12) 46 [za 1 0 0, zi v] (S, w)) st nx = nx (zi (zo 1) :: st) (S', W) := by
  obtain ⟨S', W, e1, e2⟩ := Q46 (d := d + 2) (v := v) (w := w) h.1 h.2.1.1 h.2.1.2.1 hT h.2.1.2.2 h.2.2.2.1
  obtain ⟨i1, i2⟩ := h.act hT e2
  exact ⟨S', W, i1, i2, e2.2.2, fun st nx => qr_1 e1⟩
theorem pz_134 (h : IV Tm L S k u a) {st : List zV} {nx : List zV → qS → Option qO} : qz_ret 1 (zr_sem zF (d + 12) 134 [za 1 0 0] S) w st nx = nx (zi (zo (k : Int)) :: st) (S, w) := qz_1 (A134 (d := d + 11) h.1)
theorem px_35 (h : IV Tm L S k u a) (hL : L ≤ 10000) {q : Nat} (hq : q ≤ 10000) {st : List zV} {nx : List zV → qS → Option qO} : qx_ret 1 (q_sem zF (d + 12) 35 [za 5 0 0, zi (zo (q : Int))] (S, w)) st nx = nx (zi (scl S L q) :: st) (S, w) := qr_1 (Q35 (d := d + 11) (T := (S, w)) h.2.2.2.2 hL hq)
/-- the bath undone by one -/
theorem pz_135 (h : IV Tm L S (k + 1) u a) : ∃ S', IV Tm L S' k u (u k) ∧ KF S S' ∧ ∀ (st : List zV) (nx : List zV → qS → Option qO), qz_ret 1 (zr_sem zF (d + 12) 135 [za 1 0 0] S) w st nx = nx (zi (zo (k : Int)) :: st) (S', w) := by
  obtain ⟨uw, ul, u9⟩ := h.2.2.1 k (by omega)
  obtain ⟨S', e1, e2, e3⟩ := A135 (d := d + 8) (T := Tm) h.1 (by rw [Nat.add_sub_cancel]; exact uw)
  rw [if_neg (by omega)] at e1 e2
  rw [Nat.add_sub_cancel] at e2
  rw [show ((k + 1 : Nat) : Int) - 1 = (k : Int) by omega] at e1
  have f := e3.kf
  exact ⟨S', ⟨e2, ⟨uw, ul, u9⟩, fun i hi => h.2.2.1 i (by omega), ⟨f.2.1.1.trans h.2.2.2.1.1, f.2.1.2.trans h.2.2.2.1.2⟩, (f.1 1 0).trans h.2.2.2.2⟩, f, fun st nx => qz_1 e1⟩
theorem end_cnt (hw : WF Tm a) : cnt a 1 + cnt a 2 = nen a := by
  have w9 := hw.1.2.2.2.2.2.2.2
  have c := cnt_all hw
  have n := nen_cnt (a := a) (by omega)
  omega
end MB2

/-! THE PURE SIDE 67: what holds between the calls; one call -/
def IC (S : zS) (a : Rw) (k : Nat) (u : Nat → Rw) (f : Bool) (s : Rw) (fl : Int) (fb : Nat → Int) (tn : Nat) (tx : Nat → Int) (ep : Int) : Prop := HC S k u a ∧ S.1 1 0 0 12 = zo (bI f) ∧ (f = true → Cb (S.1 0 2) s) ∧ S.1 1 0 0 10 = zo fl ∧ (∀ j : Nat, (j : Int) < fl → S.1 1 0 20 j = zo (fb j)) ∧ S.1 1 0 14 1 = zo tn ∧ (∀ i, i < tn → S.1 1 0 16 i = zo (tx i)) ∧ S.1 1 0 0 11 = zo ep ∧ (S.1 1 0 10 1 = zo 1000000 ∧ S.1 1 0 12 1 = zo 1000000) ∧ S.1 1 0 5 1 = zo 0
def IM (S : zS) (a : Rw) (k : Nat) (u : Nat → Rw) (f : Bool) (s : Rw) (fl : Int) (fb : Nat → Int) (tn : Nat) (tx : Nat → Int) (ep : Int) : Prop := HM S k u a ∧ S.1 3 0 0 8 = zo 0 ∧ S.1 3 0 0 11 = zo (bI f) ∧ (f = true → ∀ j, j < 260 → S.1 2 3 0 j = zo (s j)) ∧ S.1 3 0 0 13 = zo fl ∧ (∀ j : Nat, (j : Int) < fl → S.1 3 0 5 j = zo (fb j)) ∧ S.1 3 0 0 15 = zo tn ∧ (∀ i, i < tn → S.1 3 0 6 i = zo (tx i)) ∧ S.1 3 0 0 22 = zo ep
def IP (T : Int) (a : Rw) (k : Nat) (u : Nat → Rw) (s : Rw) (fl : Int) (tn : Nat) (tx : Nat → Int) : Prop := WF T a ∧ (∀ i, WF T (u i)) ∧ WF T s ∧ (0 ≤ fl ∧ fl ≤ 10) ∧ tn ≤ 700 ∧ (∀ i, i < tn → 0 ≤ tx i ∧ tx i ≤ 255) ∧ k ≤ 10
def Iv (T : Int) (S : zS) (a : Rw) (k : Nat) (u : Nat → Rw) (f : Bool) (s : Rw) (fl : Int) (fb : Nat → Int) (tn : Nat) (tx : Nat → Int) (ep : Int) : Prop := IC S a k u f s fl fb tn tx ep ∧ IM S a k u f s fl fb tn tx ep ∧ IP T a k u s fl tn tx
/-- both do one call: the law's helper W, the model's method M -/
def Cll (d W M : Nat) (av : List zV) (S S' : zS) : Prop := ∃ S1 x w, zr_sem zF d W (za 1 0 0 :: (av ++ [za 4 0 0])) S = some (.inl (some (zi x)), S1) ∧ S1.1 5 = S.1 5 ∧ zr_sem zF d M (za 3 0 0 :: av) S1 = some (.inl (some (zi w)), S') ∧ S'.1 3 0 0 10 = x ∧ (x = zo 0 → S'.2.1 = w.toInt64) ∧ S'.1 5 = S.1 5
/-- what the helper makes of the exceptions -/
def Qm (q : Nat → Option Nat) (t t' : Nat) : Prop := ((t = 0 ∧ t' = 0) ∨ (t ≠ 0 ∧ t' ≠ 0 ∧ q t = some t')) ∧ t' ≤ 2
section DS
variable {S S' : zS} {d W C M k t t' tn k2 tn2 : Nat} {a s a2 s2 : Rw} {T fl ep v fl2 ep2 : Int} {u u2 : Nat → Rw} {f f2 : Bool} {fb tx fb2 tx2 : Nat → Int} {av : List zV} {q : Nat → Option Nat}
theorem IC_fr (h : IC S a k u f s fl fb tn tx ep) (h0 : ∀ n, n ≠ 1 → S'.1 0 n = S.1 0 n) (h1 : CbF (S.1 0 1) → CbF (S'.1 0 1)) (h2 : ∀ o j, ¬((o = 4 ∧ j ≠ 0) ∨ o = 6 ∨ o = 8 ∨ o = 11 ∨ o = 13) → S'.1 1 0 o j = S.1 1 0 o j) : IC S' a k u f s fl fb tn tx ep := by
  obtain ⟨⟨x1, ⟨y, y1, y2, y3, y4⟩, x3, x4⟩, r1, r2, r3, r4, r5, r6, r7, ⟨r8, r9⟩, r10⟩ := h
  refine ⟨⟨by rw [h0 0 (by omega)]; exact x1, ⟨y, y1, by rw [h2 _ _ (by omega)]; exact y2, by rw [h2 _ _ (by omega)]; exact y3, fun i hi => by rw [h0 _ (by omega)]; exact y4 i hi⟩, x3, fun n hn => ?_⟩, by rw [h2 _ _ (by omega)]; exact r1, fun z => by rw [h0 _ (by omega)]; exact r2 z, by rw [h2 _ _ (by omega)]; exact r3, fun j hj => by rw [h2 _ _ (by omega)]; exact r4 j hj, by rw [h2 _ _ (by omega)]; exact r5, fun i hi => by rw [h2 _ _ (by omega)]; exact r6 i hi, by rw [h2 _ _ (by omega)]; exact r7, ⟨by rw [h2 _ _ (by omega)]; exact r8, by rw [h2 _ _ (by omega)]; exact r9⟩, by rw [h2 _ _ (by omega)]; exact r10⟩
  by_cases e : n = 1
  · subst e; exact h1 (x4 1 hn)
  · rw [h0 n e]; exact x4 n hn
theorem IM_fr (h : IM S a k u f s fl fb tn tx ep) (h0 : ∀ n j, n = 0 ∨ n = 3 → S'.1 2 n 0 j = S.1 2 n 0 j) (h2 : ∀ o j, (o = 1 ∨ o = 5 ∨ o = 6 ∨ (o = 0 ∧ (j = 8 ∨ j = 9 ∨ j = 11 ∨ j = 13 ∨ j = 15 ∨ j = 22))) → S'.1 3 0 o j = S.1 3 0 o j) : IM S' a k u f s fl fb tn tx ep := by
  obtain ⟨⟨⟨x1, x2, x3⟩, ⟨y1, y2, y3⟩⟩, r1, r2, r3, r4, r5, r6, r7, r8⟩ := h
  exact ⟨⟨⟨by rw [h2 _ _ (by omega)]; exact x1, x2, fun j hj => by rw [h0 _ _ (by omega)]; exact x3 j hj⟩, ⟨by rw [h2 _ _ (by omega)]; exact y1, y2, fun i j hi hj => by rw [h2 _ _ (by omega)]; exact y3 i j hi hj⟩⟩, by rw [h2 _ _ (by omega)]; exact r1, by rw [h2 _ _ (by omega)]; exact r2, fun z j hj => by rw [h0 _ _ (by omega)]; exact r3 z j hj, by rw [h2 _ _ (by omega)]; exact r4, fun j hj => by rw [h2 _ _ (by omega)]; exact r5 j hj, by rw [h2 _ _ (by omega)]; exact r6, fun i hi => by rw [h2 _ _ (by omega)]; exact r7 i hi, by rw [h2 _ _ (by omega)]; exact r8⟩
theorem Iv_RC (h : Iv T S a k u f s fl fb tn tx ep) (hF : RC S S') : Iv T S' a k u f s fl fb tn tx ep := by
  refine ⟨IC_fr h.1 (fun n hn => by funext o j; exact hF.1 0 n o j (by omega) (by omega)) hF.2 (fun o j hj => hF.1 1 0 o j (by omega) (by omega)), IM_fr h.2.1 (fun n j hn => hF.1 2 n 0 j (by omega) (by omega)) (fun o j hj => hF.1 3 0 o j (by omega) (by omega)), h.2.2⟩
theorem Iv_RM (h : Iv T S a k u f s fl fb tn tx ep) (hF : RM S S') : Iv T S' a k u f s fl fb tn tx ep := by
  refine ⟨IC_fr h.1 (fun n hn => by funext o j; exact hF.2 0 n o j (by omega) (by omega)) (fun z => ?_) (fun o j hj => hF.2 1 0 o j (by omega) (by omega)), IM_fr h.2.1 (fun n j hn => hF.2 2 n 0 j (by omega) (by omega)) (fun o j hj => hF.2 3 0 o j (by omega) (by omega)), h.2.2⟩
  have : S'.1 0 1 = S.1 0 1 := by funext o j; exact hF.2 0 1 o j (by omega) (by omega)
  rw [this]; exact z
theorem Iv_zsl {x : Int64} (h : Iv T S a k u f s fl fb tn tx ep) : Iv T (zsl S x) a k u f s fl fb tn tx ep := h
theorem Iv_zsn (h : Iv T S a k u f s fl fb tn tx ep) : Iv T (zsn S) a k u f s fl fb tn tx ep := h
theorem zo_0 {t : Nat} (ht : t ≤ 2) (h : zo (t : Int) = zo 0) : t = 0 := by
  rw [zo_eq (by omega) (by omega) (by omega) (by omega)] at h
  omega
/-- a question -/
theorem cQ (hI : Iv T S a k u f s fl fb tn tx ep) (hW : Wr d W C av S q) (hA : CA d C (za 1 0 0 :: av) S t v) (hB : ∀ S1, Md S1 0 a → S1.1 3 0 0 8 = zo 0 → MA (d + 1) M (za 3 0 0 :: av) S1 t' v) (hq : Qm q t t') (hc : C < 297) (hm : M < 297) : ∃ S', Cll (d + 1) W M av S S' ∧ Iv T S' a k u f s fl fb tn tx ep ∧ S'.2.2.2 ≤ S.2.2.2 + 1 := by
  obtain ⟨S1, p1, p2⟩ := hA
  have g1 := zg_x hc p1
  have hI1 := Iv_RC hI p2
  have f5 : S1.1 5 = S.1 5 := by funext n o j; exact p2.1 5 n o j (by omega) (by omega)
  obtain ⟨hq, ht⟩ := hq
  rcases hq with ⟨e1, e2⟩ | ⟨e1, t0, e2⟩
  · subst e1; subst e2
    have w1 := hW.1 (zo v) S1 p1
    obtain ⟨S2, w, q1, q2, q3, q4⟩ := hB (zsl S1 (zo v).toInt64) hI1.2.1.1.1 hI1.2.1.2.1
    refine ⟨S2, ⟨_, zo 0, zo w, w1, f5, q1, q2, fun _ => ?_, ?_⟩, Iv_RM (Iv_zsl hI1) q4, Nat.le_trans (zg_l hm q1) g1⟩
    · rw [q4.1, q3 rfl]; rfl
    · exact Eq.trans (by funext n o j; exact q4.2 5 n o j (by omega) (by omega)) f5
  · have p1' : zr_sem zF d C (za 1 0 0 :: av) S = some (.inr t, S1) := by
      rw [p1]; unfold zans; rw [if_neg e1]
    have w1 := hW.2 t t' S1 e2 p1'
    obtain ⟨S2, w, q1, q2, q3, q4⟩ := hB S1 hI1.2.1.1.1 hI1.2.1.2.1
    refine ⟨S2, ⟨_, zo t', zo w, w1, f5, q1, q2, fun z => absurd (zo_0 ht z) t0, ?_⟩, Iv_RM hI1 q4, Nat.le_trans (zg_l hm q1) g1⟩
    exact Eq.trans (by funext n o j; exact q4.2 5 n o j (by omega) (by omega)) f5
theorem Qm_0 : Qm q 0 0 := ⟨Or.inl ⟨rfl, rfl⟩, by decide⟩
theorem Qm_N {c : Prop} {i : Decidable c} : Qm qN (@ite _ c i 0 1) (@ite _ c i 0 1) := by
  by_cases h : c
  · rw [if_pos h]; exact Qm_0
  · rw [if_neg h]; exact ⟨Or.inr ⟨by decide, by decide, rfl⟩, by decide⟩
theorem Qm_I {c : Prop} {i : Decidable c} : Qm qI (@ite _ c i 0 2) (@ite _ c i 0 1) := by
  by_cases h : c
  · rw [if_pos h, if_pos h]; exact Qm_0
  · rw [if_neg h, if_neg h]; exact ⟨Or.inr ⟨by decide, by decide, rfl⟩, by decide⟩
theorem Qm_B {c e : Prop} {i : Decidable c} {j : Decidable e} : Qm qB (@ite _ c i (@ite _ e j 0 2) 1) (@ite _ c i (@ite _ e j 0 2) 1) := by
  by_cases h : c
  · rw [if_pos h]
    by_cases h2 : e
    · rw [if_pos h2]; exact Qm_0
    · rw [if_neg h2]; exact ⟨Or.inr ⟨by decide, by decide, rfl⟩, by decide⟩
  · rw [if_neg h]; exact ⟨Or.inr ⟨by decide, by decide, rfl⟩, by decide⟩
theorem Qm_N1 : Qm qN 1 1 := ⟨Or.inr ⟨by decide, by decide, rfl⟩, by decide⟩
theorem Qm_I1 : Qm qI 2 1 := ⟨Or.inr ⟨by decide, by decide, rfl⟩, by decide⟩
theorem Qm_B1 : Qm qB 1 1 := ⟨Or.inr ⟨by decide, by decide, rfl⟩, by decide⟩
theorem Qm_B2 : Qm qB 2 2 := ⟨Or.inr ⟨by decide, by decide, rfl⟩, by decide⟩
theorem recK_b (h : k ≤ 10) : recK k ≤ 10 := by unfold recK; split <;> omega
theorem recU_WF (h : ∀ i, WF T (u i)) (hw : WF T a) : ∀ i, WF T (recU k u a i) := by
  intro i
  unfold recU
  split
  · split
    · exact h _
    · exact hw
  · split
    · exact hw
    · exact h _
/-- an operation -/
theorem cO {sp sp' : Sp} {T2 : Int} (hI : Iv T S a k u f s fl fb tn tx ep) (hW : Wr d W C av S q) (hA : OC d C (za 1 0 0 :: av) S k u a sp) (hB : ∀ S1, HM S1 k u a → OM (d + 1) M (za 3 0 0 :: av) S1 k u a sp') (hs : sp'.2 = sp.2) (hq : Qm q sp.1 sp'.1) (hwf : WF T2 sp.2.2.2) (hT : T ≤ T2 ∧ T2 ≤ 1000000) (hc : C < 297) (hm : M < 297) : ∃ S' a2 k2 u2, Cll (d + 1) W M av S S' ∧ Iv T2 S' a2 k2 u2 f s fl fb tn tx ep ∧ S'.2.2.2 ≤ S.2.2.2 + 1 := by
  obtain ⟨S1, p1, p2, p3, p4, p5⟩ := hA
  have g1 := zg_x hc p1
  obtain ⟨⟨i1, i2, i3, i4, i5, i6, i7, i8, ⟨i9, i10⟩, i11⟩, hM, ⟨w1, w2, w3, w4, w5, w6, w7⟩⟩ := hI
  have wm : ∀ b, WF T b → WF T2 b := fun b hb => WF_mono hb hT.1 hT.2
  obtain ⟨a2, ha⟩ : ∃ a2, a2 = sp.2.2.2 := ⟨_, rfl⟩
  obtain ⟨k2, hk⟩ : ∃ k2, k2 = (if sp.2.2.1 = true then recK k else k) := ⟨_, rfl⟩
  obtain ⟨u2, hu⟩ : ∃ u2, u2 = (if sp.2.2.1 = true then recU k u a else u) := ⟨_, rfl⟩
  rw [← ha] at p2 hwf
  rw [← hk, ← hu] at p3
  have hk2 : k2 ≤ 10 := by rw [hk]; split; exact recK_b w7; exact w7
  have hP : IP T2 a2 k2 u2 s fl tn tx := by
    refine ⟨hwf, fun i => ?_, wm _ w3, w4, w5, w6, hk2⟩
    rw [hu]
    split
    · exact recU_WF (fun i => wm _ (w2 i)) (wm _ w1) i
    · exact wm _ (w2 i)
  have hC1 : IC S1 a2 k2 u2 f s fl fb tn tx ep := by
    have b2 : S1.1 0 2 = S.1 0 2 := by funext o j; exact p5 0 2 o j (by omega) (by omega)
    exact ⟨⟨p2, p3, hk2, p4⟩, by rw [p5 _ _ _ _ (by omega) (by omega)]; exact i2, fun z => by rw [b2]; exact i3 z, by rw [p5 _ _ _ _ (by omega) (by omega)]; exact i4, fun j hj => by rw [p5 _ _ _ _ (by omega) (by omega)]; exact i5 j hj, by rw [p5 _ _ _ _ (by omega) (by omega)]; exact i6, fun i hi => by rw [p5 _ _ _ _ (by omega) (by omega)]; exact i7 i hi, by rw [p5 _ _ _ _ (by omega) (by omega)]; exact i8, ⟨by rw [p5 _ _ _ _ (by omega) (by omega)]; exact i9, by rw [p5 _ _ _ _ (by omega) (by omega)]; exact i10⟩, by rw [p5 _ _ _ _ (by omega) (by omega)]; exact i11⟩
  have hM1 : IM S1 a k u f s fl fb tn tx ep := IM_fr hM (fun n j hn => p5 2 n 0 j (by omega) (by omega)) (fun o j hj => p5 3 0 o j (by omega) (by omega))
  have f5 : S1.1 5 = S.1 5 := by funext n o j; exact p5 5 n o j (by omega) (by omega)
  have fin : ∀ S2, S2.1 = S1.1 → ∀ S3, PM S2 S3 k u a sp' → Iv T2 S3 a2 k2 u2 f s fl fb tn tx ep ∧ S3.1 5 = S.1 5 := by
    intro S2 e2 S3 hP3
    obtain ⟨m1, m2, m3, m4⟩ := hP3
    rw [e2] at m4
    rw [hs, ← ha] at m1
    rw [hs, ← hk, ← hu] at m2
    obtain ⟨j1, j2, j3, j4, j5, j6, j7, j8, j9⟩ := hM1
    refine ⟨⟨IC_fr hC1 (fun n hn => by funext o j; exact m4 0 n o j (by omega) (by omega)) (fun z => ?_) (fun o j hj => m4 1 0 o j (by omega) (by omega)), ⟨⟨m1, m2⟩, by rw [m4 _ _ _ _ (by omega) (by omega)]; exact j2, by rw [m4 _ _ _ _ (by omega) (by omega)]; exact j3, fun z j hj => by rw [m4 _ _ _ _ (by omega) (by omega)]; exact j4 z j hj, by rw [m4 _ _ _ _ (by omega) (by omega)]; exact j5, fun j hj => by rw [m4 _ _ _ _ (by omega) (by omega)]; exact j6 j hj, by rw [m4 _ _ _ _ (by omega) (by omega)]; exact j7, fun i hi => by rw [m4 _ _ _ _ (by omega) (by omega)]; exact j8 i hi, by rw [m4 _ _ _ _ (by omega) (by omega)]; exact j9⟩, hP⟩, ?_⟩
    · have : S3.1 0 1 = S1.1 0 1 := by funext o j; exact m4 0 1 o j (by omega) (by omega)
      rw [this]; exact z
    · exact Eq.trans (by funext n o j; exact m4 5 n o j (by omega) (by omega)) f5
  obtain ⟨hq, ht⟩ := hq
  rcases hq with ⟨e1, e2⟩ | ⟨e1, t0, e2⟩
  · have p1' : zr_sem zF d C (za 1 0 0 :: av) S = some (.inl (some (zi (zo sp.2.1))), S1) := by
      rw [p1]; unfold zans; rw [if_pos e1]
    have w1 := hW.1 (zo sp.2.1) S1 p1'
    obtain ⟨S3, w, q1, q2, q3, q4⟩ := hB (zsl S1 (zo sp.2.1).toInt64) hM1.1
    obtain ⟨r1, r2⟩ := fin (zsl S1 (zo sp.2.1).toInt64) rfl S3 q4
    rw [e2] at q2 q3
    refine ⟨S3, a2, k2, u2, ⟨_, zo 0, zo w, w1, f5, q1, q2, fun _ => ?_, r2⟩, r1, Nat.le_trans (zg_l hm q1) g1⟩
    rw [q4.2.2.1, q3 rfl, hs]; rfl
  · have p1' : zr_sem zF d C (za 1 0 0 :: av) S = some (.inr sp.1, S1) := by
      rw [p1]; unfold zans; rw [if_neg e1]
    have w1 := hW.2 sp.1 sp'.1 S1 e2 p1'
    obtain ⟨S3, w, q1, q2, q3, q4⟩ := hB S1 hM1.1
    obtain ⟨r1, r2⟩ := fin S1 rfl S3 q4
    exact ⟨S3, a2, k2, u2, ⟨_, zo sp'.1, zo w, w1, f5, q1, q2, fun z => absurd (zo_0 ht z) t0, r2⟩, r1, Nat.le_trans (zg_l hm q1) g1⟩
end DS

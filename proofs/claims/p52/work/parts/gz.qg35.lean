/-! THE LAW'S PURE SIDE 45: a text's head -/
def decI (x : Int) : List Int := if x < 0 then 45 :: numI (-x) else numI x
def hLd (wi : Option (Int × Int)) : List Int := match wi with
  | none => [59]
  | some z => 32 :: (txw 24 ++ 32 :: (decI z.1 ++ 32 :: (decI z.2 ++ [59])))
def hLc (pu : Option Int) (wi : Option (Int × Int)) : List Int := match pu with
  | none => hLd wi
  | some v => 32 :: (txw 16 ++ 32 :: (numI v ++ hLd wi))
def hLb (lv pu : Option Int) (wi : Option (Int × Int)) : List Int := match lv with
  | none => hLc pu wi
  | some v => 32 :: (txw 6 ++ 32 :: (numI v ++ hLc pu wi))
def hLa (w h : Int) (lv pu : Option Int) (wi : Option (Int × Int)) : List Int := txw 1 ++ 32 :: (numI w ++ 32 :: (numI h ++ hLb lv pu wi))
def hRd (wi : Option (Int × Int)) (a : Rw) : Rw := match wi with
  | none => a
  | some z => up (up a 4 z.1) 5 z.2
def hRc (pu : Option Int) (wi : Option (Int × Int)) (a : Rw) : Rw := match pu with
  | none => hRd wi a
  | some v => hRd wi (up a 3 v)
def hRb (lv pu : Option Int) (wi : Option (Int × Int)) (a : Rw) : Rw := match lv with
  | none => hRc pu wi a
  | some v => hRc pu wi (up a 2 v)
/-- what the head's numbers may be -/
def hOk (lv pu : Option Int) (wi : Option (Int × Int)) : Prop := (∀ v, lv = some v → 0 ≤ v ∧ v ≤ 1000) ∧ (∀ v, pu = some v → 0 ≤ v ∧ v ≤ 9) ∧ (∀ z, wi = some z → (-99 ≤ z.1 ∧ z.1 ≤ 99) ∧ (-99 ≤ z.2 ∧ z.2 ≤ 99))
theorem hOk.d {lv pu : Option Int} {wi : Option (Int × Int)} (ho : hOk lv pu wi) : hOk none none wi := ⟨(fun v e => nomatch e), (fun v e => nomatch e), ho.2.2⟩
theorem hOk.c {lv pu : Option Int} {wi : Option (Int × Int)} (ho : hOk lv pu wi) : hOk none pu wi := ⟨(fun v e => nomatch e), ho.2.1, ho.2.2⟩
section HD2
variable {tx : Nat → Int} {n p : Nat} {l : List Int} {c x w h : Int} {a : Rw} {lv pu : Option Int} {wi : Option (Int × Int)}
theorem rd_sg (hA : At tx n p (32 :: (decI x ++ c :: l))) (hx : -99 ≤ x ∧ x ≤ 99) (hc : c = 32 ∨ c = 59) : sgV tx n (.ok p) = x ∧ sgE tx n (.ok p) = .ok (p + 1 + (decI x).length) ∧ At tx n (p + 1 + (decI x).length) (c :: l) := by
  unfold decI at hA ⊢
  by_cases c0 : x < 0
  · rw [if_pos c0] at hA ⊢
    have hA1 : At tx n (p + 1) (45 :: (numI (-x) ++ c :: l)) := hA.tl
    have hs : tkS tx n p = p + 1 := by
      rw [tkS_b1 hA]
      exact tkS_0 (fun _ => by rw [hA1.hd.2]; omega)
    obtain ⟨t1, t2, t3⟩ := tk_sign hs hA1 (Or.inr rfl)
    obtain ⟨v1, v2, v3⟩ := rd_num0 (lo := 0) (hi := 99) hA1.tl (by omega) hc (by omega)
    have em : miE tx n (.ok p) = .ok (p + 1 + 1) := by
      show (if chB tx n 45 p = true then (.ok (tkE tx n p) : Et) else .ok p) = _
      rw [if_pos t3, t2]
    refine ⟨?_, ?_, ?_⟩
    · show (if chB tx n 45 p = true then -(nuV tx n 0 99 (miE tx n (.ok p))) else nuV tx n 0 99 (miE tx n (.ok p))) = x
      rw [if_pos t3, em, v1]
      omega
    · unfold sgE
      rw [em, v2, List.length_cons]
      congr 1
      omega
    · rw [List.length_cons, show p + 1 + ((numI (-x)).length + 1) = p + 1 + 1 + (numI (-x)).length by omega]
      exact v3
  · rw [if_neg c0] at hA ⊢
    obtain ⟨t1, t2, t3⟩ := tk_num (tkS_n1 hA (by omega)) hA.tl (by omega) hc
    obtain ⟨v1, v2, v3, v4⟩ := rd_num (lo := 0) (hi := 99) hA (by omega) hc (by omega)
    have ec : chB tx n 45 p = false := by
      unfold chB
      rw [t1]
      rfl
    have em : miE tx n (.ok p) = .ok p := by
      show (if chB tx n 45 p = true then (.ok (tkE tx n p) : Et) else .ok p) = _
      rw [ec, if_neg (by decide)]
    refine ⟨?_, ?_, v4⟩
    · show (if chB tx n 45 p = true then -(nuV tx n 0 99 (miE tx n (.ok p))) else nuV tx n 0 99 (miE tx n (.ok p))) = x
      rw [ec, if_neg (by decide), em, v2]
    · unfold sgE
      rw [em, v3]
theorem hLd_c (wi : Option (Int × Int)) : ∃ c l, hLd wi = c :: l ∧ (c = 32 ∨ c = 59) := by
  cases wi with
  | none => exact ⟨59, [], rfl, Or.inr rfl⟩
  | some z => exact ⟨32, _, rfl, Or.inl rfl⟩
theorem hLc_c (pu : Option Int) (wi : Option (Int × Int)) : ∃ c l, hLc pu wi = c :: l ∧ (c = 32 ∨ c = 59) := by
  cases pu with
  | none => exact hLd_c wi
  | some z => exact ⟨32, _, rfl, Or.inl rfl⟩
theorem hLb_c (lv pu : Option Int) (wi : Option (Int × Int)) : ∃ c l, hLb lv pu wi = c :: l ∧ (c = 32 ∨ c = 59) := by
  cases lv with
  | none => exact hLc_c pu wi
  | some z => exact ⟨32, _, rfl, Or.inl rfl⟩
theorem hdD_ok (hA : At tx n p (hLd wi)) (ho : hOk none none wi) : hdD tx n (.ok p) a = (.ok (p + (hLd wi).length), hRd wi a) ∧ (∀ t2, txl t2 ≠ 4 → kwO tx n t2 (.ok p) = false) ∧ kwO tx n 16 (.ok p) = false := by
  cases wi with
  | none =>
    have hA : At tx n p (59 :: []) := hA
    refine ⟨?_, fun t2 _ => kw_semi hA, kw_semi hA⟩
    unfold hdD
    rw [kw_semi hA, if_neg (by decide), rd_semi hA]
    rfl
  | some z =>
    have hA : At tx n p (32 :: (txw 24 ++ 32 :: (decI z.1 ++ 32 :: (decI z.2 ++ [59])))) := hA
    obtain ⟨o1, o2⟩ := ho.2.2 z rfl
    obtain ⟨k1, k2, k4, k5, k6⟩ := wd_go1 (t := 24) hA (by decide) (by decide)
    obtain ⟨x1, x2, x3⟩ := rd_sg k6 o1 (Or.inl rfl)
    obtain ⟨y1, y2, y3⟩ := rd_sg x3 o2 (Or.inr rfl)
    refine ⟨?_, fun t2 ht => kwB_len k4 (fun e => ht (by rw [← e]; rfl)), kwB_0 (m := 3) rfl (by rw [k5]; decide)⟩
    unfold hdD
    rw [k1, if_pos rfl, k2, x2, x1, y2, y1, rd_semi y3]
    show (_, _) = (_, _)
    congr 2
    unfold hLd
    simp only [List.length_append, List.length_cons, List.length_nil]
    show _ = p + (txl 24 + ((decI z.1).length + ((decI z.2).length + (0 + 1) + 1) + 1) + 1)
    omega
theorem hdC_ok (hA : At tx n p (hLc pu wi)) (ho : hOk none pu wi) : hdC tx n (.ok p) a = (.ok (p + (hLc pu wi).length), hRc pu wi a) ∧ (∀ t2, txl t2 ≠ 4 → kwO tx n t2 (.ok p) = false) := by
  cases pu with
  | none =>
    obtain ⟨d1, d2, d3⟩ := hdD_ok (a := a) (wi := wi) hA ho.d
    refine ⟨?_, d2⟩
    unfold hdC
    rw [d3, if_neg (by decide), d1]
    rfl
  | some v =>
    have hA : At tx n p (32 :: (txw 16 ++ 32 :: (numI v ++ hLd wi))) := hA
    have o1 := ho.2.1 v rfl
    obtain ⟨k1, k2, k4, k5, k6⟩ := wd_go1 (t := 16) hA (by decide) (by decide)
    obtain ⟨c, l, e1, e2⟩ := hLd_c wi
    rw [e1] at k6
    obtain ⟨v1, v2, v3, v4⟩ := rd_num (lo := 0) (hi := 9) k6 (by omega) e2 o1
    rw [← e1] at v4
    obtain ⟨d1, d2, d3⟩ := hdD_ok (a := up a 3 v) (wi := wi) v4 ho.d
    refine ⟨?_, fun t2 ht => kwB_len k4 (fun e => ht (by rw [← e]; rfl))⟩
    unfold hdC
    rw [k1, if_pos rfl, k2, v3, v2, d1]
    show (_, _) = (_, _)
    congr 2
    unfold hLc
    simp only [List.length_append, List.length_cons, List.length_nil]
    show _ = p + (txl 16 + ((numI v).length + (hLd wi).length + 1) + 1)
    omega
theorem hdB_ok (hA : At tx n p (hLb lv pu wi)) (ho : hOk lv pu wi) : hdB tx n (.ok p) a = (.ok (p + (hLb lv pu wi).length), hRb lv pu wi a) := by
  cases lv with
  | none =>
    obtain ⟨d1, d2⟩ := hdC_ok (a := a) (pu := pu) (wi := wi) hA ho.c
    unfold hdB
    rw [d2 6 (by decide), if_neg (by decide), d1]
    rfl
  | some v =>
    have hA : At tx n p (32 :: (txw 6 ++ 32 :: (numI v ++ hLc pu wi))) := hA
    have o1 := ho.1 v rfl
    obtain ⟨k1, k2, k4, k5, k6⟩ := wd_go1 (t := 6) hA (by decide) (by decide)
    obtain ⟨c, l, e1, e2⟩ := hLc_c pu wi
    rw [e1] at k6
    obtain ⟨v1, v2, v3, v4⟩ := rd_num (lo := 0) (hi := 1000) k6 (by omega) e2 o1
    rw [← e1] at v4
    obtain ⟨d1, d2⟩ := hdC_ok (a := up a 2 v) (pu := pu) (wi := wi) v4 ho.c
    unfold hdB
    rw [k1, if_pos rfl, k2, v3, v2, d1]
    show (_, _) = (_, _)
    congr 2
    unfold hLb
    simp only [List.length_append, List.length_cons, List.length_nil]
    show _ = p + (txl 6 + ((numI v).length + (hLc pu wi).length + 1) + 1)
    omega
theorem PR_head (h1 : 3 ≤ w ∧ w ≤ 10) (h2 : 3 ≤ h ∧ h ≤ 10) (ho : hOk lv pu wi) : PR 0 (hLa w h lv pu wi) (hRb lv pu wi (begR w h)) := by
  intro tx n hA
  have hA : At tx n 0 (txw 1 ++ 32 :: (numI w ++ 32 :: (numI h ++ hLb lv pu wi))) := hA
  obtain ⟨k1, k2, k3, k4, k5, k6⟩ := wd_go (t := 1) hA (by decide) (by decide)
  obtain ⟨c, l, e1, e2⟩ := hLb_c lv pu wi
  obtain ⟨x1, x2, x3, x4⟩ := rd_num (lo := 3) (hi := 10) k6 (by omega) (Or.inl rfl) h1
  rw [e1] at x4
  obtain ⟨y1, y2, y3, y4⟩ := rd_num (lo := 3) (hi := 10) x4 (by omega) e2 h2
  rw [← e1] at y4
  have d := hdB_ok (a := begR w h) y4 ho
  have ek : keE tx n 1 (.ok 0) = .ok (0 + txl 1) := by
    show (if kwB tx n 1 0 = true then (.ok (tkE tx n 0) : Et) else _) = _
    have k1 : kwB tx n 1 0 = true := k1
    rw [if_pos k1]
    exact k2
  unfold ldP
  rw [ek]
  unfold hdA
  rw [x3, x2, y3, y2, d]
  show dcl tx n 700 _ _ = dcl tx n (700 - 0) _ _
  congr 2
  unfold hLa
  simp only [List.length_append, List.length_cons, List.length_nil]
  refine congrArg (fun q : Nat => (.ok q : Et)) ?_
  show _ = txl 1 + ((numI w).length + ((numI h).length + (hLb lv pu wi).length + 1) + 1)
  omega
theorem hRb_ok (ho : hOk lv pu wi) (h1 : 3 ≤ w ∧ w ≤ 10) (h2 : 3 ≤ h ∧ h ≤ 10) : WF 0 (hRb lv pu wi (begR w h)) ∧ ∀ i, i ≠ 2 → i ≠ 3 → i ≠ 4 → i ≠ 5 → hRb lv pu wi (begR w h) i = begR w h i := by
  have w0 := WF_beg (T := 0) h1 h2 (by omega)
  have d : ∀ r : Rw, WF 0 r → WF 0 (hRd wi r) ∧ ∀ i, i ≠ 2 → i ≠ 3 → i ≠ 4 → i ≠ 5 → hRd wi r i = r i := by
    intro r hr
    cases wi with
    | none => exact ⟨hr, fun _ _ _ _ _ => rfl⟩
    | some z =>
      obtain ⟨o1, o2⟩ := ho.2.2 z rfl
      exact ⟨WF_h5 (WF_h4 hr o1) o2, fun i _ _ h4 h5 => by show up (up r 4 z.1) 5 z.2 i = r i; rw [up_ne _ _ h5, up_ne _ _ h4]⟩
  have c : ∀ r : Rw, WF 0 r → WF 0 (hRc pu wi r) ∧ ∀ i, i ≠ 2 → i ≠ 3 → i ≠ 4 → i ≠ 5 → hRc pu wi r i = r i := by
    intro r hr
    cases pu with
    | none => exact d r hr
    | some v =>
      have o1 := ho.2.1 v rfl
      obtain ⟨d1, d2⟩ := d (up r 3 v) (WF_h3 hr o1)
      exact ⟨d1, fun i h2 h3 h4 h5 => (d2 i h2 h3 h4 h5).trans (up_ne _ _ h3)⟩
  cases lv with
  | none => exact c _ w0
  | some v =>
    have o1 := ho.1 v rfl
    obtain ⟨d1, d2⟩ := c (up (begR w h) 2 v) (WF_h2 w0 o1)
    exact ⟨d1, fun i h2 h3 h4 h5 => (d2 i h2 h3 h4 h5).trans (up_ne _ _ h2)⟩
end HD2

/-! THE LAW'S PURE SIDE 44: a text, clause by clause -/
section CL2
variable {tx : Nat → Int} {n p q t t2 m j : Nat} {l W cl : List Int} {c x y g s v h r lo hi : Int} {a a2 : Rw}
theorem isO_ok (q : Nat) : isO (.ok q) = true := rfl
/-- a word is read -/
theorem wd_go (hA : At tx n p (txw t ++ 32 :: l)) (hw : ∀ i, i < txl t → 97 ≤ txc t i ∧ txc t i ≤ 122) (h0 : 0 < txl t) : kwO tx n t (.ok p) = true ∧ nxt tx n (.ok p) = .ok (p + txl t) ∧ tkT tx n p = 1 ∧ tkE tx n p - tkS tx n p = txl t ∧ tx (tkS tx n p) = txc t 0 ∧ At tx n (p + txl t) (32 :: l) := by
  have z : tx p = txc t 0 := hA.app.1.2 0 h0
  have hs : tkS tx n p = p := tkS_0 (fun _ => by have := hw 0 h0; omega)
  obtain ⟨t1, t2, t3⟩ := tk_word hs hw h0 hA
  refine ⟨t3, ?_, t1, by omega, by rw [hs]; exact z, hA.app.2⟩
  show (.ok (tkE tx n p) : Et) = _
  rw [t2]
theorem wd_go1 (hA : At tx n p (32 :: (txw t ++ 32 :: l))) (hw : ∀ i, i < txl t → 97 ≤ txc t i ∧ txc t i ≤ 122) (h0 : 0 < txl t) : kwO tx n t (.ok p) = true ∧ nxt tx n (.ok p) = .ok (p + 1 + txl t) ∧ tkE tx n p - tkS tx n p = txl t ∧ tx (tkS tx n p) = txc t 0 ∧ At tx n (p + 1 + txl t) (32 :: l) := by
  have z : tx (p + 1) = txc t 0 := hA.tl.app.1.2 0 h0
  have hs : tkS tx n p = p + 1 := by
    rw [tkS_b1 hA]
    exact tkS_0 (fun _ => by have := hw 0 h0; omega)
  obtain ⟨t1, t2, t3⟩ := tk_word hs hw h0 hA.tl
  refine ⟨t3, ?_, by omega, by rw [hs]; exact z, hA.tl.app.2⟩
  show (.ok (tkE tx n p) : Et) = _
  rw [t2]
/-- a place is read -/
theorem pl4_ok {f : Int → Bool} (hA : At tx n p (32 :: (numI x ++ 32 :: (numI y ++ c :: l)))) (hv : vC a x y) (h0 : a 0 ≤ 10) (h1 : a 1 ≤ 10) (hc : c = 32 ∨ c = 59) (hg : f (a 0 * y + x) = true) : pl4 tx n a f (.ok p) = .ok (p + 1 + (numI x).length + 1 + (numI y).length) ∧ clE tx n a (.ok p) = a 0 * y + x ∧ At tx n (p + 1 + (numI x).length + 1 + (numI y).length) (c :: l) := by
  obtain ⟨x1, x2, x3, x4⟩ := rd_num (lo := 0) (hi := a 0 - 1) hA (by omega) (Or.inl rfl) (by omega)
  obtain ⟨y1, y2, y3, y4⟩ := rd_num (lo := 0) (hi := a 1 - 1) x4 (by omega) hc (by omega)
  have eX : stX tx n a (.ok p) = .ok (p + 1 + (numI x).length) := x3
  have eC : clE tx n a (.ok p) = a 0 * y + x := by
    unfold clE rdX rdY
    rw [eX, x2, y2]
  refine ⟨?_, eC, y4⟩
  unfold pl4
  rw [eC, hg, eX, y1]
  rw [show ctE tx n true 4 (.ok (p + 1 + (numI x).length)) = .ok (p + 1 + (numI x).length) from rfl]
  have y3 : nxt tx n (nuE tx n 0 (a 1 - 1) (.ok (p + 1 + (numI x).length))) = _ := y3
  rw [y1] at y3
  exact y3
def clD (x y h r : Int) : List Int := txw 3 ++ 32 :: (numI x ++ 32 :: (numI y ++ 32 :: (numI h ++ 32 :: (numI r ++ [59]))))
def clT (x y r : Int) : List Int := txw 20 ++ 32 :: (numI x ++ 32 :: (numI y ++ 32 :: (numI r ++ [59])))
def wtL (w : Option Int) : List Int := match w with
  | none => [59]
  | some v => 32 :: (txw 23 ++ 32 :: (numI v ++ [59]))
def wtV (w : Option Int) : Int := match w with
  | none => 0
  | some v => v
def clB (x y g s : Int) (w : Option Int) : List Int := txw 2 ++ 32 :: (numI x ++ 32 :: (numI y ++ 32 :: (numI g ++ 32 :: (numI s ++ wtL w))))
def clS (x y v : Int) : List Int := txw 17 ++ 32 :: (numI x ++ 32 :: (numI y ++ 32 :: (numI v ++ [59])))
/-- the clause cl at p is read -/
def RD (tx : Nat → Int) (n p : Nat) (cl : List Int) (a a2 : Rw) : Prop := goO tx n (.ok p) = true ∧ dec1 tx n (.ok p) a = (.ok (p + cl.length), a2)
theorem RD_D (hA : At tx n p (clD x y h r)) (hv : vC a x y) (h0 : a 0 ≤ 10) (h1 : a 1 ≤ 10) (h7 : a 7 < 5) (hf : frB a (a 0 * y + x) = true) (hh : 1 ≤ h ∧ h ≤ 99) (hr : 0 ≤ r ∧ r ≤ 99) : RD tx n p (clD x y h r) a (ndR a (a 0 * y + x) h r) := by
  obtain ⟨k1, k2, k3, k4, k5, k6⟩ := wd_go (t := 3) hA (by decide) (by decide)
  obtain ⟨p1, p2, p3⟩ := pl4_ok k6 hv h0 h1 (Or.inl rfl) hf
  obtain ⟨h1', h2, h3, h4⟩ := rd_num (lo := 1) (hi := 99) p3 (by omega) (Or.inl rfl) hh
  obtain ⟨r1, r2, r3, r4⟩ := rd_num (lo := 0) (hi := 99) h4 (by omega) (Or.inr rfl) hr
  have e := rd_semi r4
  refine ⟨decide_eq_true (by rw [k3]; decide), ?_⟩
  have ep : pl1 tx n (decide (a 7 < 5)) (.ok p) = .ok (p + txl 3) := by
    unfold pl1
    rw [decide_eq_true h7]
    exact k2
  unfold dec1
  rw [if_pos k1]
  unfold sDr
  rw [ep, p1, p2, h3, h2, r3, r2, e, if_pos (isO_ok _)]
  congr 2
  unfold clD
  simp only [List.length_append, List.length_cons, List.length_nil]
  show _ = p + (txl 3 + _)
  omega
theorem RD_T (hA : At tx n p (clT x y r)) (hv : vC a x y) (h0 : a 0 ≤ 10) (h1 : a 1 ≤ 10) (h8 : a 8 < 5) (hf : frB a (a 0 * y + x) = true) (hr : 0 ≤ r ∧ r ≤ 99) : RD tx n p (clT x y r) a (ntR a (a 0 * y + x) r) := by
  obtain ⟨k1, k2, k3, k4, k5, k6⟩ := wd_go (t := 20) hA (by decide) (by decide)
  obtain ⟨p1, p2, p3⟩ := pl4_ok k6 hv h0 h1 (Or.inl rfl) hf
  obtain ⟨r1, r2, r3, r4⟩ := rd_num (lo := 0) (hi := 99) p3 (by omega) (Or.inr rfl) hr
  have e := rd_semi r4
  refine ⟨decide_eq_true (by rw [k3]; decide), ?_⟩
  have ep : pl1 tx n (decide (a 8 < 5)) (.ok p) = .ok (p + txl 20) := by
    unfold pl1
    rw [decide_eq_true h8]
    exact k2
  have k30 : kwO tx n 3 (.ok p) = false := kwB_len k4 (by decide)
  unfold dec1
  rw [k30, if_neg (by decide), if_pos k1]
  unfold sTp
  rw [ep, p1, p2, r3, r2, e, if_pos (isO_ok _)]
  congr 2
  unfold clT
  simp only [List.length_append, List.length_cons, List.length_nil]
  show _ = p + (txl 20 + _)
  omega
theorem RD_S (hA : At tx n p (clS x y v)) (hv : vC a x y) (h0 : a 0 ≤ 10) (h1 : a 1 ≤ 10) (hr : 1 ≤ v ∧ v ≤ 99) : RD tx n p (clS x y v) a (up a (160 + (a 0 * y + x).toNat) v) := by
  obtain ⟨k1, k2, k3, k4, k5, k6⟩ := wd_go (t := 17) hA (by decide) (by decide)
  obtain ⟨x1, x2, x3, x4⟩ := rd_num (lo := 0) (hi := a 0 - 1) k6 (by omega) (Or.inl rfl) (by omega)
  obtain ⟨y1, y2, y3, y4⟩ := rd_num (lo := 0) (hi := a 1 - 1) x4 (by omega) (Or.inl rfl) (by omega)
  obtain ⟨r1, r2, r3, r4⟩ := rd_num (lo := 1) (hi := 99) y4 (by omega) (Or.inr rfl) hr
  have e := rd_semi r4
  refine ⟨decide_eq_true (by rw [k3]; decide), ?_⟩
  have eX : stX tx n a (.ok (p + txl 17)) = .ok (p + txl 17 + 1 + (numI x).length) := x3
  have eC : clE tx n a (.ok (p + txl 17)) = a 0 * y + x := by
    unfold clE rdX rdY
    rw [eX, x2, y2]
  have k30 : kwO tx n 3 (.ok p) = false := kwB_len k4 (by decide)
  have k20 : kwO tx n 20 (.ok p) = false := kwB_len k4 (by decide)
  have k2f : kwO tx n 2 (.ok p) = false := kwB_0 (m := 3) rfl (by rw [k5]; decide)
  unfold dec1
  rw [k30, if_neg (by decide), k20, if_neg (by decide), k2f, if_neg (by decide), if_pos k1]
  unfold sSo s3E
  rw [k2, eC, eX, y3, r3, r2, e, if_pos (isO_ok _)]
  congr 2
  unfold clS
  simp only [List.length_append, List.length_cons, List.length_nil]
  show _ = p + (txl 17 + _)
  omega
theorem RD_B {w : Option Int} (hA : At tx n p (clB x y g s w)) (hv : vC a x y) (h0 : a 0 ≤ 10) (h1 : a 1 ≤ 10) (h9 : a 9 < 12) (hf : occ a (a 0 * y + x) (-1) = -1) (hg : 1 ≤ g ∧ g ≤ 99) (hs : 1 ≤ s ∧ s ≤ 999) (hw : 0 ≤ wtV w ∧ wtV w ≤ s) : RD tx n p (clB x y g s w) a (nbR a (a 0 * y + x) g s (wtV w)) := by
  obtain ⟨k1, k2, k3, k4, k5, k6⟩ := wd_go (t := 2) hA (by decide) (by decide)
  obtain ⟨p1, p2, p3⟩ := pl4_ok (f := ocB a) k6 hv h0 h1 (Or.inl rfl) (decide_eq_true hf)
  obtain ⟨g1, g2, g3, g4⟩ := rd_num (lo := 1) (hi := 99) p3 (by omega) (Or.inl rfl) hg
  have ep : pl1 tx n (decide (a 9 < 12)) (.ok p) = .ok (p + txl 2) := by
    unfold pl1
    rw [decide_eq_true h9]
    exact k2
  have k30 : kwO tx n 3 (.ok p) = false := kwB_len k4 (by decide)
  have k20 : kwO tx n 20 (.ok p) = false := kwB_len k4 (by decide)
  have e4 : b4E tx n (.ok p) a = .ok (p + txl 2 + 1 + (numI x).length + 1 + (numI y).length) := by
    unfold b4E
    rw [ep, p1]
  refine ⟨decide_eq_true (by rw [k3]; decide), ?_⟩
  unfold dec1
  rw [k30, if_neg (by decide), k20, if_neg (by decide), if_pos k1]
  cases w with
  | none =>
    obtain ⟨s1, s2, s3, s4⟩ := rd_num (lo := 1) (hi := 999) (l := []) g4 (by omega) (Or.inr rfl) hs
    have e := rd_semi s4
    have kf := kw_semi (t2 := 23) s4
    have e6 : b6E tx n (.ok p) a = .ok (p + txl 2 + 1 + (numI x).length + 1 + (numI y).length + 1 + (numI g).length + 1 + (numI s).length) := by
      unfold b6E
      rw [e4, g3, s3]
    have e6V : b6V tx n (.ok p) a = s := by
      unfold b6V
      rw [e4, g3, s2]
    have e8 : b8E tx n (.ok p) a = .ok (p + txl 2 + 1 + (numI x).length + 1 + (numI y).length + 1 + (numI g).length + 1 + (numI s).length) := by
      unfold b8E
      rw [e6, kf, if_neg (by decide)]
    have e8V : b8V tx n (.ok p) a = 0 := by
      unfold b8V
      rw [e6, kf, if_neg (by decide)]
    unfold sBt
    rw [e8, e8V, e6V, e4, g2, ep, p2, e, if_pos (isO_ok _)]
    show (_, _) = (_, _)
    congr 2
    unfold clB wtL
    simp only [List.length_append, List.length_cons, List.length_nil]
    show _ = p + (txl 2 + _)
    omega
  | some v =>
    obtain ⟨s1, s2, s3, s4⟩ := rd_num (lo := 1) (hi := 999) (l := txw 23 ++ 32 :: (numI v ++ [59])) g4 (by omega) (Or.inl rfl) hs
    obtain ⟨w1, w2, w3, w4, w5⟩ := wd_go1 (t := 23) s4 (by decide) (by decide)
    have hw : 0 ≤ v ∧ v ≤ s := hw
    obtain ⟨v1, v2, v3, v4⟩ := rd_num (lo := 0) (hi := s) w5 (by omega) (Or.inr rfl) hw
    have e := rd_semi v4
    have e6 : b6E tx n (.ok p) a = .ok (p + txl 2 + 1 + (numI x).length + 1 + (numI y).length + 1 + (numI g).length + 1 + (numI s).length) := by
      unfold b6E
      rw [e4, g3, s3]
    have e6V : b6V tx n (.ok p) a = s := by
      unfold b6V
      rw [e4, g3, s2]
    have e8 : b8E tx n (.ok p) a = .ok (p + txl 2 + 1 + (numI x).length + 1 + (numI y).length + 1 + (numI g).length + 1 + (numI s).length + 1 + txl 23 + 1 + (numI v).length) := by
      unfold b8E
      rw [e6, w1, if_pos rfl, e6V, w2, v3]
    have e8V : b8V tx n (.ok p) a = v := by
      unfold b8V
      rw [e6, w1, if_pos rfl, e6V, w2, v2]
    unfold sBt
    rw [e8, e8V, e6V, e4, g2, ep, p2, e, if_pos (isO_ok _)]
    show (_, _) = (_, _)
    congr 2
    unfold clB wtL
    simp only [List.length_append, List.length_cons, List.length_nil]
    show _ = p + (txl 2 + ((numI x).length + ((numI y).length + ((numI g).length + ((numI s).length + (txl 23 + ((numI v).length + (0 + 1) + 1) + 1) + 1) + 1) + 1) + 1))
    omega
/-- W is read as a, in j clauses -/
def PR (j : Nat) (W : List Int) (a : Rw) : Prop := ∀ (tx : Nat → Int) (n : Nat), At tx n 0 W → ldP tx n = dcl tx n (700 - j) (.ok W.length) a
theorem PR.step (h : PR j W a) (hj : j < 700) (hc : ∀ (tx : Nat → Int) (n : Nat), At tx n W.length cl → RD tx n W.length cl a a2) : PR (j + 1) (W ++ cl) a2 := by
  intro tx n hA
  obtain ⟨h1, h2⟩ := hA.app
  rw [Nat.zero_add] at h2
  obtain ⟨r1, r2⟩ := hc tx n h2
  rw [h tx n h1, show 700 - j = (700 - (j + 1)) + 1 by omega]
  show (if goO tx n (.ok W.length) = true then dcl tx n (700 - (j + 1)) (dec1 tx n (.ok W.length) a).1 (dec1 tx n (.ok W.length) a).2 else (.ok W.length, a)) = _
  rw [if_pos r1, r2, List.length_append]
theorem PR.fin (h : PR j W a) (hA : At tx W.length 0 W) : ldP tx W.length = (.ok W.length, a) := by
  have e : goO tx W.length (.ok W.length) = false := by
    refine decide_eq_false (fun z => z ?_)
    unfold tkT tyA
    rw [show tkS tx W.length W.length = W.length from rn_e (fun z => absurd z (Nat.lt_irrefl _)), if_neg (Nat.lt_irrefl _)]
  rw [h tx W.length hA]
  generalize 700 - j = m
  cases m with
  | zero => rfl
  | succ m =>
    show (if goO tx W.length (.ok W.length) = true then _ else _) = _
    rw [if_neg (by rw [e]; decide)]
end CL2

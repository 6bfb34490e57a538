/-! THE LAW'S PURE SIDE 43: a text, token by token -/
/-- at p stands l -/
def At (tx : Nat → Int) (n p : Nat) (l : List Int) : Prop := p + l.length ≤ n ∧ ∀ i, i < l.length → tx (p + i) = l.getD i 0
/-- the digits of a number -/
def numI (x : Int) : List Int := if x < 10 then [48 + x] else if x < 100 then [48 + x / 10, 48 + x % 10] else if x < 1000 then [48 + x / 100, 48 + x % 100 / 10, 48 + x % 100 % 10] else [48 + x / 100 / 10, 48 + x / 100 % 10, 48 + x % 100 / 10, 48 + x % 100 % 10]
section TO
variable {tx : Nat → Int} {n p s e t : Nat} {f : Nat → Bool} {l l1 l2 : List Int} {c x lo hi : Int}
theorem At.app (h : At tx n p (l1 ++ l2)) : At tx n p l1 ∧ At tx n (p + l1.length) l2 := by
  obtain ⟨h1, h2⟩ := h
  rw [List.length_append] at h1 h2
  refine ⟨⟨by omega, fun i hi => ?_⟩, by omega, fun i hi => ?_⟩
  · rw [h2 i (by omega), List.getD_eq_getElem?_getD, List.getElem?_append_left hi, ← List.getD_eq_getElem?_getD]
  · rw [Nat.add_assoc, h2 (l1.length + i) (by omega), List.getD_eq_getElem?_getD, List.getElem?_append_right (by omega), Nat.add_sub_cancel_left, ← List.getD_eq_getElem?_getD]
theorem At.hd (h : At tx n p (c :: l)) : p < n ∧ tx p = c := ⟨by have := h.1; rw [List.length_cons] at this; omega, h.2 0 (by rw [List.length_cons]; omega)⟩
theorem At.tl (h : At tx n p (c :: l)) : At tx n (p + 1) l := (At.app (l1 := [c]) (l2 := l) h).2
theorem rn_run : ∀ (k s : Nat), s + k ≤ n → (∀ i, s ≤ i → i < s + k → f i = true) → (s + k < n → f (s + k) = false) → rn f n s = s + k
  | 0, s, _, _, h3 => rn_e h3
  | k + 1, s, h1, h2, h3 => by
    rw [rn_s (by omega) (h2 s (Nat.le_refl _) (by omega)), rn_run k (s + 1) (by omega) (fun i a b => h2 i (by omega) (by omega)) (by rw [show s + 1 + k = s + (k + 1) by omega]; exact h3)]
    omega
theorem tkS_b1 (h : At tx n p (32 :: l)) : tkS tx n p = tkS tx n (p + 1) := by
  obtain ⟨h1, h2⟩ := h.hd
  refine rn_s h1 ?_
  unfold isB
  rw [h2]
  rfl
theorem tkS_0 (h : p < n → tx p ≠ 32 ∧ tx p ≠ 10) : tkS tx n p = p := by
  refine rn_e (fun hp => ?_)
  unfold isB
  rw [decide_eq_false (h hp).1, decide_eq_false (h hp).2]
  rfl
/-- a word -/
theorem tk_word (hs : tkS tx n p = s) (hw : ∀ i, i < txl t → 97 ≤ txc t i ∧ txc t i ≤ 122) (h0 : 0 < txl t) (h : At tx n s (txw t ++ 32 :: l)) : tkT tx n p = 1 ∧ tkE tx n p = s + txl t ∧ kwB tx n t p = true := by
  obtain ⟨h1, h2⟩ := h.app
  have h3 := h2.hd
  have lw : (txw t).length = txl t := rfl
  rw [lw] at h3
  have g : ∀ i, i < txl t → tx (s + i) = txc t i := fun i hi => h1.2 i hi
  have sn : s < n := by omega
  have il : isL tx s = true := decide_eq_true (by have := g 0 h0; rw [Nat.add_zero] at this; rw [this]; exact hw 0 h0)
  have T1 : tkT tx n p = 1 := by
    unfold tkT tyA
    rw [hs, if_pos sn, if_pos il]
  have E1 : tkE tx n p = s + txl t := by
    unfold tkE enA
    rw [hs, if_pos sn, if_pos il]
    refine rn_run (txl t) s (by omega) (fun i a b => ?_) (fun _ => ?_)
    · have := g (i - s) (by omega)
      rw [show s + (i - s) = i by omega] at this
      exact decide_eq_true (by rw [this]; exact hw _ (by omega))
    · exact decide_eq_false (by rw [h3.2]; omega)
  refine ⟨T1, E1, ?_⟩
  have eq : ∀ m q, q + m = txl t → eqT tx s t m q = true := by
    intro m
    induction m with
    | zero => intro q _; rfl
    | succ m ih =>
      intro q hq
      show (decide (zo (tx (s + q)) = zo (txc t q)) && eqT tx s t m (q + 1)) = true
      rw [g q (by omega), ih (q + 1) (by omega), decide_eq_true rfl]
      rfl
  unfold kwB
  rw [T1, E1, hs, eq (txl t) 0 (by omega), show s + txl t - s = txl t by omega, decide_eq_true rfl, decide_eq_true rfl]
  rfl
theorem kwB_len {t2 : Nat} (hE : tkE tx n p - tkS tx n p = e) (h : e ≠ txl t2) : kwB tx n t2 p = false := by
  unfold kwB
  rw [hE, decide_eq_false h, Bool.false_and, Bool.and_false]
theorem kwB_T {t2 : Nat} (hT : tkT tx n p ≠ 1) : kwB tx n t2 p = false := by
  unfold kwB
  rw [decide_eq_false hT, Bool.false_and]
theorem kwB_0 {t2 m : Nat} (hm : txl t2 = m + 1) (h : zo (tx (tkS tx n p)) ≠ zo (txc t2 0)) : kwB tx n t2 p = false := by
  unfold kwB
  rw [hm]
  show (_ && (_ && (decide (zo (tx (tkS tx n p)) = zo (txc t2 0)) && _))) = false
  rw [decide_eq_false h, Bool.false_and, Bool.and_false, Bool.and_false]
/-- a sign -/
theorem tk_sign (hs : tkS tx n p = s) (h : At tx n s (c :: l)) (hc : c = 59 ∨ c = 45) : tkT tx n p = 3 ∧ tkE tx n p = s + 1 ∧ chB tx n c p = true := by
  obtain ⟨h1, h2⟩ := h.hd
  have il : isL tx s = false := decide_eq_false (by rw [h2]; omega)
  have id : isD tx s = false := decide_eq_false (by rw [h2]; omega)
  have T1 : tkT tx n p = 3 := by
    unfold tkT tyA
    rw [hs, if_pos h1, il, id]
    rfl
  refine ⟨T1, ?_, ?_⟩
  · unfold tkE enA
    rw [hs, if_pos h1, il, id]
    rfl
  · unfold chB
    rw [T1, hs, h2, decide_eq_true rfl, decide_eq_true rfl]
    rfl
theorem numI_d (hx : 0 ≤ x ∧ x < 10000) : 0 < (numI x).length ∧ (numI x).length ≤ 4 ∧ ∀ i, i < (numI x).length → 48 ≤ (numI x).getD i 0 ∧ (numI x).getD i 0 ≤ 57 := by
  unfold numI
  split
  · refine ⟨Nat.succ_pos _, by simp, fun i hi => ?_⟩
    have : i = 0 := by simp only [List.length_cons, List.length_nil] at hi; omega
    subst this
    show 48 ≤ 48 + x ∧ 48 + x ≤ 57
    omega
  · split
    · refine ⟨Nat.succ_pos _, by simp, fun i hi => ?_⟩
      have : i = 0 ∨ i = 1 := by simp only [List.length_cons, List.length_nil] at hi; omega
      rcases this with e | e <;> subst e
      · show 48 ≤ 48 + x / 10 ∧ 48 + x / 10 ≤ 57
        omega
      · show 48 ≤ 48 + x % 10 ∧ 48 + x % 10 ≤ 57
        omega
    · split
      · refine ⟨Nat.succ_pos _, by simp, fun i hi => ?_⟩
        have : i = 0 ∨ i = 1 ∨ i = 2 := by simp only [List.length_cons, List.length_nil] at hi; omega
        rcases this with e | e | e <;> subst e
        · show 48 ≤ 48 + x / 100 ∧ 48 + x / 100 ≤ 57
          omega
        · show 48 ≤ 48 + x % 100 / 10 ∧ 48 + x % 100 / 10 ≤ 57
          omega
        · show 48 ≤ 48 + x % 100 % 10 ∧ 48 + x % 100 % 10 ≤ 57
          omega
      · refine ⟨Nat.succ_pos _, by simp, fun i hi => ?_⟩
        have : i = 0 ∨ i = 1 ∨ i = 2 ∨ i = 3 := by simp only [List.length_cons, List.length_nil] at hi; omega
        rcases this with e | e | e | e <;> subst e
        · show 48 ≤ 48 + x / 100 / 10 ∧ 48 + x / 100 / 10 ≤ 57
          omega
        · show 48 ≤ 48 + x / 100 % 10 ∧ 48 + x / 100 % 10 ≤ 57
          omega
        · show 48 ≤ 48 + x % 100 / 10 ∧ 48 + x % 100 / 10 ≤ 57
          omega
        · show 48 ≤ 48 + x % 100 % 10 ∧ 48 + x % 100 % 10 ≤ 57
          omega
theorem numI_v (hx : 0 ≤ x ∧ x < 10000) (h : ∀ i, i < (numI x).length → tx (s + i) = (numI x).getD i 0) : nvF tx s (numI x).length = x := by
  unfold numI at h ⊢
  split
  · rename_i c1
    rw [if_pos c1] at h
    have h0 : tx s = 48 + x := h 0 (by simp)
    show 10 * 0 + tx s - 48 = x
    omega
  · rename_i c1
    rw [if_neg c1] at h
    split
    · rename_i c2
      rw [if_pos c2] at h
      have h0 : tx s = 48 + x / 10 := h 0 (by simp)
      have h1 : tx (s + 1) = 48 + x % 10 := h 1 (by simp)
      show 10 * (10 * 0 + tx s - 48) + tx (s + 1) - 48 = x
      omega
    · rename_i c2
      rw [if_neg c2] at h
      split
      · rename_i c3
        rw [if_pos c3] at h
        have h0 : tx s = 48 + x / 100 := h 0 (by simp)
        have h1 : tx (s + 1) = 48 + x % 100 / 10 := h 1 (by simp)
        have h2 : tx (s + 2) = 48 + x % 100 % 10 := h 2 (by simp)
        show 10 * (10 * (10 * 0 + tx s - 48) + tx (s + 1) - 48) + tx (s + 2) - 48 = x
        omega
      · rename_i c3
        rw [if_neg c3] at h
        have h0 : tx s = 48 + x / 100 / 10 := h 0 (by simp)
        have h1 : tx (s + 1) = 48 + x / 100 % 10 := h 1 (by simp)
        have h2 : tx (s + 2) = 48 + x % 100 / 10 := h 2 (by simp)
        have h3 : tx (s + 3) = 48 + x % 100 % 10 := h 3 (by simp)
        show 10 * (10 * (10 * (10 * 0 + tx s - 48) + tx (s + 1) - 48) + tx (s + 2) - 48) + tx (s + 3) - 48 = x
        omega
/-- a number -/
theorem tk_num (hs : tkS tx n p = s) (h : At tx n s (numI x ++ c :: l)) (hx : 0 ≤ x ∧ x < 10000) (hc : c = 32 ∨ c = 59) : tkT tx n p = 2 ∧ tkE tx n p = s + (numI x).length ∧ tkV tx n p = x := by
  obtain ⟨h1, h2⟩ := h.app
  have h3 := h2.hd
  obtain ⟨d1, d2, d3⟩ := numI_d hx
  have g := h1.2
  have sn : s < n := by omega
  have z0 : 48 ≤ tx s ∧ tx s ≤ 57 := by
    have := g 0 d1
    rw [Nat.add_zero] at this
    rw [this]
    exact d3 0 d1
  have il : isL tx s = false := decide_eq_false (by omega)
  have id : isD tx s = true := decide_eq_true z0
  have T1 : tkT tx n p = 2 := by
    unfold tkT tyA
    rw [hs, if_pos sn, il, id]
    rfl
  have E1 : tkE tx n p = s + (numI x).length := by
    unfold tkE enA
    rw [hs, if_pos sn, il, id]
    refine rn_run (numI x).length s (by omega) (fun i a b => ?_) (fun _ => ?_)
    · have := g (i - s) (by omega)
      rw [show s + (i - s) = i by omega] at this
      exact decide_eq_true (by rw [this]; exact d3 _ (by omega))
    · exact decide_eq_false (by rw [h3.2]; omega)
  refine ⟨T1, E1, ?_⟩
  unfold tkV
  rw [hs, E1, show s + (numI x).length - s = (numI x).length by omega]
  exact numI_v hx g
/-- where a number begins -/
theorem tkS_n (h : At tx n p (numI x ++ c :: l)) (hx : 0 ≤ x ∧ x < 10000) : tkS tx n p = p := by
  obtain ⟨d1, d2, d3⟩ := numI_d hx
  refine tkS_0 (fun _ => ?_)
  have := h.app.1.2 0 d1
  rw [Nat.add_zero] at this
  have := d3 0 d1
  omega
theorem tkS_n1 (h : At tx n p (32 :: (numI x ++ c :: l))) (hx : 0 ≤ x ∧ x < 10000) : tkS tx n p = p + 1 := by
  rw [tkS_b1 h]
  exact tkS_n h.tl hx
/-- a number is read -/
theorem rd_num (h : At tx n p (32 :: (numI x ++ c :: l))) (hx : 0 ≤ x ∧ x < 10000) (hc : c = 32 ∨ c = 59) (hl : lo ≤ x ∧ x ≤ hi) : nuE tx n lo hi (.ok p) = .ok p ∧ nuV tx n lo hi (.ok p) = x ∧ nmE tx n lo hi (.ok p) = .ok (p + 1 + (numI x).length) ∧ At tx n (p + 1 + (numI x).length) (c :: l) := by
  obtain ⟨t1, t2, t3⟩ := tk_num (tkS_n1 h hx) h.tl hx hc
  have e1 : nuE tx n lo hi (.ok p) = .ok p := by
    show (if tkT tx n p = 2 then (if lo ≤ tkV tx n p ∧ tkV tx n p ≤ hi then (.ok p : Et) else .error (2, (tkS tx n p : Nat))) else .error (1, (tkS tx n p : Nat))) = _
    rw [if_pos t1, if_pos (by rw [t3]; exact hl)]
  refine ⟨e1, ?_, ?_, h.tl.app.2⟩
  · show (if tkT tx n p = 2 ∧ lo ≤ tkV tx n p ∧ tkV tx n p ≤ hi then tkV tx n p else lo) = x
    rw [if_pos ⟨t1, by rw [t3]; exact hl⟩, t3]
  · show nxt tx n (nuE tx n lo hi (.ok p)) = _
    rw [e1]
    show (.ok (tkE tx n p) : Et) = _
    rw [t2]
theorem rd_num0 (h : At tx n p (numI x ++ c :: l)) (hx : 0 ≤ x ∧ x < 10000) (hc : c = 32 ∨ c = 59) (hl : lo ≤ x ∧ x ≤ hi) : nuV tx n lo hi (.ok p) = x ∧ nmE tx n lo hi (.ok p) = .ok (p + (numI x).length) ∧ At tx n (p + (numI x).length) (c :: l) := by
  obtain ⟨t1, t2, t3⟩ := tk_num (tkS_n h hx) h hx hc
  refine ⟨?_, ?_, h.app.2⟩
  · show (if tkT tx n p = 2 ∧ lo ≤ tkV tx n p ∧ tkV tx n p ≤ hi then tkV tx n p else lo) = x
    rw [if_pos ⟨t1, by rw [t3]; exact hl⟩, t3]
  · show nxt tx n (if tkT tx n p = 2 then (if lo ≤ tkV tx n p ∧ tkV tx n p ≤ hi then (.ok p : Et) else .error (2, (tkS tx n p : Nat))) else .error (1, (tkS tx n p : Nat))) = _
    rw [if_pos t1, if_pos (by rw [t3]; exact hl)]
    show (.ok (tkE tx n p) : Et) = _
    rw [t2]
/-- the end of a clause -/
theorem rd_semi (h : At tx n p (59 :: l)) : ceE tx n 59 (.ok p) = .ok (p + 1) := by
  have hs : tkS tx n p = p := tkS_0 (fun _ => by rw [h.hd.2]; omega)
  obtain ⟨t1, t2, t3⟩ := tk_sign hs h (Or.inl rfl)
  show (if chB tx n 59 p = true then (.ok (tkE tx n p) : Et) else .error (1, (tkS tx n p : Nat))) = _
  rw [if_pos t3, t2]
theorem kw_semi {t2 : Nat} (h : At tx n p (59 :: l)) : kwO tx n t2 (.ok p) = false := by
  have hs : tkS tx n p = p := tkS_0 (fun _ => by rw [h.hd.2]; omega)
  obtain ⟨t1, t2, t3⟩ := tk_sign hs h (Or.inl rfl)
  exact kwB_T (by rw [t1]; decide)
end TO

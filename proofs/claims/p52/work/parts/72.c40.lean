/-! THE PURE SIDE 40: tokens: class -/
/-- a sign is expected -/
def ceE (tx : Nat → Int) (n : Nat) (c : Int) : Et → Et
  | .ok p => if chB tx n c p = true then .ok (tkE tx n p) else .error (1, (tkS tx n p : Nat))
  | .error e => .error e
/-- a word is expected -/
def keE (tx : Nat → Int) (n t : Nat) : Et → Et
  | .ok p => if kwB tx n t p = true then .ok (tkE tx n p) else .error (1, (tkS tx n p : Nat))
  | .error e => .error e
section DD
variable {S : zS} {d n p t l s : Nat} {tx : Nat → Int} {f : Nat → Bool} {x y z lo hi c v : Int} {st : Et}
theorem rnF_all : ∀ m p i : Nat, p ≤ i → i < rnF f m p → f i = true := by
  intro m
  induction m with
  | zero => intro p i h1 h2; exact absurd h2 (by show ¬ i < p; omega)
  | succ m ih =>
    intro p i h1 h2
    have e : rnF f (m + 1) p = if f p = true then rnF f m (p + 1) else p := rfl
    rw [e] at h2
    by_cases c : f p = true
    · rw [if_pos c] at h2
      by_cases z : i = p
      · rw [z]; exact c
      · exact ih (p + 1) i (by omega) h2
    · rw [if_neg c] at h2; omega
theorem nv_ge : ∀ k : Nat, (∀ i, i < k → isD tx (s + i) = true) → 0 ≤ nvF tx s k := by
  intro k
  induction k with
  | zero => intro _; exact Int.le_refl _
  | succ k ih =>
    intro h
    have i := ih (fun i hi => h i (by omega))
    have c := of_decide_eq_true (h k (by omega))
    rw [nvF_s]; omega
theorem tkV_ge (h : tkT tx n p = 2) : 0 ≤ tkV tx n p := by
  unfold tkT tyA at h
  unfold tkV tkE enA
  generalize tkS tx n p = s at *
  by_cases c : s < n
  · rw [if_pos c] at h ⊢
    by_cases c1 : isL tx s = true
    · rw [if_pos c1] at h; omega
    · rw [if_neg c1] at h ⊢
      by_cases c2 : isD tx s = true
      · rw [if_pos c2]
        exact nv_ge _ (fun i hi => rnF_all (n - s) s (s + i) (by omega) (by unfold rn at hi; omega))
      · rw [if_neg c2] at h; omega
  · rw [if_neg c] at h; omega
theorem c72_5 (hn : n ≤ 700) : ∀ (m l f : Nat) (S : zS), l + m = n → m + 1000 < f → TxC S tx n → ∃ S', zy zF (d + 1) 72 f 5 [some (za 1 0 14), some (zi (zo l))] S = some (.inl none, S') ∧ S'.1 1 0 14 3 = zo (rn (isB tx) n l : Nat) ∧ S'.1 1 0 14 4 = zo (enA tx n (rn (isB tx) n l) : Nat) ∧ S'.1 1 0 14 5 = zo (tyA tx n (rn (isB tx) n l)) ∧ (tyA tx n (rn (isB tx) n l) = 2 → S'.1 1 0 14 6 = zo (clp (nvF tx (rn (isB tx) n l) (enA tx n (rn (isB tx) n l) - rn (isB tx) n l)))) ∧ (tyA tx n (rn (isB tx) n l) = 3 → S'.1 1 0 14 6 = zo (tx (rn (isB tx) n l))) ∧ Fa S S' := by
  intro m
  induction m with
  | zero =>
    intro l f S hl hf h
    obtain ⟨f, rfl⟩ : ∃ f', f = f' + 1 := ⟨f - 1, by omega⟩
    have er : rn (isB tx) n l = l := rn_e (by omega)
    have et : tyA tx n l = 0 := if_neg (by omega)
    have ee : enA tx n l = l := if_neg (by omega)
    rw [er, et, ee]
    refine ⟨zs_set (zs_set (zs_set S 1 0 14 3 (zo l)) 1 0 14 5 (zo 0)) 1 0 14 4 (zo l), ?_, by rw [zs_oth (by omega), zs_oth (by omega), zs_self], zs_self, by rw [zs_oth (by omega), zs_self], fun z => by omega, fun z => by omega, Fa_set (Fa_set (Fa_set (Fa_refl S) 3 _ (by omega)) 5 _ (by omega)) 4 _ (by omega)⟩
    rw [ze_72_5, zs_oth (by omega), h.1.1, if_pos (show zo (n : Int) ≤ zo (l : Int) by rw [zo_le (by omega) (by omega) (by omega) (by omega)]; omega), if_neg (show ¬ zo (l : Int) < zo (n : Int) by rw [zo_lt (by omega) (by omega) (by omega) (by omega)]; omega)]
  | succ m ih =>
    intro l f S hl hf h
    obtain ⟨f, rfl⟩ : ∃ f', f = f' + 1 := ⟨f - 1, by omega⟩
    have bt := (h.2 l (by omega)).2
    rw [ze_72_5, h.1.1, if_neg (show ¬ zo (n : Int) ≤ zo (l : Int) by rw [zo_le (by omega) (by omega) (by omega) (by omega)]; omega), c63b h (by omega), zr1]
    by_cases c32 : tx l = 32
    · obtain ⟨S2, q1, q2⟩ := ih (l + 1) f S (by omega) (by omega) h
      have eb : isB tx l = true := by unfold isB; rw [decide_eq_true c32]; rfl
      refine ⟨S2, ?_, by rw [rn_s (by omega) eb]; exact q2⟩
      rw [if_pos (show zo (tx l) = zo 32 by rw [c32]), zo_add]
      exact q1
    rw [if_neg (show ¬ zo (tx l) = zo 32 by rw [zo_eq (by omega) (by omega) (by omega) (by omega)]; exact c32), c63b h (by omega), zr1]
    by_cases c10 : tx l = 10
    · obtain ⟨S2, q1, q2⟩ := ih (l + 1) f S (by omega) (by omega) h
      have eb : isB tx l = true := by unfold isB; rw [decide_eq_true c10, Bool.or_true]
      refine ⟨S2, ?_, by rw [rn_s (by omega) eb]; exact q2⟩
      rw [if_pos (show zo (tx l) = zo 10 by rw [c10]), zo_add]
      exact q1
    have eb : isB tx l = false := by unfold isB; rw [decide_eq_false c32, decide_eq_false c10]; rfl
    have F3 : Fa S (zs_set S 1 0 14 3 (zo l)) := Fa_set (Fa_refl S) 3 _ (by omega)
    have h3 : TxC (zs_set S 1 0 14 3 (zo l)) tx n := TxC_k h (Fa_Fk F3)
    rw [rn_e (fun _ => eb), if_neg (show ¬ zo (tx l) = zo 10 by rw [zo_eq (by omega) (by omega) (by omega) (by omega)]; exact c10), h3.1.1, if_pos (show zo (l : Int) < zo (n : Int) by rw [zo_lt (by omega) (by omega) (by omega) (by omega)]; omega), c63b h3 (by omega), zr1, c73 (by omega) (by omega) (by omega) (by omega) (by omega) (by omega), zr1]
    by_cases cL : isL tx l = true
    · have et : tyA tx n l = 1 := by unfold tyA; rw [if_pos (by omega), if_pos cL]
      have ee : enA tx n l = rn (isL tx) n l := by unfold enA; rw [if_pos (by omega), if_pos cL]
      have F5 : Fa S (zs_set (zs_set S 1 0 14 3 (zo l)) 1 0 14 5 (zo 1)) := Fa_set F3 5 _ (by omega)
      obtain ⟨S2, q1, q2, q3, q4⟩ := c72_l (d := d) hn (m + 1) l f _ (by omega) (by omega) (TxC_k h (Fa_Fk F5))
      rw [et, ee]
      refine ⟨S2, ?_, by rw [q4 _ _ _ _ (by omega), zs_oth (by omega), zs_self], q2, by rw [q4 _ _ _ _ (by omega), zs_self], fun z => by omega, fun z => by omega, q3.trans F5.1, fun k m o j b => by rw [q4 k m o j (by omega)]; exact F5.2 k m o j b⟩
      unfold isL at cL
      rw [cL, if_neg (by decide)]
      exact q1
    · have cL2 := Bool.eq_false_iff.2 cL
      unfold isL at cL2
      rw [cL2, if_pos (show zo (bI false) = zo 0 from rfl), c63b h3 (by omega), zr1, c73 (by omega) (by omega) (by omega) (by omega) (by omega) (by omega), zr1]
      by_cases cD : isD tx l = true
      · have et : tyA tx n l = 2 := by unfold tyA; rw [if_pos (by omega), if_neg cL, if_pos cD]
        have ee : enA tx n l = rn (isD tx) n l := by unfold enA; rw [if_pos (by omega), if_neg cL, if_pos cD]
        have F5 : Fa S (zs_set (zs_set (zs_set S 1 0 14 3 (zo l)) 1 0 14 5 (zo 2)) 1 0 14 6 (zo 0)) := Fa_set (Fa_set F3 5 _ (by omega)) 6 _ (by omega)
        obtain ⟨S2, q1, q2, q3, q4, q5⟩ := c72_d (d := d) (s := l) hn (m + 1) l f _ (by omega) (by omega) (TxC_k h (Fa_Fk F5)) (Nat.le_refl _) (by rw [Nat.sub_self]; exact Int.le_refl _) (by rw [Nat.sub_self, zs_self]; rfl)
        rw [et, ee]
        refine ⟨S2, ?_, by rw [q5 _ _ _ _ (by omega), zs_oth (by omega), zs_oth (by omega), zs_self], q2, by rw [q5 _ _ _ _ (by omega), zs_oth (by omega), zs_self], fun z => q3, fun z => by omega, q4.trans F5.1, fun k m o j b => by rw [q5 k m o j (by omega)]; exact F5.2 k m o j b⟩
        unfold isD at cD
        rw [cD, if_neg (by decide)]
        exact q1
      · have et : tyA tx n l = 3 := by unfold tyA; rw [if_pos (by omega), if_neg cL, if_neg cD]
        have ee : enA tx n l = l + 1 := by unfold enA; rw [if_pos (by omega), if_neg cL, if_neg cD]
        have cD2 := Bool.eq_false_iff.2 cD
        unfold isD at cD2
        have F5 : Fa S (zs_set (zs_set S 1 0 14 3 (zo l)) 1 0 14 5 (zo 3)) := Fa_set F3 5 _ (by omega)
        rw [et, ee]
        refine ⟨zs_set (zs_set (zs_set (zs_set S 1 0 14 3 (zo l)) 1 0 14 5 (zo 3)) 1 0 14 6 (zo (tx l))) 1 0 14 4 (zo ((l : Int) + 1)), ?_, by rw [zs_oth (by omega), zs_oth (by omega), zs_oth (by omega), zs_self], zs_self, by rw [zs_oth (by omega), zs_oth (by omega), zs_self], fun z => by omega, fun z => by rw [zs_oth (by omega), zs_self], Fa_set (Fa_set F5 6 _ (by omega)) 4 _ (by omega)⟩
        rw [cD2, if_pos (show zo (bI false) = zo 0 from rfl), c63b (TxC_k h (Fa_Fk F5)) (by omega), zr1, zo_add]
theorem c72 (h : TxC S tx n) (hp : p ≤ n) (h4 : S.1 1 0 14 4 = zo p) : ∃ S', zr_sem zF (d + 2) 72 [za 1 0 14] S = some (.inl none, S') ∧ TkC S' tx n p ∧ Fa S S' := by
  have hb := zF1_big
  have hn := h.1.2
  obtain ⟨S2, q1, q2, q3, q4, q5, q6, q7⟩ := c72_5 (d := d) h.1.2 (n - p) p zF1 S (by omega) (by omega) h
  refine ⟨S2, ?_, ⟨hp, q2, q3, q4, q5, q6⟩, q7⟩
  rw [ze_72, h4]
  exact q1
theorem k72 (h : RkC S tx n st) : ∃ S', zr_sem zF (d + 2) 72 [za 1 0 14] S = some (.inl none, S') ∧ RkC S' tx n (nxt tx n st) ∧ Fk S S' := by
  obtain ⟨hT, p, hP, hE⟩ := h
  have b := tkE_b (tx := tx) hP.1
  obtain ⟨S2, q1, q2, q3⟩ := c72 (d := d) hT b.2.1 hP.2.2.1
  refine ⟨S2, q1, ⟨TxC_k hT (Fa_Fk q3), tkE tx n p, q2, ?_⟩, Fa_Fk q3⟩
  cases st with
  | ok r =>
    obtain ⟨e1, e2, e3⟩ := hE
    subst e1
    exact ⟨rfl, by rw [q3.2 _ _ _ _ (by omega)]; exact e2, by rw [q3.2 _ _ _ _ (by omega)]; exact e3⟩
  | error e => exact ⟨by rw [q3.2 _ _ _ _ (by omega)]; exact hE.1, hE.2.1, by rw [q3.2 _ _ _ _ (by omega)]; exact hE.2.2⟩
theorem k75 (h : RkC S tx n st) (hc : 1 ≤ c ∧ c ≤ 9) : ∃ S', zr_sem zF (d + 1) 75 [za 1 0 14, zi (zo c)] S = some (.inl none, S') ∧ RkC S' tx n (ert tx n c st) ∧ Fk S S' := by
  obtain ⟨hT, p, hP, hE⟩ := h
  cases st with
  | ok r =>
    obtain ⟨e1, e2, e3⟩ := hE
    subst e1
    have F : Fk S (zs_set (zs_set S 1 0 14 7 (zo c)) 1 0 14 8 (zo (tkS tx n r : Nat))) := Fk_set (Fk_set (Fk_refl S) 7 _ (by omega)) 8 _ (by omega)
    refine ⟨_, ?_, ⟨TxC_k hT F, r, ⟨hP.1, ?_, ?_, ?_, fun z => ?_, fun z => ?_⟩, ?_, hc, zs_self⟩, F⟩
    · rw [ze_75, e2, if_pos rfl, zs_oth (by omega), hP.2.1]
    · rw [zs_oth (by omega), zs_oth (by omega)]; exact hP.2.1
    · rw [zs_oth (by omega), zs_oth (by omega)]; exact hP.2.2.1
    · rw [zs_oth (by omega), zs_oth (by omega)]; exact hP.2.2.2.1
    · rw [zs_oth (by omega), zs_oth (by omega)]; exact hP.2.2.2.2.1 z
    · rw [zs_oth (by omega), zs_oth (by omega)]; exact hP.2.2.2.2.2 z
    · rw [zs_oth (by omega), zs_self]
  | error e =>
    refine ⟨S, ?_, ⟨hT, p, hP, hE⟩, Fk_refl S⟩
    have he := hE.2.1
    rw [ze_75, hE.1, if_neg (show ¬ zo e.1 = zo 0 by rw [zo_eq (by omega) (by omega) (by omega) (by omega)]; omega)]
theorem k76_28 (h : TxC S tx n) (ht : isW t) (h3 : S.1 1 0 14 3 = zo s) (hl : s + txl t ≤ n) (hx : ∀ i, i < txl t → 0 ≤ txc t i ∧ txc t i ≤ 255) : ∀ (m l f : Nat), l + m = txl t → m < f → zy zF (d + 5) 76 f 28 [some (za 1 0 14), some (za 6 t 0), some (zi (zo l))] S = some (.inl (some (zi (zo (bI (eqT tx s t m l))))), S) := by
  have hn := h.1.2
  intro m
  induction m with
  | zero =>
    intro l f hl hf
    obtain ⟨f, rfl⟩ : ∃ f', f = f' + 1 := ⟨f - 1, by omega⟩
    rw [ze_76_28, z292 ht, zr1, if_pos (show zo (txl t : Int) ≤ zo (l : Int) by rw [zo_le (by omega) (by omega) (by omega) (by omega)]; omega)]
    rfl
  | succ m ih =>
    intro l f hl hf
    obtain ⟨f, rfl⟩ : ∃ f', f = f' + 1 := ⟨f - 1, by omega⟩
    have i := ih (l + 1) f (by omega) (by omega)
    rw [ze_76_28, z292 ht, zr1, if_neg (show ¬ zo (txl t : Int) ≤ zo (l : Int) by rw [zo_le (by omega) (by omega) (by omega) (by omega)]; omega), h3, zo_add, show (s : Int) + (l : Int) = ((s + l : Nat) : Int) from rfl, c63b h (by omega), zr1, z293 ht (by omega), zr1]
    have es : eqT tx s t (m + 1) l = (decide (zo (tx (s + l)) = zo (txc t l)) && eqT tx s t m (l + 1)) := rfl
    rw [es]
    by_cases c : zo (tx (s + l)) = zo (txc t l)
    · rw [if_pos c, decide_eq_true c, Bool.true_and, zo_add]; exact i
    · rw [if_neg c, decide_eq_false c]; rfl
theorem txc_b (h : isW t) {i : Nat} (hi : i < txl t) : 0 ≤ txc t i ∧ txc t i ≤ 255 := by
  rcases isW_c h with e | e | e | e | e | e | e | e | e | e | e | e | e | e | e | e | e | e | e | e | e <;> subst e <;> revert i <;> decide
theorem txl_b (h : isW t) : txl t ≤ 8 := by
  rcases isW_c h with e | e | e | e | e | e | e | e | e | e | e | e | e | e | e | e | e | e | e | e | e <;> subst e <;> decide
theorem k76 (hT : TxC S tx n) (hP : TkC S tx n p) (ht : isW t) : zr_sem zF (d + 6) 76 [za 1 0 14, za 6 t 0] S = some (.inl (some (zi (zo (bI (kwB tx n t p))))), S) := by
  have hb := zF1_big
  have hn := hT.1.2
  have b := tkE_b (tx := tx) hP.1
  have bt := tkT_b (tx := tx) (n := n) (p := p)
  have bl := txl_b ht
  rw [ze_76, hP.2.2.2.1]
  unfold kwB
  by_cases c : tkT tx n p = 1
  · rw [c, if_pos rfl, z292 ht, zr1, hP.2.2.1, hP.2.1, zo_sub]
    rw [decide_eq_true (show (1 : Int) = 1 from rfl), Bool.true_and]
    by_cases c2 : tkE tx n p - tkS tx n p = txl t
    · rw [if_pos (show zo ((tkE tx n p : Int) - (tkS tx n p : Int)) = zo (txl t : Int) by rw [zo_eq (by omega) (by omega) (by omega) (by omega)]; omega), decide_eq_true c2, Bool.true_and]
      exact k76_28 hT ht hP.2.1 (by omega) (fun i hi => txc_b ht hi) (txl t) 0 zF1 (by omega) (by omega)
    · rw [if_neg (show ¬ zo ((tkE tx n p : Int) - (tkS tx n p : Int)) = zo (txl t : Int) by rw [zo_eq (by omega) (by omega) (by omega) (by omega)]; omega), decide_eq_false c2]
      rfl
  · rw [if_neg (show ¬ zo (tkT tx n p) = zo 1 by rw [zo_eq (by omega) (by omega) (by omega) (by omega)]; exact c), decide_eq_false c]
    rfl
theorem k77 (hT : TxC S tx n) (hP : TkC S tx n p) (hc : 0 ≤ c ∧ c ≤ 255) : zr_sem zF (d + 1) 77 [za 1 0 14, zi (zo c)] S = some (.inl (some (zi (zo (bI (chB tx n c p))))), S) := by
  have bt := tkT_b (tx := tx) (n := n) (p := p)
  have bs := tkS_b (tx := tx) hP.1
  rw [ze_77, hP.2.2.2.1]
  unfold chB
  by_cases z : tkT tx n p = 3
  · have b : 0 ≤ tx (tkS tx n p) ∧ tx (tkS tx n p) ≤ 255 := by
      refine (hT.2 _ ?_).2
      unfold tkT tyA at z
      by_cases y : tkS tx n p < n
      · exact y
      · rw [if_neg y] at z; omega
    rw [if_pos (show zo (tkT tx n p) = zo 3 by rw [z]), hP.2.2.2.2.2 z, decide_eq_true z, Bool.true_and]
    by_cases y : tx (tkS tx n p) = c
    · rw [if_pos (show zo (tx (tkS tx n p)) = zo c by rw [y]), decide_eq_true y]; rfl
    · rw [if_neg (show ¬ zo (tx (tkS tx n p)) = zo c by rw [zo_eq (by omega) (by omega) (by omega) (by omega)]; exact y), decide_eq_false y]; rfl
  · rw [if_neg (show ¬ zo (tkT tx n p) = zo 3 by rw [zo_eq (by omega) (by omega) (by omega) (by omega)]; exact z), decide_eq_false z]
    rfl
theorem q76 (h : RkC S tx n st) (ht : isW t) : ∃ b, zr_sem zF (d + 6) 76 [za 1 0 14, za 6 t 0] S = some (.inl (some (zi (zo (bI b)))), S) ∧ (isO st = true → b = kwO tx n t st) := by
  obtain ⟨hT, p, hP, hE⟩ := h
  refine ⟨kwB tx n t p, k76 hT hP ht, fun z => ?_⟩
  cases st with
  | ok r => obtain ⟨e1, e2⟩ := hE; subst e1; rfl
  | error e => exact (Bool.false_ne_true z).elim
theorem q77 (h : RkC S tx n st) (hc : 0 ≤ c ∧ c ≤ 255) : ∃ b, zr_sem zF (d + 1) 77 [za 1 0 14, zi (zo c)] S = some (.inl (some (zi (zo (bI b)))), S) ∧ (isO st = true → b = chO tx n c st) := by
  obtain ⟨hT, p, hP, hE⟩ := h
  refine ⟨chB tx n c p, k77 hT hP hc, fun z => ?_⟩
  cases st with
  | ok r => obtain ⟨e1, e2⟩ := hE; subst e1; rfl
  | error e => exact (Bool.false_ne_true z).elim
theorem k78 (h : RkC S tx n st) (ht : isW t) : ∃ b S', zr_sem zF (d + 7) 78 [za 1 0 14, za 6 t 0] S = some (.inl (some (zi (zo (bI b)))), S') ∧ RkC S' tx n (if b = true then nxt tx n st else st) ∧ (isO st = true → b = kwO tx n t st) ∧ Fk S S' := by
  obtain ⟨b, e1, e2⟩ := q76 (d := d) h ht
  cases b with
  | false =>
    refine ⟨false, S, ?_, h, e2, Fk_refl S⟩
    rw [ze_78, e1, zr1, if_pos (show zo (bI false) = zo 0 from rfl), if_pos (by rfl)]
  | true =>
    obtain ⟨S2, q1, q2, q3⟩ := k72 (d := d + 4) h
    refine ⟨true, S2, ?_, q2, e2, q3⟩
    rw [ze_78, e1, zr1, if_neg (by decide), q1, zr0, if_pos (by rfl)]
theorem k79 (h : RkC S tx n st) (hc : 0 ≤ c ∧ c ≤ 255) : ∃ b S', zr_sem zF (d + 3) 79 [za 1 0 14, zi (zo c)] S = some (.inl (some (zi (zo (bI b)))), S') ∧ RkC S' tx n (if b = true then nxt tx n st else st) ∧ (isO st = true → b = chO tx n c st) ∧ Fk S S' := by
  obtain ⟨b, e1, e2⟩ := q77 (d := d + 1) h hc
  cases b with
  | false =>
    refine ⟨false, S, ?_, h, e2, Fk_refl S⟩
    rw [ze_79, e1, zr1, if_pos (show zo (bI false) = zo 0 from rfl), if_pos (by rfl)]
  | true =>
    obtain ⟨S2, q1, q2, q3⟩ := k72 (d := d) h
    refine ⟨true, S2, ?_, q2, e2, q3⟩
    rw [ze_79, e1, zr1, if_neg (by decide), q1, zr0, if_pos (by rfl)]
theorem k80 (h : RkC S tx n st) (hc : 0 ≤ c ∧ c ≤ 255) : ∃ S', zr_sem zF (d + 3) 80 [za 1 0 14, zi (zo c)] S = some (.inl none, S') ∧ RkC S' tx n (ceE tx n c st) ∧ Fk S S' := by
  obtain ⟨b, e1, e2⟩ := q77 (d := d + 1) h hc
  cases b with
  | false =>
    obtain ⟨S1, p1, p2, p3⟩ := k75 (d := d + 1) (c := 1) h (by omega)
    obtain ⟨S2, q1, q2, q3⟩ := k72 (d := d) p2
    refine ⟨S2, ?_, ?_, Fk_trans p3 q3⟩
    · rw [ze_80, e1, zr1, if_pos (show zo (bI false) = zo 0 from rfl), p1, zr0, q1, zr0]
    · cases st with
      | ok r =>
        have e : chB tx n c r = false := (e2 rfl).symm
        show RkC S2 tx n (if chB tx n c r = true then _ else _)
        rw [if_neg (by rw [e]; decide)]; exact q2
      | error e => exact q2
  | true =>
    obtain ⟨S2, q1, q2, q3⟩ := k72 (d := d) h
    refine ⟨S2, ?_, ?_, q3⟩
    · rw [ze_80, e1, zr1, if_neg (by decide), q1, zr0]
    · cases st with
      | ok r =>
        have e : chB tx n c r = true := (e2 rfl).symm
        show RkC S2 tx n (if chB tx n c r = true then _ else _)
        rw [if_pos e]; exact q2
      | error e => exact q2
theorem k81 (h : RkC S tx n st) (h1 : 0 ≤ lo) (h2 : lo ≤ hi) (h3 : hi < 1000000) : ∃ v S', zr_sem zF (d + 2) 81 [za 1 0 14, zi (zo lo), zi (zo hi)] S = some (.inl (some (zi (zo v))), S') ∧ RkC S' tx n (nuE tx n lo hi st) ∧ (lo ≤ v ∧ v ≤ hi) ∧ (isO st = true → v = nuV tx n lo hi st) ∧ Fk S S' := by
  have hO := h
  obtain ⟨hT, p, hP, hE⟩ := h
  have bt := tkT_b (tx := tx) (n := n) (p := p)
  by_cases c : tkT tx n p = 2
  · have v0 := tkV_ge c
    have vb := clp_b v0
    have vi := clp_in (lo := lo) (hi := hi) v0 h3
    have h6 := hP.2.2.2.2.1 c
    by_cases r : lo ≤ tkV tx n p ∧ tkV tx n p ≤ hi
    · have ec : clp (tkV tx n p) = tkV tx n p := clp_e (by omega)
      rw [ec] at h6 vi
      refine ⟨tkV tx n p, S, ?_, ?_, r, fun z => ?_, Fk_refl S⟩
      · rw [ze_81, hP.2.2.2.1, c, if_pos rfl, h6, c73 (by omega) (by omega) (by omega) (by omega) (by omega) (by omega), zr1, decide_eq_true r, if_neg (by decide), h6]
      · cases st with
        | ok q =>
          have e := hE.1; subst e
          show RkC S tx n (if tkT tx n q = 2 then _ else _)
          rw [if_pos c, if_pos r]; exact hO
        | error e => exact hO
      · cases st with
        | ok q =>
          have e := hE.1; subst e
          exact (if_pos ⟨c, r⟩ : (if tkT tx n q = 2 ∧ lo ≤ tkV tx n q ∧ tkV tx n q ≤ hi then tkV tx n q else lo) = tkV tx n q).symm
        | error e => exact (Bool.false_ne_true z).elim
    · obtain ⟨S2, q1, q2, q3⟩ := k75 (d := d) (c := 2) hO (by omega)
      refine ⟨lo, S2, ?_, ?_, ⟨Int.le_refl _, h2⟩, fun z => ?_, q3⟩
      · rw [ze_81, hP.2.2.2.1, c, if_pos rfl, h6, c73 (by omega) (by omega) (by omega) (by omega) (by omega) (by omega), zr1, decide_eq_false (fun y => r (vi.1 y)), if_pos (show zo (bI false) = zo 0 from rfl), q1, zr0]
      · cases st with
        | ok q =>
          have e := hE.1; subst e
          show RkC S2 tx n (if tkT tx n q = 2 then _ else _)
          rw [if_pos c, if_neg r]; exact q2
        | error e => exact q2
      · cases st with
        | ok q =>
          have e := hE.1; subst e
          exact (if_neg (fun y => r y.2) : (if tkT tx n q = 2 ∧ lo ≤ tkV tx n q ∧ tkV tx n q ≤ hi then tkV tx n q else lo) = lo).symm
        | error e => exact (Bool.false_ne_true z).elim
  · obtain ⟨S2, q1, q2, q3⟩ := k75 (d := d) (c := 1) hO (by omega)
    refine ⟨lo, S2, ?_, ?_, ⟨Int.le_refl _, h2⟩, fun z => ?_, q3⟩
    · rw [ze_81, hP.2.2.2.1, if_neg (show ¬ zo (tkT tx n p) = zo 2 by rw [zo_eq (by omega) (by omega) (by omega) (by omega)]; exact c), q1, zr0]
    · cases st with
      | ok q =>
        have e := hE.1; subst e
        show RkC S2 tx n (if tkT tx n q = 2 then _ else _)
        rw [if_neg c]; exact q2
      | error e => exact q2
    · cases st with
      | ok q =>
        have e := hE.1; subst e
        exact (if_neg (fun y => c y.1) : (if tkT tx n q = 2 ∧ lo ≤ tkV tx n q ∧ tkV tx n q ≤ hi then tkV tx n q else lo) = lo).symm
      | error e => exact (Bool.false_ne_true z).elim
theorem k82 (h : RkC S tx n st) (h1 : 0 ≤ lo) (h2 : lo ≤ hi) (h3 : hi < 1000000) : ∃ v S', zr_sem zF (d + 3) 82 [za 1 0 14, zi (zo lo), zi (zo hi)] S = some (.inl (some (zi (zo v))), S') ∧ RkC S' tx n (nxt tx n (nuE tx n lo hi st)) ∧ (lo ≤ v ∧ v ≤ hi) ∧ (isO st = true → v = nuV tx n lo hi st) ∧ Fk S S' := by
  obtain ⟨v, S1, p1, p2, p3, p4, p5⟩ := k81 (d := d) h h1 h2 h3
  obtain ⟨S2, q1, q2, q3⟩ := k72 (d := d) p2
  refine ⟨v, S2, ?_, q2, p3, p4, Fk_trans p5 q3⟩
  rw [ze_82, p1, zr1, q1, zr0]
end DD

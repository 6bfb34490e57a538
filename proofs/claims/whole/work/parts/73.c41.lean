/-! THE PURE SIDE 41: tokens: model -/
def Fl (S S' : zS) : Prop := S'.2 = S.2 ∧ ∀ k m o j, ¬(k = 3 ∧ m = 0 ∧ o = 0 ∧ 17 ≤ j ∧ j ≤ 21) → S'.1 k m o j = S.1 k m o j
theorem Fl_refl (S : zS) : Fl S S := ⟨rfl, fun _ _ _ _ _ => rfl⟩
theorem Fl_trans {S S1 S2 : zS} (h1 : Fl S S1) (h2 : Fl S1 S2) : Fl S S2 := ⟨h2.1.trans h1.1, fun k m o j a => (h2.2 k m o j a).trans (h1.2 k m o j a)⟩
theorem Fl_set {S S' : zS} (h : Fl S S') (j : Nat) (v : Int32) (hj : 17 ≤ j ∧ j ≤ 21) : Fl S (zs_set S' 3 0 0 j v) := ⟨h.1, fun k m o i b => by rw [zs_oth (by omega)]; exact h.2 k m o i b⟩
theorem Fl_Md {S S' : zS} {q : Nat} {a : Rw} (h : Fl S S') (hM : Md S q a) : Md S' q a := ⟨by rw [h.2 _ _ _ _ (by omega)]; exact hM.1, hM.2.1, fun j hj => by rw [h.2 _ _ _ _ (by omega)]; exact hM.2.2 j hj⟩
def TxM (S : zS) (tx : Nat → Int) (n : Nat) : Prop := (S.1 3 0 0 16 = zo n ∧ n ≤ 700) ∧ (∀ i, i < n → S.1 3 0 6 i = zo (tx i) ∧ 0 ≤ tx i ∧ tx i ≤ 255)
def TkM (S : zS) (tx : Nat → Int) (n p : Nat) : Prop := p ≤ n ∧ S.1 3 0 0 18 = zo (tkS tx n p : Nat) ∧ S.1 3 0 0 17 = zo (tkE tx n p : Nat) ∧ S.1 3 0 0 19 = zo (tkT tx n p)
def erM (S : zS) : Et → Nat → Prop
  | .ok q, p => q = p ∧ S.1 3 0 0 20 = zo 0
  | .error e, _ => S.1 3 0 0 20 = zo e.1 ∧ (1 ≤ e.1 ∧ e.1 ≤ 9) ∧ S.1 3 0 0 21 = zo e.2
def RkM (S : zS) (tx : Nat → Int) (n : Nat) (st : Et) : Prop := TxM S tx n ∧ ∃ p, TkM S tx n p ∧ erM S st p
def mvF (tx : Nat → Int) (s : Nat) : Nat → Int
  | 0 => 0
  | k + 1 => if mvF tx s k ≤ 9999999 then 10 * mvF tx s k + tx (s + k) - 48 else mvF tx s k
section DE
variable {S : zS} {d n p t l s : Nat} {tx : Nat → Int} {x y z lo hi c v : Int} {st : Et}
theorem TxM_k {S' : zS} (h : TxM S tx n) (hF : Fl S S') : TxM S' tx n := ⟨⟨by rw [hF.2 _ _ _ _ (by omega)]; exact h.1.1, h.1.2⟩, fun i hi => by rw [hF.2 _ _ _ _ (by omega)]; exact h.2 i hi⟩
theorem m256 (h : TxM S tx n) {i : Nat} (hi : i ≤ n) : zr_sem zF (d + 1) 256 [za 3 0 0, zi (zo i)] S = some (.inl (some (zi (zo (if i < n then tx i else -1)))), S) := by
  have hn := h.1.2
  rw [ze_256, h.1.1]
  by_cases c : i < n
  · rw [if_neg (show ¬ zo (n : Int) ≤ zo (i : Int) by rw [zo_le (by omega) (by omega) (by omega) (by omega)]; omega), zin_ok (by omega) (by omega) (by omega), zo_nn (by omega) (by omega), Int.toNat_natCast, (h.2 i c).1, if_pos c]
  · rw [if_pos (show zo (n : Int) ≤ zo (i : Int) by rw [zo_le (by omega) (by omega) (by omega) (by omega)]; omega), if_neg c]
theorem m257 (h : TxM S tx n) {i : Nat} (hi : i ≤ n) : zr_sem zF (d + 2) 257 [za 3 0 0, zi (zo i)] S = some (.inl (some (zi (zo (bI (decide (i < n) && isL tx i))))), S) := by
  rw [ze_257, m256 h hi, zr1]
  unfold isL
  by_cases c : i < n
  · have b := (h.2 i c).2
    rw [if_pos c, decide_eq_true c, Bool.true_and]
    by_cases c1 : tx i < 97
    · rw [if_pos (show zo (tx i) < zo 97 by rw [zo_lt (by omega) (by omega) (by omega) (by omega)]; exact c1), decide_eq_false (by omega)]; rfl
    · rw [if_neg (show ¬ zo (tx i) < zo 97 by rw [zo_lt (by omega) (by omega) (by omega) (by omega)]; exact c1), m256 h hi, zr1, if_pos c]
      by_cases c2 : 122 < tx i
      · rw [if_pos (show zo 122 < zo (tx i) by rw [zo_lt (by omega) (by omega) (by omega) (by omega)]; exact c2), decide_eq_false (by omega)]; rfl
      · rw [if_neg (show ¬ zo 122 < zo (tx i) by rw [zo_lt (by omega) (by omega) (by omega) (by omega)]; exact c2), decide_eq_true (by omega)]; rfl
  · rw [if_neg c, decide_eq_false c, if_pos (by decide)]; rfl
theorem m258 (h : TxM S tx n) {i : Nat} (hi : i ≤ n) : zr_sem zF (d + 2) 258 [za 3 0 0, zi (zo i)] S = some (.inl (some (zi (zo (bI (decide (i < n) && isD tx i))))), S) := by
  rw [ze_258, m256 h hi, zr1]
  unfold isD
  by_cases c : i < n
  · have b := (h.2 i c).2
    rw [if_pos c, decide_eq_true c, Bool.true_and]
    by_cases c1 : tx i < 48
    · rw [if_pos (show zo (tx i) < zo 48 by rw [zo_lt (by omega) (by omega) (by omega) (by omega)]; exact c1), decide_eq_false (by omega)]; rfl
    · rw [if_neg (show ¬ zo (tx i) < zo 48 by rw [zo_lt (by omega) (by omega) (by omega) (by omega)]; exact c1), m256 h hi, zr1, if_pos c]
      by_cases c2 : 57 < tx i
      · rw [if_pos (show zo 57 < zo (tx i) by rw [zo_lt (by omega) (by omega) (by omega) (by omega)]; exact c2), decide_eq_false (by omega)]; rfl
      · rw [if_neg (show ¬ zo 57 < zo (tx i) by rw [zo_lt (by omega) (by omega) (by omega) (by omega)]; exact c2), decide_eq_true (by omega)]; rfl
  · rw [if_neg c, decide_eq_false c, if_pos (by decide)]; rfl
theorem m259_77 (hn : n ≤ 700) : ∀ (m l f : Nat) (S : zS), l + m = n → m < f → TxM S tx n → S.1 3 0 0 17 = zo l → ∃ S', zy zF (d + 2) 259 f 77 [some (za 3 0 0)] S = some (.inl none, S') ∧ S'.1 3 0 0 17 = zo (rn (isL tx) n l : Nat) ∧ S'.1 3 0 0 19 = zo 1 ∧ S'.2 = S.2 ∧ ∀ k m o j, ¬(k = 3 ∧ m = 0 ∧ o = 0 ∧ (j = 17 ∨ j = 19)) → S'.1 k m o j = S.1 k m o j := by
  intro m
  induction m with
  | zero =>
    intro l f S hl hf h h7
    obtain ⟨f, rfl⟩ : ∃ f', f = f' + 1 := ⟨f - 1, by omega⟩
    refine ⟨zs_set S 3 0 0 19 (zo 1), ?_, by rw [zs_oth (by omega), rn_e (by omega)]; exact h7, zs_self, rfl, fun k m o j b => zs_oth (by omega)⟩
    rw [ze_259_77, h7, m257 h (by omega), zr1, decide_eq_false (show ¬ l < n by omega), if_pos (show zo (bI (false && isL tx l)) = zo 0 from rfl)]
  | succ m ih =>
    intro l f S hl hf h h7
    obtain ⟨f, rfl⟩ : ∃ f', f = f' + 1 := ⟨f - 1, by omega⟩
    rw [ze_259_77, h7, m257 h (by omega), zr1, decide_eq_true (show l < n by omega), Bool.true_and]
    by_cases c : isL tx l = true
    · obtain ⟨S2, q1, q2, q3, q4, q5⟩ := ih (l + 1) f (zs_set S 3 0 0 17 (zo ((l + 1 : Nat) : Int))) (by omega) (by omega) (TxM_k h (Fl_set (Fl_refl S) 17 _ (by omega))) zs_self
      refine ⟨S2, ?_, by rw [rn_s (by omega) c]; exact q2, q3, q4, fun k m o j b => by rw [q5 k m o j b, zs_oth (by omega)]⟩
      rw [c, if_neg (by decide), h7, zo_add]
      exact q1
    · refine ⟨zs_set S 3 0 0 19 (zo 1), ?_, by rw [zs_oth (by omega), rn_e (fun _ => Bool.eq_false_iff.2 c)]; exact h7, zs_self, rfl, fun k m o j b => zs_oth (by omega)⟩
      rw [Bool.eq_false_iff.2 c, if_pos (by rfl)]
theorem m259_120 (hn : n ≤ 700) : ∀ (m l f : Nat) (S : zS), l + m = n → m < f → TxM S tx n → S.1 3 0 0 17 = zo l → ∃ S', zy zF (d + 2) 259 f 120 [some (za 3 0 0)] S = some (.inl none, S') ∧ S'.1 3 0 0 17 = zo (rn (isD tx) n l : Nat) ∧ S'.1 3 0 0 19 = zo 2 ∧ S'.2 = S.2 ∧ ∀ k m o j, ¬(k = 3 ∧ m = 0 ∧ o = 0 ∧ (j = 17 ∨ j = 19)) → S'.1 k m o j = S.1 k m o j := by
  intro m
  induction m with
  | zero =>
    intro l f S hl hf h h7
    obtain ⟨f, rfl⟩ : ∃ f', f = f' + 1 := ⟨f - 1, by omega⟩
    refine ⟨zs_set S 3 0 0 19 (zo 2), ?_, by rw [zs_oth (by omega), rn_e (by omega)]; exact h7, zs_self, rfl, fun k m o j b => zs_oth (by omega)⟩
    rw [ze_259_120, h7, m258 h (by omega), zr1, decide_eq_false (show ¬ l < n by omega), if_pos (show zo (bI (false && isD tx l)) = zo 0 from rfl)]
  | succ m ih =>
    intro l f S hl hf h h7
    obtain ⟨f, rfl⟩ : ∃ f', f = f' + 1 := ⟨f - 1, by omega⟩
    rw [ze_259_120, h7, m258 h (by omega), zr1, decide_eq_true (show l < n by omega), Bool.true_and]
    by_cases c : isD tx l = true
    · obtain ⟨S2, q1, q2, q3, q4, q5⟩ := ih (l + 1) f (zs_set S 3 0 0 17 (zo ((l + 1 : Nat) : Int))) (by omega) (by omega) (TxM_k h (Fl_set (Fl_refl S) 17 _ (by omega))) zs_self
      refine ⟨S2, ?_, by rw [rn_s (by omega) c]; exact q2, q3, q4, fun k m o j b => by rw [q5 k m o j b, zs_oth (by omega)]⟩
      rw [c, if_neg (by decide), h7, zo_add]
      exact q1
    · refine ⟨zs_set S 3 0 0 19 (zo 2), ?_, by rw [zs_oth (by omega), rn_e (fun _ => Bool.eq_false_iff.2 c)]; exact h7, zs_self, rfl, fun k m o j b => zs_oth (by omega)⟩
      rw [Bool.eq_false_iff.2 c, if_pos (by rfl)]
theorem m259_f (hn : n ≤ 700) : ∀ (m l f : Nat) (S : zS), l + m = n → m + 1000 < f → TxM S tx n → S.1 3 0 0 17 = zo l → ∃ S', zy zF (d + 2) 259 f 0 [some (za 3 0 0)] S = some (.inl none, S') ∧ S'.1 3 0 0 18 = zo (rn (isB tx) n l : Nat) ∧ S'.1 3 0 0 17 = zo (enA tx n (rn (isB tx) n l) : Nat) ∧ S'.1 3 0 0 19 = zo (tyA tx n (rn (isB tx) n l)) ∧ S'.2 = S.2 ∧ ∀ k m o j, ¬(k = 3 ∧ m = 0 ∧ o = 0 ∧ 17 ≤ j ∧ j ≤ 19) → S'.1 k m o j = S.1 k m o j := by
  intro m
  induction m with
  | zero =>
    intro l f S hl hf h h7
    obtain ⟨f, rfl⟩ : ∃ f', f = f' + 1 := ⟨f - 1, by omega⟩
    have er : rn (isB tx) n l = l := rn_e (by omega)
    have et : tyA tx n l = 0 := if_neg (by omega)
    have ee : enA tx n l = l := if_neg (by omega)
    rw [er, et, ee]
    refine ⟨zs_set (zs_set S 3 0 0 18 (zo l)) 3 0 0 19 (zo 0), ?_, by rw [zs_oth (by omega), zs_self], by rw [zs_oth (by omega), zs_oth (by omega)]; exact h7, zs_self, rfl, fun k m o j b => by rw [zs_oth (by omega), zs_oth (by omega)]⟩
    rw [ze_259_0, h7, m256 h (by omega), zr1, if_neg (show ¬ l < n by omega), if_neg (by decide), h7, m256 h (by omega), zr1, if_neg (show ¬ l < n by omega), if_neg (by decide), zs_oth (by omega), zs_oth (by omega), h7, h.1.1, if_neg (show ¬ zo (l : Int) < zo (n : Int) by rw [zo_lt (by omega) (by omega) (by omega) (by omega)]; omega)]
  | succ m ih =>
    intro l f S hl hf h h7
    obtain ⟨f, rfl⟩ : ∃ f', f = f' + 1 := ⟨f - 1, by omega⟩
    have bt := (h.2 l (by omega)).2
    have F7 : Fl S (zs_set S 3 0 0 17 (zo ((l + 1 : Nat) : Int))) := Fl_set (Fl_refl S) 17 _ (by omega)
    rw [ze_259_0, h7, m256 h (by omega), zr1, if_pos (show l < n by omega)]
    by_cases c32 : tx l = 32
    · obtain ⟨S2, q1, q2, q3, q4, q5, q6⟩ := ih (l + 1) f _ (by omega) (by omega) (TxM_k h F7) zs_self
      have eb : isB tx l = true := by unfold isB; rw [decide_eq_true c32]; rfl
      rw [rn_s (by omega) eb]
      refine ⟨S2, ?_, q2, q3, q4, q5, fun k m o j b => by rw [q6 k m o j b, zs_oth (by omega)]⟩
      rw [if_pos (show zo (tx l) = zo 32 by rw [c32]), h7, zo_add]
      exact q1
    rw [if_neg (show ¬ zo (tx l) = zo 32 by rw [zo_eq (by omega) (by omega) (by omega) (by omega)]; exact c32), h7, m256 h (by omega), zr1, if_pos (show l < n by omega)]
    by_cases c10 : tx l = 10
    · obtain ⟨S2, q1, q2, q3, q4, q5, q6⟩ := ih (l + 1) f _ (by omega) (by omega) (TxM_k h F7) zs_self
      have eb : isB tx l = true := by unfold isB; rw [decide_eq_true c10, Bool.or_true]
      rw [rn_s (by omega) eb]
      refine ⟨S2, ?_, q2, q3, q4, q5, fun k m o j b => by rw [q6 k m o j b, zs_oth (by omega)]⟩
      rw [if_pos (show zo (tx l) = zo 10 by rw [c10]), h7, zo_add]
      exact q1
    have eb : isB tx l = false := by unfold isB; rw [decide_eq_false c32, decide_eq_false c10]; rfl
    have F8 : Fl S (zs_set S 3 0 0 18 (zo l)) := Fl_set (Fl_refl S) 18 _ (by omega)
    have h8 := TxM_k h F8
    have h87 : (zs_set S 3 0 0 18 (zo l)).1 3 0 0 17 = zo l := by rw [zs_oth (by omega)]; exact h7
    rw [rn_e (fun _ => eb), if_neg (show ¬ zo (tx l) = zo 10 by rw [zo_eq (by omega) (by omega) (by omega) (by omega)]; exact c10), h7, h87, h8.1.1, if_pos (show zo (l : Int) < zo (n : Int) by rw [zo_lt (by omega) (by omega) (by omega) (by omega)]; omega), m257 h8 (by omega), zr1, decide_eq_true (show l < n by omega), Bool.true_and]
    by_cases cL : isL tx l = true
    · have et : tyA tx n l = 1 := by unfold tyA; rw [if_pos (by omega), if_pos cL]
      have ee : enA tx n l = rn (isL tx) n l := by unfold enA; rw [if_pos (by omega), if_pos cL]
      obtain ⟨S2, q1, q2, q3, q4, q5⟩ := m259_77 (d := d) hn (m + 1) l f _ (by omega) (by omega) h8 h87
      rw [et, ee]
      refine ⟨S2, ?_, by rw [q5 _ _ _ _ (by omega), zs_self], q2, q3, q4, fun k m o j b => by rw [q5 k m o j (by omega), zs_oth (by omega)]⟩
      rw [cL, if_neg (by decide)]
      exact q1
    · rw [Bool.eq_false_iff.2 cL, if_pos (show zo (bI false) = zo 0 from rfl), h87, m258 h8 (by omega), zr1, decide_eq_true (show l < n by omega), Bool.true_and]
      by_cases cD : isD tx l = true
      · have et : tyA tx n l = 2 := by unfold tyA; rw [if_pos (by omega), if_neg cL, if_pos cD]
        have ee : enA tx n l = rn (isD tx) n l := by unfold enA; rw [if_pos (by omega), if_neg cL, if_pos cD]
        obtain ⟨S2, q1, q2, q3, q4, q5⟩ := m259_120 (d := d) hn (m + 1) l f _ (by omega) (by omega) h8 h87
        rw [et, ee]
        refine ⟨S2, ?_, by rw [q5 _ _ _ _ (by omega), zs_self], q2, q3, q4, fun k m o j b => by rw [q5 k m o j (by omega), zs_oth (by omega)]⟩
        rw [cD, if_neg (by decide)]
        exact q1
      · have et : tyA tx n l = 3 := by unfold tyA; rw [if_pos (by omega), if_neg cL, if_neg cD]
        have ee : enA tx n l = l + 1 := by unfold enA; rw [if_pos (by omega), if_neg cL, if_neg cD]
        rw [et, ee]
        refine ⟨zs_set (zs_set (zs_set S 3 0 0 18 (zo l)) 3 0 0 17 (zo ((l : Int) + 1))) 3 0 0 19 (zo 3), ?_, by rw [zs_oth (by omega), zs_oth (by omega), zs_self], by rw [zs_oth (by omega), zs_self]; rfl, zs_self, rfl, fun k m o j b => by rw [zs_oth (by omega), zs_oth (by omega), zs_oth (by omega)]⟩
        rw [Bool.eq_false_iff.2 cD, if_pos (by rfl), h87, zo_add]
theorem m259 (h : TxM S tx n) (hp : p ≤ n) (h7 : S.1 3 0 0 17 = zo p) : ∃ S', zr_sem zF (d + 3) 259 [za 3 0 0] S = some (.inl none, S') ∧ TkM S' tx n p ∧ S'.2 = S.2 ∧ ∀ k m o j, ¬(k = 3 ∧ m = 0 ∧ o = 0 ∧ 17 ≤ j ∧ j ≤ 19) → S'.1 k m o j = S.1 k m o j := by
  have hb := zF1_big
  have hn := h.1.2
  obtain ⟨S2, q1, q2, q3, q4, q5, q6⟩ := m259_f (d := d) hn (n - p) p (zF1 + 1) S (by omega) (by omega) h h7
  exact ⟨S2, (ze_259 (d := d + 2)).trans q1, ⟨hp, q2, q3, q4⟩, q5, q6⟩
theorem n263 (h : RkM S tx n st) : ∃ S', zr_sem zF (d + 4) 263 [za 3 0 0] S = some (.inl none, S') ∧ RkM S' tx n (nxt tx n st) ∧ Fl S S' := by
  have hO := h
  obtain ⟨hT, p, hP, hE⟩ := h
  cases st with
  | ok r =>
    obtain ⟨e1, e2⟩ := hE
    subst e1
    have b := tkE_b (tx := tx) hP.1
    obtain ⟨S2, q1, q2, q3, q4⟩ := m259 (d := d) hT b.2.1 hP.2.2.1
    have F : Fl S S2 := ⟨q3, fun k m o j b => q4 k m o j (by omega)⟩
    refine ⟨S2, ?_, ⟨TxM_k hT F, tkE tx n r, q2, rfl, by rw [q4 _ _ _ _ (by omega)]; exact e2⟩, F⟩
    rw [ze_263, e2, if_pos rfl, q1, zr0]
  | error e =>
    have he := hE.2.1
    refine ⟨S, ?_, hO, Fl_refl S⟩
    rw [ze_263, hE.1, if_neg (show ¬ zo e.1 = zo 0 by rw [zo_eq (by omega) (by omega) (by omega) (by omega)]; omega)]
theorem n262 (h : RkM S tx n st) (b : Bool) (hc : 1 ≤ c ∧ c ≤ 9) : ∃ S', zr_sem zF (d + 1) 262 [za 3 0 0, zi (zo (bI b)), zi (zo c)] S = some (.inl none, S') ∧ RkM S' tx n (if b = true then st else ert tx n c st) ∧ Fl S S' := by
  have hO := h
  obtain ⟨hT, p, hP, hE⟩ := h
  cases b with
  | true =>
    refine ⟨S, ?_, hO, Fl_refl S⟩
    rw [ze_262, if_neg (by decide)]
  | false =>
    rw [ze_262, if_pos (show zo (bI false) = zo 0 from rfl)]
    cases st with
    | ok r =>
      obtain ⟨e1, e2⟩ := hE
      subst e1
      have F : Fl S (zs_set (zs_set S 3 0 0 20 (zo c)) 3 0 0 21 (zo (tkS tx n r : Nat))) := Fl_set (Fl_set (Fl_refl S) 20 _ (by omega)) 21 _ (by omega)
      refine ⟨_, ?_, ⟨TxM_k hT F, r, ⟨hP.1, ?_, ?_, ?_⟩, ?_, hc, zs_self⟩, F⟩
      · rw [e2, if_pos rfl, zs_oth (by omega), hP.2.1]
      · rw [zs_oth (by omega), zs_oth (by omega)]; exact hP.2.1
      · rw [zs_oth (by omega), zs_oth (by omega)]; exact hP.2.2.1
      · rw [zs_oth (by omega), zs_oth (by omega)]; exact hP.2.2.2
      · rw [zs_oth (by omega), zs_self]
    | error e =>
      have he := hE.2.1
      refine ⟨S, ?_, hO, Fl_refl S⟩
      rw [hE.1, if_neg (show ¬ zo e.1 = zo 0 by rw [zo_eq (by omega) (by omega) (by omega) (by omega)]; omega)]
theorem n264 (h : RkM S tx n st) (hc : 0 ≤ c ∧ c ≤ 255) : zr_sem zF (d + 1) 264 [za 3 0 0, zi (zo c)] S = some (.inl (some (zi (zo (bI (chO tx n c st))))), S) := by
  obtain ⟨hT, p, hP, hE⟩ := h
  have hn := hT.1.2
  cases st with
  | ok r =>
    obtain ⟨e1, e2⟩ := hE
    subst e1
    have bt := tkT_b (tx := tx) (n := n) (p := r)
    have bs := tkS_b (tx := tx) hP.1
    rw [ze_264, e2, if_pos rfl, hP.2.2.2]
    show _ = some (Sum.inl (some (zi (zo (bI (decide (tkT tx n r = 3) && decide (tx (tkS tx n r) = c)))))), S)
    by_cases z : tkT tx n r = 3
    · have w : tkS tx n r < n := by
        unfold tkT tyA at z
        by_cases y : tkS tx n r < n
        · exact y
        · rw [if_neg y] at z; omega
      have b := (hT.2 _ w).2
      rw [if_pos (show zo (tkT tx n r) = zo 3 by rw [z]), hP.2.1, zin_ok (by omega) (by omega) (by omega), zo_nn (by omega) (by omega), Int.toNat_natCast, (hT.2 _ w).1, decide_eq_true z, Bool.true_and]
      by_cases y : tx (tkS tx n r) = c
      · rw [if_pos (show zo (tx (tkS tx n r)) = zo c by rw [y]), decide_eq_true y]; rfl
      · rw [if_neg (show ¬ zo (tx (tkS tx n r)) = zo c by rw [zo_eq (by omega) (by omega) (by omega) (by omega)]; exact y), decide_eq_false y]; rfl
    · rw [if_neg (show ¬ zo (tkT tx n r) = zo 3 by rw [zo_eq (by omega) (by omega) (by omega) (by omega)]; exact z), decide_eq_false z]
      rfl
  | error e =>
    have he := hE.2.1
    rw [ze_264, hE.1, if_neg (show ¬ zo e.1 = zo 0 by rw [zo_eq (by omega) (by omega) (by omega) (by omega)]; omega)]
    rfl
theorem n265_39 (h : TxM S tx n) (ht : isW t) (h3 : S.1 3 0 0 18 = zo s) (hl : s + txl t ≤ n) : ∀ (m l f : Nat), l + m = txl t → m + 1 < f → zy zF (d + 5) 265 f 39 [some (za 3 0 0), some (za 6 t 0), some (zi (zo 1)), some (zi (zo l))] S = some (.inl (some (zi (zo (bI (eqT tx s t m l))))), S) := by
  have hn := h.1.2
  intro m
  induction m with
  | zero =>
    intro l f hl hf
    obtain ⟨f, rfl⟩ : ∃ f', f = f' + 1 := ⟨f - 1, by omega⟩
    rw [ze_265_39, if_neg (by decide), z292 ht, zr1, if_pos (show zo (txl t : Int) ≤ zo (l : Int) by rw [zo_le (by omega) (by omega) (by omega) (by omega)]; omega), if_pos (by rfl)]
    rfl
  | succ m ih =>
    intro l f hl hf
    obtain ⟨f, rfl⟩ : ∃ f', f = f' + 1 := ⟨f - 1, by omega⟩
    have i := ih (l + 1) f (by omega) (by omega)
    rw [ze_265_39, if_neg (by decide), z292 ht, zr1, if_neg (show ¬ zo (txl t : Int) ≤ zo (l : Int) by rw [zo_le (by omega) (by omega) (by omega) (by omega)]; omega), z293 ht (by omega), zr1, h3, zo_add, show (s : Int) + (l : Int) = ((s + l : Nat) : Int) from rfl, zin_ok (by omega) (by omega) (by omega), zo_nn (by omega) (by omega), Int.toNat_natCast, (h.2 (s + l) (by omega)).1]
    have es : eqT tx s t (m + 1) l = (decide (zo (tx (s + l)) = zo (txc t l)) && eqT tx s t m (l + 1)) := rfl
    rw [es]
    by_cases c : zo (tx (s + l)) = zo (txc t l)
    · rw [if_pos c.symm, decide_eq_true c, Bool.true_and, zo_add]; exact i
    · rw [if_neg (fun z => c z.symm), decide_eq_false c]
      obtain ⟨f, rfl⟩ : ∃ f', f = f' + 1 := ⟨f - 1, by omega⟩
      rw [ze_265_39, if_pos rfl, if_pos (by rfl)]; rfl
theorem n265 (h : RkM S tx n st) (ht : isW t) : zr_sem zF (d + 6) 265 [za 3 0 0, za 6 t 0] S = some (.inl (some (zi (zo (bI (kwO tx n t st))))), S) := by
  obtain ⟨hT, p, hP, hE⟩ := h
  have hb := zF1_big
  have hn := hT.1.2
  have bl := txl_b ht
  obtain ⟨f, hf⟩ : ∃ f', zF1 = f' + 1 := ⟨zF1 - 1, by omega⟩
  have no : zy zF (d + 5) 265 zF1 39 [some (za 3 0 0), some (za 6 t 0), some (zi (zo 0)), some (zi (zo 0))] S = some (.inl (some (zi (zo 0))), S) := by
    rw [hf, ze_265_39, if_pos rfl, if_pos (by rfl)]
  cases st with
  | ok r =>
    obtain ⟨e1, e2⟩ := hE
    subst e1
    have b := tkE_b (tx := tx) hP.1
    have bt := tkT_b (tx := tx) (n := n) (p := r)
    rw [ze_265, e2, if_pos rfl, hP.2.2.2]
    show _ = some (Sum.inl (some (zi (zo (bI (decide (tkT tx n r = 1) && (decide (tkE tx n r - tkS tx n r = txl t) && eqT tx (tkS tx n r) t (txl t) 0)))))), S)
    by_cases c : tkT tx n r = 1
    · rw [if_pos (show zo (tkT tx n r) = zo 1 by rw [c]), z292 ht, zr1, hP.2.2.1, hP.2.1, zo_sub, decide_eq_true c, Bool.true_and]
      by_cases c2 : tkE tx n r - tkS tx n r = txl t
      · rw [if_pos (show zo (txl t : Int) = zo ((tkE tx n r : Int) - (tkS tx n r : Int)) by rw [zo_eq (by omega) (by omega) (by omega) (by omega)]; omega), decide_eq_true c2, Bool.true_and]
        exact n265_39 hT ht hP.2.1 (by omega) (txl t) 0 zF1 (by omega) (by omega)
      · rw [if_neg (show ¬ zo (txl t : Int) = zo ((tkE tx n r : Int) - (tkS tx n r : Int)) by rw [zo_eq (by omega) (by omega) (by omega) (by omega)]; omega), decide_eq_false c2, no]
        rfl
    · rw [if_neg (show ¬ zo (tkT tx n r) = zo 1 by rw [zo_eq (by omega) (by omega) (by omega) (by omega)]; exact c), decide_eq_false c, no]
      rfl
  | error e =>
    have he := hE.2.1
    rw [ze_265, hE.1, if_neg (show ¬ zo e.1 = zo 0 by rw [zo_eq (by omega) (by omega) (by omega) (by omega)]; omega), no]
    rfl
theorem n266 (h : RkM S tx n st) (ht : isW t) : ∃ S', zr_sem zF (d + 7) 266 [za 3 0 0, za 6 t 0] S = some (.inl (some (zi (zo (bI (kwO tx n t st))))), S') ∧ RkM S' tx n (if kwO tx n t st = true then nxt tx n st else st) ∧ Fl S S' ∧ (kwO tx n t st = true → ∃ p, TkM S tx n p ∧ S.1 3 0 0 20 = zo 0) := by
  have e := n265 (d := d) h ht
  by_cases c : kwO tx n t st = true
  · have b := tkE_b (tx := tx) h.2.choose_spec.1.1
    cases st with
    | ok r =>
      obtain ⟨hT, p, hP, e1, e2⟩ := h
      subst e1
      have b := tkE_b (tx := tx) hP.1
      obtain ⟨S2, q1, q2, q3, q4⟩ := m259 (d := d + 3) hT b.2.1 hP.2.2.1
      have F : Fl S S2 := ⟨q3, fun k m o j b => q4 k m o j (by omega)⟩
      refine ⟨S2, ?_, ?_, F, fun _ => ⟨_, hP, e2⟩⟩
      · rw [ze_266, e, zr1, c, if_neg (by decide), q1, zr0, if_pos (by rfl)]
      · rw [if_pos c]
        exact ⟨TxM_k hT F, tkE tx n r, q2, rfl, by rw [q4 _ _ _ _ (by omega)]; exact e2⟩
    | error z => exact (Bool.false_ne_true c).elim
  · refine ⟨S, ?_, by rw [if_neg c]; exact h, Fl_refl S, fun z => absurd z c⟩
    rw [ze_266, e, zr1, Bool.eq_false_iff.2 c, if_pos (show zo (bI false) = zo 0 from rfl), if_pos (by rfl)]
theorem n267 (h : RkM S tx n st) (hc : 0 ≤ c ∧ c ≤ 255) : ∃ S', zr_sem zF (d + 5) 267 [za 3 0 0, zi (zo c)] S = some (.inl none, S') ∧ RkM S' tx n (ceE tx n c st) ∧ Fl S S' := by
  have e := n264 (d := d + 3) h hc
  obtain ⟨S1, p1, p2, p3⟩ := n262 (d := d + 3) (c := 1) h (chO tx n c st) (by omega)
  obtain ⟨S2, q1, q2, q3⟩ := n263 (d := d) p2
  refine ⟨S2, ?_, ?_, Fl_trans p3 q3⟩
  · rw [ze_267, e, zr1, p1, zr0, q1, zr0]
  · cases st with
    | ok r =>
      show RkM S2 tx n (if chB tx n c r = true then _ else _)
      change RkM S2 tx n (nxt tx n (if chB tx n c r = true then _ else _)) at q2
      by_cases z : chB tx n c r = true
      · rw [if_pos z] at q2 ⊢; exact q2
      · rw [if_neg z] at q2 ⊢; exact q2
    | error e' =>
      have : (if chO tx n c (.error e') = true then (Except.error e' : Et) else ert tx n 1 (.error e')) = .error e' := rfl
      rw [this] at q2
      exact q2
theorem mvF_b : ∀ k : Nat, (∀ i, i < k → isD tx (s + i) = true) → (0 ≤ mvF tx s k ∧ mvF tx s k ≤ 99999999) ∧ (mvF tx s k = nvF tx s k ∨ (10000000 ≤ mvF tx s k ∧ 10000000 ≤ nvF tx s k)) := by
  intro k
  induction k with
  | zero => intro _; exact ⟨⟨Int.le_refl _, by show (0 : Int) ≤ 99999999; decide⟩, Or.inl rfl⟩
  | succ k ih =>
    intro h
    have i := ih (fun i hi => h i (by omega))
    have c := of_decide_eq_true (h k (by omega))
    have e : mvF tx s (k + 1) = if mvF tx s k ≤ 9999999 then 10 * mvF tx s k + tx (s + k) - 48 else mvF tx s k := rfl
    rw [e, nvF_s]
    by_cases z : mvF tx s k ≤ 9999999
    · rw [if_pos z]; omega
    · rw [if_neg z]; omega
theorem n268_7 (h : TxM S tx n) (hs : s ≤ n) {e : Nat} (he : s ≤ e ∧ e ≤ n) (h7 : S.1 3 0 0 17 = zo e) (h9 : S.1 3 0 0 19 = zo 2) (hD : ∀ i, i < e - s → isD tx (s + i) = true) : ∀ (m l f : Nat), l + m = e - s → m < f → zy zF d 268 f 7 [some (za 3 0 0), some (zi (zo (mvF tx s l))), some (zi (zo ((s + l : Nat) : Int)))] S = some (.inl (some (zi (zo (mvF tx s (e - s))))), S) := by
  have hn := h.1.2
  intro m
  induction m with
  | zero =>
    intro l f hl hf
    obtain ⟨f, rfl⟩ : ∃ f', f = f' + 1 := ⟨f - 1, by omega⟩
    rw [ze_268_7, h7, if_pos (show zo (e : Int) ≤ zo ((s + l : Nat) : Int) by rw [zo_le (by omega) (by omega) (by omega) (by omega)]; omega), show l = e - s by omega]
  | succ m ih =>
    intro l f hl hf
    obtain ⟨f, rfl⟩ : ∃ f', f = f' + 1 := ⟨f - 1, by omega⟩
    have i := ih (l + 1) f (by omega) (by omega)
    have b := mvF_b l (fun i hi => hD i (by omega))
    have c := of_decide_eq_true (hD l (by omega))
    have e1 : mvF tx s (l + 1) = if mvF tx s l ≤ 9999999 then 10 * mvF tx s l + tx (s + l) - 48 else mvF tx s l := rfl
    rw [ze_268_7, h7, if_neg (show ¬ zo (e : Int) ≤ zo ((s + l : Nat) : Int) by rw [zo_le (by omega) (by omega) (by omega) (by omega)]; omega), h9, if_pos rfl, zo_add, show ((s + l : Nat) : Int) + 1 = ((s + (l + 1) : Nat) : Int) from rfl]
    by_cases z : mvF tx s l ≤ 9999999
    · rw [if_pos z] at e1
      rw [e1] at i
      rw [if_pos (show zo (mvF tx s l) ≤ zo 9999999 by rw [zo_le (by omega) (by omega) (by omega) (by omega)]; omega), zin_ok (by omega) (by omega) (by omega), zo_nn (by omega) (by omega), Int.toNat_natCast, (h.2 (s + l) (by omega)).1, zo_mul, zo_add, zo_sub]
      exact i
    · rw [if_neg z] at e1
      rw [e1] at i
      rw [if_neg (show ¬ zo (mvF tx s l) ≤ zo 9999999 by rw [zo_le (by omega) (by omega) (by omega) (by omega)]; omega)]
      exact i
theorem tk_dig (h : tkT tx n p = 2) : ∀ i, i < tkE tx n p - tkS tx n p → isD tx (tkS tx n p + i) = true := by
  unfold tkT tyA at h
  unfold tkE enA
  generalize tkS tx n p = s at *
  intro i hi
  by_cases c : s < n
  · rw [if_pos c] at h hi
    by_cases c1 : isL tx s = true
    · rw [if_pos c1] at h; omega
    · rw [if_neg c1] at h hi
      by_cases c2 : isD tx s = true
      · rw [if_pos c2] at hi
        exact rnF_all (n - s) s (s + i) (by omega) (by unfold rn at hi; omega)
      · rw [if_neg c2] at h; omega
  · rw [if_neg c] at h; omega
/-- the number that the model reads -/
def mvl (tx : Nat → Int) (n p : Nat) : Int := if tkT tx n p = 2 then mvF tx (tkS tx n p) (tkE tx n p - tkS tx n p) else 0
theorem n268 (hT : TxM S tx n) (hP : TkM S tx n p) : zr_sem zF (d + 1) 268 [za 3 0 0] S = some (.inl (some (zi (zo (mvl tx n p)))), S) := by
  have hb := zF1_big
  have hn := hT.1.2
  have b := tkE_b (tx := tx) hP.1
  have bs := tkS_b (tx := tx) hP.1
  have bt := tkT_b (tx := tx) (n := n) (p := p)
  rw [ze_268, hP.2.1]
  unfold mvl
  by_cases c : tkT tx n p = 2
  · rw [if_pos c]
    exact n268_7 hT bs.2 ⟨b.1, b.2.1⟩ hP.2.2.1 (by rw [hP.2.2.2, c]) (tk_dig c) (tkE tx n p - tkS tx n p) 0 zF1 (by omega) (by omega)
  · rw [if_neg c]
    obtain ⟨f, hf⟩ : ∃ f', zF1 = f' + 1 := ⟨zF1 - 1, by omega⟩
    rw [hf, ze_268_7, hP.2.2.2, hP.2.2.1]
    by_cases z : zo (tkE tx n p : Int) ≤ zo (tkS tx n p : Int)
    · rw [if_pos z]
    · rw [if_neg z, if_neg (show ¬ zo (tkT tx n p) = zo 2 by rw [zo_eq (by omega) (by omega) (by omega) (by omega)]; exact c)]
theorem mvl_b : -1 ≤ mvl tx n p ∧ mvl tx n p ≤ 99999999 := by
  unfold mvl
  by_cases c : tkT tx n p = 2
  · rw [if_pos c]
    have := mvF_b (tx := tx) (s := tkS tx n p) _ (tk_dig c)
    omega
  · rw [if_neg c]; omega
theorem mvl_in (c : tkT tx n p = 2) (h : hi < 1000000) : (lo ≤ mvl tx n p ∧ mvl tx n p ≤ hi → mvl tx n p = tkV tx n p) ∧ ((lo ≤ mvl tx n p ∧ mvl tx n p ≤ hi) ↔ (lo ≤ tkV tx n p ∧ tkV tx n p ≤ hi)) := by
  unfold mvl tkV
  rw [if_pos c]
  have := mvF_b (tx := tx) (s := tkS tx n p) _ (tk_dig c)
  omega
theorem n269 (h : RkM S tx n st) (h1 : 0 ≤ lo) (h2 : lo ≤ hi) (h3 : hi < 1000000) : ∃ S', zr_sem zF (d + 2) 269 [za 3 0 0, zi (zo lo), zi (zo hi)] S = some (.inl (some (zi (zo (nuV tx n lo hi st)))), S') ∧ RkM S' tx n (nuE tx n lo hi st) ∧ Fl S S' := by
  have hO := h
  obtain ⟨hT, p, hP, hE⟩ := h
  have bt := tkT_b (tx := tx) (n := n) (p := p)
  have bm := mvl_b (tx := tx) (n := n) (p := p)
  have ez : ∀ {S1 : zS} {st : Et} (h : RkM S1 tx n st), isO st = true → S1.1 3 0 0 20 = zo 0 := fun {S1 st} h z => by
    obtain ⟨_, q, _, e⟩ := h
    cases st with
    | ok r => exact e.2
    | error e => exact (Bool.false_ne_true z).elim
  have en : ∀ {S1 : zS} {st : Et} (h : RkM S1 tx n st), isO st = false → ¬ S1.1 3 0 0 20 = zo 0 := fun {S1 st} h z => by
    obtain ⟨_, q, _, e⟩ := h
    cases st with
    | ok r => exact (Bool.false_ne_true z.symm).elim
    | error e' => have := e.2.1; rw [e.1, zo_eq (by omega) (by omega) (by omega) (by omega)]; omega
  by_cases c : tkT tx n p = 2
  · obtain ⟨S1, p1, p2, p3⟩ := n262 (d := d) (c := 1) hO true (by omega)
    rw [if_pos rfl] at p2
    have e1 : S1 = S := by
      have : zr_sem zF (d + 1) 262 [za 3 0 0, zi (zo (bI true)), zi (zo 1)] S = some (.inl none, S) := by rw [ze_262, if_neg (by decide)]
      rw [this] at p1
      injection p1 with p1
      injection p1 with _ p1
      exact p1.symm
    subst e1
    obtain ⟨S2, q1, q2, q3⟩ := n262 (d := d) (c := 2) hO (decide (lo ≤ mvl tx n p ∧ mvl tx n p ≤ hi)) (by omega)
    have mi := mvl_in (lo := lo) (hi := hi) c h3
    refine ⟨S2, ?_, ?_, q3⟩
    · rw [ze_269, hP.2.2.2, c, if_pos rfl, show zr_sem zF (d + 1) 262 [za 3 0 0, zi (zo 1), zi (zo 1)] S1 = some (.inl none, S1) from p1, zr0, n268 hT hP, zr1, m147 (by omega) (by omega) (by omega) (by omega) (by omega) (by omega), zr1, q1, zr0]
      cases st with
      | ok r =>
        have e2 := hE.1; subst e2
        show (if _ then _ else _) = some (Sum.inl (some (zi (zo (if tkT tx n r = 2 ∧ lo ≤ tkV tx n r ∧ tkV tx n r ≤ hi then tkV tx n r else lo)))), S2)
        by_cases z : lo ≤ tkV tx n r ∧ tkV tx n r ≤ hi
        · rw [decide_eq_true (mi.2.2 z), if_pos rfl] at q2
          rw [if_pos (ez q2 rfl), if_pos ⟨c, z⟩, mi.1 (mi.2.2 z)]
        · rw [decide_eq_false (fun y => z (mi.2.1 y)), if_neg (by decide)] at q2
          rw [if_neg (en q2 rfl), if_neg (fun y => z y.2)]
      | error e =>
        have q2' : RkM S2 tx n (.error e) := by
          by_cases z : lo ≤ mvl tx n p ∧ mvl tx n p ≤ hi
          · rw [decide_eq_true z, if_pos rfl] at q2; exact q2
          · rw [decide_eq_false z, if_neg (by decide)] at q2; exact q2
        rw [if_neg (en q2' rfl)]; rfl
    · cases st with
      | ok r =>
        have e2 := hE.1; subst e2
        show RkM S2 tx n (if tkT tx n r = 2 then _ else _)
        rw [if_pos c]
        by_cases z : lo ≤ tkV tx n r ∧ tkV tx n r ≤ hi
        · rw [decide_eq_true (mi.2.2 z), if_pos rfl] at q2
          rw [if_pos z]; exact q2
        · rw [decide_eq_false (fun y => z (mi.2.1 y)), if_neg (by decide)] at q2
          rw [if_neg z]; exact q2
      | error e =>
        by_cases z : lo ≤ mvl tx n p ∧ mvl tx n p ≤ hi
        · rw [decide_eq_true z, if_pos rfl] at q2; exact q2
        · rw [decide_eq_false z, if_neg (by decide)] at q2; exact q2
  · obtain ⟨S1, p1, p2, p3⟩ := n262 (d := d) (c := 1) hO false (by omega)
    rw [if_neg (by decide)] at p2
    have er : isO (ert tx n 1 st) = false := by cases st <;> rfl
    have p2O := p2
    obtain ⟨hT1, p', hP1, hE1⟩ := p2
    have bm1 := mvl_b (tx := tx) (n := n) (p := p')
    obtain ⟨S2, q1, q2, q3⟩ := n262 (d := d) (c := 2) p2O (decide (lo ≤ mvl tx n p' ∧ mvl tx n p' ≤ hi)) (by omega)
    have q2' : RkM S2 tx n (ert tx n 1 st) := by
      have e3 : ert tx n 2 (ert tx n 1 st) = ert tx n 1 st := by cases st <;> rfl
      rw [e3] at q2
      split at q2
      · exact q2
      · exact q2
    refine ⟨S2, ?_, ?_, Fl_trans p3 q3⟩
    · rw [ze_269, hP.2.2.2, if_neg (show ¬ zo (tkT tx n p) = zo 2 by rw [zo_eq (by omega) (by omega) (by omega) (by omega)]; exact c), show zr_sem zF (d + 1) 262 [za 3 0 0, zi (zo 0), zi (zo 1)] S = some (.inl none, S1) from p1, zr0, n268 hT1 hP1, zr1, m147 (by omega) (by omega) (by omega) (by omega) (by omega) (by omega), zr1, q1, zr0, if_neg (en q2' er)]
      cases st with
      | ok r =>
        have e2 := hE.1; subst e2
        show _ = some (Sum.inl (some (zi (zo (if tkT tx n r = 2 ∧ lo ≤ tkV tx n r ∧ tkV tx n r ≤ hi then tkV tx n r else lo)))), S2)
        rw [if_neg (fun y => c y.1)]
      | error e => rfl
    · cases st with
      | ok r =>
        have e2 := hE.1; subst e2
        show RkM S2 tx n (if tkT tx n r = 2 then _ else _)
        rw [if_neg c]; exact q2'
      | error e => exact q2'
theorem n270 (h : RkM S tx n st) (h1 : 0 ≤ lo) (h2 : lo ≤ hi) (h3 : hi < 1000000) : ∃ S', zr_sem zF (d + 5) 270 [za 3 0 0, zi (zo lo), zi (zo hi)] S = some (.inl (some (zi (zo (nuV tx n lo hi st)))), S') ∧ RkM S' tx n (nxt tx n (nuE tx n lo hi st)) ∧ Fl S S' := by
  obtain ⟨S1, p1, p2, p3⟩ := n269 (d := d + 2) h h1 h2 h3
  obtain ⟨S2, q1, q2, q3⟩ := n263 (d := d) p2
  refine ⟨S2, ?_, q2, Fl_trans p3 q3⟩
  rw [ze_270, p1, zr1, q1, zr0]
theorem nuV_b (h : lo ≤ hi) : lo ≤ nuV tx n lo hi st ∧ nuV tx n lo hi st ≤ hi := by
  cases st with
  | ok r =>
    show lo ≤ (if _ then _ else _) ∧ (if _ then _ else _) ≤ hi
    split <;> omega
  | error e => exact ⟨Int.le_refl _, h⟩
end DE

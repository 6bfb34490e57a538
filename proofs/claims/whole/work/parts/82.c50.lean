/-! THE PURE SIDE 50: queries: what they come to -/
def nam (k : Nat) : Nat := zt_names.getD k 0
def valI (tx : Nat → Int) (n : Nat) (st : Et) : Int := zfst (fun k => kwO tx n (nam k) st) 10 0
def valE (tx : Nat → Int) (n : Nat) (st : Et) : Et := if valI tx n st = -1 then nmE tx n 0 9999 st else nxt tx n st
def valC (tx : Nat → Int) (n : Nat) (st : Et) : Int := if valI tx n st = -1 then nuV tx n 0 9999 st else -1 - valI tx n st
/-- a boat's value -/
def pv (a : Rw) (b : Nat) (w : Int) : Int := if 0 ≤ w then w else if w = -1 then b else if w = -2 then bnum a b 0 else if w = -3 then bnum a b 1 else if w = -4 then a (40 + 10 * b + 1) else if w = -5 then a (40 + 10 * b + 2) else if w = -6 then a (40 + 10 * b + 3) else if w = -7 then a (40 + 10 * b + 6) else if w = -8 then a (160 + (a (40 + 10 * b)).toNat) else if w = -9 then a (40 + 10 * b + 8) else a (40 + 10 * b + 9)
def cmO (s : Int) (x y : Int) : Bool := if s = 60 then decide (x < y) else if s = 62 then decide (y < x) else decide (x = y)
def sgC (tx : Nat → Int) (n : Nat) (st : Et) : Int := if chO tx n 60 st = true then 60 else if chO tx n 61 st = true then 61 else 62
def opC (s : Int) : Int := if s = 60 then -20 else if s = 61 then -21 else -22
def sgX (tx : Nat → Int) (n : Nat) (st : Et) : Et := nxt tx n (ctE tx n (chO tx n 60 st || (chO tx n 61 st || chO tx n 62 st)) 1 st)
abbrev Rq : Type := Et × (List Int × (Nat → Bool))
def cmq (tx : Nat → Int) (n : Nat) (a : Rw) (st : Et) : Rq := (valE tx n (sgX tx n (valE tx n st)), [valC tx n st, valC tx n (sgX tx n (valE tx n st)), opC (sgC tx n (valE tx n st))], fun b => cmO (sgC tx n (valE tx n st)) (pv a b (valC tx n st)) (pv a b (valC tx n (sgX tx n (valE tx n st)))))
def cjL (tx : Nat → Int) (n : Nat) (f : Et → Rq) : Nat → Rq → Rq
  | 0, r => r
  | m + 1, r => if kwO tx n 0 r.1 = true then cjL tx n f m ((f (nxt tx n r.1)).1, r.2.1 ++ (f (nxt tx n r.1)).2.1 ++ [-24], fun b => r.2.2 b && (f (nxt tx n r.1)).2.2 b) else r
def cnj (tx : Nat → Int) (n : Nat) (f : Et → Rq) (st : Et) : Rq := cjL tx n f 200 (f st)
def tsL (tx : Nat → Int) (n : Nat) (f : Et → Rq) : Nat → Rq → Rq
  | 0, r => r
  | m + 1, r => if kwO tx n 14 r.1 = true then tsL tx n f m ((cnj tx n f (nxt tx n r.1)).1, r.2.1 ++ (cnj tx n f (nxt tx n r.1)).2.1 ++ [-25], fun b => r.2.2 b || (cnj tx n f (nxt tx n r.1)).2.2 b) else r
def tst (tx : Nat → Int) (n : Nat) (f : Et → Rq) (st : Et) : Rq := tsL tx n f 200 (cnj tx n f st)
/-- a factor, k more may be opened -/
def fac (tx : Nat → Int) (n : Nat) (a : Rw) : Nat → Et → Rq
  | 0, st => if kwO tx n 13 st = true then (ert tx n 3 st, [], fun _ => false) else if chO tx n 40 st = true then (ert tx n 3 st, [], fun _ => false) else cmq tx n a st
  | k + 1, st => if kwO tx n 13 st = true then ((fac tx n a k (nxt tx n st)).1, (fac tx n a k (nxt tx n st)).2.1 ++ [-23], fun b => !(fac tx n a k (nxt tx n st)).2.2 b) else if chO tx n 40 st = true then (ceE tx n 41 (tst tx n (fac tx n a k) (nxt tx n st)).1, (tst tx n (fac tx n a k) (nxt tx n st)).2) else cmq tx n a st
/-- the class's loop -/
def flL (tx : Nat → Int) (n : Nat) (f : Et → Rq) : Nat → Et → (Nat → Bool) → (Nat → Bool) → Et × (Nat → Bool)
  | 0, st, A, B => (st, fun b => A b || B b)
  | m + 1, st, A, B => if kwO tx n 0 st = true then flL tx n f m (f (nxt tx n st)).1 A (fun b => B b && (f (nxt tx n st)).2.2 b) else if kwO tx n 14 st = true then flL tx n f m (f (nxt tx n st)).1 (fun b => A b || B b) (f (nxt tx n st)).2.2 else (st, fun b => A b || B b)
def rem (n : Nat) : Et → Nat
  | .ok p => n - p
  | .error _ => 0
def okn (n : Nat) (st : Et) : Prop := ∀ p, st = .ok p → p ≤ n
/-- a reader: errors stay, it goes on, as many codes as bytes at most -/
def Af (n : Nat) (f : Et → Rq) : Prop := (∀ e, (f (.error e)).1 = .error e) ∧ (∀ p q, p ≤ n → (f (.ok p)).1 = .ok q → p + (f (.ok p)).2.1.length ≤ q ∧ q ≤ n)
section DK
variable {n p q t t2 k m : Nat} {tx : Nat → Int} {a : Rw} {st : Et} {f : Et → Rq} {c lo hi : Int} {r : Rq}
theorem eqT_c : ∀ (m l : Nat), eqT tx p t m l = true → ∀ i, l ≤ i → i < l + m → zo (tx (p + i)) = zo (txc t i) := by
  intro m
  induction m with
  | zero => intro l _ i h1 h2; omega
  | succ m ih =>
    intro l h i h1 h2
    unfold eqT at h
    rw [Bool.and_eq_true, decide_eq_true_eq] at h
    by_cases e : i = l
    · rw [e]; exact h.1
    · exact ih (l + 1) h.2 i (by omega) (by omega)
theorem kwB_uni (h : kwB tx n t p = true) (h2 : kwB tx n t2 p = true) : txl t = txl t2 ∧ ∀ i, i < txl t → zo (txc t i) = zo (txc t2 i) := by
  unfold kwB at h h2
  rw [Bool.and_eq_true, Bool.and_eq_true, decide_eq_true_eq, decide_eq_true_eq] at h h2
  refine ⟨by omega, fun i hi => ?_⟩
  rw [← eqT_c (txl t) 0 h.2.2 i (by omega) (by omega), eqT_c (txl t2) 0 h2.2.2 i (by omega) (by omega)]
theorem kwO_ok (h : kwO tx n t st = true) : ∃ p, st = .ok p ∧ kwB tx n t p = true := by
  cases st with
  | ok p => exact ⟨p, rfl, h⟩
  | error e => cases h
theorem nam_uni : ∀ i, i < 10 → ∀ j, j < 10 → txl (nam i) = txl (nam j) → (∀ k, k < txl (nam i) → zo (txc (nam i) k) = zo (txc (nam j) k)) → i = j := by decide +kernel
theorem nam_w : ∀ i, i < 10 → 0 < txl (nam i) := by decide +kernel
theorem valI_is {j : Nat} (hj : j < 10) (h : kwO tx n (nam j) st = true) : valI tx n st = j := by
  unfold valI
  obtain ⟨p, rfl, g⟩ := kwO_ok h
  refine zfst_is _ 10 j hj h (fun i hi => ?_)
  rw [Bool.eq_false_iff]
  intro h2
  have u := kwB_uni (show kwB tx n (nam i) p = true from h2) g
  have := nam_uni i (by omega) j hj u.1 u.2
  omega
theorem valI_no (h : ∀ i, i < 10 → kwO tx n (nam i) st = false) : valI tx n st = -1 := zfst_isnone _ 10 h
theorem valI_b : -1 ≤ valI tx n st ∧ valI tx n st < 10 := by
  have h1 := zfst_ge (fun k => kwO tx n (nam k) st) 10 0
  have h2 := zfst_lt (fun k => kwO tx n (nam k) st) 10 0
  unfold valI
  omega
theorem valC_b : -10 ≤ valC tx n st ∧ valC tx n st ≤ 9999 := by
  have b := valI_b (tx := tx) (n := n) (st := st)
  have b2 := nuV_b (tx := tx) (n := n) (st := st) (lo := 0) (hi := 9999) (by omega)
  unfold valC
  split <;> omega
theorem kwO_t (h : kwO tx n t (.ok p) = true) : tkT tx n p = 1 := by
  have h : kwB tx n t p = true := h
  unfold kwB at h
  rw [Bool.and_eq_true, decide_eq_true_eq] at h
  exact h.1
theorem chO_t (h : chO tx n c (.ok p) = true) : tkT tx n p = 3 := by
  have h : chB tx n c p = true := h
  unfold chB at h
  rw [Bool.and_eq_true, decide_eq_true_eq] at h
  exact h.1
theorem nx_b (hp : p ≤ n) : tkE tx n p ≤ n ∧ p ≤ tkE tx n p ∧ (tkT tx n p ≠ 0 → p + 1 ≤ tkE tx n p) := by
  have b := tkE_b (tx := tx) hp
  exact ⟨b.2.1, b.2.2.1, fun h => b.2.2.2 h⟩
theorem valE_e {e : Int × Int} : valE tx n (.error e) = .error e := by
  unfold valE
  split <;> rfl
theorem valE_b (hp : p ≤ n) (h : valE tx n (.ok p) = .ok q) : p + 1 ≤ q ∧ q ≤ n := by
  have b := nx_b (tx := tx) hp
  unfold valE at h
  split at h
  · unfold nmE at h
    by_cases c : tkT tx n p = 2
    · by_cases c2 : 0 ≤ tkV tx n p ∧ tkV tx n p ≤ 9999
      · have e : nuE tx n 0 9999 (.ok p) = .ok p := by show (if _ then _ else _) = _; rw [if_pos c, if_pos c2]
        rw [e] at h
        have e2 : tkE tx n p = q := by injection h
        have := b.2.2 (by omega)
        omega
      · have e : nuE tx n 0 9999 (.ok p) = .error (2, (tkS tx n p : Nat)) := by show (if _ then _ else _) = _; rw [if_pos c, if_neg c2]
        rw [e] at h
        cases h
    · have e : nuE tx n 0 9999 (.ok p) = .error (1, (tkS tx n p : Nat)) := by show (if _ then _ else _) = _; rw [if_neg c]
      rw [e] at h
      cases h
  · rename_i c
    have vb := valI_b (tx := tx) (n := n) (st := .ok p)
    have e2 : tkE tx n p = q := by injection h
    have t1 : tkT tx n p = 1 := by
      apply Classical.byContradiction
      intro x
      apply c
      apply valI_no
      intro i hi
      rw [Bool.eq_false_iff]
      intro y
      exact x (kwO_t y)
    have := b.2.2 (by omega)
    omega
theorem ctE_ok {g : Bool} (h : ctE tx n g c st = .ok q) : g = true ∧ st = .ok q := by
  unfold ctE at h
  split at h
  · rename_i x; exact ⟨x, h⟩
  · cases st <;> cases h
theorem sgX_e {e : Int × Int} : sgX tx n (.error e) = .error e := by
  unfold sgX ctE
  split <;> rfl
theorem sgX_b (hp : p ≤ n) (h : sgX tx n (.ok p) = .ok q) : p + 1 ≤ q ∧ q ≤ n := by
  have b := nx_b (tx := tx) hp
  unfold sgX at h
  generalize hg : (chO tx n 60 (.ok p) || (chO tx n 61 (.ok p) || chO tx n 62 (.ok p))) = g at h
  cases g with
  | false => cases h
  | true =>
    have e2 : tkE tx n p = q := by injection h
    have t3 : tkT tx n p = 3 := by
      rw [Bool.or_eq_true, Bool.or_eq_true] at hg
      rcases hg with x | x | x <;> exact chO_t x
    have := b.2.2 (by omega)
    omega
theorem cmq_A : Af n (cmq tx n a) := by
  refine ⟨fun e => by unfold cmq; rw [valE_e, sgX_e, valE_e], fun p q hp h => ?_⟩
  have h : valE tx n (sgX tx n (valE tx n (.ok p))) = .ok q := h
  cases h1 : valE tx n (.ok p) with
  | error e => rw [h1, sgX_e, valE_e] at h; cases h
  | ok p1 =>
    have b1 := valE_b hp h1
    rw [h1] at h
    cases h2 : sgX tx n (.ok p1) with
    | error e => rw [h2, valE_e] at h; cases h
    | ok p2 =>
      have b2 := sgX_b b1.2 h2
      rw [h2] at h
      have b3 := valE_b b2.2 h
      show p + 3 ≤ q ∧ q ≤ n
      omega
theorem kwO_e {e : Int × Int} : kwO tx n t (.error e) = false := rfl
theorem cjL_e (m : Nat) {e : Int × Int} (h : r.1 = .error e) : cjL tx n f m r = r := by
  cases m with
  | zero => rfl
  | succ m => unfold cjL; rw [h, kwO_e, if_neg (by decide)]
theorem tsL_e (m : Nat) {e : Int × Int} (h : r.1 = .error e) : tsL tx n f m r = r := by
  cases m with
  | zero => rfl
  | succ m => unfold tsL; rw [h, kwO_e, if_neg (by decide)]
/-- what a loop keeps -/
theorem cjL_b (hf : Af n f) : ∀ (m : Nat) (r : Rq) (p q : Nat), p ≤ n → r.1 = .ok p → (cjL tx n f m r).1 = .ok q → p + (cjL tx n f m r).2.1.length ≤ q + r.2.1.length ∧ q ≤ n := by
  intro m
  induction m with
  | zero =>
    intro r p q hp h h2
    have h2 : r.1 = .ok q := h2
    rw [h] at h2
    have : p = q := by injection h2
    show p + r.2.1.length ≤ _ ∧ _
    omega
  | succ m ih =>
    intro r p q hp h h2
    unfold cjL at h2 ⊢
    split at h2
    · rename_i c
      rw [if_pos c]
      rw [h] at c
      have b := nx_b (tx := tx) hp
      have b1 := b.2.2 (by have := kwO_t c; omega)
      obtain ⟨R, hR⟩ : ∃ R : Rq, R = ((f (nxt tx n r.1)).1, r.2.1 ++ (f (nxt tx n r.1)).2.1 ++ [-24], fun b => r.2.2 b && (f (nxt tx n r.1)).2.2 b) := ⟨_, rfl⟩
      rw [← hR] at h2 ⊢
      have e1 : R.1 = (f (.ok (tkE tx n p))).1 := by rw [hR, h]; rfl
      have e2 : R.2.1.length = r.2.1.length + (f (.ok (tkE tx n p))).2.1.length + 1 := by
        rw [hR, h]
        show (r.2.1 ++ (f (.ok (tkE tx n p))).2.1 ++ [-24]).length = _
        rw [List.length_append, List.length_append, List.length_singleton]
      cases e : (f (.ok (tkE tx n p))).1 with
      | error x =>
        rw [e] at e1
        rw [cjL_e m e1, e1] at h2
        cases h2
      | ok p2 =>
        rw [e] at e1
        have a1 := hf.2 (tkE tx n p) p2 b.1 e
        have i := ih R p2 q a1.2 e1 h2
        omega
    · rename_i c
      rw [if_neg c]
      have h2 : r.1 = .ok q := h2
      rw [h] at h2
      have : p = q := by injection h2
      omega
theorem cnj_A (hf : Af n f) : Af n (cnj tx n f) := by
  refine ⟨fun e => by unfold cnj; rw [cjL_e 200 (hf.1 e)]; exact hf.1 e, fun p q hp h => ?_⟩
  unfold cnj at h ⊢
  cases e : (f (.ok p)).1 with
  | error x => rw [cjL_e 200 e, e] at h; cases h
  | ok p2 =>
    have a1 := hf.2 p p2 hp e
    have i := cjL_b hf 200 (f (.ok p)) p2 q a1.2 e h
    omega
theorem tsL_b (hf : Af n f) : ∀ (m : Nat) (r : Rq) (p q : Nat), p ≤ n → r.1 = .ok p → (tsL tx n f m r).1 = .ok q → p + (tsL tx n f m r).2.1.length ≤ q + r.2.1.length ∧ q ≤ n := by
  intro m
  induction m with
  | zero =>
    intro r p q hp h h2
    have h2 : r.1 = .ok q := h2
    rw [h] at h2
    have : p = q := by injection h2
    show p + r.2.1.length ≤ _ ∧ _
    omega
  | succ m ih =>
    intro r p q hp h h2
    unfold tsL at h2 ⊢
    split at h2
    · rename_i c
      rw [if_pos c]
      rw [h] at c
      have b := nx_b (tx := tx) hp
      have b1 := b.2.2 (by have := kwO_t c; omega)
      obtain ⟨R, hR⟩ : ∃ R : Rq, R = ((cnj tx n f (nxt tx n r.1)).1, r.2.1 ++ (cnj tx n f (nxt tx n r.1)).2.1 ++ [-25], fun b => r.2.2 b || (cnj tx n f (nxt tx n r.1)).2.2 b) := ⟨_, rfl⟩
      rw [← hR] at h2 ⊢
      have e1 : R.1 = (cnj tx n f (.ok (tkE tx n p))).1 := by rw [hR, h]; rfl
      have e2 : R.2.1.length = r.2.1.length + (cnj tx n f (.ok (tkE tx n p))).2.1.length + 1 := by
        rw [hR, h]
        show (r.2.1 ++ (cnj tx n f (.ok (tkE tx n p))).2.1 ++ [-25]).length = _
        rw [List.length_append, List.length_append, List.length_singleton]
      cases e : (cnj tx n f (.ok (tkE tx n p))).1 with
      | error x =>
        rw [e] at e1
        rw [tsL_e m e1, e1] at h2
        cases h2
      | ok p2 =>
        rw [e] at e1
        have a1 := (cnj_A hf).2 (tkE tx n p) p2 b.1 e
        have i := ih R p2 q a1.2 e1 h2
        omega
    · rename_i c
      rw [if_neg c]
      have h2 : r.1 = .ok q := h2
      rw [h] at h2
      have : p = q := by injection h2
      omega
theorem tst_A (hf : Af n f) : Af n (tst tx n f) := by
  refine ⟨fun e => by unfold tst; rw [tsL_e 200 ((cnj_A hf).1 e)]; exact (cnj_A hf).1 e, fun p q hp h => ?_⟩
  unfold tst at h ⊢
  cases e : (cnj tx n f (.ok p)).1 with
  | error x => rw [tsL_e 200 e, e] at h; cases h
  | ok p2 =>
    have a1 := (cnj_A hf).2 p p2 hp e
    have i := tsL_b hf 200 (cnj tx n f (.ok p)) p2 q a1.2 e h
    omega
theorem fac_A : ∀ k : Nat, Af n (fac tx n a k) := by
  intro k
  induction k with
  | zero =>
    refine ⟨fun e => (cmq_A (a := a)).1 e, fun p q hp h => ?_⟩
    unfold fac at h ⊢
    split at h
    · cases h
    · rename_i c1
      rw [if_neg c1]
      split at h
      · cases h
      · rename_i c2
        rw [if_neg c2]
        exact cmq_A.2 p q hp h
  | succ k ih =>
    refine ⟨fun e => (cmq_A (a := a)).1 e, fun p q hp h => ?_⟩
    have b := nx_b (tx := tx) hp
    unfold fac at h ⊢
    split at h
    · rename_i c1
      rw [if_pos c1]
      have b1 := b.2.2 (by have := kwO_t c1; omega)
      have a1 := ih.2 (tkE tx n p) q b.1 h
      show p + ((fac tx n a k (.ok (tkE tx n p))).2.1 ++ [-23]).length ≤ q ∧ q ≤ n
      rw [List.length_append, List.length_singleton]
      omega
    · rename_i c1
      rw [if_neg c1]
      split at h
      · rename_i c2
        rw [if_pos c2]
        have b1 := b.2.2 (by have := chO_t c2; omega)
        have h : ceE tx n 41 (tst tx n (fac tx n a k) (.ok (tkE tx n p))).1 = .ok q := h
        cases e : (tst tx n (fac tx n a k) (.ok (tkE tx n p))).1 with
        | error x => rw [e] at h; cases h
        | ok p2 =>
          have a1 := (tst_A (tx := tx) ih).2 (tkE tx n p) p2 b.1 e
          rw [e] at h
          have h : (if chB tx n 41 p2 = true then _ else _) = Except.ok q := h
          split at h
          · have e2 : tkE tx n p2 = q := by injection h
            have b2 := nx_b (tx := tx) a1.2
            show p + (tst tx n (fac tx n a k) (.ok (tkE tx n p))).2.1.length ≤ q ∧ q ≤ n
            omega
          · cases h
      · rename_i c2
        rw [if_neg c2]
        exact cmq_A.2 p q hp h
theorem rem_0 (ho : okn n st) (h : rem n st = 0) : kwO tx n t st = false := by
  cases st with
  | error e => rfl
  | ok p =>
    have h1 := ho p rfl
    have h2 : n - p = 0 := h
    rw [Bool.eq_false_iff]
    intro c
    have t1 := kwO_t c
    have b := nx_b (tx := tx) h1
    have := b.2.2 (by omega)
    omega
theorem rem_f (hf : Af n f) (ho : okn n st) (h : kwO tx n t st = true) : rem n (f (nxt tx n st)).1 < rem n st ∧ okn n (f (nxt tx n st)).1 := by
  obtain ⟨p, rfl, g⟩ := kwO_ok h
  have hp := ho p rfl
  have b := nx_b (tx := tx) hp
  have b1 := b.2.2 (by have := kwO_t h; omega)
  show rem n (f (.ok (tkE tx n p))).1 < n - p ∧ okn n (f (.ok (tkE tx n p))).1
  cases e : (f (.ok (tkE tx n p))).1 with
  | error x => exact ⟨show 0 < n - p by omega, fun q h => by cases h⟩
  | ok q =>
    have := hf.2 _ q b.1 e
    exact ⟨show n - q < n - p by omega, fun y h => by cases h; omega⟩
/-- the class's loop is the test -/
theorem flL_ok (hf : Af n f) (hn : n ≤ 200) : ∀ (m m1 m2 : Nat) (st : Et) (A B : Nat → Bool) (C C2 : List Int), okn n st → rem n st ≤ m → rem n st ≤ m1 → rem n st ≤ m2 → (flL tx n f m st A B) = ((tsL tx n f m1 ((cjL tx n f m2 (st, C, B)).1, C2, fun b => A b || (cjL tx n f m2 (st, C, B)).2.2 b)).1, (tsL tx n f m1 ((cjL tx n f m2 (st, C, B)).1, C2, fun b => A b || (cjL tx n f m2 (st, C, B)).2.2 b)).2.2) := by
  have cjN : ∀ (m : Nat) (r : Rq), kwO tx n 0 r.1 = false → cjL tx n f m r = r := by
    intro m r h
    cases m with
    | zero => rfl
    | succ m => unfold cjL; rw [h, if_neg (by decide)]
  have tsN : ∀ (m : Nat) (r : Rq), kwO tx n 14 r.1 = false → tsL tx n f m r = r := by
    intro m r h
    cases m with
    | zero => rfl
    | succ m => unfold tsL; rw [h, if_neg (by decide)]
  intro m
  induction m with
  | zero =>
    intro m1 m2 st A B C C2 ho h0 h1 h2
    rw [cjN m2 (st, C, B) (rem_0 (st := st) ho (by omega)), tsN m1 _ (rem_0 (st := st) ho (by omega))]
    rfl
  | succ m ih =>
    intro m1 m2 st A B C C2 ho h0 h1 h2
    by_cases c : kwO tx n 0 st = true
    · have rf := rem_f hf ho c
      obtain ⟨m2, rfl⟩ : ∃ m', m2 = m' + 1 := ⟨m2 - 1, by omega⟩
      have e : cjL tx n f (m2 + 1) (st, C, B) = cjL tx n f m2 ((f (nxt tx n st)).1, C ++ (f (nxt tx n st)).2.1 ++ [-24], fun b => B b && (f (nxt tx n st)).2.2 b) := by
        show (if kwO tx n 0 st = true then _ else _) = _
        rw [if_pos c]
      rw [e]
      have i := ih m1 m2 (f (nxt tx n st)).1 A (fun b => B b && (f (nxt tx n st)).2.2 b) (C ++ (f (nxt tx n st)).2.1 ++ [-24]) C2 rf.2 (by omega) (by omega) (by omega)
      rw [← i]
      show (if kwO tx n 0 st = true then _ else _) = _
      rw [if_pos c]
    · have c' : kwO tx n 0 st = false := Bool.eq_false_iff.mpr c
      rw [cjN m2 (st, C, B) c']
      by_cases c3 : kwO tx n 14 st = true
      · have rf := rem_f hf ho c3
        obtain ⟨m1, rfl⟩ : ∃ m', m1 = m' + 1 := ⟨m1 - 1, by omega⟩
        have r2 : rem n (f (nxt tx n st)).1 ≤ 200 := by
          have : rem n st ≤ n := by cases st with
            | ok p => exact Nat.sub_le _ _
            | error e => exact Nat.zero_le _
          omega
        have i := ih m1 200 (f (nxt tx n st)).1 (fun b => A b || B b) (f (nxt tx n st)).2.2 (f (nxt tx n st)).2.1 (C2 ++ (cnj tx n f (nxt tx n st)).2.1 ++ [-25]) rf.2 (by omega) (by omega) r2
        have e : tsL tx n f (m1 + 1) (st, C2, fun b => A b || B b) = tsL tx n f m1 ((cnj tx n f (nxt tx n st)).1, C2 ++ (cnj tx n f (nxt tx n st)).2.1 ++ [-25], fun b => (A b || B b) || (cnj tx n f (nxt tx n st)).2.2 b) := by
          show (if kwO tx n 14 st = true then _ else _) = _
          rw [if_pos c3]
        show _ = ((tsL tx n f (m1 + 1) (st, C2, fun b => A b || B b)).1, (tsL tx n f (m1 + 1) (st, C2, fun b => A b || B b)).2.2)
        rw [e]
        refine Eq.trans ?_ i
        show (if kwO tx n 0 st = true then _ else if kwO tx n 14 st = true then _ else _) = _
        rw [if_neg c, if_pos c3]
      · have c3' : kwO tx n 14 st = false := Bool.eq_false_iff.mpr c3
        rw [tsN m1 (st, C2, fun b => A b || B b) c3']
        show (if kwO tx n 0 st = true then _ else if kwO tx n 14 st = true then _ else _) = _
        rw [if_neg c, if_neg c3]
theorem tst_fl (hf : Af n f) (hn : n ≤ 200) (ho : okn n (f st).1) : flL tx n f 200 (f st).1 (fun _ => false) (f st).2.2 = ((tst tx n f st).1, (tst tx n f st).2.2) := by
  have r2 : rem n (f st).1 ≤ 200 := by
    cases e : (f st).1 with
    | ok p => have : n - p ≤ 200 := by omega
              exact this
    | error e => exact Nat.zero_le _
  have i := flL_ok (tx := tx) hf hn 200 200 200 (f st).1 (fun _ => false) (f st).2.2 (f st).2.1 (cnj tx n f st).2.1 ho r2 r2 r2
  rw [i]
  have e : ((cjL tx n f 200 ((f st).1, (f st).2.1, (f st).2.2)).1, (cnj tx n f st).2.1, fun b => false || (cjL tx n f 200 ((f st).1, (f st).2.1, (f st).2.2)).2.2 b) = cnj tx n f st := by
    show (_, _, _) = cjL tx n f 200 (f st)
    simp only [Bool.false_or]
    rfl
  rw [e]
  rfl
end DK

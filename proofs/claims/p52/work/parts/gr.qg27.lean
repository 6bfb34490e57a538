/-! THE LAW'S PURE SIDE 37: operations on rows: what they answer, what they keep -/
section LY
variable {a a2 : Rw} {Tm p r x y v bud q : Int} {t : Nat}
/-- what every step of the law keeps of the row -/
def GE (Tm : Int) (a a2 : Rw) : Prop := WF (Tm + 200) a2 ∧ LI a2 ∧ a 9 ≤ a2 9 ∧ nen a ≤ nen a2
theorem GE_st (hT : Tm + 400 ≤ 1000000) (w2 : WF Tm a2) (l2 : LI a2) (h : a2 9 = a 9 ∧ ∀ k : Nat, (k : Int) < a 9 → a2 (40 + 10 * k + 6) = a (40 + 10 * k + 6)) : GE Tm a a2 := ⟨WF_mono w2 (by omega) (by omega), l2, by omega, by rw [nen_cg h.1 h.2]; exact Int.le_refl _⟩
theorem GE_rf (hT : Tm + 400 ≤ 1000000) (hw : WF Tm a) (hl : LI a) : GE Tm a a := GE_st hT hw hl ⟨rfl, fun _ _ => rfl⟩
theorem nen_pas (hw : WF Tm a) (hT : Tm + 1 ≤ 1000000) : nen a ≤ nen (pas a) := by
  obtain ⟨p1, p2, p3⟩ := pas_ok hw hT
  have u9 := hw.1.2.2.2.2.2.2.2.2.2
  unfold nen
  rw [p3 9 (by omega) (by omega) (by omega)]
  refine zsum_mono _ (fun i hi => ?_)
  obtain ⟨-, b2, -⟩ := pas_b hw hT (j := i) (by omega)
  by_cases c : a (40 + 10 * i + 6) = 0
  · rw [if_pos c]
    split <;> omega
  · rw [if_neg c, if_neg (by rw [b2 c 6 (by omega)]; exact c)]
    exact Int.le_refl _
theorem pasN_GE (hw : WF Tm a) (hl : LI a) : ∀ n : Nat, Tm + n ≤ 1000000 → LI (pasN n a) ∧ nen a ≤ nen (pasN n a) := by
  intro n
  induction n with
  | zero => exact fun _ => ⟨hl, Int.le_refl _⟩
  | succ n ih =>
    intro hT
    obtain ⟨i1, i2⟩ := ih (by omega)
    obtain ⟨p1, p2, p3⟩ := pasN_ok hw n (by omega)
    have n1 := nen_pas p1 (by omega)
    exact ⟨LI_pas i1 p1, by show nen a ≤ nen (pas (pasN n a)); omega⟩
theorem spTurn_ok (hw : WF Tm a) (hl : LI a) (hT : Tm + 400 ≤ 1000000) (c : 1 ≤ p ∧ p ≤ 200) : (spTurn t a p).1 = 0 ∧ (0 ≤ (spTurn t a p).2.1 ∧ (spTurn t a p).2.1 ≤ 12) ∧ GE Tm a (spTurn t a p).2.2.2 := by
  have u9 := hw.1.2.2.2.2.2.2.2.2.2
  have wt := WF_spTurn (t := t) (p := p) hw hT
  unfold spTurn at wt ⊢
  rw [if_pos c] at wt ⊢
  obtain ⟨g1, g2⟩ := pasN_GE hw hl p.toNat (by omega)
  obtain ⟨p1, p2, p3⟩ := pasN_ok hw p.toNat (by omega)
  have e9 := p3 9 (by omega) (by omega) (by omega)
  have n1 := nen_cnt (a := a) (by omega)
  have n2 := nen_cnt (a := pasN p.toNat a) (by omega)
  have c1 := cnt_r hw 0
  have c2 := cnt_r p1 0
  refine ⟨rfl, ?_, wt, g1, ?_, g2⟩
  · show 0 ≤ cnt a 0 - cnt (pasN p.toNat a) 0 ∧ cnt a 0 - cnt (pasN p.toNat a) 0 ≤ 12
    omega
  · show a 9 ≤ pasN p.toNat a 9
    omega
theorem spAdd_ok (hw : WF Tm a) (hl : LI a) (hT : Tm + 400 ≤ 1000000) {w s : Int} (c : vC a x y) (c2 : (1 ≤ w ∧ w ≤ 99) ∧ (1 ≤ s ∧ s ≤ 999)) : (spAdd a x y w s).1 = 0 ∧ (-3 ≤ (spAdd a x y w s).2.1 ∧ (spAdd a x y w s).2.1 ≤ 1000) ∧ GE Tm a (spAdd a x y w s).2.2.2 := by
  have u9 := hw.1.2.2.2.2.2.2.2.2.2
  have wa := WF_spAdd (p := x) (r := y) (x := w) (q := s) hw
  have la := LI_spAdd (x := x) (y := y) (w := w) (s := s) hl hw
  have wm := WF_mono hw (T2 := Tm + 200) (by omega) (by omega)
  unfold spAdd at wa la ⊢
  rw [if_pos c, if_pos c2] at wa la ⊢
  split
  · exact ⟨rfl, ⟨by show (-3 : Int) ≤ -2; omega, by show (-2 : Int) ≤ 1000; omega⟩, GE_rf hT hw hl⟩
  · rename_i c3
    rw [if_neg c3] at wa la
    split
    · rename_i c4
      rw [if_pos c4] at wa la
      refine ⟨rfl, ⟨by show -3 ≤ a 9; omega, by show a 9 ≤ 1000; omega⟩, WF_mono wa (by omega) (by omega), la, ?_, ?_⟩
      · show a 9 ≤ a 9 + 1
        omega
      · show nen a ≤ nen (nbR a (a 0 * y + x) w s 0)
        unfold nen
        rw [show nbR a (a 0 * y + x) w s 0 9 = a 9 + 1 from rfl, show (a 9 + 1).toNat = (a 9).toNat + 1 by omega]
        show _ ≤ zsum _ (a 9).toNat + _
        rw [zsum_congr (f := fun k => if nbR a (a 0 * y + x) w s 0 (40 + 10 * k + 6) = 0 then (0 : Int) else 1) (g := fun k => if a (40 + 10 * k + 6) = 0 then 0 else 1) (a 9).toNat (fun i hi => by rw [nbR_old (i := 40 + 10 * i + 6) _ _ _ _ (by omega) (by omega)])]
        show _ ≤ _ + (if nbR a (a 0 * y + x) w s 0 (40 + 10 * (a 9).toNat + 6) = 0 then (0 : Int) else 1)
        split <;> omega
    · exact ⟨rfl, ⟨by show (-3 : Int) ≤ -3; omega, by show (-3 : Int) ≤ 1000; omega⟩, GE_rf hT hw hl⟩
theorem spSetD_ok (hw : WF Tm a) (hl : LI a) (hT : Tm + 400 ≤ 1000000) (c : vD a p) (c2 : 0 ≤ r ∧ r ≤ 99) : (spSetD a p r).1 = 0 ∧ (0 ≤ (spSetD a p r).2.1 ∧ (spSetD a p r).2.1 ≤ 99) ∧ GE Tm a (spSetD a p r).2.2.2 := by
  have w7 := hw.1.2.2.2.2.2.2.2
  have wa := WF_spSetD (p := p) (r := r) hw
  have la := LI_spSetD (p := p) (r := r) hl hw
  have g := hw.2.1 p.toNat (by have := c.1; have := c.2; omega)
  unfold spSetD at wa la ⊢
  rw [if_pos c, if_pos c2] at wa la ⊢
  exact ⟨rfl, g.2.2, GE_st hT wa la ⟨up_ne _ _ (by omega), fun k hk => up_ne _ _ (by have := c.1; have := c.2; omega)⟩⟩
theorem spSetT_ok (hw : WF Tm a) (hl : LI a) (hT : Tm + 400 ≤ 1000000) (c : vT a p) (c2 : 0 ≤ r ∧ r ≤ 99) : (spSetT a p r).1 = 0 ∧ (0 ≤ (spSetT a p r).2.1 ∧ (spSetT a p r).2.1 ≤ 99) ∧ GE Tm a (spSetT a p r).2.2.2 := by
  have w7 := hw.1.2.2.2.2.2.2.2
  have wa := WF_spSetT (p := p) (r := r) hw
  have la := LI_spSetT (p := p) (r := r) hl hw
  have g := hw.2.2.1 p.toNat (by have := c.1; have := c.2; omega)
  unfold spSetT at wa la ⊢
  rw [if_pos c, if_pos c2] at wa la ⊢
  exact ⟨rfl, g.2, GE_st hT wa la ⟨up_ne _ _ (by omega), fun k hk => up_ne _ _ (by have := c.1; have := c.2; omega)⟩⟩
theorem spLev_ok (hw : WF Tm a) (hl : LI a) (hT : Tm + 400 ≤ 1000000) (c : 0 ≤ p ∧ p ≤ 1000) : (spLev t a p).1 = 0 ∧ (0 ≤ (spLev t a p).2.1 ∧ (spLev t a p).2.1 ≤ 1000) ∧ GE Tm a (spLev t a p).2.2.2 := by
  have wa := WF_spLev (t := t) (p := p) hw
  have la := LI_spLev (t := t) (p := p) hl hw
  unfold spLev at wa la ⊢
  rw [if_pos c] at wa la ⊢
  exact ⟨rfl, hw.1.2.2.1, GE_st hT wa la ⟨up_ne (j := 2) (i := 9) a p (by omega), fun k hk => up_ne (j := 2) (i := 40 + 10 * k + 6) a p (by omega)⟩⟩
theorem spWipe_ok (hw : WF Tm a) (hl : LI a) (hT : Tm + 400 ≤ 1000000) (c : vC a p r) : (spWipe a p r).1 = 0 ∧ (0 ≤ (spWipe a p r).2.1 ∧ (spWipe a p r).2.1 ≤ 99) ∧ GE Tm a (spWipe a p r).2.2.2 ∧ (spWipe a p r).2.2.2 (160 + (a 0 * r + p).toNat) = 0 ∧ (spWipe a p r).2.2.2 0 = a 0 ∧ (spWipe a p r).2.2.2 1 = a 1 := by
  have w7 := hw.1.2.2.2.2.2.2.2
  have wa := WF_spWipe (p := p) (r := r) hw
  have la := LI_spWipe (p := p) (r := r) hl hw
  have l := cel_lt c
  have g := hw.2.2.2.2.1 (a 0 * r + p).toNat (by omega)
  unfold spWipe at wa la ⊢
  rw [if_pos c] at wa la ⊢
  exact ⟨rfl, g, GE_st hT wa la ⟨up_ne _ _ (by omega), fun k hk => up_ne _ _ (by omega)⟩, up_self _ _ _, up_ne _ _ (by omega), up_ne _ _ (by omega)⟩
theorem spDrop_ok (hw : WF Tm a) (hl : LI a) (hT : Tm + 400 ≤ 1000000) (c : vC a p r) (c2 : 1 ≤ v ∧ v ≤ 99) : (spDrop a p r v).1 = 0 ∧ (1 ≤ (spDrop a p r v).2.1 ∧ (spDrop a p r v).2.1 ≤ 99) ∧ GE Tm a (spDrop a p r v).2.2.2 := by
  have w7 := hw.1.2.2.2.2.2.2.2
  have wa := WF_spDrop (p := p) (r := r) (x := v) hw
  have la := LI_spDrop (p := p) (r := r) (v := v) hl hw
  have l := cel_lt c
  have g := hw.2.2.2.2.1 (a 0 * r + p).toNat (by omega)
  unfold spDrop at wa la ⊢
  rw [if_pos c, if_pos c2] at wa la ⊢
  unfold soaR at wa la ⊢
  refine ⟨rfl, ?_, GE_st hT wa la ⟨up_ne _ _ (by omega), fun k hk => up_ne _ _ (by omega)⟩⟩
  show 1 ≤ up a _ _ _ ∧ up a _ _ _ ≤ 99
  rw [up_self]
  split <;> omega
theorem putR_st {b : Nat} {c : Int} (hw : WF Tm a) (hb : (b : Int) < a 9) : putR a b c 9 = a 9 ∧ ∀ k : Nat, (k : Int) < a 9 → putR a b c (40 + 10 * k + 6) = a (40 + 10 * k + 6) := by
  unfold putR
  refine ⟨?_, fun k hk => ?_⟩
  · rw [up_ne _ _ (by omega), up_ne _ _ (by omega), up_ne _ _ (by omega)]
  · rw [up_ne _ _ (by omega), up_ne _ _ (by omega), up_ne _ _ (by omega)]
theorem spCarry_ok (hw : WF Tm a) (hl : LI a) (hT : Tm + 400 ≤ 1000000) (cb : vB a p) (c : vC a x y) : (spCarry a p x y).1 = 0 ∧ (-3 ≤ (spCarry a p x y).2.1 ∧ (spCarry a p x y).2.1 ≤ 1000) ∧ GE Tm a (spCarry a p x y).2.2.2 := by
  have wn := WF_nc hw
  have wa := WF_spCarry (p := p) (r := x) (x := y) hw
  have la := LI_spCarry (p := p) (x := x) (y := y) hl hw
  have hb : ((p.toNat : Nat) : Int) < a 9 := by have := cb.1; have := cb.2; omega
  have g := hw.2.2.2.1 p.toNat hb
  unfold spCarry at wa la ⊢
  rw [if_pos ⟨cb, c⟩] at wa la ⊢
  split
  · rename_i c6
    rw [if_pos c6] at wa la
    split
    · rename_i c7
      rw [if_pos c7] at wa la
      exact ⟨rfl, ⟨by show -3 ≤ a _; omega, by show a _ ≤ 1000; omega⟩, GE_st hT wa la (putR_st hw hb)⟩
    · exact ⟨rfl, ⟨by show (-3 : Int) ≤ -3; omega, by show (-3 : Int) ≤ 1000; omega⟩, GE_rf hT hw hl⟩
  · exact ⟨rfl, ⟨by show (-3 : Int) ≤ -2; omega, by show (-2 : Int) ≤ 1000; omega⟩, GE_rf hT hw hl⟩
theorem spBlow_ok (hw : WF Tm a) (hl : LI a) (hT : Tm + 400 ≤ 1000000) (cb : vB a p) (c : (-300 ≤ x ∧ x ≤ 300) ∧ (-300 ≤ y ∧ y ≤ 300)) : (spBlow a p x y).1 = 0 ∧ (-2 ≤ (spBlow a p x y).2.1 ∧ (spBlow a p x y).2.1 ≤ 600) ∧ GE Tm a (spBlow a p x y).2.2.2 := by
  have wa := WF_spBlow (p := p) (r := x) (x := y) hw
  have la := LI_spBlow (p := p) (x := x) (y := y) hl hw
  have hb : ((p.toNat : Nat) : Int) < a 9 := by have := cb.1; have := cb.2; omega
  unfold spBlow at wa la ⊢
  rw [if_pos cb, if_pos c] at wa la ⊢
  split
  · rename_i c6
    rw [if_pos c6] at wa la
    have i1 := iab_300 (limI_b (a (40 + 10 * p.toNat + 4) + x))
    have i2 := iab_300 (limI_b (a (40 + 10 * p.toNat + 5) + y))
    refine ⟨rfl, ⟨by show -2 ≤ iab _ + iab _; omega, by show iab _ + iab _ ≤ 600; omega⟩, GE_st hT wa la ?_⟩
    show bloR a p.toNat x y 9 = a 9 ∧ ∀ k : Nat, (k : Int) < a 9 → bloR a p.toNat x y (40 + 10 * k + 6) = a (40 + 10 * k + 6)
    unfold bloR
    refine ⟨?_, fun k hk => ?_⟩
    · rw [up_ne _ _ (by omega), up_ne _ _ (by omega)]
    · rw [up_ne _ _ (by omega), up_ne _ _ (by omega)]
  · exact ⟨rfl, ⟨by show (-2 : Int) ≤ -2; omega, by show (-2 : Int) ≤ 600; omega⟩, GE_rf hT hw hl⟩
theorem pulG_b {b : Nat} {D : Int → Int} (hw : WF Tm a) (hb : (b : Int) < a 9) (h0 : a (40 + 10 * b + 6) = 0) {tt : Int} (hS : Sol a (wgt a b) tt D) : ∀ (m : Nat) (c s : Int), inN a c → D c < 1000000 → 0 ≤ s → s ≤ bud → 0 ≤ (pulG a (wgt a b) D tt bud m c s).2 ∧ (pulG a (wgt a b) D tt bud m c s).2 ≤ bud := by
  intro m
  induction m with
  | zero => intro c s hc hl h1 h2; exact ⟨h1, h2⟩
  | succ m ih =>
    intro c s hc hl h1 h2
    rw [pulG_s]
    by_cases ct : c = tt
    · rw [if_pos ct]; exact ⟨h1, h2⟩
    · rw [if_neg ct]
      split
      · rename_i c2
        obtain ⟨n1, n2, n3, n4, n5⟩ := stp_on hw hb h0 hS hc hl ct
        have k := (wgt_ok hw b _ n1).1
        exact ih _ _ n1 (by omega) (by omega) c2
      · exact ⟨h1, h2⟩
theorem spPull_ok {D : Int → Int} (hw : WF Tm a) (hl : LI a) (hT : Tm + 400 ≤ 1000000) (cb : vB a p) (c : vC a x y) (c2 : 0 ≤ bud ∧ bud ≤ 99) (hS : Sol a (wgt a p.toNat) (a 0 * y + x) D) : (spPull a D p x y bud).1 = 0 ∧ (-3 ≤ (spPull a D p x y bud).2.1 ∧ (spPull a D p x y bud).2.1 ≤ 99) ∧ GE Tm a (spPull a D p x y bud).2.2.2 := by
  have wa := WF_pull (p := p) (r := x) (x := y) (bud := bud) (D := D) hw (fun _ _ => hS)
  have la := LI_spPull (p := p) (x := x) (y := y) (bud := bud) (D := D) hl hw
  have hb : ((p.toNat : Nat) : Int) < a 9 := by have := cb.1; have := cb.2; omega
  have g := hw.2.2.2.1 p.toNat hb
  unfold spPull at wa la ⊢
  rw [if_pos ⟨cb, c⟩, if_pos (by omega)] at wa la ⊢
  split
  · rename_i c6
    rw [if_pos c6] at wa la
    split
    · rename_i c7
      rw [if_pos c7] at wa la
      have k := pulG_b (bud := bud) hw hb c6 hS 100 (a (40 + 10 * p.toNat)) 0 g.1 c7 (by omega) (by omega)
      exact ⟨rfl, ⟨by show -3 ≤ (pulG _ _ _ _ _ _ _ _).2; omega, by show (pulG _ _ _ _ _ _ _ _).2 ≤ 99; omega⟩, GE_st hT wa la (putR_st hw hb)⟩
    · exact ⟨rfl, ⟨by show (-3 : Int) ≤ -3; omega, by show (-3 : Int) ≤ 99; omega⟩, GE_rf hT hw hl⟩
  · exact ⟨rfl, ⟨by show (-3 : Int) ≤ -2; omega, by show (-2 : Int) ≤ 99; omega⟩, GE_rf hT hw hl⟩
end LY

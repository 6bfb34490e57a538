/-! THE PURE SIDE 34: pull -/
def pulG (a : Rw) (w D : Int → Int) (t bud : Int) : Nat → Int → Int → Int × Int
  | 0, c, s => (c, s)
  | m + 1, c, s => if c = t then (c, s) else if s + w (stp a w D c) ≤ bud then pulG a w D t bud m (stp a w D c) (s + w (stp a w D c)) else (c, s)
def spPull (a : Rw) (D : Int → Int) (p x y bud : Int) : Sp := if vB a p ∧ vC a x y then (if 0 ≤ bud ∧ bud ≤ 9999 then (if a (40 + 10 * p.toNat + 6) = 0 then (if D (a (40 + 10 * p.toNat)) < 1000000 then (0, (pulG a (wgt a p.toNat) D (a 0 * y + x) bud 100 (a (40 + 10 * p.toNat)) 0).2, true, putR a p.toNat (pulG a (wgt a p.toNat) D (a 0 * y + x) bud 100 (a (40 + 10 * p.toNat)) 0).1) else (0, -3, false, a)) else (0, -2, false, a)) else (2, 0, false, a)) else (1, 0, false, a)
section CZ
variable {S : zS} {d n k mi : Nat} {a : Rw} {T t p r x v bud : Int} {b : Nat} {w D g : Int → Int} {u : Nat → Rw} {av : List zV}
theorem pulG_s (a : Rw) (w D : Int → Int) (t bud : Int) (m : Nat) (c s : Int) : pulG a w D t bud (m + 1) c s = if c = t then (c, s) else if s + w (stp a w D c) ≤ bud then pulG a w D t bud m (stp a w D c) (s + w (stp a w D c)) else (c, s) := rfl
/-- how many cells lie nearer -/
def ner (a : Rw) (D : Int → Int) (c : Int) : Int := zsum (fun i => if D (i : Int) < D c then 1 else 0) (a 0 * a 1).toNat
theorem ner_ge (c : Int) : 0 ≤ ner a D c := zsum_ge _ _ (fun i _ => by split <;> omega)
theorem ner_lt (hw : WF T a) {c e : Int} (he : inN a e) (h : D e < D c) : ner a D e < ner a D c := by
  have uN := WF_nc hw
  have e1 := he.1
  have e2 := he.2
  obtain ⟨i, rfl⟩ : ∃ i : Nat, e = i := ⟨e.toNat, by omega⟩
  refine zsum_lt (k := i) _ (by omega) (fun j _ => ?_) (by rw [if_neg (by omega), if_pos h]; omega)
  split
  · rw [if_pos (by omega)]; exact Int.le_refl 1
  · split <;> omega
theorem ner_0 (hw : WF T a) {c : Int} (hc : inN a c) : ner a D c ≤ 99 := by
  have uN := WF_nc hw
  have e1 := hc.1
  have e2 := hc.2
  obtain ⟨i, rfl⟩ : ∃ i : Nat, c = i := ⟨c.toNat, by omega⟩
  have z : ∀ m : Nat, zsum (fun _ => (1 : Int)) m = m := by intro m; induction m with | zero => rfl | succ m ih => unfold zsum; rw [ih]; omega
  have : ner a D i < zsum (fun _ => 1) (a 0 * a 1).toNat := zsum_lt (k := i) _ (by omega) (fun j _ => by split <;> omega) (by rw [if_neg (by omega)]; omega)
  rw [z] at this
  omega
theorem occ_own (hw : WF T a) (hb : (b : Int) < a 9) (h0 : a (40 + 10 * b + 6) = 0) : occ a (a (40 + 10 * b)) b = -1 := by
  rw [occ_other hw, occ_here hw hb h0]; exact Or.inr rfl
theorem fre_occ (hw : WF T a) (hb : (b : Int) < a 9) (h0 : a (40 + 10 * b + 6) = 0) {c : Int} (h : fre a b c = true) : occ a c b = -1 := by
  unfold fre intr at h
  simp only [Bool.or_eq_true, Bool.and_eq_true, decide_eq_true_eq] at h
  rcases h with h | h
  · rw [h]; exact occ_own hw hb h0
  · exact h.2
theorem wgt_fre {c : Int} (h : wgt a b c < 1000000) : fre a b c = true := by
  unfold wgt at h
  by_cases z : fre a b c = true
  · exact z
  · rw [if_neg z] at h; omega
/-- one step of the way -/
theorem stp_on (hw : WF T a) (hb : (b : Int) < a 9) (h0 : a (40 + 10 * b + 6) = 0) (hS : Sol a (wgt a b) t D) {c : Int} (hc : inN a c) (hl : D c < 1000000) (hct : c ≠ t) : inN a (stp a (wgt a b) D c) ∧ stp a (wgt a b) D c = bst a (wgt a b) D c ∧ D c = wgt a b (stp a (wgt a b) D c) + D (stp a (wgt a b) D c) ∧ D (stp a (wgt a b) D c) < D c ∧ occ a (stp a (wgt a b) D c) b = -1 := by
  have e := (hS.2 c hc).2 hct
  have hW := wgt_ok hw b
  have z : thr (wgt a b) D (bst a (wgt a b) D c) < 1000000 := by split at e <;> omega
  rw [if_pos z] at e
  have es : stp a (wgt a b) D c = bst a (wgt a b) D c := if_pos z
  have hi := bst_in (a := a) (w := wgt a b) (D := D) c (by omega)
  rw [thr_in hi] at e
  have wi := hW _ hi
  have dd := (hS.2 _ hi).1
  rw [es]
  exact ⟨hi, rfl, e, by omega, fre_occ hw hb h0 (wgt_fre (by omega))⟩
theorem zs_k1 {S : zS} {n o j o' j' : Nat} {v : Int32} : (zs_set S 0 n o j v).1 1 0 o' j' = S.1 1 0 o' j' := zs_oth (by omega)
theorem zcp_k1 {S : zS} {p n o m o' j' : Nat} : (zcp S p n o m).1 1 0 o' j' = S.1 1 0 o' j' := by
  show (if (1 : Nat) = 0 ∧ (0 : Nat) = n ∧ o' = o ∧ j' < m then S.1 0 p o j' else S.1 1 0 o' j') = _
  rw [if_neg (by omega)]
theorem c1s {p : Nat} (hp : p ≠ n) : ∃ S', zr_sem zF (d + 2) 1 [za 0 n 0, za 0 p 0] S = some (.inl none, S') ∧ ∀ o j, S'.1 1 0 o j = S.1 1 0 o j := by
  rw [ze_1]
  simp (disch := omega) only [c69b, c69d, c69t, c66s, c66o, c66e, zr0, zs_p, zcp_p]
  refine ⟨_, rfl, fun o j => ?_⟩
  simp (maxSteps := 1000000) only [zs_k1, zcp_k1]
theorem HC_Ft (H : HC S k u a) {S' : zS} (h : Ft S S') : HC S' k u a := by
  obtain ⟨h1, ⟨y, y1, y2, y3, y4⟩, h3, h4⟩ := H
  have e : ∀ n, S'.1 0 n = S.1 0 n := Ft_0 h
  refine ⟨by rw [e]; exact h1, ⟨y, y1, by rw [h.2 _ _ _ _ (by omega)]; exact y2, by rw [h.2 _ _ _ _ (by omega)]; exact y3, fun i hi => by rw [e]; exact y4 i hi⟩, h3, fun n hn => by rw [e]; exact h4 n hn⟩
/-- the record, after the distances -/
theorem crecQ (H0 : HC S k u a) (hw : WF T a) {Sx : zS} (hx : Ft S Sx) : ∃ S1, zr_sem zF (d + 3) 43 [za 1 0 1, za 0 0 0] Sx = some (.inl none, S1) ∧ Cb (S1.1 0 0) a ∧ (∀ o j, 6 ≤ o → S1.1 1 0 o j = Sx.1 1 0 o j) ∧ (∀ (S2 : zS) (v : Int) (a2 : Rw) (d mi : Nat) (av : List zV), Fc 0 S1 S2 → Cb (S2.1 0 0) a2 → zr_sem zF d mi av S = some (.inl (some (zi (zo v))), S2) → OC d mi av S k u a (0, v, true, a2)) := by
  have H := HC_Ft H0 hx
  obtain ⟨S1, e1, q1, q2, q3⟩ := c43 (d := d) H.1 hw H.2.1 H.2.2.1 H.2.2.2
  have e0 : S1.1 0 0 = Sx.1 0 0 := by funext o j; exact q3.2 0 0 o j (by omega) (by omega)
  obtain ⟨y, y1, y2, -⟩ := H.2.1
  refine ⟨S1, e1, by rw [e0]; exact H.1, fun o j ho => ?_, fun S2 v a2 d mi av hF hC h => ⟨S2, h, hC, ?_, fun n hn => ?_, fun k n o j x y => ?_⟩⟩
  · have r42 : zr_sem zF (d + 2) 42 [za 1 0 1, zi (Sx.1 1 0 1 1)] Sx = some (.inl (some (za 0 (4 + y) 0)), Sx) := by rw [y2]; exact c42 y1
    obtain ⟨S3, e3, q4⟩ := c1s (S := Sx) (n := 4 + y) (p := 0) (d := d) (by omega)
    rw [ze_43 r42, e3, zr0] at e1
    have e2 := Option.some.inj e1
    have e4 := (Prod.mk.inj e2).2
    rw [← e4, zs_oth (by omega), zs_oth (by omega)]
    exact q4 o j
  · obtain ⟨x, x1, x2, x3, x4⟩ := q1
    refine ⟨x, x1, by rw [hF.2 _ _ _ _ (by omega) (by omega)]; exact x2, by rw [hF.2 _ _ _ _ (by omega) (by omega)]; exact x3, fun i hi => ?_⟩
    have : S2.1 0 (4 + (x + 10 - recK k + i) % 10) = S1.1 0 (4 + (x + 10 - recK k + i) % 10) := by funext o j; exact hF.2 0 _ o j (by omega) (by omega)
    show Cb (S2.1 0 (4 + (x + 10 - recK k + i) % 10)) _
    rw [this]; exact x4 i hi
  · by_cases e : n = 0
    · subst e; exact hC.1
    · have : S2.1 0 n = S1.1 0 n := by funext o j; exact hF.2 0 n o j (by omega) (by omega)
      rw [this]; exact q2 n hn
  · rw [hF.2 k n o j (by omega) (by omega), q3.2 k n o j (by omega) (by omega)]
    exact hx.2 k n o j (by omega)
/-- the class lays the boat down -/
theorem c114_f (h : Cb (S.1 0 0) a) (hw : WF T a) (hb : (b : Int) < a 9) (h0 : a (40 + 10 * b + 6) = 0) {c : Int} (hc : inN a c) (ho : occ a c b = -1) {l7 : Int32} : ∃ S', (zx_ret1 (zr_sem zF (d + 2) 4 [za 0 0 0, zi (zo c)] S) (fun x3 S1 => (zx_ret1 (zr_sem zF (d + 2) 5 [za 0 0 0, zi (zo c)] S1) (fun x6 S4 => (zx_ret0 (zr_sem zF (d + 2) 21 [za 0 0 0, zi (zo b), zi x3, zi x6] S4) (fun S7 => (zx_ret0 (zr_sem zF (d + 2) 22 [za 0 0 0, zi (zo b)] S7) (fun S9 => some (.inl (some (zi l7)), S9)) zxx)) zxx)) zxx)) zxx) = some (.inl (some (zi l7)), S') ∧ Cb (S'.1 0 0) (putR a b c) ∧ Fc 0 S S' := by
  have uN := WF_nc hw
  have e1 := hc.1
  have e2 := hc.2
  have g := col_rng hw e1 e2
  have ec := cel_of (a := a) (c := c) (by have := hw.1.1; omega) e1 e2
  have ec : a 0 * (c / a 0) + c % a 0 = c := by omega
  have hf : ∀ j : Nat, (j : Int) < a 9 → j ≠ b → a (40 + 10 * j + 6) = 0 → a (40 + 10 * j) ≠ a 0 * (c / a 0) + c % a 0 := by
    intro j hj hjb
    rw [ec]
    exact occ_free ho j hj (by omega)
  obtain ⟨S2, r2, M2, F2⟩ := c21 (d := d) h hw hb h0 (x := c % a 0) (y := c / a 0) (by omega) hf
  have w1 := WF_cell hw hb (v := a 0 * (c / a 0) + c % a 0) (by rw [ec]; exact hc) hf
  obtain ⟨S3, r3, M3, F3⟩ := c22 (d := d) M2 w1 (b := b) (by simp (maxSteps := 10000000) (disch := omega) only [up_ne, up_self]; exact hb)
  rw [ec] at M3
  refine ⟨S3, ?_, M3, Fc_trans F2 F3⟩
  rw [c4 h hw e1 (by omega), zr1, c5 h hw e1 (by omega), zr1, r2, zr0, r3, zr0]
theorem c114_l (h : Cb (S.1 0 0) a) (hw : WF T a) (hb : (b : Int) < a 9) (h0 : a (40 + 10 * b + 6) = 0) (ht : inN a t) (hT : Tc S a (wgt a b) g) (hS : Sol a (wgt a b) t D) (hg : ∀ c, inN a c → g c = D c) (hbud : 0 ≤ bud ∧ bud ≤ 9999) : ∀ (m k f : Nat) (c s : Int), k + m = 100 → m < f → inN a c → occ a c b = -1 → D c < 1000000 → ner a D c < m → (0 ≤ s ∧ s ≤ 9999) → ∃ S', zy zF (d + 5) 114 f 102 [some (za 1 0 0), some (zi (zo b)), none, none, some (zi (zo bud)), some (zi (zo t)), some (zi (zo c)), some (zi (zo s)), some (zi (zo k)), none, none] S = some (.inl (some (zi (zo (pulG a (wgt a b) D t bud m c s).2))), S') ∧ Cb (S'.1 0 0) (putR a b (pulG a (wgt a b) D t bud m c s).1) ∧ Fc 0 S S' := by
  have uN := WF_nc hw
  have hW := wgt_ok hw b
  have hG := Sol_Gok hS hg
  have t1 := ht.1
  have t2 := ht.2
  intro m
  induction m with
  | zero =>
    intro k f c s hk hf hc ho hl hn hs
    have := ner_ge (a := a) (D := D) c
    omega
  | succ m ih =>
    intro k f c s hk hf hc ho hl hn hs
    obtain ⟨f, rfl⟩ : ∃ f', f = f' + 1 := ⟨f - 1, by omega⟩
    have e1 := hc.1
    have e2 := hc.2
    have e := ze_114_102 (d := d + 5) (k := f) (S := S) (l1 := zo b) (l4 := zo bud) (l5 := zo t) (l6 := zo c) (l7 := zo s) (l8 := zo k)
    rw [if_neg (show ¬ zo 100 ≤ zo (k : Int) by rw [zo_le (by omega) (by omega) (by omega) (by omega)]; omega)] at e
    rw [pulG_s]
    by_cases ct : c = t
    · rw [if_pos (show zo c = zo t by rw [ct])] at e
      rw [if_pos ct]
      obtain ⟨S', q1, q2, q3⟩ := c114_f (d := d + 3) (l7 := zo s) h hw hb h0 hc ho
      exact ⟨S', e.trans q1, q2, q3⟩
    · rw [if_neg (show ¬ zo c = zo t by rw [zo_eq (by omega) (by omega) (by omega) (by omega)]; exact ct), c87 h hw hT hW hG hc, zr1, stp_cg hg] at e
      obtain ⟨n1, n2, n3, n4, n5⟩ := stp_on hw hb h0 hS hc hl ct
      rw [if_neg ct]
      have nl := ner_lt hw n1 n4
      have wn := hW _ n1
      have dn := (hS.2 _ n1).1
      generalize stp a (wgt a b) D c = z at *
      have z1 := n1.1
      have z2 := n1.2
      obtain ⟨i, rfl⟩ : ∃ i : Nat, z = i := ⟨z.toNat, by omega⟩
      rw [c63c hw hT z2, zr1, zo_add, zo_add] at e
      by_cases cs : s + wgt a b i ≤ bud
      · rw [if_pos (show zo (s + wgt a b i) ≤ zo bud by rw [zo_le (by omega) (by omega) (by omega) (by omega)]; exact cs)] at e
        rw [if_pos cs]
        obtain ⟨S', q1, q2, q3⟩ := ih (k + 1) f i (s + wgt a b i) (by omega) (by omega) n1 n5 (by omega) (by omega) (by omega)
        exact ⟨S', e.trans q1, q2, q3⟩
      · rw [if_neg (show ¬ zo (s + wgt a b i) ≤ zo bud by rw [zo_le (by omega) (by omega) (by omega) (by omega)]; exact cs)] at e
        rw [if_neg cs]
        obtain ⟨S', q1, q2, q3⟩ := c114_f (d := d + 3) (l7 := zo s) h hw hb h0 hc ho
        exact ⟨S', e.trans q1, q2, q3⟩
theorem A114 (H : HC S k u a) (hw : WF T a) (hK : S.1 1 0 10 1 = zo 1000000 ∧ S.1 1 0 12 1 = zo 1000000) (g1 : -2147483648 ≤ p) (g2 : p < 2147483648) (g3 : -2147483648 ≤ r) (g4 : r < 2147483648) (g5 : -2147483648 ≤ x) (g6 : x < 2147483648) (g7 : -2147483648 ≤ bud) (g8 : bud < 2147483648) (hS : vB a p → vC a r x → Sol a (wgt a p.toNat) (a 0 * x + r) D) : OC (d + 7) 114 [za 1 0 0, zi (zo p), zi (zo r), zi (zo x), zi (zo bud)] S k u a (spPull a D p r x bud) := by
  have hb2 := zF1_big
  have h := H.1
  have uN := WF_nc hw
  unfold spPull
  have e := ze_114 (d := d + 6) (S := S) (xa := zo p) (xb := zo r) (xc := zo x) (xd := zo bud)
  rw [c138 h hw g1 g2] at e
  by_cases c : vB a p
  · rw [if_pos c, zr0, c139 h hw g3 g4 g5 g6] at e
    by_cases c2 : vC a r x
    · rw [if_pos ⟨c, c2⟩]
      obtain ⟨b, rfl⟩ : ∃ b : Nat, p = b := ⟨p.toNat, by omega⟩
      have hS := hS c c2
      have lc := cel_inN c2
      have gB : inN a (a (40 + 10 * b)) := (hw.2.2.2.1 b c.2).1
      rw [Int.toNat_natCast] at hS ⊢
      have gD := (hS.2 _ gB).1
      rw [if_pos c2, zr0, c141 g7 g8 (by omega) (by omega) (by omega) (by omega)] at e
      by_cases c3' : 0 ≤ bud ∧ bud ≤ 9999
      · rw [if_pos c3', zr0, c7 h hw c.2, zr1] at e
        rw [if_pos c3']
        by_cases c6 : a (40 + 10 * b + 6) = 0
        · rw [if_pos c6]
          obtain ⟨S1, g, s1, s2, s3, s4⟩ := c83 (d := d) h hw c.2 lc hK hS
          rw [decide_eq_true c6, if_neg (by decide), c3 h hw g3 g4 g5 g6, zr1, cAt_in c2, zc6 h hw c.2, zr1, s1, zr0, c86 hw s2 (Sol_Gok hS s3) gB, zr1, s3 _ gB] at e
          by_cases cd : D (a (40 + 10 * b)) < 1000000
          · rw [if_pos cd]
            rw [if_pos cd, if_neg (show ¬ zo (D (a (40 + 10 * b))) = zo (-1) by rw [zo_eq (by omega) (by omega) (by omega) (by omega)]; omega)] at e
            obtain ⟨S2, r2, M2, K2, cl⟩ := crecQ (d := d + 3) H hw s4
            have hT2 : Tc S2 a (wgt a b) g := ⟨⟨by rw [K2 _ _ (by omega)]; exact s2.1.1, by rw [K2 _ _ (by omega)]; exact s2.1.2⟩, fun i hi => ⟨by rw [K2 _ _ (by omega)]; exact (s2.2 i hi).1, by rw [K2 _ _ (by omega)]; exact (s2.2 i hi).2⟩⟩
            rw [r2, zr0] at e
            have nn := ner_0 (D := D) hw gB
            obtain ⟨S3, q1, q2, q3⟩ := c114_l (d := d + 1) M2 hw c.2 c6 lc hT2 hS s3 c3' 100 0 zF1 (a (40 + 10 * b)) 0 (by omega) (by omega) gB (occ_own hw c.2 c6) cd (by omega) (by omega)
            exact cl _ _ _ _ _ _ q3 q2 (e.trans q1)
          · rw [if_neg cd]
            rw [if_neg cd, if_pos (show zo (-1) = zo (-1) from rfl)] at e
            have H1 := HC_Ft H s4
            exact ⟨S1, e, H1.1, H1.2.1, H1.2.2.2, fun k n o j _ b => s4.2 k n o j (by omega)⟩
        · rw [decide_eq_false c6, if_pos (show zo (bI false) = zo 0 from rfl)] at e
          rw [if_neg c6]
          exact OC_n H e
      · rw [if_neg c3'] at e
        rw [if_neg c3']
        exact OC_x (t := 1) H (e.trans rfl)
    · rw [if_neg c2] at e
      rw [if_neg (fun z => c2 z.2)]
      exact OC_x (t := 0) H (e.trans rfl)
  · rw [if_neg c] at e
    rw [if_neg (fun z => c z.1)]
    exact OC_x (t := 0) H (e.trans rfl)
/-- the way ends in a free cell of the bath -/
theorem pulG_ok (hw : WF T a) (hb : (b : Int) < a 9) (h0 : a (40 + 10 * b + 6) = 0) (hS : Sol a (wgt a b) t D) : ∀ (m : Nat) (c s : Int), inN a c → occ a c b = -1 → D c < 1000000 → inN a (pulG a (wgt a b) D t bud m c s).1 ∧ occ a (pulG a (wgt a b) D t bud m c s).1 b = -1 := by
  intro m
  induction m with
  | zero => intro c s hc ho hl; exact ⟨hc, ho⟩
  | succ m ih =>
    intro c s hc ho hl
    rw [pulG_s]
    by_cases ct : c = t
    · rw [if_pos ct]; exact ⟨hc, ho⟩
    · rw [if_neg ct]
      split
      · obtain ⟨n1, n2, n3, n4, n5⟩ := stp_on hw hb h0 hS hc hl ct
        exact ih _ _ n1 n5 (by omega)
      · exact ⟨hc, ho⟩
theorem WF_pull (hw : WF T a) (hS : vB a p → vC a r x → Sol a (wgt a p.toNat) (a 0 * x + r) D) : WF T (spPull a D p r x bud).2.2.2 := by
  unfold spPull
  by_cases c : vB a p ∧ vC a r x
  · rw [if_pos c]
    split
    · split
      · rename_i h6
        split
        · rename_i hd
          obtain ⟨b, rfl⟩ : ∃ b : Nat, p = b := ⟨p.toNat, by omega⟩
          have hS := hS c.1 c.2
          rw [Int.toNat_natCast] at *
          have q := pulG_ok hw c.1.2 h6 hS (bud := bud) 100 (a (40 + 10 * b)) 0 (hw.2.2.2.1 b c.1.2).1 (occ_own hw c.1.2 h6) hd
          exact WF_putR hw c.1.2 q.1 q.2
        · exact hw
      · exact hw
    · exact hw
  · rw [if_neg c]; exact hw
end CZ

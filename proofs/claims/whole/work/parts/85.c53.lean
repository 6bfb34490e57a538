/-! THE PURE SIDE 53: queries: the answer; class -/
def enE (tx : Nat → Int) (n : Nat) (st : Et) : Et := if goO tx n st = true then ert tx n 1 st else st
def qst (tx : Nat → Int) (n : Nat) : Et := nxt tx n (ctE tx n (kwO tx n 7 (.ok 0) || kwO tx n 4 (.ok 0)) 1 (.ok 0))
def qrR (tx : Nat → Int) (n : Nat) (a : Rw) : Rq := tst tx n (fac tx n a 6) (qst tx n)
def qrE (tx : Nat → Int) (n : Nat) (a : Rw) : Et := enE tx n (qrR tx n a).1
def qrV (a : Rw) (P : Nat → Bool) (g : Bool) : Int := if g = true then zsum (fun b => if P b = true then 1 else 0) (a 9).toNat else zfst P (a 9).toNat 0
def qrA (tx : Nat → Int) (n : Nat) (a : Rw) : Int := match qrE tx n a with
  | .ok _ => qrV a (qrR tx n a).2.2 (kwO tx n 7 (.ok 0))
  | .error e => -1000000000 - e.1
section DN
variable {S : zS} {d n p k m : Nat} {tx : Nat → Int} {a : Rw} {st : Et} {T : Int} {P Q : Nat → Bool} {v w : Int32} {f : Et → Rq} {u : Nat → Rw} {x : Int}
theorem bit_e : ∀ b, b < 12 → (Int32.toBitVec (zo (b : Nat) &&& 31)).smod 32 = BitVec.ofNat 32 b := by decide +kernel
theorem bit_t (v : Int32) {b : Nat} (hb : b < 12) : ((v >>> (zo (b : Nat) &&& 31)) &&& zo 1 = zo 1) ↔ v.toBitVec.getLsbD b = true := by
  have hs : (v >>> (zo (b : Nat) &&& 31)).toBitVec.getLsbD 0 = v.toBitVec.getLsbD b := by
    rw [Int32.toBitVec_shiftRight, bit_e b hb, BitVec.sshiftRight', BitVec.toNat_ofNat, Nat.mod_eq_of_lt (by omega), BitVec.getLsbD_sshiftRight]
    rw [if_pos (by omega)]
    simp
  rw [← hs]
  generalize v >>> (zo (b : Nat) &&& 31) = y
  constructor
  · intro h
    have h2 := congrArg (fun z : Int32 => z.toBitVec.getLsbD 0) h
    have h2 : (y &&& zo 1).toBitVec.getLsbD 0 = true := h2
    rw [Int32.toBitVec_and, BitVec.getLsbD_and, Bool.and_eq_true] at h2
    exact h2.1
  · intro h
    apply Int32.toBitVec_inj.mp
    apply BitVec.eq_of_getLsbD_eq
    intro i hi
    rw [Int32.toBitVec_and, BitVec.getLsbD_and]
    by_cases e : i = 0
    · subst e; rw [h, Bool.true_and]
    · have : ∀ i, i < 32 → i ≠ 0 → (zo 1).toBitVec.getLsbD i = false := by decide +kernel
      rw [this i hi e, Bool.and_false]
def bitP (v : Int32) (b : Nat) : Bool := decide ((v >>> (zo (b : Nat) &&& 31)) &&& zo 1 = zo 1)
theorem bitP_M (hm : m ≤ 12) (h : MkB v P m) {b : Nat} (hb : b < m) : bitP v b = P b := by
  have e := h b (by omega)
  rw [decide_eq_true hb, Bool.true_and] at e
  unfold bitP
  rw [← e]
  by_cases c : v.toBitVec.getLsbD b = true
  · rw [decide_eq_true ((bit_t v (by omega)).mpr c), c]
  · rw [decide_eq_false (fun z => c ((bit_t v (by omega)).mp z)), Bool.eq_false_iff.mpr c]
theorem k56_l (h : Cb (S.1 0 0) a) (hw : WF T a) : ∀ (m k f : Nat), k + m = (a 9).toNat → m < f → zy zF d 56 f 2 [some (za 1 0 18), some (zi v), some (zi (zo k))] S = some (.inl (some (zi (zo (zfst (bitP v) m k)))), S) := by
  have n13 := h.2.1.2.2.2.2.2.2.2.1
  have u9 := hw.1.2.2.2.2.2.2.2.2.2
  intro m
  induction m with
  | zero =>
    intro k f hk hf
    obtain ⟨f, rfl⟩ : ∃ f', f = f' + 1 := ⟨f - 1, by omega⟩
    rw [ze_56_2, n13, if_pos (by rw [zo_le (by omega) (by omega) (by omega) (by omega)]; omega)]
    rfl
  | succ m ih =>
    intro k f hk hf
    obtain ⟨f, rfl⟩ : ∃ f', f = f' + 1 := ⟨f - 1, by omega⟩
    rw [ze_56_2, n13, if_neg (by rw [zo_le (by omega) (by omega) (by omega) (by omega)]; omega)]
    have e1 : zo (k : Int) + zo 1 = zo ((k + 1 : Nat) : Int) := by rw [zo_add]; rfl
    rw [zfst_succ, e1]
    by_cases c : (v >>> (zo (k : Nat) &&& 31)) &&& zo 1 = zo 1
    · rw [if_pos c, if_pos (show bitP v k = true from decide_eq_true c)]
    · rw [if_neg c, if_neg (show ¬ bitP v k = true from by unfold bitP; rw [decide_eq_false c]; decide)]
      exact ih (k + 1) f (by omega) (by omega)
theorem k56 (h : Cb (S.1 0 0) a) (hw : WF T a) : zr_sem zF (d + 1) 56 [za 1 0 18, zi v] S = some (.inl (some (zi (zo (zfst (bitP v) (a 9).toNat 0)))), S) := by
  have hb := zF1_big
  have u9 := hw.1.2.2.2.2.2.2.2.2.2
  rw [ze_56]
  exact k56_l h hw (a 9).toNat 0 _ (by omega) (by omega)
theorem pcn_z {y : Nat} (h : ∀ i, i < 12 → y.testBit i = (decide (i < m) && P i)) : ∀ j, j ≤ 12 → ((pcn j y : Nat) : Int) = zsum (fun b => if b < m ∧ P b = true then 1 else 0) j := by
  intro j
  induction j with
  | zero => intro _; rfl
  | succ j ih =>
    intro hj
    have i := ih (by omega)
    show ((pcn j y + (if y.testBit j then 1 else 0) : Nat) : Int) = zsum _ j + (if j < m ∧ P j = true then (1 : Int) else 0)
    rw [← i, h j (by omega)]
    by_cases c : j < m ∧ P j = true
    · rw [if_pos c, decide_eq_true c.1, c.2]; rfl
    · rw [if_neg c]
      have : (decide (j < m) && P j) = false := by
        rw [Bool.eq_false_iff]
        intro z
        rw [Bool.and_eq_true, decide_eq_true_eq] at z
        exact c z
      rw [this]; rfl
theorem zsum_cut : ∀ j, m ≤ j → zsum (fun b => if b < m ∧ P b = true then 1 else 0) j = zsum (fun b => if P b = true then 1 else 0) m := by
  intro j
  induction j with
  | zero => intro h; rw [show m = 0 by omega]; rfl
  | succ j ih =>
    intro h
    by_cases e : m = j + 1
    · rw [e]
      exact zsum_congr _ (fun i hi => by
        by_cases c : P i = true
        · rw [if_pos ⟨hi, c⟩, if_pos c]
        · rw [if_neg (fun z => c z.2), if_neg c])
    · show zsum _ j + (if j < m ∧ P j = true then (1 : Int) else 0) = _
      rw [ih (by omega), if_neg (by omega)]
      omega
theorem bcf_M (hm : m ≤ 12) (h : MkB v P m) : bcf v = zo (zsum (fun b => if P b = true then 1 else 0) m) := by
  have e : v = zo ((v.toBitVec.toNat : Nat) : Int) := by
    apply Int32.toBitVec_inj.mp
    show v.toBitVec = BitVec.ofInt 32 _
    rw [BitVec.ofInt_natCast, BitVec.ofNat_toNat, BitVec.setWidth_eq]
  have hb : v.toBitVec.toNat < 4096 := by
    apply Nat.lt_pow_two_of_testBit (n := 12)
    intro i hi
    by_cases c : i < 32
    · have := h i c
      rw [decide_eq_false (by omega), Bool.false_and] at this
      exact this
    · exact BitVec.getLsbD_of_ge v.toBitVec i (by omega)
  rw [e, bcf_ok hb, pcn_z (m := m) (P := P) (fun i hi => h i (by omega)) 12 (by omega), zsum_cut 12 hm]
theorem enE_e {e : Int × Int} : enE tx n (.error e) = .error e := rfl
theorem k55t (hw : WF T a) (hn : n ≤ 200) (h : RkC S tx n st) (hC : Cb (S.1 0 0) a) {g : Bool} : ∃ v S', (zx_ret1 (zr_sem zF (d + 21) 57 [za 1 0 18, zi (zo 0)] S) (fun x8 S6 => (if (S6.1 1 0 14 5) = (zo 0) then (if zo (bI g) = (zo 0) then (zx_ret1 (zr_sem zF (d + 21) 56 [za 1 0 18, zi x8] S6) (fun x11 S9 => some (.inl (some (zi x11)), S9)) zxx) else (zx_ret1 (zr_sem zF (d + 21) 291 [zi x8] S6) (fun x14 S12 => some (.inl (some (zi x14)), S12)) zxx)) else (zx_ret0 (zr_sem zF (d + 21) 75 [za 1 0 14, zi (zo 1)] S6) (fun S15 => (if zo (bI g) = (zo 0) then (zx_ret1 (zr_sem zF (d + 21) 56 [za 1 0 18, zi x8] S15) (fun x19 S17 => some (.inl (some (zi x19)), S17)) zxx) else (zx_ret1 (zr_sem zF (d + 21) 291 [zi x8] S15) (fun x22 S20 => some (.inl (some (zi x22)), S20)) zxx))) zxx))) zxx) = some (.inl (some (zi v)), S') ∧ RkC S' tx n (enE tx n (tst tx n (fac tx n a 6) st).1) ∧ (isO (enE tx n (tst tx n (fac tx n a 6) st).1) = true → v = zo (qrV a (tst tx n (fac tx n a 6) st).2.2 g)) ∧ Fk S S' := by
  have u9 := hw.1.2.2.2.2.2.2.2.2.2
  have hF := k58 (tx := tx) hw hn 6 d 0 (by omega) (by omega)
  obtain ⟨v, S1, p1, p2, p3, p4⟩ := k57 (d := d + 13) hF (fac_A 6) hn h hC
  have hC1 : Cb (S1.1 0 0) a := by rw [Fk_0 p4 0]; exact hC
  rw [p1, zr1]
  generalize (tst tx n (fac tx n a 6) st).1 = s at *
  generalize (tst tx n (fac tx n a 6) st).2.2 = P at *
  have val : isO s = true → (zo (zfst (bitP v) (a 9).toNat 0) = zo (zfst P (a 9).toNat 0)) ∧ bcf v = zo (zsum (fun b => if P b = true then 1 else 0) (a 9).toNat) := fun z => ⟨by rw [zfst_congr (a 9).toNat 0 (fun i _ hi => bitP_M (by omega) (p3 z) (by omega))], bcf_M (by omega) (p3 z)⟩
  have hO := p2
  obtain ⟨hT, q, hP, hE⟩ := p2
  have bt := tkT_b (tx := tx) (n := n) (p := q)
  by_cases c : S1.1 1 0 14 5 = zo 0
  · rw [if_pos c]
    have es : enE tx n s = s := by
      cases s with
      | error e => rfl
      | ok r =>
        have e := hE.1; subst e
        rw [hP.2.2.2.1, zo_eq (by omega) (by omega) (by omega) (by omega)] at c
        unfold enE
        rw [if_neg]
        show ¬ decide (tkT tx n r ≠ 0) = true
        rw [decide_eq_true_eq]; omega
    rw [es]
    cases g with
    | false =>
      rw [if_pos (show zo (bI false) = zo 0 from rfl), k56 hC1 hw, zr1]
      exact ⟨_, S1, rfl, hO, fun z => by rw [(val z).1]; rfl, p4⟩
    | true =>
      rw [if_neg (by decide), ze_291, zr1]
      exact ⟨_, S1, rfl, hO, fun z => by rw [(val z).2]; rfl, p4⟩
  · rw [if_neg c]
    obtain ⟨S2, q1, q2, q3⟩ := k75 (d := d + 20) (c := 1) hO (by omega)
    have hC2 : Cb (S2.1 0 0) a := by rw [Fk_0 q3 0]; exact hC1
    have es : enE tx n s = ert tx n 1 s := by
      cases s with
      | error e => rfl
      | ok r =>
        have e := hE.1; subst e
        rw [hP.2.2.2.1, zo_eq (by omega) (by omega) (by omega) (by omega)] at c
        unfold enE
        rw [if_pos]
        show decide (tkT tx n r ≠ 0) = true
        rw [decide_eq_true_eq]; omega
    rw [q1, zr0, es]
    cases g with
    | false =>
      rw [if_pos (show zo (bI false) = zo 0 from rfl), k56 hC2 hw, zr1]
      exact ⟨_, S2, rfl, q2, fun z => by rw [isO_ert] at z; exact (Bool.false_ne_true z).elim, Fk_trans p4 q3⟩
    | true =>
      rw [if_neg (by decide), ze_291, zr1]
      exact ⟨_, S2, rfl, q2, fun z => by rw [isO_ert] at z; exact (Bool.false_ne_true z).elim, Fk_trans p4 q3⟩
theorem k55 (hw : WF T a) (hn : n ≤ 200) (h : RkC S tx n (.ok 0)) (hC : Cb (S.1 0 0) a) : ∃ v S', zr_sem zF (d + 22) 55 [za 1 0 18] S = some (.inl (some (zi v)), S') ∧ RkC S' tx n (qrE tx n a) ∧ (isO (qrE tx n a) = true → v = zo (qrV a (qrR tx n a).2.2 (kwO tx n 7 (.ok 0)))) ∧ Fk S S' := by
  obtain ⟨b7, e7, i7⟩ := q76 (d := d + 15) (t := 7) h (show 0 < txl 7 by decide)
  obtain ⟨b4, e4, i4⟩ := q76 (d := d + 15) (t := 4) h (show 0 < txl 4 by decide)
  have j7 := i7 rfl
  have j4 := i4 rfl
  rw [ze_55, e7, zr1]
  unfold qrE qrR qst
  rw [← j7, ← j4]
  obtain ⟨S1, p1, p2, p3⟩ := k72 (d := d + 19) h
  have hC1 : Cb (S1.1 0 0) a := by rw [Fk_0 p3 0]; exact hC
  cases b7 with
  | true =>
    rw [if_neg (show ¬ zo (bI true) = zo 0 by decide), p1, zr0]
    obtain ⟨v, S2, q1, q2, q3, q4⟩ := k55t (d := d) (g := true) hw hn p2 hC1
    exact ⟨v, S2, q1, q2, q3, Fk_trans p3 q4⟩
  | false =>
    rw [if_pos (show zo (bI false) = zo 0 from rfl), e4, zr1]
    cases b4 with
    | true =>
      rw [if_neg (show ¬ zo (bI true) = zo 0 by decide), p1, zr0]
      obtain ⟨v, S2, q1, q2, q3, q4⟩ := k55t (d := d) (g := false) hw hn p2 hC1
      exact ⟨v, S2, q1, q2, q3, Fk_trans p3 q4⟩
    | false =>
      obtain ⟨S0, r1, r2, r3⟩ := k75 (d := d + 20) (c := 1) h (by omega)
      obtain ⟨S3, s1, s2, s3⟩ := k72 (d := d + 19) r2
      have hC3 : Cb (S3.1 0 0) a := by rw [Fk_0 s3 0, Fk_0 r3 0]; exact hC
      rw [if_pos (show zo (bI false) = zo 0 from rfl), r1, zr0, s1, zr0]
      obtain ⟨v, S2, q1, q2, q3, q4⟩ := k55t (d := d) (g := false) hw hn s2 hC3
      exact ⟨v, S2, q1, q2, q3, Fk_trans r3 (Fk_trans s3 q4)⟩
theorem A92 {tn : Nat} (H : HC S k u a) (hw : WF T a) (h14 : S.1 1 0 14 1 = zo tn) (htn : tn ≤ 700) (hx : ∀ i, i < tn → S.1 1 0 16 i = zo (tx i) ∧ 0 ≤ tx i ∧ tx i ≤ 255) (g1 : -2147483648 ≤ x) (g2 : x < 2147483648) : if 0 ≤ x ∧ x ≤ tn ∧ x ≤ 200 then ∃ S', zr_sem zF (d + 23) 92 [za 1 0 0, zi (zo x)] S = some (.inl (some (zi (zo (qrA tx x.toNat a)))), S') ∧ HC S' k u a ∧ S'.1 1 0 14 1 = zo 0 ∧ S'.1 1 0 0 11 = zo (epA (qrE tx x.toNat a)) ∧ (∀ k m o j, ¬(k = 1 ∧ m = 0 ∧ ((o = 0 ∧ j = 11) ∨ o = 14)) → S'.1 k m o j = S.1 k m o j) else zr_sem zF (d + 23) 92 [za 1 0 0, zi (zo x)] S = some (.inr 2, zsn S) := by
  have em : zmin (zo 200) (S.1 1 0 14 1) = zo (if (tn : Int) < 200 then (tn : Int) else 200) := by rw [h14, zmin_o (by omega) (by omega) (by omega) (by omega)]
  have e41 := c141 (d := d + 21) (S := S) (p := x) (l := 0) (m := if (tn : Int) < 200 then (tn : Int) else 200) g1 g2 (by split <;> omega) (by split <;> omega) (by omega) (by omega)
  rw [ze_92, em, e41]
  by_cases c : 0 ≤ x ∧ x ≤ tn ∧ x ≤ 200
  · rw [if_pos c, if_pos (show 0 ≤ x ∧ x ≤ (if (tn : Int) < 200 then (tn : Int) else 200) by split <;> omega), zr0]
    obtain ⟨q, rfl⟩ : ∃ q : Nat, x = q := ⟨x.toNat, by omega⟩
    rw [Int.toNat_natCast]
    obtain ⟨S1, p1, p2, p3, p4⟩ := k71 (d := d + 19) (n := q) (fun i hi => hx i (by omega)) (by omega)
    have b0 : ∀ n, S1.1 0 n = S.1 0 n := fun n => by funext o j; exact p4 0 n o j (by omega)
    obtain ⟨v, S2, q1, q2, q3, q4⟩ := k55 (d := d) hw (n := q) (by omega) p2 (by rw [b0]; exact H.1)
    have e7 := RkC_7 q2
    have eo : ∀ k m o j, ¬(k = 1 ∧ m = 0 ∧ ((o = 0 ∧ j = 11) ∨ o = 14)) → S2.1 k m o j = S.1 k m o j := fun k m o j b => by rw [q4.2 _ _ _ _ (by omega), p4 _ _ _ _ (by omega)]
    have fin : ∀ w : Int, ∀ k m o j, ¬(k = 1 ∧ m = 0 ∧ ((o = 0 ∧ j = 11) ∨ o = 14)) → (zs_set (zs_set S2 1 0 14 1 (zo 0)) 1 0 0 11 (zo w)).1 k m o j = S.1 k m o j := fun w k m o j b => by rw [zs_oth (by omega), zs_oth (by omega), eo k m o j b]
    have hH : ∀ w : Int, HC (zs_set (zs_set S2 1 0 14 1 (zo 0)) 1 0 0 11 (zo w)) k u a := by
      intro w
      have bs : ∀ n, (zs_set (zs_set S2 1 0 14 1 (zo 0)) 1 0 0 11 (zo w)).1 0 n = S.1 0 n := fun n => by funext o j; exact fin w _ _ _ _ (by omega)
      refine ⟨by rw [bs]; exact H.1, ?_, H.2.2.1, fun n hn => by rw [bs]; exact H.2.2.2 n hn⟩
      obtain ⟨y, x1, x2, x3, x4⟩ := H.2.1
      exact ⟨y, x1, by rw [fin w _ _ _ _ (by omega)]; exact x2, by rw [fin w _ _ _ _ (by omega)]; exact x3, fun i hi => by rw [bs]; exact x4 i hi⟩
    have e8 : S2.1 1 0 14 8 = zo (epA (qrE tx q a)) := by
      obtain ⟨_, p, _, hE⟩ := q2
      revert hE
      cases qrE tx q a with
      | ok r => intro hE; exact hE.2.2
      | error e => intro hE; exact hE.2.2
    rw [p1, zr0, q1, zr1, zs_oth (by omega), zs_oth (by omega), zs_oth (by omega), e8]
    cases hq : qrE tx q a with
    | ok r =>
      rw [hq] at e7
      rw [if_pos (show S2.1 1 0 14 7 = zo 0 from e7)]
      refine ⟨_, ?_, hH _, by rw [zs_oth (by omega), zs_self], zs_self, fin _⟩
      have ea : qrA tx q a = qrV a (qrR tx q a).2.2 (kwO tx q 7 (.ok 0)) := by unfold qrA; rw [hq]
      rw [ea, q3 (by rw [hq]; rfl)]
    | error e =>
      have hq2 := q2
      rw [hq] at hq2
      obtain ⟨_, _, _, hE⟩ := hq2
      rw [hq] at e7
      rw [if_neg (show ¬ S2.1 1 0 14 7 = zo 0 from e7)]
      refine ⟨_, ?_, hH _, by rw [zs_oth (by omega), zs_self], zs_self, fin _⟩
      have ea : qrA tx q a = -1000000000 - e.1 := by unfold qrA; rw [hq]
      rw [ea, hE.1, zo_sub]
  · rw [if_neg c, if_neg (show ¬ (0 ≤ x ∧ x ≤ (if (tn : Int) < 200 then (tn : Int) else 200)) by split <;> omega)]
    rfl
end DN

/-! THE LAW'S LEVEL 2: arrays and fields -/
theorem qr_8 {n : Nat} {r : zR} (h : qr_ok n r) (h8 : r.1 = 8) : r = (8, r.2.1, 0) ∧ r.2.1 < n := by
  obtain ⟨a, b, c⟩ := r
  have h8 : a = 8 := h8
  subst h8
  rcases h with q | q | q
  · have e : c = 0 := q.2.2
    subst e
    exact ⟨rfl, q.2.1⟩
  · rcases q with q | q | q
    · exact absurd (zt_all_cd _ q).2 (by show ¬ (8 : Nat) < 5; decide)
    · cases q
    · rcases q.1 with z | z <;> exact absurd z (by show (8 : Nat) ≠ _; decide)
  · exact absurd q.1 (by show (8 : Nat) ≠ 9; decide)
theorem qr_5 {n : Nat} {r : zR} (h : qr_ok n r) (h5 : r.1 = 5) : r = (5, 0, 0) := by
  obtain ⟨a, b, c⟩ := r
  have h5 : a = 5 := h5
  subst h5
  rcases h with q | q | q
  · exact absurd q.1 (by show (5 : Nat) ≠ 8; decide)
  · rcases q with q | q | q
    · exact absurd (zt_all_cd _ q).2 (by show ¬ (5 : Nat) < 5; decide)
    · exact q
    · rcases q.1 with z | z <;> exact absurd z (by show (5 : Nat) ≠ _; decide)
  · exact absurd q.1 (by show (5 : Nat) ≠ 9; decide)
theorem qr_67 {n a t c : Nat} (h : qr_ok n (a, t, c)) (h7 : a = 6 ∨ a = 7) : c = 0 ∧ t ∈ zt_av := by
  rcases h with q | q | q
  · have := q.1
    have : a = 8 := this
    omega
  · rcases q with q | q | q
    · have := (zt_all_cd _ q).2
      have : a < 5 := this
      omega
    · cases q
      omega
    · exact ⟨q.2.2, q.2.1⟩
  · have : a = 9 := q.1
    omega
theorem qr_9 {n t c : Nat} (h : qr_ok n (9, t, c)) : c = 0 ∧ t < 2 := by
  rcases h with q | q | q
  · exact absurd q.1 (by show (9 : Nat) ≠ 8; decide)
  · rcases q with q | q | q
    · exact absurd (zt_all_cd _ q).2 (by show ¬ (9 : Nat) < 5; decide)
    · cases q
    · rcases q.1 with z | z <;> exact absurd z (by show (9 : Nat) ≠ _; decide)
  · exact ⟨q.2.2, q.2.1⟩
theorem qa_in_ok {i n : Int32} {x : Option qO} {out : qO} (h : qa_in i n x = some out) : ¬ i < 0 ∧ ¬ n ≤ i ∧ x = some out := by
  unfold qa_in at h
  split at h
  · exact nomatch h
  · split at h
    · exact nomatch h
    · exact ⟨by assumption, by assumption, h⟩
/-- the cells of arrays have small lengths where they come from newarray; here it is asked of the cell itself -/
theorem q_vp {i : Int32} {n : Nat} (h0 : ¬ i < 0) (h1 : ¬ Int32.ofNat n ≤ i) (hn : n < 2 ^ 31) : vp_in i n := za_vp hn h0 h1
theorem q_tys (G : zG) : (zt_tys G)[0]? = some (G.2.1 0, .int) ∧ (zt_tys G)[2]? = some (G.2.1 5, .byte) ∧ (zt_tys G)[3]? = some (G.2.1 6, .boolean) ∧ (zt_tys G)[4]? = some (G.2.1 7, .array .int) := ⟨rfl, rfl, rfl, rfl⟩
theorem q_upd (xs : List Int32) (j : Nat) (x : Int32) (h : j < xs.length) : upd (fun i => xs.getD i 0) j x = (fun i => (xs.set j x).getD i 0) := by
  funext i
  show (if i = j then x else xs.getD i 0) = _
  rw [List.getD_eq_getElem?_getD (l := xs.set j x), List.getElem?_set]
  by_cases e : j = i
  · rw [if_pos e.symm, if_pos e, if_pos (by omega)]; rfl
  · rw [if_neg (fun h => e h.symm), if_neg e, ← List.getD_eq_getElem?_getD]
theorem q_lt {j : Int32} {n : Nat} (hv : vp_in j n) : j.toNatClampNeg < n := Nat.not_le.mp fun q => hv (Or.inr q)
section QB
variable {p : Program} {l : Launch} {e : Env} {R : Room} {s : State} {m : MethodId} {args : Array Value} {below : List Frame} {meth : Method} {c : Code} {Q : State → Prop} {G : zG} {T0 : qS} {A : Nat → Prop} {aq0 : Nat → Nat} {own nm : String} {cc : ByteArray} {nL : Nat} {ret : Option FieldType} {cF sF o1 o2 : Nat} {T : qS} {pc : Nat} {lv : zL} {st : List zV}
theorem qJ_len (X : qX p s m meth c G T0 A own nm cc nL ret) {r : zR} {nx : Int32 → Option qO} {out : qO} (hdg : decode cc pc = .ok (.arraylength, 1)) (h : qa_len r T nx = some out) (kk : ∀ x, nx x = some out → qJ2 p l e R s m args below meth c Q G T0 A aq0 nL cF sF o1 o2 T (pc + 1) lv (zi x :: st)) : qJ2 p l e R s m args below meth c Q G T0 A aq0 nL cF sF o1 o2 T pc lv (.inr (.inl (some r)) :: st) := by
  unfold qa_len at h
  split at h
  · rename_i h5r
    obtain ⟨k1, k2⟩ := kk _ h
    refine ⟨k1, fun aq ls H locs ha hl hP hD hS h5 hs hv => ?_⟩
    have hr := qr_5 (qv_hd hs) h5r
    subst hr
    obtain ⟨-, -, -, ⟨L, g1, g2, g3, g4, g5⟩, -⟩ := X.2.2.2.2.2.1
    refine va_slen X.1 X.2.1 g3 g4 g5 hS hdg ?_
    have e9 : T.1.1 5 0 1 0 = Int32.ofNat L := by rw [h5.1]; exact g2
    rw [← e9]
    exact k2 aq ls H locs ha hl hP hD hS h5 (qv_cons trivial (qv_tl hs)) hv
  · rename_i h7r
    obtain ⟨x, hw, h⟩ := Option.bind_eq_some_iff.mp h
    obtain ⟨k1, k2⟩ := kk _ h
    refine ⟨k1, fun aq ls H locs ha hl hP hD hS h5 hs hv => ?_⟩
    obtain ⟨a, b, c0⟩ := r
    have h7a : a = 7 := h7r
    subst h7a
    obtain ⟨rfl, hb⟩ := qr_67 (qv_hd hs) (Or.inr rfl)
    obtain ⟨-, -, hT, -⟩ := X.2.2.2.2.2.1
    rw [zx_nth_get] at hw
    refine va_tlen X.1 X.2.1 ((hT b hb).1 0 (by decide)).2.2.2 hS ?_ hdg (k2 aq ls H locs ha hl hP hD hS h5 (qv_cons trivial (qv_tl hs)) hv)
    show Int32.ofNat (zt_texts.getD b []).length = _
    rw [List.getD_eq_getElem?_getD, hw]
    rfl
  · rename_i h8r
    split at h
    · rename_i x hx
      obtain ⟨k1, k2⟩ := kk _ h
      refine ⟨k1, fun aq ls H locs ha hl hP hD hS h5 hs hv => ?_⟩
      obtain ⟨hr, hk⟩ := qr_8 (qv_hd hs) h8r
      rw [zx_nth_get] at hx
      have he := q_all_at (G := G) (aq := aq) (S := T.1) hx
      obtain ⟨t, xs⟩ := x
      obtain ⟨a, b, c0⟩ := r
      cases hr
      have go : ∀ (t0 : Nat) (ty : FieldType), (zt_tys G)[t0]? = some (G.2.1 t, ty) → W p l e R s m args below meth c H locs (T.2.length - T0.2.length + o1) (q_sl T.2 - q_sl T0.2 + o2) Q (F0 m pc ls ((.inr (.inl (some (8, b, 0))) :: st).map (zc (qad G aq)))) := fun t0 ty ht =>
        va_alen X.1 X.2.1 X.2.2.2.2.1 hP _ t0 (a := aq b) he ht rfl hdg (k2 aq ls H locs ha hl hP hD hS h5 (qv_cons trivial (qv_tl hs)) hv)
      by_cases h0 : t = 0
      · subst h0; exact go 0 _ (q_tys G).1
      · by_cases h5t : t = 5
        · subst h5t; exact go 2 _ (q_tys G).2.1
        · by_cases h6t : t = 6
          · subst h6t; exact go 3 _ (q_tys G).2.2.1
          · have hc := h5.2.2.2 _ (List.mem_of_getElem? hx)
            rcases hc.1 with z | z | z <;> omega
    · exact nomatch h
  · exact nomatch h
/-- the kind of an array of numbers among the tables -/
theorem q_knd {n t : Nat} {xs : List Int32} (hc : qc_ok n (.inr (.inl (t, xs)))) : xs.length < 2 ^ 31 := by have := hc.2.1; omega
theorem qJ_iaload (X : qX p s m meth c G T0 A own nm cc nL ret) {r : zR} {i : Int32} {nx : Int32 → Option qO} {out : qO} (hdg : decode cc pc = .ok (.iaload, 1)) (h : qa_ld r i T nx = some out) (kk : ∀ x, nx x = some out → qJ2 p l e R s m args below meth c Q G T0 A aq0 nL cF sF o1 o2 T (pc + 1) lv (zi x :: st)) : qJ2 p l e R s m args below meth c Q G T0 A aq0 nL cF sF o1 o2 T pc lv (zi i :: .inr (.inl (some r)) :: st) := by
  unfold qa_ld at h
  split at h
  · rename_i h5r
    obtain ⟨h0, h1, h⟩ := qa_in_ok h
    obtain ⟨k1, k2⟩ := kk _ h
    refine ⟨k1, fun aq ls H locs ha hl hP hD hS h5 hs hv => ?_⟩
    have hr := qr_5 (qv_hd (qv_tl hs)) h5r
    subst hr
    obtain ⟨-, -, -, ⟨L, g1, g2, g3, g4, g5⟩, -⟩ := X.2.2.2.2.2.1
    have e9 : T.1.1 5 0 1 0 = Int32.ofNat L := by rw [h5.1]; exact g2
    rw [e9] at h1
    refine va_sld X.1 X.2.1 g3 g4 g5 hS (za_vp g1 h0 h1) hdg ?_
    have e8 : T.1.1 5 0 0 i.toNatClampNeg = T0.1.1 5 0 0 i.toNatClampNeg := by rw [h5.1]
    rw [← e8]
    exact k2 aq ls H locs ha hl hP hD hS h5 (qv_cons trivial (qv_tl (qv_tl hs))) hv
  · rename_i h8r
    split at h
    · rename_i xs hx
      obtain ⟨h0, h1, h⟩ := qa_in_ok h
      obtain ⟨k1, k2⟩ := kk _ h
      refine ⟨k1, fun aq ls H locs ha hl hP hD hS h5 hs hv => ?_⟩
      obtain ⟨hr, hk⟩ := qr_8 (qv_hd (qv_tl hs)) h8r
      rw [zx_nth_get] at hx
      have he := q_all_at (G := G) (aq := aq) (S := T.1) hx
      obtain ⟨a, b, c0⟩ := r
      cases hr
      exact va_iald X.1 X.2.1 X.2.2.2.2.1 hP _ 0 (a := aq b) he (q_tys G).1 (za_vp (q_knd (h5.2.2.2 _ (List.mem_of_getElem? hx))) h0 h1) hdg (k2 aq ls H locs ha hl hP hD hS h5 (qv_cons trivial (qv_tl (qv_tl hs))) hv)
    · exact nomatch h
  · exact nomatch h
theorem qt_dg_ok (k : Nat) (j : Nat) : qt_dg k j = zt_dg k j := rfl
theorem qJ_baload (X : qX p s m meth c G T0 A own nm cc nL ret) {r : zR} {i : Int32} {nx : Int32 → Option qO} {out : qO} (hdg : decode cc pc = .ok (.baload, 1)) (h : qa_bld r i T nx = some out) (kk : ∀ x, nx x = some out → qJ2 p l e R s m args below meth c Q G T0 A aq0 nL cF sF o1 o2 T (pc + 1) lv (zi x :: st)) : qJ2 p l e R s m args below meth c Q G T0 A aq0 nL cF sF o1 o2 T pc lv (zi i :: .inr (.inl (some r)) :: st) := by
  unfold qa_bld at h
  split at h
  · rename_i h7r
    obtain ⟨x, hw, h⟩ := Option.bind_eq_some_iff.mp h
    obtain ⟨h0, h1, h⟩ := qa_in_ok h
    obtain ⟨k1, k2⟩ := kk _ h
    refine ⟨k1, fun aq ls H locs ha hl hP hD hS h5 hs hv => ?_⟩
    obtain ⟨a, b, c0⟩ := r
    have h7a : a = 7 := h7r
    subst h7a
    obtain ⟨rfl, hb⟩ := qr_67 (qv_hd (qv_tl hs)) (Or.inr rfl)
    obtain ⟨-, -, hT, -⟩ := X.2.2.2.2.2.1
    rw [zx_nth_get] at hw
    have hlen : ([(zt_texts.getD b []).length] : List Nat).getD 0 0 = x.length := by show (zt_texts.getD b []).length = _; rw [List.getD_eq_getElem?_getD, hw]; rfl
    have hvp := za_vp (zt_tlen x (List.mem_of_getElem? hw)) h0 h1
    exact va_tb X.1 X.2.1 ((hT b hb).1 0 (by decide)).2.2.2 hS (by rw [hlen]; exact hvp) (v := .int (x.getD i.toNatClampNeg 0)) (by
      show Value.int ((zt_texts.getD b []).getD i.toNatClampNeg 0) = _
      rw [List.getD_eq_getElem?_getD (l := zt_texts), hw]
      rfl) hdg (k2 aq ls H locs ha hl hP hD hS h5 (qv_cons trivial (qv_tl (qv_tl hs))) hv)
  · rename_i h9r
    obtain ⟨h0, h1, h⟩ := qa_in_ok h
    obtain ⟨k1, k2⟩ := kk _ h
    refine ⟨k1, fun aq ls H locs ha hl hP hD hS h5 hs hv => ?_⟩
    obtain ⟨a, b, c0⟩ := r
    have h9a : a = 9 := h9r
    subst h9a
    obtain ⟨rfl, hb⟩ := qr_9 (qv_hd (qv_tl hs))
    obtain ⟨-, -, -, -, hG, -⟩ := X.2.2.2.2.2.1
    have hvp : vp_in i 100 := za_vp (by decide) h0 h1
    have hb2 : b = 0 ∨ b = 1 := by omega
    rcases hb2 with rfl | rfl
    · exact va_tb X.1 X.2.1 hG.1.2 hS hvp (v := .int (qt_dg 0 i.toNatClampNeg)) rfl hdg (k2 aq ls H locs ha hl hP hD hS h5 (qv_cons trivial (qv_tl (qv_tl hs))) hv)
    · exact va_tb X.1 X.2.1 hG.2.2 hS hvp (v := .int (qt_dg 1 i.toNatClampNeg)) rfl hdg (k2 aq ls H locs ha hl hP hD hS h5 (qv_cons trivial (qv_tl (qv_tl hs))) hv)
  · rename_i h8r
    split at h
    · rename_i xs hx
      obtain ⟨h0, h1, h⟩ := qa_in_ok h
      obtain ⟨k1, k2⟩ := kk _ h
      refine ⟨k1, fun aq ls H locs ha hl hP hD hS h5 hs hv => ?_⟩
      obtain ⟨hr, hk⟩ := qr_8 (qv_hd (qv_tl hs)) h8r
      rw [zx_nth_get] at hx
      have he := q_all_at (G := G) (aq := aq) (S := T.1) hx
      obtain ⟨a, b, c0⟩ := r
      cases hr
      exact va_bald X.1 X.2.1 X.2.2.2.2.1 hP _ 2 (a := aq b) he (q_tys G).2.1 (za_vp (q_knd (h5.2.2.2 _ (List.mem_of_getElem? hx))) h0 h1) hdg (k2 aq ls H locs ha hl hP hD hS h5 (qv_cons trivial (qv_tl (qv_tl hs))) hv)
    · rename_i xs hx
      obtain ⟨h0, h1, h⟩ := qa_in_ok h
      obtain ⟨k1, k2⟩ := kk _ h
      refine ⟨k1, fun aq ls H locs ha hl hP hD hS h5 hs hv => ?_⟩
      obtain ⟨hr, hk⟩ := qr_8 (qv_hd (qv_tl hs)) h8r
      rw [zx_nth_get] at hx
      have he := q_all_at (G := G) (aq := aq) (S := T.1) hx
      obtain ⟨a, b, c0⟩ := r
      cases hr
      exact va_zald X.1 X.2.1 X.2.2.2.2.1 hP _ 3 (a := aq b) he (q_tys G).2.2.1 (za_vp (q_knd (h5.2.2.2 _ (List.mem_of_getElem? hx))) h0 h1) hdg (k2 aq ls H locs ha hl hP hD hS h5 (qv_cons trivial (qv_tl (qv_tl hs))) hv)
    · exact nomatch h
  · exact nomatch h
theorem qJ_aaload (X : qX p s m meth c G T0 A own nm cc nL ret) {r : zR} {i : Int32} {nx : zV → Option qO} {out : qO} (hdg : decode cc pc = .ok (.aaload, 1)) (h : qa_ldr r i T nx = some out) (kk : ∀ v, nx v = some out → qJ2 p l e R s m args below meth c Q G T0 A aq0 nL cF sF o1 o2 T (pc + 1) lv (v :: st)) : qJ2 p l e R s m args below meth c Q G T0 A aq0 nL cF sF o1 o2 T pc lv (zi i :: .inr (.inl (some r)) :: st) := by
  unfold qa_ldr at h
  split at h
  · rename_i h8r
    split at h
    · rename_i l9 hx
      obtain ⟨h0, h1, h⟩ := qa_in_ok h
      split at h
      · rename_i q hq
        obtain ⟨k1, k2⟩ := kk _ h
        refine ⟨k1, fun aq ls H locs ha hl hP hD hS h5 hs hv => ?_⟩
        obtain ⟨hr, hk⟩ := qr_8 (qv_hd (qv_tl hs)) h8r
        rw [zx_nth_get] at hx
        have he := q_all_at (G := G) (aq := aq) (S := T.1) hx
        have hc := h5.2.2.2 _ (List.mem_of_getElem? hx)
        have hin : vp_in i l9.length := za_vp (by have := hc.1; omega) h0 h1
        obtain ⟨a, b, c0⟩ := r
        cases hr
        have hq2 : some q ∈ l9 := by
          have hq2 := hq
          rw [List.getD_eq_getElem?_getD, List.getElem?_eq_getElem (q_lt hin), Option.getD_some] at hq2
          rw [← hq2]
          exact List.getElem_mem _
        have hok : qv_ok T.2.length (.inr (.inl (some q))) := Or.inl (hc.2 q hq2)
        refine W.aald (v := .ref (qad G aq q)) (ty := .array .int) X.1 X.2.1 (hP _ _ he) ((X.2.2.2.2.1.2 4 _ (q_tys G).2.2.2).1 l9.length (fun j => va_rf ((l9.getD j none).map (qad G aq)))) rfl (fun q => by cases q) (by show ¬ (i < 0 ∨ (arrV _ _ _).slots.size ≤ _); rw [arrV_size]; exact hin) (by show (arrV _ _ _).slots[_]? = _; rw [arrV_read _ _ (q_lt hin)]; show some (va_rf ((l9.getD i.toNatClampNeg none).map (qad G aq))) = _; rw [hq]; rfl) rfl rfl hdg (k2 aq ls H locs ha hl hP hD hS h5 (qv_cons hok (qv_tl (qv_tl hs))) hv)
      · exact nomatch h
    · exact nomatch h
  · exact nomatch h
end QB

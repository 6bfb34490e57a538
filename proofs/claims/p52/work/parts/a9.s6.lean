/-! SOUNDNESS 6: calls, throws, catches -/
/-- a method: its name, code, locals, what it returns, its handlers, its class, its number of parameters; the places of its words: code, initialised, instance or static, selects -/
abbrev zM : Type := MethodName × ByteArray × Nat × Option FieldType × List (Nat × Nat × Nat × Nat) × Nat × (Nat × Nat × Nat × Nat)
def zM_word (M : zM) : Cond := .code M.1 M.2.1 M.2.2.1 M.2.2.2.1
def zrm (d n : Nat) : Room := { frames := d + 3, cells := n, slots := 6 * n, locals := 36 * d + 100 }
def zCtr (l : Launch) (d : Nat) (M : zM) (av : List zV) (S : zS) (out : zO) : Prop :=
  S.2.2.2 ≤ out.2.2.2.2 ∧ ((∃ v, out.1 = .inl v) → (∀ v, v ∈ av → zv_ok v ∧ zl_wide (some v) = false) → ∀ (G : zG) (sz : Nat), Met l M.1 [zM_word M] (zrm d (out.2.2.2.2 - S.2.2.2)) (va_Pc (av.map (zc G.2.2.1)) (fun U => U.heap.size = sz ∧ zw_W G S U)) (zQc G S out sz) (out.2.2.2.2 - S.2.2.2) (6 * (out.2.2.2.2 - S.2.2.2)) (zA G sz))
/-- what the tables say of a method -/
def zM_ok (M : zM) (n : Nat) : Prop := lw_tbl[M.2.2.2.2.2.2.1]? = some (zM_word M) ∧ lw_tbl[M.2.2.2.2.2.2.2.1]? = some (.initialized M.1.cls) ∧ M.1.cls ≠ "java/lang/invoke/MethodHandle" ∧ M.1.cls ≠ "java/lang/invoke/VarHandle" ∧ (parseMethodDescriptor M.1.desc).map (fun d => d.parameters.length) = some n ∧ M.2.2.1 ≤ 17
def zM_virtual (M : zM) : Prop := M.2.2.2.2.1 = [] ∧ lw_tbl[M.2.2.2.2.2.2.2.2.1]? = some (.instanceMethod M.1) ∧ lw_tbl[M.2.2.2.2.2.2.2.2.2]? = some (.selects M.1.cls M.1 M.1)
def zM_static (M : zM) : Prop := lw_tbl[M.2.2.2.2.2.2.2.2.1]? = some (.static M.1)
theorem zM_word_keep (M : zM) : zt_keep (zM_word M) = true := rfl
theorem zl_rev {ad : zR → Nat} (as rest : List zV) : (as.reverse ++ rest).map (zc ad) = (as.map (zc ad)).reverse ++ rest.map (zc ad) := by
  rw [List.map_append, List.map_reverse]
section ZC
variable {p : Program} {l : Launch} {e : Env} {R : Room} {s : State} {m : MethodId} {args : Array Value} {below : List Frame} {meth : Method} {c : Code} {Q : State → Prop} {G : zG} {S0 : zS} {own : String} {cc : ByteArray} {nL : Nat} {ret : Option FieldType} {hh : List (Nat × Nat × Nat × Nat)} {S : zS} {pc : Nat} {lv : zL} {st : List zV} {out : zO} {gm : Nat}
/-- behind a call -/
theorem zJ_back {mc : Nat} {o : zO} {rest : List zV} {ls : Array Slot} {H : Heap} {locs : List Loc} (hmc : mc = o.2.2.2.2 - S.2.2.2) (hSo : S.2.2.2 ≤ o.2.2.2.2) (hg : S0.2.2.2 ≤ S.2.2.2) (h5 : S.1 5 = S0.1 5) (hl : lv_has ls nL (zl_pairs G.2.2.1 0 lv)) (hS : va_S (zA G s.heap.size) s.heap H locs) (hs : ∀ v, v ∈ rest → zv_ok v) (hv : ∀ (j : Nat) (v : zV), zl_get lv j = some v → zv_ok v)
    {av : Array Value} (hrun : va_Run p l e R s m args below meth c H locs (S.2.2.2 - S0.2.2.2) (6 * (S.2.2.2 - S0.2.2.2)) mc (6 * mc) (F0 m pc ls (st.map (zc G.2.2.1))) (rest.map (zc G.2.2.1)) (zQc G S o H.size av) (zA G H.size))
    (kn : ∀ v, o.1 = .inl v → zJ p l e R s m args below meth c Q G S0 nL o.2 (pc + 3) lv (v.toList ++ rest)) :
    W p l e R s m args below meth c H locs (S.2.2.2 - S0.2.2.2) (6 * (S.2.2.2 - S0.2.2.2)) Q (F0 m pc ls (st.map (zc G.2.2.1))) := by
  intro T hT XT
  have ec : (S.2.2.2 - S0.2.2.2) + mc = o.2.2.2.2 - S0.2.2.2 := by omega
  have es : 6 * (S.2.2.2 - S0.2.2.2) + 6 * mc = 6 * (o.2.2.2.2 - S0.2.2.2) := by omega
  have hA : ∀ q, q < H.size → zA G H.size q → zA G s.heap.size q := fun q _ h => zA_mono hS.1 q h
  obtain ⟨v, st₀, t, T', L, h0, X', hL, e1, e2, ⟨v', hv', hvv, hPt, h5t, hok, hF⟩, sg⟩ := hrun T hT XT
  have hz : H.size ≤ T'.heap.size := by rw [e1, ← h0]; exact hF.1
  have hk : ∀ q : Nat, q < H.size → ¬ zA G H.size q → T'.heap[q]? = H[q]? := fun q h1 h2 => by rw [e1, ← h0]; exact hF.2 q (by rw [h0]; exact h1) h2
  have k3 : va_S (zA G s.heap.size) s.heap T'.heap (locs ++ L) := ⟨Nat.le_trans hS.1 hz, fun q h1 h2 => (hk q (Nat.lt_of_lt_of_le h1 hS.1) (fun z => h2 (hA q (Nat.lt_of_lt_of_le h1 hS.1) z))).trans (hS.2.1 q h1 h2), fun x hx => (List.mem_append.mp hx).elim (hS.2.2 x) (fun h => zA_mono hS.1 _ (hL x h))⟩
  rw [ec, es] at X'
  cases hvv
  have hstk : (v'.map (zc G.2.2.1)).toList ++ rest.map (zc G.2.2.1) = (v'.toList ++ rest).map (zc G.2.2.1) := by cases v' <;> rfl
  have hs2 : ∀ w, w ∈ v'.toList ++ rest → zv_ok w := fun w hw => by
    rcases List.mem_append.mp hw with h | h
    · cases v' with
      | none => cases h
      | some y =>
        rw [List.mem_singleton.mp h]
        exact hok y rfl
    · exact hs w h
  obtain ⟨t2, a1, b1⟩ := kn v' hv' ls T'.heap (locs ++ L) hl (by rw [e1]; exact hPt) k3 (h5t.trans h5) (Nat.le_trans hg hSo) hs2 hv T' rfl X'
  refine ⟨t2, sg t2 ?_, b1⟩
  rw [← hstk] at a1
  exact a1
theorem zC_pc {G : zG} {S : zS} {av : List Value} {sz : Nat} : FrameBlind (va_Pc av (fun U => U.heap.size = sz ∧ zw_W G S U)) := fun _ _ _ _ q => ⟨q.1, q.2.1, zw_blind _ _ _ q.2.2⟩
theorem zC_B (X : zX p l s m meth c G S0 own cc nL ret hh) {M : zM} {n : Nat} {d ix q nc : Nat} (hM : zM_ok M n) (hd : d + 4 ≤ R.frames ∧ 36 * d + 136 ≤ R.locals) (hlink : lw_tbl[q]? = some (.methodLink own ix M.1)) : CallB R s args own ix M.1 M.2.1 M.2.2.1 M.2.2.2.1 [zM_word M] (zrm d nc) nc (6 * nc) n := by
  obtain ⟨g1, g2, g3, g4, g5, g6⟩ := hM
  have hw : zM_word M = .code M.1 M.2.1 M.2.2.1 M.2.2.2.1 := rfl
  have hcode : ∀ (a' : Array Value) (U : State), s.WarmedH U.vm → (zM_word M).before a' U = true := fun a' U hW => zt_keep_warm (zM_word_keep M) hW (zw_use X.2.2.2.2.2.1.1 g1 (zM_word_keep M) (args := args))
  refine ⟨rfl, rfl, by show d + 3 + 1 ≤ R.frames; omega, by show 8 + (M.2.2.1 + 11) + (36 * d + 100) ≤ R.locals; omega, fun w hw2 a' U hW => by rw [List.mem_singleton.mp hw2]; exact hcode a' U hW, by rw [hw]; exact List.mem_singleton.mpr rfl, by rw [← hw]; exact hcode args s (State.WarmedH.refl s), zw_use X.2.2.2.2.2.1.1 g2 rfl, ⟨g3, g4⟩, fun sig h => ?_, zw_use X.2.2.2.2.2.1.1 hlink rfl⟩
  rw [h] at g5
  exact (Option.some.inj g5).symm
theorem zJ_callV (X : zX p l s m meth c G S0 own cc nL ret hh) (hR : zRm R S0 gm) {d ix q n : Nat} {M : zM} {r : zR} {as rest : List zV} {o : zO} (hd : d + 4 ≤ R.frames ∧ 36 * d + 136 ≤ R.locals) (hdg : decode cc pc = .ok (.invokevirtual ix, 3)) (hlink : lw_tbl[q]? = some (.methodLink own ix M.1)) (hM : zM_ok M n) (hV : zM_virtual M)
    (hC : zCtr l d M (.inr (.inl (some r)) :: as) S o) (hi : (∃ (ci : Nat) (Cl : vw_C), zx_is r ci = true ∧ vwCl[ci]? = some Cl ∧ Cl.1 = M.1.cls) ∨ (r.1 = 6 ∧ M.1.cls = "java/lang/String")) (hw : zx_wd rest ≤ 8) (hnw : ∀ v, v ∈ as → zl_wide (some v) = false) (hlen : as.length = n)
    (ho : ∃ v, o.1 = .inl v) (kn : ∀ v, o.1 = .inl v → zJ2 p l e R s m args below meth c Q G S0 nL gm o.2 (pc + 3) lv (v.toList ++ rest)) :
    zJ2 p l e R s m args below meth c Q G S0 nL gm S pc lv (as.reverse ++ .inr (.inl (some r)) :: rest) := by
  obtain ⟨hSo, hC⟩ := hC
  have hog : o.2.2.2.2 ≤ gm := by
    obtain ⟨v, hv0⟩ := ho
    exact (kn v hv0).1
  refine ⟨Nat.le_trans hSo hog, fun ls H locs hl hP hS h5 hg hs hv => ?_⟩
  have hsr : zv_ok (.inr (.inl (some r))) := hs _ (List.mem_append_right _ List.mem_cons_self)
  have hrec : ∃ cell : Cell, H[G.2.2.1 r]? = some cell ∧ cell.vm.isStatics = false ∧ s.vm.findClass M.1.cls = some cell.cls := by
    rcases hi with ⟨ci, Cl, hi, hCl, hcls⟩ | ⟨h6, hcls⟩
    · obtain ⟨x, hcd⟩ := zx_is_cd hi
      have hr := zr_in hsr hcd
      obtain ⟨q0, hq0⟩ := zt_at hr
      have he := zt_wsat G S hq0
      rw [zt_el_obj hcd] at he
      rw [← hcls]
      exact va_recv X.2.2.2.2.1 hP hCl he
    · obtain ⟨a, b, c0⟩ := r
      have h6a : a = 6 := h6
      subst h6a
      have hc0 : c0 = 0 ∧ b ∈ zt_av := by
        rcases hsr with h | h | h
        · exact absurd (zt_all_cd _ h).2 (by show ¬ (6 : Nat) < 5; decide)
        · cases h
        · exact ⟨h.2.2, h.2.1⟩
      obtain ⟨rfl, hb⟩ := hc0
      rw [hcls]
      exact vk_recv (X.2.2.2.2.2.1.2.2.1 b hb) (i := 0) (by decide) hS
  have hav : ∀ v, v ∈ (.inr (.inl (some r)) :: as : List zV) → zv_ok v ∧ zl_wide (some v) = false := fun v hv2 => by
    rcases List.mem_cons.mp hv2 with h | h
    · rw [h]; exact ⟨hsr, rfl⟩
    · exact ⟨hs v (List.mem_append_left _ (List.mem_reverse.mpr h)), hnw v h⟩
  obtain ⟨r1, r2, r3, r4⟩ := hR
  obtain ⟨h0, hV1, hV2⟩ := hV
  have hmet := hC ho hav G H.size
  have hrun := va_runV (args := args) (l := l) (e := e) (R := R) (below := below) (meth := meth) (locs := locs) (cells := S.2.2.2 - S0.2.2.2) (slots := 6 * (S.2.2.2 - S0.2.2.2)) (H := H) (C := M.1.cls) (b := G.2.2.1 r) (As := as.map (zc G.2.2.1)) (rest := rest.map (zc G.2.2.1)) (Ts := []) (g := F0 m pc ls ((as.reverse ++ .inr (.inl (some r)) :: rest).map (zc G.2.2.1))) (nL := nL) (index := ix) (n := n)
    ⟨X.1, X.2.1, X.2.2.1, X.2.2.2.1, fun _ h => absurd h List.not_mem_nil⟩ hmet ⟨zC_B X hM hd hlink, zw_use X.2.2.2.2.2.1.1 hV1 rfl, zw_use X.2.2.2.2.2.1.1 hV2 rfl⟩
    ⟨zC_pc, hrec, fun U hU hW => ⟨by rw [List.map_cons]; rfl, by rw [hU], zw_go X.2.2.2.2.1 X.2.2.2.2.2.1 X.2.2.2.2.2.2.1 h5 (by rw [hU]; exact hP) (by rw [hU]; exact hS) hW⟩⟩
    rfl (by rw [List.length_map]; exact hlen) hl.1 (by rw [zl_rev]; rfl) (lv_room (by rw [zx_wd_sum]; exact hw)) hdg ⟨by omega, by omega⟩
  exact zJ_back rfl hSo hg h5 hl hS (fun v h => hs v (List.mem_append_right _ (List.mem_cons_of_mem _ h))) hv hrun (fun v h => (kn v h).2)
theorem zJ_callS (X : zX p l s m meth c G S0 own cc nL ret hh) (hR : zRm R S0 gm) {d ix q n : Nat} {M : zM} {as rest : List zV} {o : zO} (hd : d + 4 ≤ R.frames ∧ 36 * d + 136 ≤ R.locals) (hdg : decode cc pc = .ok (.invokestatic ix, 3)) (hlink : lw_tbl[q]? = some (.methodLink own ix M.1)) (hM : zM_ok M n) (hV : zM_static M)
    (hC : zCtr l d M as S o) (hw : zx_wd rest ≤ 8) (hnw : ∀ v, v ∈ as → zl_wide (some v) = false) (hlen : as.length = n)
    (ho : ∃ v, o.1 = .inl v) (kn : ∀ v, o.1 = .inl v → zJ2 p l e R s m args below meth c Q G S0 nL gm o.2 (pc + 3) lv (v.toList ++ rest)) :
    zJ2 p l e R s m args below meth c Q G S0 nL gm S pc lv (as.reverse ++ rest) := by
  obtain ⟨hSo, hC⟩ := hC
  have hog : o.2.2.2.2 ≤ gm := by
    obtain ⟨v, hv0⟩ := ho
    exact (kn v hv0).1
  refine ⟨Nat.le_trans hSo hog, fun ls H locs hl hP hS h5 hg hs hv => ?_⟩
  have hav : ∀ v, v ∈ as → zv_ok v ∧ zl_wide (some v) = false := fun v hv2 => ⟨hs v (List.mem_append_left _ (List.mem_reverse.mpr hv2)), hnw v hv2⟩
  obtain ⟨r1, r2, r3, r4⟩ := hR
  have hmet := hC ho hav G H.size
  have hpre : PreS s H (va_Pc (as.map (zc G.2.2.1)) (fun U => U.heap.size = H.size ∧ zw_W G S U)) (as.map (zc G.2.2.1)) := ⟨zC_pc, fun U hU hW => ⟨rfl, by rw [hU], zw_go X.2.2.2.2.1 X.2.2.2.2.2.1 X.2.2.2.2.2.2.1 h5 (by rw [hU]; exact hP) (by rw [hU]; exact hS) hW⟩⟩
  have fin : va_Run p l e R s m args below meth c H locs (S.2.2.2 - S0.2.2.2) (6 * (S.2.2.2 - S0.2.2.2)) (o.2.2.2.2 - S.2.2.2) (6 * (o.2.2.2.2 - S.2.2.2)) (F0 m pc ls ((as.reverse ++ rest).map (zc G.2.2.1))) (rest.map (zc G.2.2.1)) (zQc G S o H.size (as.map (zc G.2.2.1)).toArray) (zA G H.size) := by
    exact va_runS (As := as.map (zc G.2.2.1)) (Ts := []) (nL := nL) (index := ix) (n := n) ⟨X.1, X.2.1, X.2.2.1, X.2.2.2.1, fun _ h => absurd h List.not_mem_nil⟩ hmet ⟨zC_B X hM hd hlink, zw_use X.2.2.2.2.2.1.1 hV rfl⟩ hpre rfl (by rw [List.length_map]; exact hlen) hl.1 (zl_rev _ _) (lv_room (by rw [zx_wd_sum]; exact hw)) hdg ⟨by omega, by omega⟩
  exact zJ_back rfl hSo hg h5 hl hS (fun v h => hs v (List.mem_append_right _ h)) hv fin (fun v h => (kn v h).2)
end ZC

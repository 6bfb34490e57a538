/-! SOUNDNESS 6: calls, throws, catches -/
/-- a method: its name, code, locals, what it returns, its handlers, its class, its number of parameters; the places of its words: code, initialised, instance or static, selects -/
abbrev zM : Type := MethodName × ByteArray × Nat × Option FieldType × List (Nat × Nat × Nat × Nat) × Nat × (Nat × Nat × Nat × Nat)
def zM_word (M : zM) : Cond := match M.2.2.2.2.1 with
  | [] => .code M.1 M.2.1 M.2.2.1 M.2.2.2.1
  | h :: hh => .codeWith M.1 M.2.1 M.2.2.1 M.2.2.2.1 (h :: hh)
def zrm (d n : Nat) : Room := { frames := d + 6, cells := n, slots := 6 * n, locals := 64 * d + 200 }
def zCtr (l : Launch) (d : Nat) (M : zM) (av : List zV) (S : zS) (out : zO) : Prop :=
  S.2.2.2 ≤ out.2.2.2.2 ∧ ((∀ v, v ∈ av → zv_ok v ∧ zl_wide (some v) = false) → ∀ (G : zG) (sz : Nat), vx_Met l M.1 [zM_word M] (zrm d (out.2.2.2.2 - S.2.2.2)) (va_Pc (av.map (zc G.2.2.1)) (fun U => U.heap.size = sz ∧ zw_W G S U)) (zQc G S out sz) (zXC G S out sz) (out.2.2.2.2 - S.2.2.2) (6 * (out.2.2.2.2 - S.2.2.2)) (zA G sz))
/-- what the tables say of a method -/
def zM_ok (M : zM) (n : Nat) : Prop := lw_tbl[M.2.2.2.2.2.2.1]? = some (zM_word M) ∧ lw_tbl[M.2.2.2.2.2.2.2.1]? = some (.initialized M.1.cls) ∧ M.1.cls ≠ "java/lang/invoke/MethodHandle" ∧ M.1.cls ≠ "java/lang/invoke/VarHandle" ∧ (parseMethodDescriptor M.1.desc).map (fun d => d.parameters.length) = some n ∧ M.2.2.1 ≤ 40
def zM_virtual (M : zM) : Prop := M.2.2.2.2.1 = [] ∧ lw_tbl[M.2.2.2.2.2.2.2.2.1]? = some (.instanceMethod M.1) ∧ lw_tbl[M.2.2.2.2.2.2.2.2.2]? = some (.selects M.1.cls M.1 M.1)
def zM_static (M : zM) : Prop := lw_tbl[M.2.2.2.2.2.2.2.2.1]? = some (.static M.1)
theorem zM_word_keep (M : zM) : zt_keep (zM_word M) = true := by
  unfold zM_word
  cases M.2.2.2.2.1 <;> rfl
theorem zl_rev {ad : zR → Nat} (as rest : List zV) : (as.reverse ++ rest).map (zc ad) = (as.map (zc ad)).reverse ++ rest.map (zc ad) := by
  rw [List.map_append, List.map_reverse]
section ZC
variable {p : Program} {l : Launch} {e : Env} {R : Room} {s : State} {m : MethodId} {args : Array Value} {below : List Frame} {meth : Method} {c : Code} {Q : State → Prop} {G : zG} {S0 : zS} {own : String} {cc : ByteArray} {nL : Nat} {ret : Option FieldType} {hh : List (Nat × Nat × Nat × Nat)} {S : zS} {pc : Nat} {lv : zL} {st : List zV} {out : zO} {gm : Nat}
/-- an exception of the class E lies over this frame -/
def zJx (p : Program) (l : Launch) (e : Env) (R : Room) (s : State) (m : MethodId) (args : Array Value) (below : List Frame) (meth : Method) (c : Code) (Q : State → Prop) (G : zG) (S0 : zS) (nL : Nat) (S : zS) (E : String) (pc : Nat) (lv : zL) (rest : List zV) : Prop :=
  ∀ (ls : Array Slot) (H : Heap) (locs : List Loc) (q9 : Addr) (ce : Cell), lv_has ls nL (zl_pairs G.2.2.1 0 lv) → va_P G.1 vwCl (zt_ws G S) H → va_S (zA G s.heap.size) s.heap H locs → S.1 5 = S0.1 5 → S0.2.2.2 ≤ S.2.2.2 → (∀ (j : Nat) (v : zV), zl_get lv j = some v → zv_ok v) →
    H[q9]? = some ce → ce.vm = .none → s.vm.findClass E = some ce.cls → vx_W p l e R s m args below meth c H locs (S.2.2.2 - S0.2.2.2) (6 * (S.2.2.2 - S0.2.2.2)) Q (F0 m pc ls (rest.map (zc G.2.2.1))) q9
theorem zJx_out (X : zX p l s m meth c G S0 own cc nL ret []) {x : Nat} {E : String} {rest : List zV} (hE : zx_nth zt_exc x = some E) : zJx p l e R s m args below meth c (zQ below args s G S0 (.inr x, S)) G S0 nL S E pc lv rest := by
  intro ls H locs q9 ce hl hP hS h5 hg hv hce hcv hcl
  have ht : c.exceptionTable.toList = tableOf [] := X.2.2.2.2.2.2.2.2.2.2
  exact vx_out (fun x hx => by rw [ht] at hx; exact absurd hx List.not_mem_nil) X.2.2.2.2.2.2.2.2.1 hce hcv hcl (fun t ht hal => ⟨x, rfl, hE, by rw [ht]; exact hP, h5, hS.F ht⟩) hS.2.2 (Nat.le_refl _) (Nat.le_refl _)
/-- behind a call, both ends -/
theorem zJ_back {mc : Nat} {o : zO} {rest : List zV} {ls : Array Slot} {H : Heap} {locs : List Loc} (hmc : mc = o.2.2.2.2 - S.2.2.2) (hSo : S.2.2.2 ≤ o.2.2.2.2) (hg : S0.2.2.2 ≤ S.2.2.2) (h5 : S.1 5 = S0.1 5) (hl : lv_has ls nL (zl_pairs G.2.2.1 0 lv)) (hS : va_S (zA G s.heap.size) s.heap H locs) (hs : ∀ v, v ∈ rest → zv_ok v) (hv : ∀ (j : Nat) (v : zV), zl_get lv j = some v → zv_ok v)
    {av : Array Value} (hrun : vx_Run p l e R s m args below meth c H locs (S.2.2.2 - S0.2.2.2) (6 * (S.2.2.2 - S0.2.2.2)) mc (6 * mc) (F0 m pc ls (st.map (zc G.2.2.1))) (rest.map (zc G.2.2.1)) (zQc G S o H.size av) (zXC G S o H.size) (zA G H.size))
    (kn : ∀ v, o.1 = .inl v → zJ p l e R s m args below meth c Q G S0 nL o.2 (pc + 3) lv (v.toList ++ rest)) (kx : ∀ x E, o.1 = .inr x → zx_nth zt_exc x = some E → zJx p l e R s m args below meth c Q G S0 nL o.2 E pc lv rest) :
    W p l e R s m args below meth c H locs (S.2.2.2 - S0.2.2.2) (6 * (S.2.2.2 - S0.2.2.2)) Q (F0 m pc ls (st.map (zc G.2.2.1))) := by
  intro T hT XT
  have ec : (S.2.2.2 - S0.2.2.2) + mc = o.2.2.2.2 - S0.2.2.2 := by omega
  have es : 6 * (S.2.2.2 - S0.2.2.2) + 6 * mc = 6 * (o.2.2.2.2 - S0.2.2.2) := by omega
  have hA : ∀ q, q < H.size → zA G H.size q → zA G s.heap.size q := fun q _ h => zA_mono hS.1 q h
  rcases hrun T hT XT with ⟨v, st₀, t, T', L, h0, X', hL, e1, e2, ⟨v', hv', hvv, hPt, h5t, hok, hF⟩, sg⟩ | ⟨q9, st₀, t, T', L, E, ce, h0, X', hL, e1, e2, ⟨x, hx, hE, hPt, h5t, hF⟩, hce, hcv, hcl, sg⟩
  · obtain ⟨-, -, k3⟩ := vx_keep h0 e1 hS hA (fun q h => zA_mono hS.1 q h) hL hF
    rw [ec, es] at X'
    cases hvv
    have hstk : (v'.map (zc G.2.2.1)).toList ++ rest.map (zc G.2.2.1) = (v'.toList ++ rest).map (zc G.2.2.1) := by cases v' <;> rfl
    have hs2 : ∀ w, w ∈ v'.toList ++ rest → zv_ok w := fun w hw => by
      rcases List.mem_append.mp hw with h | h
      · cases v' with
        | none => cases h
        | some y =>
          rw [List.mem_singleton.mp h]
          exact hok y rfl
      · exact hs w h
    obtain ⟨t2, a1, b1⟩ := kn v' hv' ls T'.heap (locs ++ L) hl (by rw [e1]; exact hPt) k3 (h5t.trans h5) (Nat.le_trans hg hSo) hs2 hv T' rfl X'
    refine ⟨t2, sg t2 ?_, b1⟩
    rw [← hstk] at a1
    exact a1
  · obtain ⟨-, -, k3⟩ := vx_keep h0 e1 hS hA (fun q h => zA_mono hS.1 q h) hL hF
    rw [ec, es] at X'
    obtain ⟨t2, a1, b1⟩ := kx x E hx hE ls T'.heap (locs ++ L) q9 ce hl (by rw [e1]; exact hPt) k3 (h5t.trans h5) (Nat.le_trans hg hSo) hv (by rw [e1]; exact hce) hcv hcl T' rfl X'
    exact ⟨t2, sg.trans a1, b1⟩
theorem zC_pc {G : zG} {S : zS} {av : List Value} {sz : Nat} : FrameBlind (va_Pc av (fun U => U.heap.size = sz ∧ zw_W G S U)) := fun _ _ _ _ q => ⟨q.1, q.2.1, zw_blind _ _ _ q.2.2⟩
theorem zC_B (X : zX p l s m meth c G S0 own cc nL ret hh) {M : zM} {n : Nat} {d ix q nc : Nat} (hM : zM_ok M n) (hd : d + 7 ≤ R.frames ∧ 64 * d + 264 ≤ R.locals) (hlink : lw_tbl[q]? = some (.methodLink own ix M.1)) (h0 : M.2.2.2.2.1 = []) : CallB R s args own ix M.1 M.2.1 M.2.2.1 M.2.2.2.1 [zM_word M] (zrm d nc) nc (6 * nc) n := by
  obtain ⟨g1, g2, g3, g4, g5, g6⟩ := hM
  have hw : zM_word M = .code M.1 M.2.1 M.2.2.1 M.2.2.2.1 := by unfold zM_word; rw [h0]
  have hcode : ∀ (a' : Array Value) (U : State), s.WarmedH U.vm → (zM_word M).before a' U = true := fun a' U hW => zt_keep_warm (zM_word_keep M) hW (zw_use X.2.2.2.2.2.1.1 g1 (zM_word_keep M) (args := args))
  refine ⟨rfl, rfl, by show d + 6 + 1 ≤ R.frames; omega, by show 8 + (M.2.2.1 + 11) + (64 * d + 200) ≤ R.locals; omega, fun w hw2 a' U hW => by rw [List.mem_singleton.mp hw2]; exact hcode a' U hW, by rw [hw]; exact List.mem_singleton.mpr rfl, by rw [← hw]; exact hcode args s (State.WarmedH.refl s), zw_use X.2.2.2.2.2.1.1 g2 rfl, ⟨g3, g4⟩, fun sig h => ?_, zw_use X.2.2.2.2.2.1.1 hlink rfl⟩
  rw [h] at g5
  exact (Option.some.inj g5).symm
theorem zJ_callV (X : zX p l s m meth c G S0 own cc nL ret hh) (hR : zRm R S0 gm) {d ix q n : Nat} {M : zM} {r : zR} {as rest : List zV} {o : zO} (hd : d + 7 ≤ R.frames ∧ 64 * d + 264 ≤ R.locals) (hdg : decode cc pc = .ok (.invokevirtual ix, 3)) (hlink : lw_tbl[q]? = some (.methodLink own ix M.1)) (hM : zM_ok M n) (hV : zM_virtual M)
    (hC : zCtr l d M (.inr (.inl (some r)) :: as) S o) (hi : (∃ (ci : Nat) (Cl : vw_C), zx_is r ci = true ∧ vwCl[ci]? = some Cl ∧ Cl.1 = M.1.cls) ∨ (r.1 = 6 ∧ M.1.cls = "java/lang/String")) (hw : zx_wd rest ≤ 8) (hnw : ∀ v, v ∈ as → zl_wide (some v) = false) (hlen : as.length = n)
    (kn : ∀ v, o.1 = .inl v → zJ2 p l e R s m args below meth c Q G S0 nL gm o.2 (pc + 3) lv (v.toList ++ rest)) (kx : ∀ x, o.1 = .inr x → o.2.2.2.2 ≤ gm ∧ ∀ E, zx_nth zt_exc x = some E → zJx p l e R s m args below meth c Q G S0 nL o.2 E pc lv rest) :
    zJ2 p l e R s m args below meth c Q G S0 nL gm S pc lv (as.reverse ++ .inr (.inl (some r)) :: rest) := by
  obtain ⟨hSo, hC⟩ := hC
  have hog : o.2.2.2.2 ≤ gm := by
    cases ho : o.1 with
    | inl v => exact (kn v ho).1
    | inr x => exact (kx x ho).1
  refine ⟨Nat.le_trans hSo hog, fun ls H locs hl hP hS h5 hg hs hv => ?_⟩
  have hsr : zv_ok (.inr (.inl (some r))) := hs _ (List.mem_append_right _ List.mem_cons_self)
  have hrec : ∃ cell : Cell, H[G.2.2.1 r]? = some cell ∧ cell.vm.isStatics = false ∧ s.vm.findClass M.1.cls = some cell.cls := by
    rcases hi with ⟨ci, Cl, hi, hCl, hcls⟩ | ⟨h6, hcls⟩
    · obtain ⟨x, hcd⟩ := zx_is_cd hi
      have hr := zr_in hsr hcd
      obtain ⟨q0, hq0⟩ := zt_at hr
      have he := zt_wsat G S hq0
      rw [zt_el_obj hcd] at he
      rw [← hcls]
      exact va_recv X.2.2.2.2.1 hP hCl he
    · obtain ⟨a, b, c0⟩ := r
      have h6a : a = 6 := h6
      subst h6a
      have hc0 : c0 = 0 ∧ b < zt_texts.length := by
        rcases hsr with h | h | h
        · exact absurd (zt_all_cd _ h).2 (by show ¬ (6 : Nat) < 5; decide)
        · cases h
        · exact ⟨h.2.2, h.2.1⟩
      obtain ⟨rfl, hb⟩ := hc0
      rw [hcls]
      exact vk_recv X.2.2.2.2.2.1.2.2.1 hb hS
  have hav : ∀ v, v ∈ (.inr (.inl (some r)) :: as : List zV) → zv_ok v ∧ zl_wide (some v) = false := fun v hv2 => by
    rcases List.mem_cons.mp hv2 with h | h
    · rw [h]; exact ⟨hsr, rfl⟩
    · exact ⟨hs v (List.mem_append_left _ (List.mem_reverse.mpr h)), hnw v h⟩
  obtain ⟨r1, r2, r3, r4⟩ := hR
  obtain ⟨h0, hV1, hV2⟩ := hV
  have hmet := hC hav G H.size
  have hrun := vx_runV (args := args) (l := l) (e := e) (R := R) (below := below) (meth := meth) (locs := locs) (cells := S.2.2.2 - S0.2.2.2) (slots := 6 * (S.2.2.2 - S0.2.2.2)) (H := H) (C := M.1.cls) (b := G.2.2.1 r) (As := as.map (zc G.2.2.1)) (rest := rest.map (zc G.2.2.1)) (Ts := []) (g := F0 m pc ls ((as.reverse ++ .inr (.inl (some r)) :: rest).map (zc G.2.2.1))) (nL := nL) (index := ix) (n := n)
    ⟨X.1, X.2.1, X.2.2.1, X.2.2.2.1, fun _ h => absurd h List.not_mem_nil⟩ hmet ⟨zC_B X hM hd hlink h0, zw_use X.2.2.2.2.2.1.1 hV1 rfl, zw_use X.2.2.2.2.2.1.1 hV2 rfl⟩
    ⟨zC_pc, hrec, fun U hU hW => ⟨by rw [List.map_cons]; rfl, by rw [hU], zw_go X.2.2.2.2.1 X.2.2.2.2.2.1 X.2.2.2.2.2.2.1 h5 (by rw [hU]; exact hP) (by rw [hU]; exact hS) hW⟩⟩
    rfl (by rw [List.length_map]; exact hlen) hl.1 (by rw [zl_rev]; rfl) (lv_room (by rw [zx_wd_sum]; exact hw)) hdg ⟨by omega, by omega⟩
  exact zJ_back rfl hSo hg h5 hl hS (fun v h => hs v (List.mem_append_right _ (List.mem_cons_of_mem _ h))) hv hrun (fun v h => (kn v h).2) (fun x E h hE => (kx x h).2 E hE)
theorem zJ_callS (X : zX p l s m meth c G S0 own cc nL ret hh) (hR : zRm R S0 gm) {d ix q n : Nat} {M : zM} {as rest : List zV} {o : zO} (hd : d + 7 ≤ R.frames ∧ 64 * d + 264 ≤ R.locals) (hdg : decode cc pc = .ok (.invokestatic ix, 3)) (hlink : lw_tbl[q]? = some (.methodLink own ix M.1)) (hM : zM_ok M n) (hV : zM_static M)
    (hC : zCtr l d M as S o) (hw : zx_wd rest ≤ 8) (hnw : ∀ v, v ∈ as → zl_wide (some v) = false) (hlen : as.length = n)
    (kn : ∀ v, o.1 = .inl v → zJ2 p l e R s m args below meth c Q G S0 nL gm o.2 (pc + 3) lv (v.toList ++ rest)) (kx : ∀ x, o.1 = .inr x → o.2.2.2.2 ≤ gm ∧ ∀ E, zx_nth zt_exc x = some E → zJx p l e R s m args below meth c Q G S0 nL o.2 E pc lv rest) :
    zJ2 p l e R s m args below meth c Q G S0 nL gm S pc lv (as.reverse ++ rest) := by
  obtain ⟨hSo, hC⟩ := hC
  have hog : o.2.2.2.2 ≤ gm := by
    cases ho : o.1 with
    | inl v => exact (kn v ho).1
    | inr x => exact (kx x ho).1
  refine ⟨Nat.le_trans hSo hog, fun ls H locs hl hP hS h5 hg hs hv => ?_⟩
  have hav : ∀ v, v ∈ as → zv_ok v ∧ zl_wide (some v) = false := fun v hv2 => ⟨hs v (List.mem_append_left _ (List.mem_reverse.mpr hv2)), hnw v hv2⟩
  obtain ⟨r1, r2, r3, r4⟩ := hR
  have hmet := hC hav G H.size
  have hpre : PreS s H (va_Pc (as.map (zc G.2.2.1)) (fun U => U.heap.size = H.size ∧ zw_W G S U)) (as.map (zc G.2.2.1)) := ⟨zC_pc, fun U hU hW => ⟨rfl, by rw [hU], zw_go X.2.2.2.2.1 X.2.2.2.2.2.1 X.2.2.2.2.2.2.1 h5 (by rw [hU]; exact hP) (by rw [hU]; exact hS) hW⟩⟩
  have fin : vx_Run p l e R s m args below meth c H locs (S.2.2.2 - S0.2.2.2) (6 * (S.2.2.2 - S0.2.2.2)) (o.2.2.2.2 - S.2.2.2) (6 * (o.2.2.2.2 - S.2.2.2)) (F0 m pc ls ((as.reverse ++ rest).map (zc G.2.2.1))) (rest.map (zc G.2.2.1)) (zQc G S o H.size (as.map (zc G.2.2.1)).toArray) (zXC G S o H.size) (zA G H.size) := by
    cases h0 : M.2.2.2.2.1 with
    | nil =>
      exact vx_runS (As := as.map (zc G.2.2.1)) (Ts := []) (nL := nL) (index := ix) (n := n) ⟨X.1, X.2.1, X.2.2.1, X.2.2.2.1, fun _ h => absurd h List.not_mem_nil⟩ hmet ⟨zC_B X hM hd hlink h0, zw_use X.2.2.2.2.2.1.1 hV rfl⟩ hpre rfl (by rw [List.length_map]; exact hlen) hl.1 (zl_rev _ _) (lv_room (by rw [zx_wd_sum]; exact hw)) hdg ⟨by omega, by omega⟩
    | cons h hs0 =>
      obtain ⟨g1, g2, g3, g4, g5, g6⟩ := hM
      have hwd : zM_word M = .codeWith M.1 M.2.1 M.2.2.1 M.2.2.2.1 (h :: hs0) := by unfold zM_word; rw [h0]
      have hcode : ∀ (a' : Array Value) (U : State), s.WarmedH U.vm → (zM_word M).before a' U = true := fun a' U hW => zt_keep_warm (zM_word_keep M) hW (zw_use X.2.2.2.2.2.1.1 g1 (zM_word_keep M) (args := args))
      refine vx_runSX (As := as.map (zc G.2.2.1)) (Ts := []) (nL := nL) (index := ix) (n := n) (hh := h :: hs0) (bytes := M.2.1) (maxL := M.2.2.1) (ret := M.2.2.2.1) ⟨X.1, X.2.1, X.2.2.1, X.2.2.2.1, fun _ h => absurd h List.not_mem_nil⟩ hmet
        ⟨⟨rfl, rfl, by show d + 6 + 1 ≤ R.frames; omega, by show 8 + (M.2.2.1 + 11) + (64 * d + 200) ≤ R.locals; omega, fun w hw2 a' U hW => by rw [List.mem_singleton.mp hw2]; exact hcode a' U hW, by rw [hwd]; exact List.mem_singleton.mpr rfl⟩, by rw [← hwd]; exact hcode args s (State.WarmedH.refl s), zw_use X.2.2.2.2.2.1.1 g2 rfl, ⟨g3, g4⟩, fun sig h => ?_, zw_use X.2.2.2.2.2.1.1 hlink rfl, zw_use X.2.2.2.2.2.1.1 hV rfl⟩
        hpre rfl (by rw [List.length_map]; exact hlen) hl.1 (zl_rev _ _) (lv_room (by rw [zx_wd_sum]; exact hw)) hdg ⟨by omega, by omega⟩
      rw [h] at g5
      exact (Option.some.inj g5).symm
  exact zJ_back rfl hSo hg h5 hl hS (fun v h => hs v (List.mem_append_right _ h)) hv fin (fun v h => (kn v h).2) (fun x E h hE => (kx x h).2 E hE)
/-- caught: the handler's first instruction lays the exception into a local that is not read -/
theorem zJx_catch (X : zX p l s m meth c G S0 own cc nL ret hh) {E name : String} {pre suf : List (Nat × Nat × Nat × Nat)} {x : Nat × Nat × Nat × Nat} {k t : Nat} {rest : List zV} (hsplit : hh = pre ++ x :: suf)
    (hpass : ∀ z, z ∈ pre → z.2.2.2 ≠ 0 ∧ E = "java/lang/IllegalArgumentException" ∧ ∃ q : Nat, lw_tbl[q]? = some (.classLink own z.2.2.2 "java/util/NoSuchElementException")) (hx : covers ⟨x.1, x.2.1, x.2.2.1, x.2.2.2⟩ pc = true) (h0 : x.2.2.2 ≠ 0) {q1 q2 : Nat} (hlink : lw_tbl[q1]? = some (.classLink own x.2.2.2 name)) (hcast : lw_tbl[q2]? = some (.castable E name))
    (hk : k < nL) (hdg : (∃ j : Fin 4, decode cc x.2.2.1 = .ok (.astore_n j, 1) ∧ j.val = k ∧ t = x.2.2.1 + 1) ∨ (decode cc x.2.2.1 = .ok (.astore k, 2) ∧ t = x.2.2.1 + 2))
    (kk : zJ p l e R s m args below meth c Q G S0 nL S t (zl_set lv k none) []) : zJx p l e R s m args below meth c Q G S0 nL S E pc lv rest := by
  intro ls H locs q9 ce hl hP hS h5 hg hv hce hcv hcl
  have ht : c.exceptionTable.toList = tableOf hh := X.2.2.2.2.2.2.2.2.2.2
  refine vx_catch (own := own) (name := name) (E := E) X.2.2.2.1 (tableOf pre) ⟨x.1, x.2.1, x.2.2.1, x.2.2.2⟩ (tableOf suf) (by rw [ht, hsplit]; unfold tableOf; rw [List.map_append, List.map_cons]) (fun z hz => ?_) hx h0 (zw_use X.2.2.2.2.2.1.1 hlink rfl) (zw_use X.2.2.2.2.2.1.1 hcast rfl) hce hcv hcl ?_
  · unfold tableOf at hz
    obtain ⟨y, hy, rfl⟩ := List.mem_map.mp hz
    obtain ⟨g1, g2, q, g3⟩ := hpass y hy
    refine Or.inr ⟨g1, _, zw_use X.2.2.2.2.2.1.1 g3 rfl, ?_⟩
    rw [g2]
    exact X.2.2.2.2.2.1.2.2.2.2.2.2.1
  · have hmono : ∀ q, q ∈ zl_pairs G.2.2.1 0 (zl_set lv k none) → q ∈ (k, Value.ref q9) :: (zl_pairs G.2.2.1 0 lv).filter (fun q => !(q.1 == k) && !(q.1 + 1 == k && q.2.category == 2)) := by
      intro q hq
      obtain ⟨j, y, h1, h2⟩ := zl_mem0.mp hq
      rcases zl_getset lv k _ j y h2 with ⟨h3, h4⟩ | ⟨h3, h4, h5⟩
      · cases h4
      · refine List.mem_cons_of_mem _ (List.mem_filter.mpr ⟨zl_mem0.mpr ⟨j, y, h1, h4⟩, ?_⟩)
        subst h1
        simp only [Bool.and_eq_true, Bool.not_eq_true', beq_eq_false_iff_ne, ne_eq, Bool.and_eq_false_imp, beq_iff_eq]
        refine ⟨h3, fun e2 c2 => ?_⟩
        have h6 := (zc_cat G.2.2.1 y).mp c2
        rw [h5 e2] at h6
        cases h6
    have hv2 : ∀ (j : Nat) (w : zV), zl_get (zl_set lv k none) j = some w → zv_ok w := fun j w hw => by
      rcases zl_getset lv k _ j w hw with ⟨-, h4⟩ | ⟨-, h4, -⟩
      · cases h4
      · exact hv j w h4
    rcases hdg with ⟨j, hdg, hj, htt⟩ | ⟨hdg, htt⟩
    · subst htt
      refine lv_astore_n X.1 X.2.1 hdg hj hl hk rfl (fun ls2 hl2 => ?_)
      exact kk ls2 H locs (lv_mono hl2 hmono) hP hS h5 hg (fun v h => absurd h List.not_mem_nil) hv2
    · subst htt
      refine lv_astore X.1 X.2.1 hdg hl hk rfl (fun ls2 hl2 => ?_)
      exact kk ls2 H locs (lv_mono hl2 hmono) hP hS h5 hg (fun v h => absurd h List.not_mem_nil) hv2
end ZC

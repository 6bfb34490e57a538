/-! SOUNDNESS 1: what holds of the machine besides the cells: words of the tables, texts, the script, the statics that a throw reads -/
/-- words that stay as classes are loaded -/
def zt_keep : Cond → Bool
  | .fieldLinkNest .. => true
  | .methodLinkNest .. => true
  | .declares _ => true
  | .castable .. => true
  | w => goodWord w
def zw_words (U : State) : Prop := ∀ w ∈ lw_tbl, zt_keep w = true → w.before #[] U = true
theorem zt_keep_warm {w : Cond} (hk : zt_keep w = true) {s U : State} {args a' : Array Value} (hW : s.WarmedH U.vm) (h : w.before args s = true) : w.before a' U = true := by
  have good : goodWord w = true → w.before a' U = true := fun g => word_at hW (good_of_word g) h
  cases w <;> first
    | exact good hk
    | exact va_tabs rfl rfl (va_Nw.warmF hW (va_tabs rfl rfl h))
    | exact va_tabs rfl rfl (va_Nw.warmM hW (va_tabs rfl rfl h))
    | exact va_tabs rfl rfl (va_Nw.warmD hW (va_tabs rfl rfl h))
    | exact va_tabs rfl rfl (va_Nw.warmC hW (va_tabs rfl rfl h))
theorem zw_use {s : State} (h : zw_words s) {w : Cond} {p : Nat} (hp : lw_tbl[p]? = some w) (hk : zt_keep w = true) {args : Array Value} : w.before args s = true :=
  zt_keep_warm hk (State.WarmedH.refl s) (h w (List.mem_of_getElem? hp) hk)
theorem zw_words.warm {s U : State} (hW : s.WarmedH U.vm) (h : zw_words s) : zw_words U := fun w hw hk => zt_keep_warm hk hW (h w hw hk)
def zw_strs (G : zG) (U : State) : Prop := ∀ (i : Nat) (own : String) (k t : Nat) (tx : String), zt_srs[i]? = some (own, k, t) → zt_strs[t]? = some tx → vk_R own k tx (G.2.2.1 (6, t, 0)) U
/-- the texts lie as they were laid -/
def zw_tx (ad : zR → Nat) (A : Nat → Prop) (U : State) (H : Heap) : Prop := ∀ t : Nat, t ∈ zt_av → vk_S 1 [(zt_texts.getD t []).length] [zt_texts.getD t []] (fun _ => ad (6, t, 0)) (fun _ => ad (7, t, 0)) A U H
/-- the digits' tables of java.lang.Integer -/
def zt_dg (k : Nat) (j : Nat) : Int32 := match k with
  | 0 => Int32.ofNat (48 + j % 10)
  | _ => Int32.ofNat (48 + j / 10)
def zw_dg (ad : zR → Nat) (A : Nat → Prop) (U : State) (H : Heap) : Prop :=
  (va_Z "java/lang/Integer" "DigitOnes" "[B" (.ref (ad (9, 0, 0))) A U H ∧ va_T .byte (ad (9, 0, 0)) 100 (fun j => .int (zt_dg 0 j)) A U H) ∧ va_Z "java/lang/Integer" "DigitTens" "[B" (.ref (ad (9, 1, 0))) A U H ∧ va_T .byte (ad (9, 1, 0)) 100 (fun j => .int (zt_dg 1 j)) A U H
def zw_F (G : zG) (S : zS) (A : Nat → Prop) (U : State) (H : Heap) : Prop :=
  zw_words U ∧ zw_strs G U ∧
  zw_tx G.2.2.1 A U H ∧
  (∃ L : Nat, L < 2 ^ 31 ∧ S.1 5 0 1 0 = Int32.ofNat L ∧ va_X (G.2.2.1 (5, 0, 0)) L (fun j => S.1 5 0 0 j) U H ∧ G.2.2.1 (5, 0, 0) < H.size ∧ ¬ A (G.2.2.1 (5, 0, 0))) ∧
  zw_dg G.2.2.1 A U H ∧ va_Z "java/lang/String" "COMPACT_STRINGS" "Z" (.int 1) A U H ∧
  va_Zq "jdk/internal/util/Preconditions" "SIOOBE_FORMATTER" "Ljava/util/function/BiFunction;" A U H
theorem zw_dg.kept {ad : zR → Nat} {A : Nat → Prop} {U : State} {H H1 : Heap} (h : zw_dg ad A U H) (hq : ∀ a : Nat, a < H.size → ¬ A a → H1[a]? = H[a]?) : zw_dg ad A U H1 := ⟨⟨h.1.1.kept hq, h.1.2.kept hq⟩, h.2.1.kept hq, h.2.2.kept hq⟩
theorem zw_dg.warm {ad : zR → Nat} {A : Nat → Prop} {s U : State} {H : Heap} (hW : s.WarmedH U.vm) (h : zw_dg ad A s H) : zw_dg ad A U H := ⟨⟨h.1.1.moved hW.alike, h.1.2.moved hW.alike⟩, h.2.1.moved hW.alike, h.2.2.moved hW.alike⟩
theorem zw_dg.narrow {ad : zR → Nat} {A B : Nat → Prop} {U : State} {H : Heap} (h : zw_dg ad A U H) (hAB : ∀ q, B q → A q) : zw_dg ad B U H := ⟨⟨h.1.1.narrow hAB, h.1.2.narrow hAB⟩, h.2.1.narrow hAB, h.2.2.narrow hAB⟩
theorem zw_F.kept {G : zG} {S : zS} {A : Nat → Prop} {U : State} {H H1 : Heap} (h : zw_F G S A U H) (hz : H.size ≤ H1.size) (hq : ∀ a : Nat, a < H.size → ¬ A a → H1[a]? = H[a]?) : zw_F G S A U H1 := by
  obtain ⟨h1, h2, h3, ⟨L, g1, g2, g3, g4, g5⟩, h5, h8, h9⟩ := h
  exact ⟨h1, h2, fun t ht => (h3 t ht).kept hq, ⟨L, g1, g2, g3.kept (hq _ g4 g5), Nat.lt_of_lt_of_le g4 hz, g5⟩, h5.kept hq, h8.kept hq, va_Zq.kept h9 hq⟩
theorem zw_F.warm {G : zG} {S : zS} {A : Nat → Prop} {s U : State} {H : Heap} (hW : s.WarmedH U.vm) (h : zw_F G S A s H) : zw_F G S A U H := by
  obtain ⟨h1, h2, h3, ⟨L, g1, g2, g3, g4, g5⟩, h5, h8, h9⟩ := h
  exact ⟨h1.warm hW, fun i own k t tx a b => vk_R.warm hW (h2 i own k t tx a b), fun t ht => vk_S.moved hW.alike (h3 t ht), ⟨L, g1, g2, g3.moved hW.alike, g4, g5⟩, h5.warm hW, h8.moved hW.alike, va_Zq.moved hW.alike h9⟩
theorem zw_F.narrow {G : zG} {S : zS} {A B : Nat → Prop} {U : State} {H : Heap} (h : zw_F G S A U H) (hAB : ∀ q, B q → A q) : zw_F G S B U H := by
  obtain ⟨h1, h2, h3, ⟨L, g1, g2, g3, g4, g5⟩, h5, h8, h9⟩ := h
  exact ⟨h1, h2, fun t ht => (h3 t ht).narrow hAB, ⟨L, g1, g2, g3, g4, fun z => g5 (hAB _ z)⟩, h5.narrow hAB, h8.narrow hAB, va_Zq.narrow h9 hAB⟩
theorem zw_F.store {G : zG} {S S' : zS} {A : Nat → Prop} {U : State} {H : Heap} (h : zw_F G S A U H) (e : S'.1 5 = S.1 5) : zw_F G S' A U H := by
  obtain ⟨h1, h2, h3, ⟨L, g1, g2, g3, g4, g5⟩, h5, h8, h9⟩ := h
  exact ⟨h1, h2, h3, ⟨L, g1, by rw [e]; exact g2, by rw [e]; exact g3, g4, g5⟩, h5, h8, h9⟩
/-- the world at a method's start and end -/
def zw_W (G : zG) (S : zS) (U : State) : Prop := va_P G.1 vwCl (zt_ws G S) U.heap ∧ va_K G.1 vwCl (zt_tys G) U ∧ zw_F G S (zA G U.heap.size) U U.heap ∧ zI G
theorem zA_mono {G : zG} {a b : Nat} (h : a ≤ b) (q : Nat) (hq : zA G b q) : zA G a q := hq.elim Or.inl (fun h2 => Or.inr (Nat.le_trans h h2))
/-- the world seen from a later state of the same body -/
theorem zw_go {G : zG} {S0 S : zS} {s U : State} {locs : List Loc} (hK : va_K G.1 vwCl (zt_tys G) s) (hF : zw_F G S0 (zA G s.heap.size) s s.heap) (hI : zI G) (h5 : S.1 5 = S0.1 5) (hP : va_P G.1 vwCl (zt_ws G S) U.heap) (hS : va_S (zA G s.heap.size) s.heap U.heap locs) (hW : s.WarmedH U.vm) : zw_W G S U :=
  ⟨hP, va_K.moved hW.alike hK, (((hF.kept hS.1 hS.2.1).warm hW).narrow (zA_mono hS.1)).store h5, hI⟩
theorem zw_blind {G : zG} {S : zS} {U : State} (g : JFrame) (mk : MethodId) (a : Array Value) (h : zw_W G S U) : zw_W G S (U.calling g mk a) :=
  ⟨h.1, va_K.moved (u := U) (U := U.calling g mk a) (Vm.Alike.refl U.vm) h.2.1, zw_F.warm (s := U) (U := U.calling g mk a) (State.WarmedH.refl U) h.2.2.1, h.2.2.2⟩
/-- what a body knows from its start -/
def zX (p : Program) (l : Launch) (s : State) (m : MethodId) (meth : Method) (c : Code) (G : zG) (S0 : zS) (own : String) (cc : ByteArray) (nL : Nat) (ret : Option FieldType) (hh : List (Nat × Nat × Nat × Nat)) : Prop :=
  p.tables.exec = Jvm.exec ∧ c.code = cc ∧ c.maxLocals = nL ∧ s.vm.findClass own = some m.cls ∧ va_K G.1 vwCl (zt_tys G) s ∧ zw_F G S0 (zA G s.heap.size) s s.heap ∧ zI G ∧ meth.sig.returnType = ret ∧ meth.locks = false ∧ True ∧ True
/-- the judgement: from pc, with these locals, this stack and this store, the machine comes to Q -/
def zJ (p : Program) (l : Launch) (e : Env) (R : Room) (s : State) (m : MethodId) (args : Array Value) (below : List Frame) (meth : Method) (c : Code) (Q : State → Prop) (G : zG) (S0 : zS) (nL : Nat) (S : zS) (pc : Nat) (lv : zL) (st : List zV) : Prop :=
  ∀ (ls : Array Slot) (H : Heap) (locs : List Loc), lv_has ls nL (zl_pairs G.2.2.1 0 lv) → va_P G.1 vwCl (zt_ws G S) H → va_S (zA G s.heap.size) s.heap H locs → S.1 5 = S0.1 5 → S0.2.2.2 ≤ S.2.2.2 → (∀ v, v ∈ st → zv_ok v) → (∀ (j : Nat) (v : zV), zl_get lv j = some v → zv_ok v) →
    W p l e R s m args below meth c H locs (S.2.2.2 - S0.2.2.2) (6 * (S.2.2.2 - S0.2.2.2)) Q (F0 m pc ls (st.map (zc G.2.2.1)))

/-! SOUNDNESS 9t: what the tables say of every method (slow: the kernel reads the tables) -/
/-- what the tables say of every method -/
def zk_m (M : zM) : Bool := decide (lw_tbl[M.2.2.2.2.2.2.2.1]? = some (.initialized M.1.cls) ∧ M.1.cls ≠ "java/lang/invoke/MethodHandle" ∧ M.1.cls ≠ "java/lang/invoke/VarHandle" ∧ (parseMethodDescriptor M.1.desc).map (fun d => d.parameters.length) = some M.2.2.2.2.2.1 ∧ M.2.2.1 ≤ 17) && plainName M.1.cls && (match lw_tbl[M.2.2.2.2.2.2.2.2.1]? with
  | some (.static y) => decide (y = M.1 ∧ M.2.2.2.2.2.1 ≤ M.2.2.1)
  | _ => decide (lw_tbl[M.2.2.2.2.2.2.2.2.1]? = some (.instanceMethod M.1) ∧ lw_tbl[M.2.2.2.2.2.2.2.2.2]? = some (.selects M.1.cls M.1 M.1) ∧ M.2.2.2.2.2.1 + 1 ≤ M.2.2.1))
def zk_o {α : Type} (f : α → Bool) : Option α → Bool
  | none => true
  | some M => f M
theorem zt_k0 : zt_mi0.all (zk_o zk_m) = true := by decide +kernel
theorem zt_k1 : zt_mi1.all (zk_o zk_m) = true := by decide +kernel
theorem zt_k2 : zt_mi2.all (zk_o zk_m) = true := by decide +kernel
theorem zt_k3 : zt_mi3.all (zk_o zk_m) = true := by decide +kernel
theorem zt_k4 : zt_mi4.all (zk_o zk_m) = true := by decide +kernel
theorem zt_k5 : zt_mi5.all (zk_o zk_m) = true := by decide +kernel
theorem zt_k6 : zt_mi6.all (zk_o zk_m) = true := by decide +kernel
theorem zt_k7 : zt_mi7.all (zk_o zk_m) = true := by decide +kernel
theorem zt_k8 : zt_mi8.all (zk_o zk_m) = true := by decide +kernel
theorem zt_mi_in {mi : Nat} {M : zM} (h : zt_mi mi = some M) : ∃ l, zx_nth zt_mib (mi / 40) = some l ∧ zx_nth l (mi % 40) = some (some M) := by
  unfold zt_mi at h
  obtain ⟨l, hl, h⟩ := Option.bind_eq_some_iff.mp h
  obtain ⟨o, ho, h⟩ := Option.bind_eq_some_iff.mp h
  have h : o = some M := h
  subst h
  exact ⟨l, hl, ho⟩
theorem zt_mi_all {f : zM → Bool} (h0 : zt_mi0.all (zk_o f) = true) (h1 : zt_mi1.all (zk_o f) = true) (h2 : zt_mi2.all (zk_o f) = true) (h3 : zt_mi3.all (zk_o f) = true) (h4 : zt_mi4.all (zk_o f) = true) (h5 : zt_mi5.all (zk_o f) = true) (h6 : zt_mi6.all (zk_o f) = true) (h7 : zt_mi7.all (zk_o f) = true) (h8 : zt_mi8.all (zk_o f) = true) {mi : Nat} {M : zM} (h : zt_mi mi = some M) : f M = true := by
  obtain ⟨l, hl, h⟩ := zt_mi_in h
  rw [zx_nth_get] at h
  have key : l.all (zk_o f) = true → f M = true := fun hk => List.all_eq_true.mp hk (some M) (List.mem_of_getElem? h)
  unfold zt_mib at hl
  generalize mi / 40 = q at hl
  match q, hl with
  | 0, hl => exact key (by cases (Option.some.inj hl : zt_mi0 = l); exact h0)
  | 1, hl => exact key (by cases (Option.some.inj hl : zt_mi1 = l); exact h1)
  | 2, hl => exact key (by cases (Option.some.inj hl : zt_mi2 = l); exact h2)
  | 3, hl => exact key (by cases (Option.some.inj hl : zt_mi3 = l); exact h3)
  | 4, hl => exact key (by cases (Option.some.inj hl : zt_mi4 = l); exact h4)
  | 5, hl => exact key (by cases (Option.some.inj hl : zt_mi5 = l); exact h5)
  | 6, hl => exact key (by cases (Option.some.inj hl : zt_mi6 = l); exact h6)
  | 7, hl => exact key (by cases (Option.some.inj hl : zt_mi7 = l); exact h7)
  | 8, hl => exact key (by cases (Option.some.inj hl : zt_mi8 = l); exact h8)
  | q + 9, hl => exact nomatch (show (none : Option (List (Option zM))) = some l from hl)
theorem zt_mi_k {mi : Nat} {M : zM} (h : zt_mi mi = some M) : zk_m M = true := zt_mi_all zt_k0 zt_k1 zt_k2 zt_k3 zt_k4 zt_k5 zt_k6 zt_k7 zt_k8 h
def zk_w : List (Option zM) → Prop
  | [] => True
  | none :: l => zk_w l
  | some M :: l => lw_tbl[M.2.2.2.2.2.2.1]? = some (zM_word M) ∧ zk_w l
theorem zk_w_ok : ∀ (ms : List (Option zM)), zk_w ms → ∀ (i : Nat) M, zx_nth ms i = some (some M) → lw_tbl[M.2.2.2.2.2.2.1]? = some (zM_word M) := by
  intro ms
  induction ms with
  | nil => exact fun _ i M h => nomatch h
  | cons a ms ih =>
    intro h i M hi
    cases i with
    | zero =>
      have hi : a = some M := Option.some.inj hi
      subst hi
      exact h.1
    | succ i =>
      cases a with
      | none => exact ih h i M hi
      | some a => exact ih h.2 i M hi
set_option maxRecDepth 100000 in
theorem zt_w0 : zk_w zt_mi0 := ⟨rfl, ⟨rfl, ⟨rfl, ⟨rfl, ⟨rfl, ⟨rfl, ⟨rfl, ⟨rfl, ⟨rfl, ⟨rfl, ⟨rfl, ⟨rfl, ⟨rfl, ⟨rfl, ⟨rfl, ⟨rfl, ⟨rfl, ⟨rfl, ⟨rfl, ⟨rfl, ⟨rfl, ⟨rfl, ⟨rfl, ⟨rfl, ⟨rfl, ⟨rfl, ⟨rfl, ⟨rfl, ⟨rfl, ⟨rfl, ⟨rfl, ⟨rfl, ⟨rfl, ⟨rfl, ⟨rfl, ⟨rfl, ⟨rfl, trivial⟩⟩⟩⟩⟩⟩⟩⟩⟩⟩⟩⟩⟩⟩⟩⟩⟩⟩⟩⟩⟩⟩⟩⟩⟩⟩⟩⟩⟩⟩⟩⟩⟩⟩⟩⟩⟩
set_option maxRecDepth 100000 in
theorem zt_w1 : zk_w zt_mi1 := ⟨rfl, ⟨rfl, ⟨rfl, ⟨rfl, ⟨rfl, ⟨rfl, ⟨rfl, ⟨rfl, ⟨rfl, ⟨rfl, ⟨rfl, ⟨rfl, ⟨rfl, ⟨rfl, ⟨rfl, ⟨rfl, ⟨rfl, ⟨rfl, ⟨rfl, ⟨rfl, ⟨rfl, ⟨rfl, ⟨rfl, ⟨rfl, ⟨rfl, ⟨rfl, ⟨rfl, ⟨rfl, ⟨rfl, ⟨rfl, trivial⟩⟩⟩⟩⟩⟩⟩⟩⟩⟩⟩⟩⟩⟩⟩⟩⟩⟩⟩⟩⟩⟩⟩⟩⟩⟩⟩⟩⟩⟩
set_option maxRecDepth 100000 in
theorem zt_w2 : zk_w zt_mi2 := ⟨rfl, ⟨rfl, ⟨rfl, ⟨rfl, ⟨rfl, ⟨rfl, ⟨rfl, ⟨rfl, ⟨rfl, ⟨rfl, ⟨rfl, ⟨rfl, ⟨rfl, ⟨rfl, ⟨rfl, ⟨rfl, ⟨rfl, ⟨rfl, ⟨rfl, ⟨rfl, trivial⟩⟩⟩⟩⟩⟩⟩⟩⟩⟩⟩⟩⟩⟩⟩⟩⟩⟩⟩⟩
set_option maxRecDepth 100000 in
theorem zt_w3 : zk_w zt_mi3 := ⟨rfl, ⟨rfl, ⟨rfl, ⟨rfl, ⟨rfl, ⟨rfl, ⟨rfl, ⟨rfl, ⟨rfl, ⟨rfl, ⟨rfl, ⟨rfl, ⟨rfl, ⟨rfl, ⟨rfl, ⟨rfl, ⟨rfl, ⟨rfl, trivial⟩⟩⟩⟩⟩⟩⟩⟩⟩⟩⟩⟩⟩⟩⟩⟩⟩⟩
set_option maxRecDepth 100000 in
theorem zt_w4 : zk_w zt_mi4 := trivial
set_option maxRecDepth 100000 in
theorem zt_w5 : zk_w zt_mi5 := trivial
set_option maxRecDepth 100000 in
theorem zt_w6 : zk_w zt_mi6 := trivial
set_option maxRecDepth 100000 in
theorem zt_w7 : zk_w zt_mi7 := ⟨rfl, ⟨rfl, ⟨rfl, ⟨rfl, ⟨rfl, trivial⟩⟩⟩⟩⟩
set_option maxRecDepth 100000 in
theorem zt_w8 : zk_w zt_mi8 := trivial
theorem zt_w {mi : Nat} {M : zM} (h : zt_mi mi = some M) : lw_tbl[M.2.2.2.2.2.2.1]? = some (zM_word M) := by
  obtain ⟨l, hl, h⟩ := zt_mi_in h
  have hl : zx_nth zt_mib (mi / 40) = some l := hl
  unfold zt_mib at hl
  generalize mi / 40 = q at hl
  match q, hl with
  | 0, hl => exact zk_w_ok _ (by cases (Option.some.inj hl : zt_mi0 = l); exact zt_w0) _ _ h
  | 1, hl => exact zk_w_ok _ (by cases (Option.some.inj hl : zt_mi1 = l); exact zt_w1) _ _ h
  | 2, hl => exact zk_w_ok _ (by cases (Option.some.inj hl : zt_mi2 = l); exact zt_w2) _ _ h
  | 3, hl => exact zk_w_ok _ (by cases (Option.some.inj hl : zt_mi3 = l); exact zt_w3) _ _ h
  | 4, hl => exact zk_w_ok _ (by cases (Option.some.inj hl : zt_mi4 = l); exact zt_w4) _ _ h
  | 5, hl => exact zk_w_ok _ (by cases (Option.some.inj hl : zt_mi5 = l); exact zt_w5) _ _ h
  | 6, hl => exact zk_w_ok _ (by cases (Option.some.inj hl : zt_mi6 = l); exact zt_w6) _ _ h
  | 7, hl => exact zk_w_ok _ (by cases (Option.some.inj hl : zt_mi7 = l); exact zt_w7) _ _ h
  | 8, hl => exact zk_w_ok _ (by cases (Option.some.inj hl : zt_mi8 = l); exact zt_w8) _ _ h
  | q + 9, hl => exact nomatch (show (none : Option (List (Option zM))) = some l from hl)
theorem zk_m_ok {mi : Nat} {M : zM} (hM : zt_mi mi = some M) : zM_ok M M.2.2.2.2.2.1 ∧ plainName M.1.cls = true ∧ (lw_tbl[M.2.2.2.2.2.2.2.2.1]? = some (.static M.1) → zM_static M ∧ M.2.2.2.2.2.1 ≤ M.2.2.1) ∧ (lw_tbl[M.2.2.2.2.2.2.2.2.1]? = some (.instanceMethod M.1) → M.2.2.2.2.1 = [] → zM_virtual M ∧ M.2.2.2.2.2.1 + 1 ≤ M.2.2.1) := by
  have h := zt_mi_k hM
  unfold zk_m at h
  rw [Bool.and_eq_true, Bool.and_eq_true] at h
  obtain ⟨⟨h1, h2⟩, h3⟩ := h
  have h1 := of_decide_eq_true h1
  refine ⟨⟨zt_w hM, h1⟩, h2, fun h0 => ?_, fun h0 he => ?_⟩
  · rw [h0] at h3
    have h3 := of_decide_eq_true h3
    exact ⟨h0, h3.2⟩
  · rw [h0] at h3
    have h4 := of_decide_eq_true h3
    exact ⟨⟨he, h0, h4.2.1⟩, h4.2.2⟩

/-! SOUNDNESS 9t: what the tables say of every method (slow: the kernel reads the tables) -/
/-- what the tables say of every method -/
def zk_m (M : zM) : Bool := decide (lw_tbl[M.2.2.2.2.2.2.1]? = some (zM_word M) ∧ lw_tbl[M.2.2.2.2.2.2.2.1]? = some (.initialized M.1.cls) ∧ M.1.cls ≠ "java/lang/invoke/MethodHandle" ∧ M.1.cls ≠ "java/lang/invoke/VarHandle" ∧ (parseMethodDescriptor M.1.desc).map (fun d => d.parameters.length) = some M.2.2.2.2.2.1 ∧ M.2.2.1 ≤ 40) && plainName M.1.cls && (match lw_tbl[M.2.2.2.2.2.2.2.2.1]? with
  | some (.static y) => decide (y = M.1 ∧ M.2.2.2.2.2.1 ≤ M.2.2.1)
  | _ => decide (lw_tbl[M.2.2.2.2.2.2.2.2.1]? = some (.instanceMethod M.1) ∧ lw_tbl[M.2.2.2.2.2.2.2.2.2]? = some (.selects M.1.cls M.1 M.1) ∧ M.2.2.2.2.2.1 + 1 ≤ M.2.2.1))
theorem zt_mib_ok : zt_mib.all (fun l => l.all zk_m) = true := by decide +kernel
theorem zt_mi_k {mi : Nat} {M : zM} (h : zt_mi mi = some M) : zk_m M = true := by
  unfold zt_mi at h
  obtain ⟨l, hl, h⟩ := Option.bind_eq_some_iff.mp h
  rw [zx_nth_get] at hl h
  exact List.all_eq_true.mp (List.all_eq_true.mp zt_mib_ok l (List.mem_of_getElem? hl)) M (List.mem_of_getElem? h)
theorem zk_m_ok {M : zM} (h : zk_m M = true) : zM_ok M M.2.2.2.2.2.1 ∧ plainName M.1.cls = true ∧ (lw_tbl[M.2.2.2.2.2.2.2.2.1]? = some (.static M.1) → zM_static M ∧ M.2.2.2.2.2.1 ≤ M.2.2.1) ∧ (lw_tbl[M.2.2.2.2.2.2.2.2.1]? = some (.instanceMethod M.1) → M.2.2.2.2.1 = [] → zM_virtual M ∧ M.2.2.2.2.2.1 + 1 ≤ M.2.2.1) := by
  unfold zk_m at h
  rw [Bool.and_eq_true, Bool.and_eq_true] at h
  obtain ⟨⟨h1, h2⟩, h3⟩ := h
  have h1 := of_decide_eq_true h1
  refine ⟨h1, h2, fun h0 => ?_, fun h0 he => ?_⟩
  · rw [h0] at h3
    have h3 := of_decide_eq_true h3
    exact ⟨h0, h3.2⟩
  · rw [h0] at h3
    have h4 := of_decide_eq_true h3
    exact ⟨⟨he, h0, h4.2.1⟩, h4.2.2⟩

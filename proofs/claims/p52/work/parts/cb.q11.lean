/-! THE LAW'S LEVEL 11: no step takes a cell away -/
theorem qm_rf (T : qS) : qm T T := ⟨Nat.le_refl _, Nat.le_refl _⟩
theorem qm_tr {T T' T2 : qS} (a : qm T T') (b : qm T' T2) : qm T T2 := ⟨Nat.le_trans a.1 b.1, Nat.le_trans a.2 b.2⟩
theorem qm_push (S : zS) (w v : qW) : qm (S, w) (S, w ++ v) := ⟨by show _ ≤ (w ++ v).length; rw [List.length_append]; exact Nat.le_add_right _ _, by show _ ≤ q_sl (w ++ v); rw [q_sl_app]; exact Nat.le_add_right _ _⟩
theorem qm_set {S : zS} {w : qW} {k : Nat} {c c0 : qC} (h : w[k]? = some c0) (e : qc_sl c = qc_sl c0) : qm (S, w) (S, w.set k c) := ⟨by show _ ≤ (w.set k c).length; rw [List.length_set]; exact Nat.le_refl _, by show _ ≤ q_sl (w.set k c); rw [q_sl_set w k c c0 h e]; exact Nat.le_refl _⟩
theorem qm_z (S S' : zS) (w : qW) : qm (S, w) (S', w) := ⟨Nat.le_refl _, Nat.le_refl _⟩
section QM
variable {T : qS} {out : qO} {P : Prop}
theorem mq_cond {c : ClassFile.Cond} {x y : Int32} {t f : Option qO} (h : qx_cond c x y t f = some out) (kt : t = some out → P) (kf : f = some out → P) : P := by
  cases c with
  | eq => simp only [qx_cond] at h; split at h; exact kt h; exact kf h
  | ne => simp only [qx_cond] at h; split at h; exact kf h; exact kt h
  | lt => simp only [qx_cond] at h; split at h; exact kt h; exact kf h
  | ge => simp only [qx_cond] at h; split at h; exact kt h; exact kf h
  | gt => simp only [qx_cond] at h; split at h; exact kt h; exact kf h
  | le => simp only [qx_cond] at h; split at h; exact kt h; exact kf h
theorem mq_len {r : zR} {nx : Int32 → Option qO} (h : qa_len r T nx = some out) (k : ∀ v, nx v = some out → P) : P := by
  unfold qa_len at h
  split at h
  · exact k _ h
  · obtain ⟨w, -, h⟩ := Option.bind_eq_some_iff.mp h
    exact k _ h
  · split at h
    · exact k _ h
    · exact nomatch h
  · exact nomatch h
theorem mq_ld {r : zR} {i : Int32} {nx : Int32 → Option qO} (h : qa_ld r i T nx = some out) (k : ∀ v, nx v = some out → P) : P := by
  unfold qa_ld at h
  split at h
  · exact k _ (qa_in_ok h).2.2
  · split at h
    · exact k _ (qa_in_ok h).2.2
    · exact nomatch h
  · exact nomatch h
theorem mq_st {r : zR} {i x : Int32} {nx : qS → Option qO} (h : qa_st r i x T nx = some out) (k : ∀ T', nx T' = some out → qm T' out.2) : qm T out.2 := by
  unfold qa_st at h
  split at h
  · split at h
    · rename_i xs hx
      rw [zx_nth_get] at hx
      exact qm_tr (qm_set (S := T.1) hx (by exact List.length_set)) (k _ (qa_in_ok h).2.2)
    · exact nomatch h
  · exact nomatch h
theorem mq_bld {r : zR} {i : Int32} {nx : Int32 → Option qO} (h : qa_bld r i T nx = some out) (k : ∀ v, nx v = some out → P) : P := by
  unfold qa_bld at h
  split at h
  · obtain ⟨w, -, h⟩ := Option.bind_eq_some_iff.mp h
    exact k _ (qa_in_ok h).2.2
  · exact k _ (qa_in_ok h).2.2
  · split at h
    · exact k _ (qa_in_ok h).2.2
    · exact k _ (qa_in_ok h).2.2
    · exact nomatch h
  · exact nomatch h
theorem mq_bst {r : zR} {i x : Int32} {nx : qS → Option qO} (h : qa_bst r i x T nx = some out) (k : ∀ T', nx T' = some out → qm T' out.2) : qm T out.2 := by
  unfold qa_bst at h
  split at h
  · split at h
    · rename_i xs hx
      rw [zx_nth_get] at hx
      exact qm_tr (qm_set (S := T.1) hx (by exact List.length_set)) (k _ (qa_in_ok h).2.2)
    · rename_i xs hx
      rw [zx_nth_get] at hx
      have h := (qa_in_ok h).2.2
      split at h
      · exact qm_tr (qm_set (S := T.1) hx (by exact List.length_set)) (k _ h)
      · exact nomatch h
    · exact nomatch h
  · exact nomatch h
theorem mq_ldr {r : zR} {i : Int32} {nx : zV → Option qO} (h : qa_ldr r i T nx = some out) (k : ∀ v, nx v = some out → P) : P := by
  unfold qa_ldr at h
  split at h
  · split at h
    · have h := (qa_in_ok h).2.2
      split at h
      · exact k _ h
      · exact nomatch h
    · exact nomatch h
  · exact nomatch h
theorem mq_get {a b : Nat} {r : zR} {nx : zV → Option qO} (h : qf_get a b r T nx = some out) (k : ∀ v, nx v = some out → P) : P := by
  unfold qf_get at h
  split at h
  · split at h
    · exact k _ h
    · exact k _ h
    · exact nomatch h
  · split at h
    · split at h
      · obtain ⟨v, -, h⟩ := Option.bind_eq_some_iff.mp h
        exact k _ h
      · exact nomatch h
    · exact nomatch h
  · exact nomatch h
theorem mq_put {a b : Nat} {r : zR} {v : zV} {nx : qS → Option qO} (h : qf_put a b r v T nx = some out) (k : ∀ T', nx T' = some out → qm T' out.2) : qm T out.2 := by
  unfold qf_put at h
  split at h
  · split at h
    · rename_i fs hx
      rw [zx_nth_get] at hx
      split at h
      · exact qm_tr (qm_set (S := T.1) hx (by exact List.length_set)) (k _ h)
      · exact nomatch h
    · exact nomatch h
  · exact nomatch h
theorem mq_new {n : Int32} {a : Nat} {nx : zV → qS → Option qO} (h : qa_new n a T nx = some out) (k : ∀ v T', nx v T' = some out → qm T' out.2) : qm T out.2 := by
  unfold qa_new at h
  split at h
  · exact nomatch h
  · split at h
    · exact nomatch h
    · exact qm_tr (qm_push T.1 T.2 _) (k _ _ h)
theorem mq_new2 {n m : Int32} {nx : zV → qS → Option qO} (h : qa_new2 n m T nx = some out) (k : ∀ v T', nx v T' = some out → qm T' out.2) : qm T out.2 := by
  unfold qa_new2 at h
  split at h
  · exact nomatch h
  · split at h
    · exact nomatch h
    · split at h
      · exact nomatch h
      · split at h
        · exact nomatch h
        · exact qm_tr (qm_push T.1 T.2 _) (k _ _ h)
theorem mq_copy {r q : zR} {i j n : Int32} {nx : qS → Option qO} (h : qa_copy r q i j n T nx = some out) (k : ∀ T', nx T' = some out → qm T' out.2) : qm T out.2 := by
  unfold qa_copy at h
  split at h
  · split at h
    · rename_i ys hy
      rw [zx_nth_get] at hy
      obtain ⟨xs, -, h⟩ := Option.bind_eq_some_iff.mp h
      split at h
      · exact qm_tr (qm_set (S := T.1) hy (by exact qa_cpl_len _ _ _ _ _)) (k _ h)
      · exact nomatch h
    · exact nomatch h
  · exact nomatch h
theorem mq_ret {t : Nat} {r : Option qO} {st : List zV} {nx : List zV → qS → Option qO} (h : qx_ret t r st nx = some out) (hr : ∀ o, r = some o → qm T o.2) (k : ∀ st T', nx st T' = some out → qm T' out.2) : qm T out.2 := by
  unfold qx_ret at h
  split at h
  · split at h
    · exact qm_tr (hr _ rfl) (k _ _ h)
    · exact nomatch h
  · split at h
    · exact qm_tr (hr _ rfl) (k _ _ h)
    · exact nomatch h
  · split at h
    · exact qm_tr (hr _ rfl) (k _ _ h)
    · exact nomatch h
  · exact nomatch h
theorem mz_ret {t : Nat} {r : Option zO} {S : zS} {w : qW} {st : List zV} {nx : List zV → qS → Option qO} (h : qz_ret t r w st nx = some out) (k : ∀ st T', nx st T' = some out → qm T' out.2) : qm (S, w) out.2 := by
  unfold qz_ret at h
  split at h
  · split at h
    · exact qm_tr (qm_z _ _ _) (k _ _ h)
    · exact nomatch h
  · split at h
    · exact qm_tr (qm_z _ _ _) (k _ _ h)
    · exact nomatch h
  · exact nomatch h
theorem mq_lib {b : Nat} {st : List zV} {nx : List zV → qS → Option qO} (h : qx_lib b st T nx = some out) (k : ∀ st T', nx st T' = some out → qm T' out.2) : qm T out.2 := by
  unfold qx_lib at h
  obtain ⟨-, h⟩ := zx_if_ok h
  split at h
  · exact k _ _ h
  · exact k _ _ h
  · exact mq_copy h (fun _ h => k _ _ h)
  · obtain ⟨-, h⟩ := zx_if_ok h
    exact k _ _ (qa_in_ok h).2.2
  · split at h
    · exact qm_tr (qm_push T.1 T.2 _) (k _ _ h)
    · exact nomatch h
  · exact k _ _ h
  · exact nomatch h
end QM

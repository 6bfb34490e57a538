/-! SOUNDNESS 8: String.checkIndex; what a method's table must keep -/
theorem dq_pre : decode cJ3_checkIndex_8e157 0 = .ok (.iload_n 0, 1) ∧ decode cJ3_checkIndex_8e157 1 = .ok (.ifCond .lt 8, 3) ∧ decode cJ3_checkIndex_8e157 4 = .ok (.iload_n 0, 1) ∧ decode cJ3_checkIndex_8e157 5 = .ok (.iload_n 1, 1) ∧ decode cJ3_checkIndex_8e157 6 = .ok (.if_icmp .lt 10, 3) ∧ decode cJ3_checkIndex_8e157 16 = .ok (.iload_n 0, 1) ∧ decode cJ3_checkIndex_8e157 17 = .ok (.ireturn, 1) := by decide +kernel
theorem dq_chk : decode cJ0_checkIndex_df160 0 = .ok (.iload_n 0, 1) ∧ decode cJ0_checkIndex_df160 1 = .ok (.iload_n 1, 1) ∧ decode cJ0_checkIndex_df160 2 = .ok (.getstatic 1053, 3) ∧ decode cJ0_checkIndex_df160 5 = .ok (.invokestatic 1059, 3) ∧ decode cJ0_checkIndex_df160 8 = .ok (.pop, 1) ∧ decode cJ0_checkIndex_df160 9 = .ok (.return_, 1) := by decide +kernel
theorem zq_pre (l : Launch) (i n : Int32) (v : Value) (hv : v.category = 1) (h0 : ¬ i < 0) (h1 : i < n) : Met l yJ3_checkIndex_8e157 [.code yJ3_checkIndex_8e157 cJ3_checkIndex_8e157 3 (some .int)] ({ frames := 0, cells := 0, slots := 0, locals := 0 }) (va_Pc [.int i, .int n, v] (fun _ => True)) (va_Qi (fun (x : Int32) (_ : Unit) => x = i) (fun _ _ => True) (fun _ => False)) 0 0 (fun _ => False) := by
  refine Met.ofW (cc := cJ3_checkIndex_8e157) (maxL := 3) (ret := some .int) (by decide) rfl ?_
  intro p e s m args below meth c s₁ B hml hq
  obtain ⟨rfl, -⟩ := hq
  have hx := B.exec
  have hb := B.bytes
  have hr := B.returns
  have hlocks := B.notSynchronized
  obtain ⟨d0, d1, d4, d5, d6, d16, d17⟩ := dq_pre
  have e0 : lg_sl [.int i, .int n, v] = [.val (.int i), .val (.int n), .val v] := by simp [lg_sl, hv, show (Value.int i).category = 1 from rfl, show (Value.int n).category = 1 from rfl]
  have hl := lv_entry ([.int i, .int n, v]) (n := 3) (by rw [e0]; exact Nat.le_refl _)
  rw [lg_entry_eq]
  generalize (lg_sl ([.int i, .int n, v]) ++ List.replicate (3 - (lg_sl ([.int i, .int n, v])).length) Slot.unset).toArray = ls at hl ⊢
  have hl : lv_has ls 3 [(0, .int i), (1, .int n), (2, v)] := hl
  refine lv_iload_n hx hb d0 rfl (lv_at hl 0 rfl) ?_
  refine lv_if_lt (tgt := 9) hx hb d1 (by decide) (fun z => absurd z h0) (fun _ => ?_)
  refine lv_iload_n hx hb d4 rfl (lv_at hl 0 rfl) ?_
  refine lv_iload_n hx hb d5 rfl (lv_at hl 1 rfl) ?_
  refine lv_icmp_lt (tgt := 16) hx hb d6 (by decide) (fun _ => ?_) (fun z => absurd h1 z)
  refine lv_iload_n hx hb d16 rfl (lv_at hl 0 rfl) ?_
  exact W.iret (v := i) hx hb hr (fun t ht hW => ⟨⟨i, (), rfl, rfl, trivial⟩, (va_S.rf (A := fun _ => False) (H0 := s.heap)).F ht⟩) (fun q hq => absurd hq List.not_mem_nil) d17
def zM_chk : zM := (yJ0_checkIndex_df160, cJ0_checkIndex_df160, 2, none, [], 2, (zp_chk_code, zp_str_init, zp_chk_static, 0))
theorem zM_chk_ok : zM_ok zM_chk 2 ∧ zM_static zM_chk := by unfold zM_ok zM_static; decide +kernel
theorem zCtr_chk {l : Launch} (d : Nat) (i n : Int32) (S : zS) (h0 : ¬ i < 0) (h1 : i < n) : zCtr l d zM_chk [zi i, zi n] S (.inl none, S) := by
  refine zCtr_of (by decide) (Nat.le_refl _) (by show 2 ≤ 2; decide) ?_
  intro _ G p e s m args below meth c X ls H locs hl hP hS h5 hg hs hv
  obtain ⟨d0, d1, d2, d5, d8, d9⟩ := dq_chk
  refine lv_iload_n X.1 X.2.1 d0 rfl (zl_at hl (j := 0) (v := zi i) rfl) ?_
  refine lv_iload_n X.1 X.2.1 d1 rfl (zl_at hl (j := 1) (v := zi n) rfl) ?_
  have key : ∀ v : Value, v.category = 1 → va_Z "jdk/internal/util/Preconditions" "SIOOBE_FORMATTER" "Ljava/util/function/BiFunction;" v (zA G s.heap.size) s s.heap → W p l e (zrm d (S.2.2.2 - S.2.2.2)) s m args below meth c H locs (S.2.2.2 - S.2.2.2) (6 * (S.2.2.2 - S.2.2.2)) (zQ below args s G S (.inl none, S)) (F0 m 2 ls [.int n, .int i]) := by
    intro v hvc hZ
    refine va_gets X.1 X.2.1 hZ hS X.2.2.2.1 (zw_use X.2.2.2.2.2.1.1 (p := zp_pre_field) (by decide +kernel) rfl) (fun _ h => h) d2 ?_
    refine va_calli (A1 := fun _ => False) (free := fun _ => False) (post := fun (x : Int32) (_ : Unit) => x = i) (B := fun _ _ => True) (a := ([.int i, .int n, v] : List Value).toArray) (mc := 0) (ms := 0) (rest := []) (va_runS (As := [.int i, .int n, v]) (rest := []) (Ts := []) (nL := 2) (n := 3) ⟨X.1, X.2.1, X.2.2.1, X.2.2.2.1, fun _ h => absurd h List.not_mem_nil⟩ (zq_pre l i n v hvc h0 h1)
      ⟨⟨rfl, rfl, by show 0 + 1 ≤ d + 3; omega, by show 8 + (3 + 11) + 0 ≤ 36 * d + 100; omega, fun w hw a' U hW => by rw [List.mem_singleton.mp hw]; exact zt_keep_warm (args := args) rfl hW (zw_use X.2.2.2.2.2.1.1 (p := zp_pre_code) (by decide +kernel) rfl), List.mem_singleton.mpr rfl, zw_use X.2.2.2.2.2.1.1 (p := zp_pre_code) (by decide +kernel) rfl, zw_use X.2.2.2.2.2.1.1 (p := zp_pre_init) (by decide +kernel) rfl, ⟨by decide, by decide⟩, fun sig h => ?_, zw_use X.2.2.2.2.2.1.1 (p := zp_pre_link) (by decide +kernel) rfl⟩, zw_use X.2.2.2.2.2.1.1 (p := zp_pre_static) (by decide +kernel) rfl⟩
      ⟨fun _ _ _ _ q => q, fun U hU hW => ⟨rfl, trivial⟩⟩ rfl rfl hl.1 rfl (lv_room (by decide)) d5 ⟨Nat.le_refl _, Nat.le_refl _⟩) hS (fun q _ h => h.elim) (fun q h => h.elim) (fun r u t H1 locs1 ht hvm hw hB hz1 hk1 hS1 => ?_)
    · have h9 : (parseMethodDescriptor yJ3_checkIndex_8e157.desc).map (fun d => d.parameters.length) = some 3 := by decide +kernel
      rw [h] at h9
      exact (Option.some.inj h9).symm
    · refine lv_pop X.1 X.2.1 d8 rfl ?_
      have hP1 := zt_wslt hP (fun q hq => hk1 q hq (fun z => z))
      have hlocks := X.2.2.2.2.2.2.2.2.1
      exact (W.vret X.1 X.2.1 X.2.2.2.2.2.2.2.1 (fun t ht hW => ⟨none, rfl, rfl, by rw [ht]; exact hP1, h5, (fun w e => nomatch e), hS1.F ht⟩) hS1.2.2 d9 hlocks)
  rcases X.2.2.2.2.2.1.2.2.2.2.2.2 with hZ | ⟨t, hZ⟩
  · exact key .null rfl hZ
  · exact key (.ref t) rfl hZ
/-! the table of a method -/
def zt_falls : Instr → Bool
  | .goto _ => false
  | .ireturn => false
  | .freturn => false
  | .dreturn => false
  | .areturn => false
  | .return_ => false
  | .new _ => false
  | .tableswitch .. => false
  | .lookupswitch .. => false
  | _ => true
/-- one entry's places are right -/
def zk_i (own : String) (cc : ByteArray) (nL : Nat) (ret : Option FieldType) (hh : List (Nat × Nat × Nat × Nat)) (rk pc : Nat) (i : Instr) (len a b c p rt : Nat) (k : Int32) (tb : List (Int × Nat)) : Bool := match i with
  | .iload_n _ => decide (len = 1)
  | .aload_n _ => decide (len = 1)
  | .fload_n _ => decide (len = 1)
  | .iload _ => decide (len = 2)
  | .aload _ => decide (len = 2)
  | .fload _ => decide (len = 2)
  | .dload _ => decide (len = 2)
  | .istore_n j => decide (len = 1 ∧ j.val < nL)
  | .astore_n j => decide (len = 1 ∧ j.val < nL)
  | .fstore_n j => decide (len = 1 ∧ j.val < nL)
  | .istore j => decide (len = 2 ∧ j < nL)
  | .astore j => decide (len = 2 ∧ j < nL)
  | .fstore j => decide (len = 2 ∧ j < nL)
  | .dstore j => decide (len = 2 ∧ j + 1 < nL)
  | .iinc j n => decide (len = 3 ∧ j < nL ∧ Int32.ofInt n = k)
  | .iconst n => decide (len = 1 ∧ Int32.ofInt n = k)
  | .bipush n => decide (len = 2 ∧ (Int8.ofInt n).toInt32 = k)
  | .sipush n => decide (len = 3 ∧ (Int16.ofInt n).toInt32 = k)
  | .ldc ix => decide (len = 2) && (match a with
    | 0 => decide (lw_tbl[p]? = some (.constant own ix k))
    | _ => decide (zt_srs[p]? = some (own, ix, b) ∧ b < zt_strs.length ∧ b ∈ zt_av))
  | .ldc_w ix => decide (len = 3) && (match a with
    | 0 => decide (lw_tbl[p]? = some (.constant own ix k))
    | _ => decide (zt_srs[p]? = some (own, ix, b) ∧ b < zt_strs.length ∧ b ∈ zt_av))
  | .ifCond _ off => decide (len = 3 ∧ (pc : Int) + off = (a : Int))
  | .if_icmp _ off => decide (len = 3 ∧ (pc : Int) + off = (a : Int))
  | .ifnonnull off => decide (len = 3 ∧ (pc : Int) + off = (a : Int))
  | .goto off => decide (len = 3 ∧ (pc : Int) + off = (a : Int))
  | .tableswitch dflt lo hi offs => decide ((pc : Int) + dflt = (a : Int) ∧ tb.map (fun q => (q.1, (q.2 : Int))) = zt_rows pc lo offs.toList ∧ lo + offs.toList.length = hi + 1)
  | .lookupswitch dflt ps => decide ((pc : Int) + dflt = (a : Int) ∧ tb.map (fun q => (q.1, (q.2 : Int))) = ps.toList.map (fun q => (q.1, (pc : Int) + q.2))) && (ps.toList.zip (ps.toList.drop 1)).all (fun (a, next) => a.1 < next.1)
  | .getfield ix => decide (len = 3) && (match c with
    | 2 => (match b with
      | 0 => decide (lw_tbl[p]? = some (.fieldLink own ix "java/lang/String" "value" "[B"))
      | _ => decide (lw_tbl[p]? = some (.fieldLink own ix "java/lang/String" "coder" "B")))
    | _ => (match vwCl[a]? with
      | some Cl => decide (b < Cl.2.2 ∧ lw_tbl[p]? = some (if c = 0 then .fieldLink own ix (Cl.2.1 b).1 (Cl.2.1 b).2.1 (Cl.2.1 b).2.2.1 else .fieldLinkNest own ix (Cl.2.1 b).1 (Cl.2.1 b).2.1 (Cl.2.1 b).2.2.1 "BathBoats"))
      | none => false))
  | .putfield ix => decide (len = 3) && (match vwCl[a]? with
      | some Cl => decide (b < Cl.2.2 ∧ lw_tbl[p]? = some (if c = 0 then .fieldLink own ix (Cl.2.1 b).1 (Cl.2.1 b).2.1 (Cl.2.1 b).2.2.1 else .fieldLinkNest own ix (Cl.2.1 b).1 (Cl.2.1 b).2.1 (Cl.2.1 b).2.2.1 "BathBoats") ∧ (Cl.2.1 b).2.2.2 = false) && (match zf_of a b with
        | some f => (match zf_ty f.1 with
          | some ty => decide (parseFieldDescriptor (Cl.2.1 b).2.2.1 = some ty)
          | none => false)
        | none => false)
      | none => false)
  | .getstatic ix => decide (len = 3 ∧ lw_tbl[p]? = some (.fieldLink own ix "java/lang/String" "COMPACT_STRINGS" "Z"))
  | .invokevirtual ix => decide (len = 3) && (match c with
    | 99 => false
    | 98 => true
    | _ => (match zt_mi a with
      | some M => decide (lw_tbl[p]? = some (.methodLink own ix M.1) ∧ b = M.2.2.2.2.2.1 + 1) && decide (M.2.2.2.2.1 = []) && decide (lw_tbl[M.2.2.2.2.2.2.2.2.1]? = some (.instanceMethod M.1)) && (match c with
          | 12 => decide (M.1.cls = "java/lang/String")
          | _ => (match vwCl[c]? with
            | some Cl => decide (Cl.1 = M.1.cls)
            | none => false)) && (match tb with
          | [] => true
          | _ :: _ => false)
      | none => false))
  | .invokestatic ix => decide (len = 3) && (match c with
    | 99 => (match a with
      | 0 => decide (lw_tbl[p]? = some (.methodLink own ix Lib.Math.min.name))
      | 1 => decide (lw_tbl[p]? = some (.methodLink own ix Lib.Math.max.name))
      | 2 => decide (lw_tbl[p]? = some (.methodLink own ix Lib.Math.abs.name))
      | 3 => decide (lw_tbl[p]? = some (.methodLink own ix arraycopyName))
      | 6 => decide (lw_tbl[p]? = some (.methodLink own ix yJ0_checkIndex_df160))
      | _ => false)
    | 98 => true
    | _ => (match zt_mi a with
      | some M => decide (lw_tbl[p]? = some (.methodLink own ix M.1) ∧ b = M.2.2.2.2.2.1) && decide (lw_tbl[M.2.2.2.2.2.2.2.2.1]? = some (.static M.1))
      | none => false))
  | .new _ => true
  | .laload => false
  | .daload => false
  | .lastore => false
  | .dastore => false
  | .ireturn => decide (len = 1) && (match rk with
    | 1 => decide (ret = some .int)
    | 2 => decide (ret = some .boolean)
    | 6 => decide (ret = some .byte)
    | 7 => decide (ret = some .char)
    | _ => false)
  | .freturn => decide (len = 1 ∧ ret = some .float)
  | .dreturn => decide (len = 1 ∧ ret = some .double)
  | .areturn => decide (len = 1) && (match ret with
    | some (.object _) => true
    | _ => false)
  | .return_ => decide (len = 1 ∧ ret = none)
  | _ => decide (len = 1)
def zk_e (own : String) (cc : ByteArray) (nL : Nat) (ret : Option FieldType) (hh : List (Nat × Nat × Nat × Nat)) (rk : Nat) (x : zE) : Bool := decide (decode cc x.2.1 = .ok (x.2.2.1, x.2.2.2.1)) && zk_i own cc nL ret hh rk x.2.1 x.2.2.1 x.2.2.2.1 x.2.2.2.2.1.1 x.2.2.2.2.1.2.1 x.2.2.2.2.1.2.2.1 x.2.2.2.2.1.2.2.2.1 x.2.2.2.2.1.2.2.2.2 x.2.2.2.2.2.1 x.2.2.2.2.2.2
/-- what falls through falls into the next entry -/
def zk_seq : List zE → Bool
  | [] => true
  | x :: l => (match l with
    | [] => true
    | y :: _ => !zt_falls x.2.2.1 || Nat.beq (x.2.1 + x.2.2.2.1) y.2.1) && zk_seq l

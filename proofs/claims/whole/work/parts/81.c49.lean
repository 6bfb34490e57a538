/-! THE PURE SIDE 49: the bits' count; the equation of the model's stack -/
def bcf (xa : Int32) : Int32 :=
  let a := xa - ((xa.toUInt32 >>> ((zo 1).toUInt32 &&& Int32.toUInt32 31)).toInt32 &&& (zo 1431655765))
  let b := (a &&& (zo 858993459)) + ((a.toUInt32 >>> ((zo 2).toUInt32 &&& Int32.toUInt32 31)).toInt32 &&& (zo 858993459))
  let c := (b + (b.toUInt32 >>> ((zo 4).toUInt32 &&& Int32.toUInt32 31)).toInt32) &&& (zo 252645135)
  let e := c + (c.toUInt32 >>> ((zo 8).toUInt32 &&& Int32.toUInt32 31)).toInt32
  let f := e + (e.toUInt32 >>> ((zo 16).toUInt32 &&& Int32.toUInt32 31)).toInt32
  f &&& (zo 63)
def pcn : Nat → Nat → Nat
  | 0, _ => 0
  | k + 1, m => pcn k m + (if m.testBit k then 1 else 0)
theorem bcf_t : ∀ a : Nat, a < 64 → ∀ b : Nat, b < 64 → bcf (zo ((64 * a + b : Nat) : Int)) = zo (pcn 12 (64 * a + b) : Nat) := by
  decide +kernel
theorem bcf_ok {m : Nat} (h : m < 4096) : bcf (zo (m : Int)) = zo (pcn 12 m : Nat) := by
  have := bcf_t (m / 64) (by omega) (m % 64) (by omega)
  rw [show 64 * (m / 64) + m % 64 = m by omega] at this
  exact this
set_option maxRecDepth 100000 in
theorem ze_291 {d : Nat} {S : zS} {xa : Int32} : zr_sem zF (d + 1) 291 [zi xa] S = some (.inl (some (zi (bcf xa))), S) := (zr_y (lv := [some (zi xa)]) rfl rfl).trans rfl
section BE
variable {Γ : Nat → List zV → zS → Option zO} {cd : List zE} {K : Nat → zL → List zV → zS → Option zO} {N m : Nat} {S : zS} {l1 l2 l3 q : Int32} {rk : Nat} {r r' : Nat × (Instr × (Nat × ((Nat × (Nat × (Nat × (Nat × Nat)))) × (Int32 × List (Int × Nat)))))} {es es' : List zE}
set_option maxRecDepth 20000 in
theorem zb_289_89 : zx_blk Γ zm_289 2 K (N + 40) (zx_at zm_289 89) [some (za 3 0 0), some (zi l1), some (zi l2), some (zi l3), some (zi q)] [] S = za_in (l2 - zo 1) (zo 200) (za_in l2 (zo 200) (zx_ret1 (Γ 288 [zi q, zi (S.1 3 0 9 (l2 - zo 1).toNatClampNeg), zi (S.1 3 0 9 l2.toNatClampNeg)] S) (fun x3 S1 => (za_in (l2 - zo 1) (zo 200) (zlt (zs_set S1 3 0 9 (l2 - zo 1).toNatClampNeg x3) (fun S4 => K 4 [some (za 3 0 0), some (zi l1), some (zi l2), some (zi (l3 + (zo 1))), none] [] S4)))) zxx)) := rfl
set_option maxRecDepth 20000 in
theorem zb_289_55 : zx_blk Γ zm_289 2 K (N + 40) (zx_at zm_289 55) [some (za 3 0 0), some (zi l1), some (zi l2), some (zi l3), some (zi q)] [] S = (if q < (zo 0) then (zx_ret1 (Γ 280 [za 3 0 0, zi l1, zi ((zo (-1)) - q)] S) (fun x7 S5 => (za_in l2 (zo 200) (zlt (zs_set S5 3 0 9 (l2).toNatClampNeg x7) (fun S8 => K 4 [some (za 3 0 0), some (zi l1), some (zi (l2 + (zo 1))), some (zi (l3 + (zo 1))), none] [] S8)))) zxx) else (za_in l2 (zo 200) (zlt (zs_set S 3 0 9 (l2).toNatClampNeg q) (fun S9 => K 4 [some (za 3 0 0), some (zi l1), some (zi (l2 + (zo 1))), some (zi (l3 + (zo 1))), none] [] S9)))) := rfl
set_option maxRecDepth 20000 in
theorem zb_289_27 : zx_blk Γ zm_289 2 K (N + 40) (zx_at zm_289 27) [some (za 3 0 0), some (zi l1), some (zi l2), some (zi l3), some (zi q)] [] S = (za_in (l2 - (zo 1)) (zo 200) ((za_in (l2 - (zo 1)) (zo 200) (zlt (zs_set S 3 0 9 ((l2 - (zo 1))).toNatClampNeg ((zo 1) - (S.1 3 0 9 ((l2 - (zo 1))).toNatClampNeg))) (fun S10 => K 4 [some (za 3 0 0), some (zi l1), some (zi l2), some (zi (l3 + (zo 1))), none] [] S10))))) := rfl
set_option maxRecDepth 20000 in
theorem zb_289_122 : zx_blk Γ zm_289 2 K (N + 40) (zx_at zm_289 122) [some (za 3 0 0), some (zi l1), some (zi l2), some (zi l3), none] [] S = (za_in (zo 0) (zo 200) ((if (S.1 3 0 9 ((zo 0)).toNatClampNeg) = (zo 1) then some (.inl (some (zi (zo 1))), S) else some (.inl (some (zi (zo 0))), S)))) := rfl
theorem zg_86 {kk : Int32} {ii : Instr} (hi : ii = .iinc 2 (-1)) : zx_blk Γ cd rk K (m + 1) ((none, 86, ii, 3, (0, 0, 0, 0, 0), kk, []) :: (none, r) :: es) [some (za 3 0 0), some (zi l1), some (zi l2), some (zi l3), some (zi q)] [] S = zx_blk Γ cd rk K m ((none, r) :: es) [some (za 3 0 0), some (zi l1), some (zi (l2 + kk)), some (zi l3), some (zi q)] [] S := by
  subst hi
  rfl
theorem zm1 : (-1 : Int32) = zo (-1) := by decide
theorem zg_48 (h : zx_at cd 86 = (none, r') :: es') : zx_blk Γ cd rk K (m + 3) ((none, 48, .iload 4, 2, (0, 0, 0, 0, 0), 0, []) :: (none, 50, .bipush (-20), 2, (0, 0, 0, 0, 0), (-20), []) :: (none, 52, .if_icmp .le 34, 3, (86, 0, 0, 0, 0), 0, []) :: (none, r) :: es) [some (za 3 0 0), some (zi l1), some (zi l2), some (zi l3), some (zi q)] [] S = if q ≤ zo (-20) then zx_blk Γ cd rk K m ((none, r') :: es') [some (za 3 0 0), some (zi l1), some (zi l2), some (zi l3), some (zi q)] [] S else zx_blk Γ cd rk K m ((none, r) :: es) [some (za 3 0 0), some (zi l1), some (zi l2), some (zi l3), some (zi q)] [] S := by
  show (if q ≤ zo (-20) then zx_next (fun es lv st S => zx_blk Γ cd rk K m es lv st S) K (zx_at cd 86) [some (za 3 0 0), some (zi l1), some (zi l2), some (zi l3), some (zi q)] [] S else _) = _
  rw [h]; rfl
theorem zg_4 (h : zx_at cd 122 = (none, r') :: es') : zx_blk Γ cd rk K (m + 4) ((some [true, true, true, true, false], 4, .iload_n 3, 1, (0, 0, 0, 0, 0), 0, []) :: (none, 5, .aload_n 0, 1, (0, 0, 0, 0, 0), 0, []) :: (none, 6, .getfield 411, 3, (11, 27, 0, 1483, 0), 0, []) :: (none, 9, .if_icmp .ge 113, 3, (122, 0, 0, 0, 0), 0, []) :: (none, r) :: es) [some (za 3 0 0), some (zi l1), some (zi l2), some (zi l3), none] [] S = if (S.1 3 0 0 27) ≤ l3 then zx_blk Γ cd rk K m ((none, r') :: es') [some (za 3 0 0), some (zi l1), some (zi l2), some (zi l3), none] [] S else zx_blk Γ cd rk K m ((none, r) :: es) [some (za 3 0 0), some (zi l1), some (zi l2), some (zi l3), none] [] S := by
  show (if (S.1 3 0 0 27) ≤ l3 then zx_next (fun es lv st S => zx_blk Γ cd rk K m es lv st S) K (zx_at cd 122) [some (za 3 0 0), some (zi l1), some (zi l2), some (zi l3), none] [] S else _) = _
  rw [h]; rfl
theorem zg_12 (h : zx_at cd 48 = (none, r') :: es') : zx_blk Γ cd rk K (m + 8) ((none, 12, .aload_n 0, 1, (0, 0, 0, 0, 0), 0, []) :: (none, 13, .getfield 73, 3, (11, 25, 0, 1481, 0), 0, []) :: (none, 16, .iload_n 3, 1, (0, 0, 0, 0, 0), 0, []) :: (none, 17, .iaload, 1, (0, 0, 0, 0, 0), 0, []) :: (none, 18, .istore 4, 2, (0, 0, 0, 0, 0), 0, []) :: (none, 20, .iload 4, 2, (0, 0, 0, 0, 0), 0, []) :: (none, 22, .bipush (-23), 2, (0, 0, 0, 0, 0), (-23), []) :: (none, 24, .if_icmp .ne 24, 3, (48, 0, 0, 0, 0), 0, []) :: (none, r) :: es) [some (za 3 0 0), some (zi l1), some (zi l2), some (zi l3), none] [] S = za_in l3 (zo 200) (if (S.1 3 0 8 l3.toNatClampNeg) = zo (-23) then zx_blk Γ cd rk K m ((none, r) :: es) [some (za 3 0 0), some (zi l1), some (zi l2), some (zi l3), some (zi (S.1 3 0 8 l3.toNatClampNeg))] [] S else zx_blk Γ cd rk K m ((none, r') :: es') [some (za 3 0 0), some (zi l1), some (zi l2), some (zi l3), some (zi (S.1 3 0 8 l3.toNatClampNeg))] [] S) := by
  show za_in l3 (zo 200) (if (S.1 3 0 8 l3.toNatClampNeg) = zo (-23) then _ else zx_next (fun es lv st S => zx_blk Γ cd rk K m es lv st S) K (zx_at cd 48) [some (za 3 0 0), some (zi l1), some (zi l2), some (zi l3), some (zi (S.1 3 0 8 l3.toNatClampNeg))] [] S) = _
  rw [h]; rfl
theorem zx_89 : ∃ r es, zx_at zm_289 89 = (none, r) :: es := ⟨_, _, rfl⟩
theorem zx_27 : ∃ r es, zx_at zm_289 27 = (none, r) :: es := ⟨_, _, rfl⟩
theorem zx_55 : ∃ r es, zx_at zm_289 55 = (none, r) :: es := ⟨_, _, rfl⟩
theorem zx_122 : ∃ r es, zx_at zm_289 122 = (none, r) :: es := ⟨_, _, rfl⟩
theorem zx_12 : ∃ r es, zx_at zm_289 12 = (none, r) :: es := ⟨_, _, rfl⟩
theorem zx_86 : zx_at zm_289 86 = (none, 86, .iinc 2 (-1), 3, (0, 0, 0, 0, 0), (-1), []) :: zx_at zm_289 89 := rfl
theorem zx_48 : zx_at zm_289 48 = (none, 48, .iload 4, 2, (0, 0, 0, 0, 0), 0, []) :: (none, 50, .bipush (-20), 2, (0, 0, 0, 0, 0), (-20), []) :: (none, 52, .if_icmp .le 34, 3, (86, 0, 0, 0, 0), 0, []) :: zx_at zm_289 55 := rfl
theorem zx_4 : zx_at zm_289 4 = (some [true, true, true, true, false], 4, .iload_n 3, 1, (0, 0, 0, 0, 0), 0, []) :: (none, 5, .aload_n 0, 1, (0, 0, 0, 0, 0), 0, []) :: (none, 6, .getfield 411, 3, (11, 27, 0, 1483, 0), 0, []) :: (none, 9, .if_icmp .ge 113, 3, (122, 0, 0, 0, 0), 0, []) :: zx_at zm_289 12 := rfl
theorem zx_12b : zx_at zm_289 12 = (none, 12, .aload_n 0, 1, (0, 0, 0, 0, 0), 0, []) :: (none, 13, .getfield 73, 3, (11, 25, 0, 1481, 0), 0, []) :: (none, 16, .iload_n 3, 1, (0, 0, 0, 0, 0), 0, []) :: (none, 17, .iaload, 1, (0, 0, 0, 0, 0), 0, []) :: (none, 18, .istore 4, 2, (0, 0, 0, 0, 0), 0, []) :: (none, 20, .iload 4, 2, (0, 0, 0, 0, 0), 0, []) :: (none, 22, .bipush (-23), 2, (0, 0, 0, 0, 0), (-23), []) :: (none, 24, .if_icmp .ne 24, 3, (48, 0, 0, 0, 0), 0, []) :: zx_at zm_289 27 := rfl
theorem zb_289_86 : zx_blk Γ zm_289 2 K (N + 40 + 1) (zx_at zm_289 86) [some (za 3 0 0), some (zi l1), some (zi l2), some (zi l3), some (zi q)] [] S = zx_blk Γ zm_289 2 K (N + 40) (zx_at zm_289 89) [some (za 3 0 0), some (zi l1), some (zi (l2 + zo (-1))), some (zi l3), some (zi q)] [] S := by
  rw [zx_86]
  obtain ⟨r, es, e⟩ := zx_89
  rw [e, zg_86 rfl, zm1]
theorem zb_289_48 : zx_blk Γ zm_289 2 K (N + 41 + 3) (zx_at zm_289 48) [some (za 3 0 0), some (zi l1), some (zi l2), some (zi l3), some (zi q)] [] S = (if q ≤ zo (-20) then zx_blk Γ zm_289 2 K (N + 40) (zx_at zm_289 89) [some (za 3 0 0), some (zi l1), some (zi (l2 + zo (-1))), some (zi l3), some (zi q)] [] S else zx_blk Γ zm_289 2 K (N + 1 + 40) (zx_at zm_289 55) [some (za 3 0 0), some (zi l1), some (zi l2), some (zi l3), some (zi q)] [] S) := by
  rw [← zb_289_86, zx_48]
  obtain ⟨r, es, e⟩ := zx_55
  rw [e, zg_48 (r := r) (es := es) zx_86, ← zx_86, show N + 1 + 40 = N + 41 by omega]
theorem zb_289_4 : zx_blk Γ zm_289 2 K (N + 44 + 8 + 4) (zx_at zm_289 4) [some (za 3 0 0), some (zi l1), some (zi l2), some (zi l3), none] [] S = (if (S.1 3 0 0 27) ≤ l3 then (za_in (zo 0) (zo 200) ((if (S.1 3 0 9 ((zo 0)).toNatClampNeg) = (zo 1) then some (.inl (some (zi (zo 1))), S) else some (.inl (some (zi (zo 0))), S)))) else (za_in l3 (zo 200) ((if (S.1 3 0 8 (l3).toNatClampNeg) = (zo (-23)) then (za_in (l2 - (zo 1)) (zo 200) ((za_in (l2 - (zo 1)) (zo 200) (zlt (zs_set S 3 0 9 ((l2 - (zo 1))).toNatClampNeg ((zo 1) - (S.1 3 0 9 ((l2 - (zo 1))).toNatClampNeg))) (fun S10 => K 4 [some (za 3 0 0), some (zi l1), some (zi l2), some (zi (l3 + (zo 1))), none] [] S10))))) else (if (S.1 3 0 8 (l3).toNatClampNeg) ≤ (zo (-20)) then (za_in ((l2 + zo (-1)) - (zo 1)) (zo 200) ((za_in (l2 + zo (-1)) (zo 200) ((zx_ret1 (Γ 288 [zi (S.1 3 0 8 (l3).toNatClampNeg), zi (S.1 3 0 9 (((l2 + zo (-1)) - (zo 1))).toNatClampNeg), zi (S.1 3 0 9 (l2 + zo (-1)).toNatClampNeg)] S) (fun x3 S1 => (za_in ((l2 + zo (-1)) - (zo 1)) (zo 200) (zlt (zs_set S1 3 0 9 (((l2 + zo (-1)) - (zo 1))).toNatClampNeg x3) (fun S4 => K 4 [some (za 3 0 0), some (zi l1), some (zi (l2 + zo (-1))), some (zi (l3 + (zo 1))), none] [] S4)))) zxx))))) else (if (S.1 3 0 8 (l3).toNatClampNeg) < (zo 0) then (zx_ret1 (Γ 280 [za 3 0 0, zi l1, zi ((zo (-1)) - (S.1 3 0 8 (l3).toNatClampNeg))] S) (fun x7 S5 => (za_in l2 (zo 200) (zlt (zs_set S5 3 0 9 (l2).toNatClampNeg x7) (fun S8 => K 4 [some (za 3 0 0), some (zi l1), some (zi (l2 + (zo 1))), some (zi (l3 + (zo 1))), none] [] S8)))) zxx) else (za_in l2 (zo 200) (zlt (zs_set S 3 0 9 (l2).toNatClampNeg (S.1 3 0 8 (l3).toNatClampNeg)) (fun S9 => K 4 [some (za 3 0 0), some (zi l1), some (zi (l2 + (zo 1))), some (zi (l3 + (zo 1))), none] [] S9))))))))) := by
  rw [zx_4]
  obtain ⟨r1, es1, e1⟩ := zx_122
  obtain ⟨r2, es2, e2⟩ := zx_12
  obtain ⟨r3, es3, e3⟩ := zx_27
  rw [e2, zg_4 (r := r2) (es := es2) e1, ← e2, ← e1, zx_12b, e3, zg_12 (r := r3) (es := es3) zx_48, ← zx_48, ← e3]
  rw [show N + 44 + 8 = (N + 12) + 40 by omega, zb_289_122, show N + 44 = (N + 4) + 40 by omega, zb_289_27, show (N + 4) + 40 = N + 41 + 3 by omega, zb_289_48, zb_289_89, zb_289_55]
theorem ze_289_4 {d k : Nat} {S : zS} {l1 l2 l3 : Int32} : zy zF d 289 (k + 1) 4 [some (za 3 0 0), some (zi l1), some (zi l2), some (zi l3), none] S = (if (S.1 3 0 0 27) ≤ l3 then (za_in (zo 0) (zo 200) ((if (S.1 3 0 9 ((zo 0)).toNatClampNeg) = (zo 1) then some (.inl (some (zi (zo 1))), S) else some (.inl (some (zi (zo 0))), S)))) else (za_in l3 (zo 200) ((if (S.1 3 0 8 (l3).toNatClampNeg) = (zo (-23)) then (za_in (l2 - (zo 1)) (zo 200) ((za_in (l2 - (zo 1)) (zo 200) (zlt (zs_set S 3 0 9 ((l2 - (zo 1))).toNatClampNeg ((zo 1) - (S.1 3 0 9 ((l2 - (zo 1))).toNatClampNeg))) (fun S10 => zy zF d 289 k 4 [some (za 3 0 0), some (zi l1), some (zi l2), some (zi (l3 + (zo 1))), none] S10))))) else (if (S.1 3 0 8 (l3).toNatClampNeg) ≤ (zo (-20)) then (za_in ((l2 + zo (-1)) - (zo 1)) (zo 200) ((za_in (l2 + zo (-1)) (zo 200) ((zx_ret1 (zr_sem zF d 288 [zi (S.1 3 0 8 (l3).toNatClampNeg), zi (S.1 3 0 9 (((l2 + zo (-1)) - (zo 1))).toNatClampNeg), zi (S.1 3 0 9 (l2 + zo (-1)).toNatClampNeg)] S) (fun x3 S1 => (za_in ((l2 + zo (-1)) - (zo 1)) (zo 200) (zlt (zs_set S1 3 0 9 (((l2 + zo (-1)) - (zo 1))).toNatClampNeg x3) (fun S4 => zy zF d 289 k 4 [some (za 3 0 0), some (zi l1), some (zi (l2 + zo (-1))), some (zi (l3 + (zo 1))), none] S4)))) zxx))))) else (if (S.1 3 0 8 (l3).toNatClampNeg) < (zo 0) then (zx_ret1 (zr_sem zF d 280 [za 3 0 0, zi l1, zi ((zo (-1)) - (S.1 3 0 8 (l3).toNatClampNeg))] S) (fun x7 S5 => (za_in l2 (zo 200) (zlt (zs_set S5 3 0 9 (l2).toNatClampNeg x7) (fun S8 => zy zF d 289 k 4 [some (za 3 0 0), some (zi l1), some (zi (l2 + (zo 1))), some (zi (l3 + (zo 1))), none] S8)))) zxx) else (za_in l2 (zo 200) (zlt (zs_set S 3 0 9 (l2).toNatClampNeg (S.1 3 0 8 (l3).toNatClampNeg)) (fun S9 => zy zF d 289 k 4 [some (za 3 0 0), some (zi l1), some (zi (l2 + (zo 1))), some (zi (l3 + (zo 1))), none] S9))))))))) := by
  have e : ∀ n lv S, zy zF d 289 n 4 lv S = zx_run (fun mi av S => zr_sem zF d mi av S) zm_289 2 82 n 4 lv [] S := fun _ _ _ => rfl
  simp only [e]
  exact zb_289_4 (Γ := fun mi av S => zr_sem zF d mi av S) (K := fun pc lv st S => zx_run (fun mi av S => zr_sem zF d mi av S) zm_289 2 82 k pc lv st S) (N := 26)
end BE

/-! SOUNDNESS 11ta: the methods' tables, checked (slow: the kernel reads the code) -/
/-- a method's table, checked against what the tables say of it -/
def zk_t (M : zM) (T : List zE × Nat × Nat × Nat) : Bool := Nat.beq T.2.2.1 M.2.2.1 && T.1.all (zk_e M.1.cls M.2.1 M.2.2.1 M.2.2.2.1 M.2.2.2.2.1 T.2.1) && zk_seq T.1
def zk_tt : List (List zE × Nat × Nat × Nat) → List (Option zM) → Bool
  | [], [] => true
  | _ :: ts, none :: ms => zk_tt ts ms
  | T :: ts, some M :: ms => zk_t M T && zk_tt ts ms
  | _, _ => false
theorem zt_t0 : zk_tt zt_ms0 zt_mi0 = true := by decide +kernel
theorem zt_t1 : zk_tt zt_ms1 zt_mi1 = true := by decide +kernel
theorem zt_t2 : zk_tt zt_ms2 zt_mi2 = true := by decide +kernel
theorem zt_t3 : zk_tt zt_ms3 zt_mi3 = true := by decide +kernel
theorem zt_t4 : zk_tt zt_ms4 zt_mi4 = true := by decide +kernel
theorem zt_t5 : zk_tt zt_ms5 zt_mi5 = true := by decide +kernel
theorem zt_t6 : zk_tt zt_ms6 zt_mi6 = true := by decide +kernel
theorem zt_t7 : zk_tt zt_ms7 zt_mi7 = true := by decide +kernel
theorem zt_t8 : zk_tt zt_ms8 zt_mi8 = true := by decide +kernel

/-! EQUATIONS of the law's level, by program (tools/gensemq.py) -/
/-- a run of a method of the law's level from a place inside a block; from a cut -/
def qt_all (i : Nat) : Option (List zE × Nat × Nat × Nat) := if i = 47 then some (qm_47, 2, 9, zF) else zx_nth qt_ms i
def qy (d mi n pc : Nat) (lv : zL) (st : List zV) (T : qS) : Option qO := (qt_all mi).bind (fun M => qx_run (fun mi av T => q_sem zF d mi av T) (fun mi av S => zr_sem zF d mi av S) M.1 M.2.1 M.2.2.2 n pc lv st T)
def qz (d mi n m pc : Nat) (lv : zL) (st : List zV) (T : qS) : Option qO := (qt_all mi).bind (fun M => qx_blk (fun mi av T => q_sem zF d mi av T) (fun mi av S => zr_sem zF d mi av S) M.1 M.2.1 (fun pc lv st T => qx_run (fun mi av T => q_sem zF d mi av T) (fun mi av S => zr_sem zF d mi av S) M.1 M.2.1 M.2.2.2 n pc lv st T) m (zx_at M.1 pc) lv st T)
def qcast (q : Nat) (T : qS) (x : Option qO) : Option qO := match zx_nth T.2 q with
  | some (.inr (.inl (5, _))) => x
  | _ => none
def qcl (q : Nat) (T : qS) (f : qS → Option qO) : Option qO := match zx_nth T.2 q with
  | some (.inr (.inl (5, xs))) => f (T.1, T.2 ++ [.inr (.inl (5, xs))])
  | _ => none
set_option maxHeartbeats 4000000 in
set_option maxRecDepth 1000000 in
theorem qe_0_0_86ooo__35 {d n : Nat} {T : qS} {l0 : Nat} {l1 : Nat} : qz d 0 n 35 0 [some (za 8 l0 0), some (za 6 l1 0), none, none, none] [] T = (qx_ret 1 (q_sem zF d 14 [za 6 l1 0] T) [] (fun w1 T2 => qz d 0 n 31 8 [some (za 8 l0 0), some (za 6 l1 0), none, none, none] w1 T2)) := rfl
set_option maxHeartbeats 4000000 in
set_option maxRecDepth 1000000 in
theorem qe_0_8_86ooo_i_31 {d n : Nat} {T : qS} {l0 : Nat} {l1 : Nat} {s0 : Int32} : qz d 0 n 31 8 [some (za 8 l0 0), some (za 6 l1 0), none, none, none] [zi s0] T = (if (zo 2147483631) ≤ s0 then (qx_ret 1 (q_sem zF d 18 [za 6 l1 0] T) [] (fun w1 T2 => qz d 0 n 23 29 [some (za 8 l0 0), some (za 6 l1 0), some (zi s0), some (zi (zo 2147483647)), none] w1 T2)) else (qx_ret 1 (q_sem zF d 18 [za 6 l1 0] T) [] (fun w3 T4 => qz d 0 n 20 29 [some (za 8 l0 0), some (za 6 l1 0), some (zi s0), some (zi (s0 + (zo 16))), none] w3 T4))) := rfl
set_option maxHeartbeats 4000000 in
set_option maxRecDepth 1000000 in
theorem qe_0_29_86iio_i_23 {d n : Nat} {T : qS} {l0 : Nat} {l1 : Nat} {l2 : Int32} {l3 : Int32} {s0 : Int32} : qz d 0 n 23 29 [some (za 8 l0 0), some (za 6 l1 0), some (zi l2), some (zi l3), none] [zi s0] T = (qf_put 11 1 (8, l0, 0) (zi s0) T (fun T1 => (if s0 = (zo 0) then (qa_new l3 5 T1 (fun v2 T3 => qz d 0 n 14 46 [some (za 8 l0 0), some (za 6 l1 0), some (zi l2), some (zi l3), some (zi s0)] (v2 :: [za 8 l0 0]) T3)) else none))) := rfl
set_option maxHeartbeats 4000000 in
set_option maxRecDepth 1000000 in
theorem qe_0_29_86iio_i_20 {d n : Nat} {T : qS} {l0 : Nat} {l1 : Nat} {l2 : Int32} {l3 : Int32} {s0 : Int32} : qz d 0 n 20 29 [some (za 8 l0 0), some (za 6 l1 0), some (zi l2), some (zi l3), none] [zi s0] T = (qf_put 11 1 (8, l0, 0) (zi s0) T (fun T1 => (if s0 = (zo 0) then (qa_new l3 5 T1 (fun v2 T3 => qz d 0 n 11 46 [some (za 8 l0 0), some (za 6 l1 0), some (zi l2), some (zi l3), some (zi s0)] (v2 :: [za 8 l0 0]) T3)) else none))) := rfl
set_option maxHeartbeats 4000000 in
set_option maxRecDepth 1000000 in
theorem qe_0_46_86iii_88_14 {d n : Nat} {T : qS} {l0 : Nat} {l1 : Nat} {l2 : Int32} {l3 : Int32} {l4 : Int32} {s0 : Nat} {s1 : Nat} : qz d 0 n 14 46 [some (za 8 l0 0), some (za 6 l1 0), some (zi l2), some (zi l3), some (zi l4)] [za 8 s0 0, za 8 s1 0] T = (qf_put 11 0 (8, s1, 0) (za 8 s0 0) T (fun T1 => (zx_if (qx_rc (8, l0, 0) 11 T1) (qx_ret 5 (q_sem zF d 25 [za 8 l0 0, za 6 l1 0] T1) [] (fun w2 T3 => qz d 0 n 9 61 [some (za 8 l0 0), some (za 6 l1 0), some (zi l2), some (zi l3), some (zi l4)] w2 T3))))) := rfl
set_option maxHeartbeats 4000000 in
set_option maxRecDepth 1000000 in
theorem qe_0_46_86iii_88_11 {d n : Nat} {T : qS} {l0 : Nat} {l1 : Nat} {l2 : Int32} {l3 : Int32} {l4 : Int32} {s0 : Nat} {s1 : Nat} : qz d 0 n 11 46 [some (za 8 l0 0), some (za 6 l1 0), some (zi l2), some (zi l3), some (zi l4)] [za 8 s0 0, za 8 s1 0] T = (qf_put 11 0 (8, s1, 0) (za 8 s0 0) T (fun T1 => (zx_if (qx_rc (8, l0, 0) 11 T1) (qx_ret 5 (q_sem zF d 25 [za 8 l0 0, za 6 l1 0] T1) [] (fun w2 T3 => qz d 0 n 6 61 [some (za 8 l0 0), some (za 6 l1 0), some (zi l2), some (zi l3), some (zi l4)] w2 T3))))) := rfl
set_option maxHeartbeats 4000000 in
set_option maxRecDepth 1000000 in
theorem qe_0_61_86iii_8_9 {d n : Nat} {T : qS} {l0 : Nat} {l1 : Nat} {l2 : Int32} {l3 : Int32} {l4 : Int32} {s0 : Nat} : qz d 0 n 9 61 [some (za 8 l0 0), some (za 6 l1 0), some (zi l2), some (zi l3), some (zi l4)] [za 8 s0 0] T = some (none, T) := rfl
set_option maxHeartbeats 4000000 in
set_option maxRecDepth 1000000 in
theorem qe_0_61_86iii_8_6 {d n : Nat} {T : qS} {l0 : Nat} {l1 : Nat} {l2 : Int32} {l3 : Int32} {l4 : Int32} {s0 : Nat} : qz d 0 n 6 61 [some (za 8 l0 0), some (za 6 l1 0), some (zi l2), some (zi l3), some (zi l4)] [za 8 s0 0] T = some (none, T) := rfl
set_option maxHeartbeats 4000000 in
set_option maxRecDepth 1000000 in
theorem qe_1_0_8__4 {d n : Nat} {T : qS} {l0 : Nat} : qz d 1 n 4 0 [some (za 8 l0 0)] [] T = (qf_get 11 3 (8, l0, 0) T (fun v1 => qz d 1 n 2 4 [some (za 8 l0 0)] (v1 :: []) T)) := rfl
set_option maxHeartbeats 4000000 in
set_option maxRecDepth 1000000 in
theorem qe_1_4_8_i_2 {d n : Nat} {T : qS} {l0 : Nat} {s0 : Int32} : qz d 1 n 2 4 [some (za 8 l0 0)] [zi s0] T = some (some (zi s0), T) := rfl
set_option maxHeartbeats 4000000 in
set_option maxRecDepth 1000000 in
theorem qe_2_0_8io__24 {d n : Nat} {T : qS} {l0 : Nat} {l1 : Int32} : qz d 2 n 24 0 [some (za 8 l0 0), some (zi l1), none] [] T = (qf_get 11 0 (8, l0, 0) T (fun v1 => qz d 2 n 22 4 [some (za 8 l0 0), some (zi l1), none] (v1 :: []) T)) := rfl
set_option maxHeartbeats 4000000 in
set_option maxRecDepth 1000000 in
theorem qe_2_4_8io_8_22 {d n : Nat} {T : qS} {l0 : Nat} {l1 : Int32} {s0 : Nat} : qz d 2 n 22 4 [some (za 8 l0 0), some (zi l1), none] [za 8 s0 0] T = (qa_len (8, s0, 0) T (fun x1 => (qf_get 11 1 (8, l0, 0) T (fun v2 => qz d 2 n 19 9 [some (za 8 l0 0), some (zi l1), none] (v2 :: [zi x1]) T)))) := rfl
set_option maxHeartbeats 4000000 in
set_option maxRecDepth 1000000 in
theorem qe_2_9_8io_ii_19 {d n : Nat} {T : qS} {l0 : Nat} {l1 : Int32} {s0 : Int32} {s1 : Int32} : qz d 2 n 19 9 [some (za 8 l0 0), some (zi l1), none] [zi s0, zi s1] T = (if (l1 - (s1 >>> (s0 &&& 31))) ≤ (zo 0) then some (none, T) else (qf_get 11 0 (8, l0, 0) T (fun v1 => qz d 2 n 10 22 [some (za 8 l0 0), some (zi l1), some (zi (s1 >>> (s0 &&& 31)))] (v1 :: [za 8 l0 0]) T))) := rfl
set_option maxHeartbeats 4000000 in
set_option maxRecDepth 1000000 in
theorem qe_2_22_8ii_88_10 {d n : Nat} {T : qS} {l0 : Nat} {l1 : Int32} {l2 : Int32} {s0 : Nat} {s1 : Nat} : qz d 2 n 10 22 [some (za 8 l0 0), some (zi l1), some (zi l2)] [za 8 s0 0, za 8 s1 0] T = (zx_if (qx_rc (8, l0, 0) 11 T) (qx_ret 1 (q_sem zF d 3 [za 8 l0 0, zi l1] T) [za 8 s0 0, za 8 s1 0] (fun w1 T2 => qz d 2 n 7 27 [some (za 8 l0 0), some (zi l1), some (zi l2)] w1 T2))) := rfl
set_option maxHeartbeats 4000000 in
set_option maxRecDepth 1000000 in
theorem qe_2_27_8ii_i88_7 {d n : Nat} {T : qS} {l0 : Nat} {l1 : Int32} {l2 : Int32} {s0 : Int32} {s1 : Nat} {s2 : Nat} : qz d 2 n 7 27 [some (za 8 l0 0), some (zi l1), some (zi l2)] [zi s0, za 8 s1 0, za 8 s2 0] T = (qf_get 11 1 (8, l0, 0) T (fun v1 => qz d 2 n 5 31 [some (za 8 l0 0), some (zi l1), some (zi l2)] (v1 :: [zi s0, za 8 s1 0, za 8 s2 0]) T)) := rfl
set_option maxHeartbeats 4000000 in
set_option maxRecDepth 1000000 in
theorem qe_2_31_8ii_ii88_5 {d n : Nat} {T : qS} {l0 : Nat} {l1 : Int32} {l2 : Int32} {s0 : Int32} {s1 : Int32} {s2 : Nat} {s3 : Nat} : qz d 2 n 5 31 [some (za 8 l0 0), some (zi l1), some (zi l2)] [zi s0, zi s1, za 8 s2 0, za 8 s3 0] T = (qx_ret 5 (q_sem zF d 29 [za 8 s2 0, zi (s1 <<< (s0 &&& 31))] T) [za 8 s3 0] (fun w1 T2 => qz d 2 n 3 35 [some (za 8 l0 0), some (zi l1), some (zi l2)] w1 T2)) := rfl
set_option maxHeartbeats 4000000 in
set_option maxRecDepth 1000000 in
theorem qe_2_35_8ii_88_3 {d n : Nat} {T : qS} {l0 : Nat} {l1 : Int32} {l2 : Int32} {s0 : Nat} {s1 : Nat} : qz d 2 n 3 35 [some (za 8 l0 0), some (zi l1), some (zi l2)] [za 8 s0 0, za 8 s1 0] T = (qf_put 11 0 (8, s1, 0) (za 8 s0 0) T (fun T1 => some (none, T1))) := rfl
set_option maxHeartbeats 4000000 in
set_option maxRecDepth 1000000 in
theorem qe_3_0_8ioooo__33 {d n : Nat} {T : qS} {l0 : Nat} {l1 : Int32} : qz d 3 n 33 0 [some (za 8 l0 0), some (zi l1), none, none, none, none] [] T = (qf_get 11 0 (8, l0, 0) T (fun v1 => qz d 3 n 31 4 [some (za 8 l0 0), some (zi l1), none, none, none, none] (v1 :: []) T)) := rfl
set_option maxHeartbeats 4000000 in
set_option maxRecDepth 1000000 in
theorem qe_3_4_8ioooo_8_31 {d n : Nat} {T : qS} {l0 : Nat} {l1 : Int32} {s0 : Nat} : qz d 3 n 31 4 [some (za 8 l0 0), some (zi l1), none, none, none, none] [za 8 s0 0] T = (qa_len (8, s0, 0) T (fun x1 => (qf_get 11 1 (8, l0, 0) T (fun v2 => qz d 3 n 26 11 [some (za 8 l0 0), some (zi l1), some (zi x1), none, none, none] (v2 :: [zi l1]) T)))) := rfl
set_option maxHeartbeats 4000000 in
set_option maxRecDepth 1000000 in
theorem qe_3_11_8iiooo_ii_26 {d n : Nat} {T : qS} {l0 : Nat} {l1 : Int32} {l2 : Int32} {s0 : Int32} {s1 : Int32} : qz d 3 n 26 11 [some (za 8 l0 0), some (zi l1), some (zi l2), none, none, none] [zi s0, zi s1] T = (qf_get 11 1 (8, l0, 0) T (fun v1 => qz d 3 n 14 27 [some (za 8 l0 0), some (zi l1), some (zi l2), some (zi (s1 <<< (s0 &&& 31))), some (zi ((s1 <<< (s0 &&& 31)) - l2)), none] (v1 :: [zi (zo 2), zi l2, zi ((s1 <<< (s0 &&& 31)) - l2), zi l2]) T)) := rfl
set_option maxHeartbeats 4000000 in
set_option maxRecDepth 1000000 in
theorem qe_3_27_8iiiio_iiiii_14 {d n : Nat} {T : qS} {l0 : Nat} {l1 : Int32} {l2 : Int32} {l3 : Int32} {l4 : Int32} {s0 : Int32} {s1 : Int32} {s2 : Int32} {s3 : Int32} {s4 : Int32} : qz d 3 n 14 27 [some (za 8 l0 0), some (zi l1), some (zi l2), some (zi l3), some (zi l4), none] [zi s0, zi s1, zi s2, zi s3, zi s4] T = (qx_ret 1 (q_sem zF d 33 [zi s4, zi s3, zi (s2 + (s1 <<< (s0 &&& 31)))] T) [] (fun w1 T2 => qz d 3 n 11 32 [some (za 8 l0 0), some (zi l1), some (zi l2), some (zi l3), some (zi l4), none] w1 T2)) := rfl
set_option maxHeartbeats 4000000 in
set_option maxRecDepth 1000000 in
theorem qe_3_32_8iiiio_i_11 {d n : Nat} {T : qS} {l0 : Nat} {l1 : Int32} {l2 : Int32} {l3 : Int32} {l4 : Int32} {s0 : Int32} : qz d 3 n 11 32 [some (za 8 l0 0), some (zi l1), some (zi l2), some (zi l3), some (zi l4), none] [zi s0] T = (if s0 = (zo 2147483647) then none else (qf_get 11 1 (8, l0, 0) T (fun v1 => qz d 3 n 4 57 [some (za 8 l0 0), some (zi l1), some (zi l2), some (zi l3), some (zi l4), some (zi s0)] (v1 :: [zi s0]) T))) := rfl
set_option maxHeartbeats 4000000 in
set_option maxRecDepth 1000000 in
theorem qe_3_57_8iiiii_ii_4 {d n : Nat} {T : qS} {l0 : Nat} {l1 : Int32} {l2 : Int32} {l3 : Int32} {l4 : Int32} {l5 : Int32} {s0 : Int32} {s1 : Int32} : qz d 3 n 4 57 [some (za 8 l0 0), some (zi l1), some (zi l2), some (zi l3), some (zi l4), some (zi l5)] [zi s0, zi s1] T = some (some (zi (s1 >>> (s0 &&& 31))), T) := rfl
set_option maxHeartbeats 4000000 in
set_option maxRecDepth 1000000 in
theorem qe_4_0_86o__25 {d n : Nat} {T : qS} {l0 : Nat} {l1 : Nat} : qz d 4 n 25 0 [some (za 8 l0 0), some (za 6 l1 0), none] [] T = (qx_ret 1 (q_sem zF d 14 [za 6 l1 0] T) [] (fun w1 T2 => qz d 4 n 21 13 [some (za 8 l0 0), some (za 6 l1 0), none] w1 T2)) := rfl
set_option maxHeartbeats 4000000 in
set_option maxRecDepth 1000000 in
theorem qe_4_13_86o_i_21 {d n : Nat} {T : qS} {l0 : Nat} {l1 : Nat} {s0 : Int32} : qz d 4 n 21 13 [some (za 8 l0 0), some (za 6 l1 0), none] [zi s0] T = (qf_get 11 3 (8, l0, 0) T (fun v1 => qz d 4 n 17 19 [some (za 8 l0 0), some (za 6 l1 0), some (zi s0)] (v1 :: [za 8 l0 0]) T)) := rfl
set_option maxHeartbeats 4000000 in
set_option maxRecDepth 1000000 in
theorem qe_4_19_86i_i8_17 {d n : Nat} {T : qS} {l0 : Nat} {l1 : Nat} {l2 : Int32} {s0 : Int32} {s1 : Nat} : qz d 4 n 17 19 [some (za 8 l0 0), some (za 6 l1 0), some (zi l2)] [zi s0, za 8 s1 0] T = (zx_if (qx_rc (8, s1, 0) 11 T) (qx_ret 0 (q_sem zF d 2 [za 8 s1 0, zi (s0 + l2)] T) [] (fun w1 T2 => qz d 4 n 14 24 [some (za 8 l0 0), some (za 6 l1 0), some (zi l2)] w1 T2))) := rfl
set_option maxHeartbeats 4000000 in
set_option maxRecDepth 1000000 in
theorem qe_4_24_86i__14 {d n : Nat} {T : qS} {l0 : Nat} {l1 : Nat} {l2 : Int32} : qz d 4 n 14 24 [some (za 8 l0 0), some (za 6 l1 0), some (zi l2)] [] T = (qf_get 11 3 (8, l0, 0) T (fun v1 => qz d 4 n 11 29 [some (za 8 l0 0), some (za 6 l1 0), some (zi l2)] (v1 :: [za 8 l0 0]) T)) := rfl
set_option maxHeartbeats 4000000 in
set_option maxRecDepth 1000000 in
theorem qe_4_29_86i_i8_11 {d n : Nat} {T : qS} {l0 : Nat} {l1 : Nat} {l2 : Int32} {s0 : Int32} {s1 : Nat} : qz d 4 n 11 29 [some (za 8 l0 0), some (za 6 l1 0), some (zi l2)] [zi s0, za 8 s1 0] T = (zx_if (qx_rc (8, s1, 0) 11 T) (qx_ret 0 (q_sem zF d 10 [za 8 s1 0, zi s0, za 6 l1 0] T) [] (fun w1 T2 => qz d 4 n 9 33 [some (za 8 l0 0), some (za 6 l1 0), some (zi l2)] w1 T2))) := rfl
set_option maxHeartbeats 4000000 in
set_option maxRecDepth 1000000 in
theorem qe_4_33_86i__9 {d n : Nat} {T : qS} {l0 : Nat} {l1 : Nat} {l2 : Int32} : qz d 4 n 9 33 [some (za 8 l0 0), some (za 6 l1 0), some (zi l2)] [] T = (qf_get 11 3 (8, l0, 0) T (fun v1 => qz d 4 n 6 38 [some (za 8 l0 0), some (za 6 l1 0), some (zi l2)] (v1 :: [za 8 l0 0]) T)) := rfl
set_option maxHeartbeats 4000000 in
set_option maxRecDepth 1000000 in
theorem qe_4_38_86i_i8_6 {d n : Nat} {T : qS} {l0 : Nat} {l1 : Nat} {l2 : Int32} {s0 : Int32} {s1 : Nat} : qz d 4 n 6 38 [some (za 8 l0 0), some (za 6 l1 0), some (zi l2)] [zi s0, za 8 s1 0] T = (qf_put 11 3 (8, s1, 0) (zi (s0 + l2)) T (fun T1 => some (some (za 8 l0 0), T1))) := rfl
set_option maxHeartbeats 4000000 in
set_option maxRecDepth 1000000 in
theorem qe_5_0_8i__44 {d n : Nat} {T : qS} {l0 : Nat} {l1 : Int32} : qz d 5 n 44 0 [some (za 8 l0 0), some (zi l1)] [] T = (qf_get 11 3 (8, l0, 0) T (fun v1 => qz d 5 n 41 5 [some (za 8 l0 0), some (zi l1)] (v1 :: [za 8 l0 0]) T)) := rfl
set_option maxHeartbeats 4000000 in
set_option maxRecDepth 1000000 in
theorem qe_5_5_8i_i8_41 {d n : Nat} {T : qS} {l0 : Nat} {l1 : Int32} {s0 : Int32} {s1 : Nat} : qz d 5 n 41 5 [some (za 8 l0 0), some (zi l1)] [zi s0, za 8 s1 0] T = (zx_if (qx_rc (8, s1, 0) 11 T) (qx_ret 0 (q_sem zF d 2 [za 8 s1 0, zi (s0 + (zo 1))] T) [] (fun w1 T2 => qz d 5 n 38 10 [some (za 8 l0 0), some (zi l1)] w1 T2))) := rfl
set_option maxHeartbeats 4000000 in
set_option maxRecDepth 1000000 in
theorem qe_5_10_8i__38 {d n : Nat} {T : qS} {l0 : Nat} {l1 : Int32} : qz d 5 n 38 10 [some (za 8 l0 0), some (zi l1)] [] T = (zx_if (qx_rc (8, l0, 0) 11 T) (qx_ret 1 (q_sem zF d 8 [za 8 l0 0] T) [] (fun w1 T2 => qz d 5 n 36 14 [some (za 8 l0 0), some (zi l1)] w1 T2))) := rfl
set_option maxHeartbeats 4000000 in
set_option maxRecDepth 1000000 in
theorem qe_5_14_8i_i_36 {d n : Nat} {T : qS} {l0 : Nat} {l1 : Int32} {s0 : Int32} : qz d 5 n 36 14 [some (za 8 l0 0), some (zi l1)] [zi s0] T = (if s0 = (zo 0) then (zx_if (qx_rc (8, l0, 0) 11 T) (qx_ret 1 (q_sem zF d 8 [za 8 l0 0] T) [] (fun w1 T2 => qz d 5 n 33 49 [some (za 8 l0 0), some (zi l1)] w1 T2))) else (qx_ret 1 (q_sem zF d 28 [zi l1] T) [] (fun w3 T4 => qz d 5 n 33 21 [some (za 8 l0 0), some (zi l1)] w3 T4))) := rfl
set_option maxHeartbeats 4000000 in
set_option maxRecDepth 1000000 in
theorem qe_5_49_8i_i_33 {d n : Nat} {T : qS} {l0 : Nat} {l1 : Int32} {s0 : Int32} : qz d 5 n 33 49 [some (za 8 l0 0), some (zi l1)] [zi s0] T = (if s0 = (zo 0) then (qf_get 11 0 (8, l0, 0) T (fun v1 => qz d 5 n 30 60 [some (za 8 l0 0), some (zi l1)] (v1 :: []) T)) else none) := rfl
set_option maxHeartbeats 4000000 in
set_option maxRecDepth 1000000 in
theorem qe_5_21_8i_i_33 {d n : Nat} {T : qS} {l0 : Nat} {l1 : Int32} {s0 : Int32} : qz d 5 n 33 21 [some (za 8 l0 0), some (zi l1)] [zi s0] T = (if s0 = (zo 0) then (zx_if (qx_rc (8, l0, 0) 11 T) (qx_ret 1 (q_sem zF d 8 [za 8 l0 0] T) [] (fun w1 T2 => qz d 5 n 30 49 [some (za 8 l0 0), some (zi l1)] w1 T2))) else (qf_get 11 0 (8, l0, 0) T (fun v3 => qz d 5 n 30 28 [some (za 8 l0 0), some (zi l1)] (v3 :: []) T))) := rfl
set_option maxHeartbeats 4000000 in
set_option maxRecDepth 1000000 in
theorem qe_5_60_8i_8_30 {d n : Nat} {T : qS} {l0 : Nat} {l1 : Int32} {s0 : Nat} : qz d 5 n 30 60 [some (za 8 l0 0), some (zi l1)] [za 8 s0 0] T = (qf_get 11 3 (8, l0, 0) T (fun v1 => qz d 5 n 27 65 [some (za 8 l0 0), some (zi l1)] (v1 :: [za 8 l0 0, za 8 s0 0]) T)) := rfl
set_option maxHeartbeats 4000000 in
set_option maxRecDepth 1000000 in
theorem qe_5_49_8i_i_30 {d n : Nat} {T : qS} {l0 : Nat} {l1 : Int32} {s0 : Int32} : qz d 5 n 30 49 [some (za 8 l0 0), some (zi l1)] [zi s0] T = (if s0 = (zo 0) then (qf_get 11 0 (8, l0, 0) T (fun v1 => qz d 5 n 27 60 [some (za 8 l0 0), some (zi l1)] (v1 :: []) T)) else none) := rfl
set_option maxHeartbeats 4000000 in
set_option maxRecDepth 1000000 in
theorem qe_5_28_8i_8_30 {d n : Nat} {T : qS} {l0 : Nat} {l1 : Int32} {s0 : Nat} : qz d 5 n 30 28 [some (za 8 l0 0), some (zi l1)] [za 8 s0 0] T = (qf_get 11 3 (8, l0, 0) T (fun v1 => qz d 5 n 27 33 [some (za 8 l0 0), some (zi l1)] (v1 :: [za 8 l0 0, za 8 s0 0]) T)) := rfl
set_option maxHeartbeats 4000000 in
set_option maxRecDepth 1000000 in
theorem qe_5_65_8i_i88_27 {d n : Nat} {T : qS} {l0 : Nat} {l1 : Int32} {s0 : Int32} {s1 : Nat} {s2 : Nat} : qz d 5 n 27 65 [some (za 8 l0 0), some (zi l1)] [zi s0, za 8 s1 0, za 8 s2 0] T = (qf_put 11 3 (8, s1, 0) (zi (s0 + (zo 1))) T (fun T1 => none)) := rfl
set_option maxHeartbeats 4000000 in
set_option maxRecDepth 1000000 in
theorem qe_5_60_8i_8_27 {d n : Nat} {T : qS} {l0 : Nat} {l1 : Int32} {s0 : Nat} : qz d 5 n 27 60 [some (za 8 l0 0), some (zi l1)] [za 8 s0 0] T = (qf_get 11 3 (8, l0, 0) T (fun v1 => qz d 5 n 24 65 [some (za 8 l0 0), some (zi l1)] (v1 :: [za 8 l0 0, za 8 s0 0]) T)) := rfl
set_option maxHeartbeats 4000000 in
set_option maxRecDepth 1000000 in
theorem qe_5_33_8i_i88_27 {d n : Nat} {T : qS} {l0 : Nat} {l1 : Int32} {s0 : Int32} {s1 : Nat} {s2 : Nat} : qz d 5 n 27 33 [some (za 8 l0 0), some (zi l1)] [zi s0, za 8 s1 0, za 8 s2 0] T = (qf_put 11 3 (8, s1, 0) (zi (s0 + (zo 1))) T (fun T1 => (qa_bst (8, s2, 0) s0 (l1).toInt8.toInt32 T1 (fun T2 => some (some (za 8 l0 0), T2))))) := rfl
set_option maxHeartbeats 4000000 in
set_option maxRecDepth 1000000 in
theorem qe_5_65_8i_i88_24 {d n : Nat} {T : qS} {l0 : Nat} {l1 : Int32} {s0 : Int32} {s1 : Nat} {s2 : Nat} : qz d 5 n 24 65 [some (za 8 l0 0), some (zi l1)] [zi s0, za 8 s1 0, za 8 s2 0] T = (qf_put 11 3 (8, s1, 0) (zi (s0 + (zo 1))) T (fun T1 => none)) := rfl
set_option maxHeartbeats 4000000 in
set_option maxRecDepth 1000000 in
theorem qe_6_0_8ioo__33 {d n : Nat} {T : qS} {l0 : Nat} {l1 : Int32} : qz d 6 n 33 0 [some (za 8 l0 0), some (zi l1), none, none] [] T = (qf_get 11 3 (8, l0, 0) T (fun v1 => qz d 6 n 31 4 [some (za 8 l0 0), some (zi l1), none, none] (v1 :: []) T)) := rfl
set_option maxHeartbeats 4000000 in
set_option maxRecDepth 1000000 in
theorem qe_6_4_8ioo_i_31 {d n : Nat} {T : qS} {l0 : Nat} {l1 : Int32} {s0 : Int32} : qz d 6 n 31 4 [some (za 8 l0 0), some (zi l1), none, none] [zi s0] T = (qx_ret 1 (q_sem zF d 12 [zi l1] T) [zi s0] (fun w1 T2 => qz d 6 n 27 10 [some (za 8 l0 0), some (zi l1), some (zi s0), none] w1 T2)) := rfl
set_option maxHeartbeats 4000000 in
set_option maxRecDepth 1000000 in
theorem qe_6_10_8iio_ii_27 {d n : Nat} {T : qS} {l0 : Nat} {l1 : Int32} {l2 : Int32} {s0 : Int32} {s1 : Int32} : qz d 6 n 27 10 [some (za 8 l0 0), some (zi l1), some (zi l2), none] [zi s0, zi s1] T = (zx_if (qx_rc (8, l0, 0) 11 T) (qx_ret 0 (q_sem zF d 2 [za 8 l0 0, zi (s1 + s0)] T) [] (fun w1 T2 => qz d 6 n 22 17 [some (za 8 l0 0), some (zi l1), some (zi l2), some (zi (s1 + s0))] w1 T2))) := rfl
set_option maxHeartbeats 4000000 in
set_option maxRecDepth 1000000 in
theorem qe_6_17_8iii__22 {d n : Nat} {T : qS} {l0 : Nat} {l1 : Int32} {l2 : Int32} {l3 : Int32} : qz d 6 n 22 17 [some (za 8 l0 0), some (zi l1), some (zi l2), some (zi l3)] [] T = (zx_if (qx_rc (8, l0, 0) 11 T) (qx_ret 1 (q_sem zF d 8 [za 8 l0 0] T) [] (fun w1 T2 => qz d 6 n 20 21 [some (za 8 l0 0), some (zi l1), some (zi l2), some (zi l3)] w1 T2))) := rfl
set_option maxHeartbeats 4000000 in
set_option maxRecDepth 1000000 in
theorem qe_6_21_8iii_i_20 {d n : Nat} {T : qS} {l0 : Nat} {l1 : Int32} {l2 : Int32} {l3 : Int32} {s0 : Int32} : qz d 6 n 20 21 [some (za 8 l0 0), some (zi l1), some (zi l2), some (zi l3)] [zi s0] T = (if s0 = (zo 0) then (qf_get 11 0 (8, l0, 0) T (fun v1 => qz d 6 n 14 44 [some (za 8 l0 0), some (zi l1), some (zi l2), some (zi l3)] (v1 :: [zi l3, zi l2, zi l1]) T)) else (qf_get 11 0 (8, l0, 0) T (fun v2 => qz d 6 n 15 30 [some (za 8 l0 0), some (zi l1), some (zi l2), some (zi l3)] (v2 :: [zi l3, zi l1]) T))) := rfl
set_option maxHeartbeats 4000000 in
set_option maxRecDepth 1000000 in
theorem qe_6_44_8iii_8iii_14 {d n : Nat} {T : qS} {l0 : Nat} {l1 : Int32} {l2 : Int32} {l3 : Int32} {s0 : Nat} {s1 : Int32} {s2 : Int32} {s3 : Int32} : qz d 6 n 14 44 [some (za 8 l0 0), some (zi l1), some (zi l2), some (zi l3)] [za 8 s0 0, zi s1, zi s2, zi s3] T = none := rfl
set_option maxHeartbeats 4000000 in
set_option maxRecDepth 1000000 in
theorem qe_6_30_8iii_8ii_15 {d n : Nat} {T : qS} {l0 : Nat} {l1 : Int32} {l2 : Int32} {l3 : Int32} {s0 : Nat} {s1 : Int32} {s2 : Int32} : qz d 6 n 15 30 [some (za 8 l0 0), some (zi l1), some (zi l2), some (zi l3)] [za 8 s0 0, zi s1, zi s2] T = (qx_ret 1 (q_sem zF d 11 [zi s2, zi s1, za 8 s0 0] T) [] (fun w1 T2 => qz d 6 n 14 33 [some (za 8 l0 0), some (zi l1), some (zi l2), some (zi l3)] w1 T2)) := rfl
set_option maxHeartbeats 4000000 in
set_option maxRecDepth 1000000 in
theorem qe_6_33_8iii_i_14 {d n : Nat} {T : qS} {l0 : Nat} {l1 : Int32} {l2 : Int32} {l3 : Int32} {s0 : Int32} : qz d 6 n 14 33 [some (za 8 l0 0), some (zi l1), some (zi l2), some (zi l3)] [zi s0] T = (qf_put 11 3 (8, l0, 0) (zi l3) T (fun T1 => some (some (za 8 l0 0), T1))) := rfl
set_option maxHeartbeats 4000000 in
set_option maxRecDepth 1000000 in
theorem qe_7_0_8__4 {d n : Nat} {T : qS} {l0 : Nat} : qz d 7 n 4 0 [some (za 8 l0 0)] [] T = (qf_get 11 0 (8, l0, 0) T (fun v1 => qz d 7 n 2 4 [some (za 8 l0 0)] (v1 :: []) T)) := rfl
set_option maxHeartbeats 4000000 in
set_option maxRecDepth 1000000 in
theorem qe_7_4_8_8_2 {d n : Nat} {T : qS} {l0 : Nat} {s0 : Nat} : qz d 7 n 2 4 [some (za 8 l0 0)] [za 8 s0 0] T = some (some (za 8 s0 0), T) := rfl
set_option maxHeartbeats 4000000 in
set_option maxRecDepth 1000000 in
theorem qe_8_0_8__10 {d n : Nat} {T : qS} {l0 : Nat} : qz d 8 n 10 0 [some (za 8 l0 0)] [] T = ((qf_get 11 1 (8, l0, 0) T (fun v1 => qz d 8 n 6 10 [some (za 8 l0 0)] (v1 :: []) T))) := rfl
set_option maxHeartbeats 4000000 in
set_option maxRecDepth 1000000 in
theorem qe_8_10_8_i_6 {d n : Nat} {T : qS} {l0 : Nat} {s0 : Int32} : qz d 8 n 6 10 [some (za 8 l0 0)] [zi s0] T = (if s0 = (zo 0) then some (some (zi (zo 1)), T) else some (some (zi (zo 0)), T)) := rfl
set_option maxHeartbeats 4000000 in
set_option maxRecDepth 1000000 in
theorem qe_9_0_86__11 {d n : Nat} {T : qS} {l0 : Nat} {l1 : Nat} : qz d 9 n 11 0 [some (za 8 l0 0), some (za 6 l1 0)] [] T = ((qf_get 11 1 (8, l0, 0) T (fun v1 => qz d 9 n 7 10 [some (za 8 l0 0), some (za 6 l1 0)] (v1 :: []) T))) := rfl
set_option maxHeartbeats 4000000 in
set_option maxRecDepth 1000000 in
theorem qe_9_10_86_i_7 {d n : Nat} {T : qS} {l0 : Nat} {l1 : Nat} {s0 : Int32} : qz d 9 n 7 10 [some (za 8 l0 0), some (za 6 l1 0)] [zi s0] T = (qx_ret 1 (q_sem zF d 18 [za 6 l1 0] T) [zi s0] (fun w1 T2 => qz d 9 n 5 14 [some (za 8 l0 0), some (za 6 l1 0)] w1 T2)) := rfl
set_option maxHeartbeats 4000000 in
set_option maxRecDepth 1000000 in
theorem qe_9_14_86_ii_5 {d n : Nat} {T : qS} {l0 : Nat} {l1 : Nat} {s0 : Int32} {s1 : Int32} : qz d 9 n 5 14 [some (za 8 l0 0), some (za 6 l1 0)] [zi s0, zi s1] T = (if s1 = s0 then some (none, T) else none) := rfl
set_option maxHeartbeats 4000000 in
set_option maxRecDepth 1000000 in
theorem qe_10_0_8i6__12 {d n : Nat} {T : qS} {l0 : Nat} {l1 : Int32} {l2 : Nat} : qz d 10 n 12 0 [some (za 8 l0 0), some (zi l1), some (za 6 l2 0)] [] T = (zx_if (qx_rc (8, l0, 0) 11 T) (qx_ret 0 (q_sem zF d 9 [za 8 l0 0, za 6 l2 0] T) [] (fun w1 T2 => qz d 10 n 9 5 [some (za 8 l0 0), some (zi l1), some (za 6 l2 0)] w1 T2))) := rfl
set_option maxHeartbeats 4000000 in
set_option maxRecDepth 1000000 in
theorem qe_10_5_8i6__9 {d n : Nat} {T : qS} {l0 : Nat} {l1 : Int32} {l2 : Nat} : qz d 10 n 9 5 [some (za 8 l0 0), some (zi l1), some (za 6 l2 0)] [] T = (qf_get 11 0 (8, l0, 0) T (fun v1 => qz d 10 n 6 10 [some (za 8 l0 0), some (zi l1), some (za 6 l2 0)] (v1 :: [za 6 l2 0]) T)) := rfl
set_option maxHeartbeats 4000000 in
set_option maxRecDepth 1000000 in
theorem qe_10_10_8i6_86_6 {d n : Nat} {T : qS} {l0 : Nat} {l1 : Int32} {l2 : Nat} {s0 : Nat} {s1 : Nat} : qz d 10 n 6 10 [some (za 8 l0 0), some (zi l1), some (za 6 l2 0)] [za 8 s0 0, za 6 s1 0] T = (qf_get 11 1 (8, l0, 0) T (fun v1 => qz d 10 n 3 15 [some (za 8 l0 0), some (zi l1), some (za 6 l2 0)] (v1 :: [zi l1, za 8 s0 0, za 6 s1 0]) T)) := rfl
set_option maxHeartbeats 4000000 in
set_option maxRecDepth 1000000 in
theorem qe_10_15_8i6_ii86_3 {d n : Nat} {T : qS} {l0 : Nat} {l1 : Int32} {l2 : Nat} {s0 : Int32} {s1 : Int32} {s2 : Nat} {s3 : Nat} : qz d 10 n 3 15 [some (za 8 l0 0), some (zi l1), some (za 6 l2 0)] [zi s0, zi s1, za 8 s2 0, za 6 s3 0] T = (qx_ret 0 (q_sem zF d 16 [za 6 s3 0, za 8 s2 0, zi s1, zi s0] T) [] (fun w1 T2 => qz d 10 n 2 18 [some (za 8 l0 0), some (zi l1), some (za 6 l2 0)] w1 T2)) := rfl
set_option maxHeartbeats 4000000 in
set_option maxRecDepth 1000000 in
theorem qe_10_18_8i6__2 {d n : Nat} {T : qS} {l0 : Nat} {l1 : Int32} {l2 : Nat} : qz d 10 n 2 18 [some (za 8 l0 0), some (zi l1), some (za 6 l2 0)] [] T = some (none, T) := rfl

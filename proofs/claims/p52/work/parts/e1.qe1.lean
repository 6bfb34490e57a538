/-! EQUATIONS of the law's level, by program (tools/gensemq.py) -/
set_option maxHeartbeats 4000000 in
set_option maxRecDepth 1000000 in
theorem qe_11_0_ii8oooo__72 {d n : Nat} {T : qS} {l0 : Int32} {l1 : Int32} {l2 : Nat} : qz d 11 n 72 0 [some (zi l0), some (zi l1), some (za 8 l2 0), none, none, none, none] [] T = (if (zo 0) ≤ l0 then (qy d 11 n 22 [some (zi (-l0)), none, some (za 8 l2 0), none, none, some (zi l1), some (zi (zo 0))] [] T) else (qy d 11 n 22 [some (zi l0), none, some (za 8 l2 0), none, none, some (zi l1), some (zi (zo 1))] [] T)) := rfl
set_option maxHeartbeats 4000000 in
set_option maxRecDepth 1000000 in
theorem qe_11_22_io8ooii__72 {d n : Nat} {T : qS} {l0 : Int32} {l2 : Nat} {l5 : Int32} {l6 : Int32} : qz d 11 n 72 22 [some (zi l0), none, some (za 8 l2 0), none, none, some (zi l5), some (zi l6)] [] T = (if (zo (-100)) < l0 then (qa_bld (9, 0, 0) (-l0) T (fun x1 => (qa_bst (8, l2, 0) (l5 + (zo (-1))) x1 T (fun T2 => (if (zo (-9)) ≤ l0 then (if l6 = (zo 0) then (some (some (zi (l5 + (zo (-1)))), T2)) else (qa_bst (8, l2, 0) ((l5 + (zo (-1))) + (zo (-1))) (zo 45) T2 (fun T3 => (some (some (zi ((l5 + (zo (-1))) + (zo (-1)))), T3))))) else (qa_bld (9, 1, 0) (-l0) T2 (fun x4 => (qa_bst (8, l2, 0) ((l5 + (zo (-1))) + (zo (-1))) x4 T2 (fun T5 => (if l6 = (zo 0) then (some (some (zi ((l5 + (zo (-1))) + (zo (-1)))), T5)) else (qa_bst (8, l2, 0) (((l5 + (zo (-1))) + (zo (-1))) + (zo (-1))) (zo 45) T5 (fun T6 => (some (some (zi (((l5 + (zo (-1))) + (zo (-1))) + (zo (-1)))), T6)))))))))))))) else (if (zo 100) = (zo 0) then none else (qa_bld (9, 0, 0) (((l0 / (zo 100)) * (zo 100)) - l0) T (fun x7 => (qa_bst (8, l2, 0) (l5 + (zo (-1))) x7 T (fun T8 => (qa_bld (9, 1, 0) (((l0 / (zo 100)) * (zo 100)) - l0) T8 (fun x9 => (qa_bst (8, l2, 0) ((l5 + (zo (-1))) + (zo (-1))) x9 T8 (fun T10 => qy d 11 n 22 [some (zi (l0 / (zo 100))), none, some (za 8 l2 0), none, none, some (zi ((l5 + (zo (-1))) + (zo (-1)))), some (zi l6)] [] T10)))))))))) := rfl
set_option maxHeartbeats 4000000 in
set_option maxRecDepth 1000000 in
theorem qe_12_0_iooo__34 {d n : Nat} {T : qS} {l0 : Int32} : qz d 12 n 34 0 [some (zi l0), none, none, none] [] T = (if l0 < (zo 0) then qy d 12 n 16 [some (zi l0), some (zi (zo 1)), some (zi (zo (-10))), some (zi (zo 1))] [] T else qy d 12 n 16 [some (zi (-l0)), some (zi (zo 0)), some (zi (zo (-10))), some (zi (zo 1))] [] T) := rfl
set_option maxHeartbeats 4000000 in
set_option maxRecDepth 1000000 in
theorem qe_12_16_iiii__34 {d n : Nat} {T : qS} {l0 : Int32} {l1 : Int32} {l2 : Int32} {l3 : Int32} : qz d 12 n 34 16 [some (zi l0), some (zi l1), some (zi l2), some (zi l3)] [] T = (if (zo 10) ≤ l3 then (some (some (zi ((zo 10) + l1)), T)) else (if l0 ≤ l2 then qy d 12 n 16 [some (zi l0), some (zi l1), some (zi ((zo 10) * l2)), some (zi (l3 + (zo 1)))] [] T else (some (some (zi (l3 + l1)), T)))) := rfl
set_option maxHeartbeats 4000000 in
set_option maxRecDepth 1000000 in
theorem qe_13_0_88__6 {d n : Nat} {T : qS} {l0 : Nat} {l1 : Nat} : qz d 13 n 6 0 [some (za 8 l0 0), some (za 8 l1 0)] [] T = (qx_ret 0 (q_sem zF d 17 [za 8 l0 0, za 8 l1 0, zn] T) [] (fun w1 T2 => qz d 13 n 2 6 [some (za 8 l0 0), some (za 8 l1 0)] w1 T2)) := rfl
set_option maxHeartbeats 4000000 in
set_option maxRecDepth 1000000 in
theorem qe_13_6_88__2 {d n : Nat} {T : qS} {l0 : Nat} {l1 : Nat} : qz d 13 n 2 6 [some (za 8 l0 0), some (za 8 l1 0)] [] T = (some (none, T)) := rfl
set_option maxHeartbeats 4000000 in
set_option maxRecDepth 1000000 in
theorem qe_14_0_6__8 {d n : Nat} {T : qS} {l0 : Nat} : qz d 14 n 8 0 [some (za 6 l0 0)] [] T = (qa_len (7, l0, 0) T (fun x1 => (qx_ret 1 (q_sem zF d 18 [za 6 l0 0] T) [zi x1] (fun w2 T3 => qz d 14 n 3 9 [some (za 6 l0 0)] w2 T3)))) := rfl
set_option maxHeartbeats 4000000 in
set_option maxRecDepth 1000000 in
theorem qe_14_9_6_ii_3 {d n : Nat} {T : qS} {l0 : Nat} {s0 : Int32} {s1 : Int32} : qz d 14 n 3 9 [some (za 6 l0 0)] [zi s0, zi s1] T = (some (some (zi (s1 >>> (s0 &&& 31))), T)) := rfl
set_option maxHeartbeats 4000000 in
set_option maxRecDepth 1000000 in
theorem qe_14_0_8__8 {d n : Nat} {T : qS} {l0 : Nat} : qz d 14 n 8 0 [some (za 8 l0 0)] [] T = (qf_get 12 0 (8, l0, 0) T (fun v1 => qz d 14 n 6 4 [some (za 8 l0 0)] (v1 :: []) T)) := rfl
set_option maxHeartbeats 4000000 in
set_option maxRecDepth 1000000 in
theorem qe_14_4_8_8_6 {d n : Nat} {T : qS} {l0 : Nat} {s0 : Nat} : qz d 14 n 6 4 [some (za 8 l0 0)] [za 8 s0 0] T = (qa_len (8, s0, 0) T (fun x1 => (zx_if (qx_rc (8, l0, 0) 12 T) (qx_ret 1 (q_sem zF d 18 [za 8 l0 0] T) [zi x1] (fun w2 T3 => qz d 14 n 3 9 [some (za 8 l0 0)] w2 T3))))) := rfl
set_option maxHeartbeats 4000000 in
set_option maxRecDepth 1000000 in
theorem qe_14_9_8_ii_3 {d n : Nat} {T : qS} {l0 : Nat} {s0 : Int32} {s1 : Int32} : qz d 14 n 3 9 [some (za 8 l0 0)] [zi s0, zi s1] T = (some (some (zi (s1 >>> (s0 &&& 31))), T)) := rfl
set_option maxHeartbeats 4000000 in
set_option maxRecDepth 1000000 in
theorem qe_15_0_8i__13 {d n : Nat} {T : qS} {l0 : Nat} {l1 : Int32} : qz d 15 n 13 0 [some (za 8 l0 0), some (zi l1)] [] T = (zx_if (qx_rc (8, l0, 0) 12 T) (qx_ret 1 (q_sem zF d 19 [za 8 l0 0] T) [] (fun w1 T2 => qz d 15 n 11 4 [some (za 8 l0 0), some (zi l1)] w1 T2))) := rfl
set_option maxHeartbeats 4000000 in
set_option maxRecDepth 1000000 in
theorem qe_15_4_8i_i_11 {d n : Nat} {T : qS} {l0 : Nat} {l1 : Int32} {s0 : Int32} : qz d 15 n 11 4 [some (za 8 l0 0), some (zi l1)] [zi s0] T = (if s0 = (zo 0) then (qf_get 12 0 (8, l0, 0) T (fun v1 => qz d 15 n 8 20 [some (za 8 l0 0), some (zi l1)] (v1 :: []) T)) else (qf_get 12 0 (8, l0, 0) T (fun v2 => qz d 15 n 8 11 [some (za 8 l0 0), some (zi l1)] (v2 :: []) T))) := rfl
set_option maxHeartbeats 4000000 in
set_option maxRecDepth 1000000 in
theorem qe_15_20_8i_8_8 {d n : Nat} {T : qS} {l0 : Nat} {l1 : Int32} {s0 : Nat} : qz d 15 n 8 20 [some (za 8 l0 0), some (zi l1)] [za 8 s0 0] T = none := rfl
set_option maxHeartbeats 4000000 in
set_option maxRecDepth 1000000 in
theorem qe_15_11_8i_8_8 {d n : Nat} {T : qS} {l0 : Nat} {l1 : Int32} {s0 : Nat} : qz d 15 n 8 11 [some (za 8 l0 0), some (zi l1)] [za 8 s0 0] T = (qx_ret 1 (q_sem zF d 27 [za 8 s0 0, zi l1] T) [] (fun w1 T2 => qz d 15 n 6 15 [some (za 8 l0 0), some (zi l1)] w1 T2)) := rfl
set_option maxHeartbeats 4000000 in
set_option maxRecDepth 1000000 in
theorem qe_15_15_8i_i_6 {d n : Nat} {T : qS} {l0 : Nat} {l1 : Int32} {s0 : Int32} : qz d 15 n 6 15 [some (za 8 l0 0), some (zi l1)] [zi s0] T = (if (s0).toUInt32.toUInt16.toUInt32.toInt32 = s0 then (some (some (zi s0), T)) else none) := rfl
set_option maxHeartbeats 4000000 in
set_option maxRecDepth 1000000 in
theorem qe_16_0_68ii__27 {d n : Nat} {T : qS} {l0 : Nat} {l1 : Nat} {l2 : Int32} {l3 : Int32} : qz d 16 n 27 0 [some (za 6 l0 0), some (za 8 l1 0), some (zi l2), some (zi l3)] [] T = (qx_ret 1 (q_sem zF d 18 [za 6 l0 0] T) [] (fun w1 T2 => qz d 16 n 25 4 [some (za 6 l0 0), some (za 8 l1 0), some (zi l2), some (zi l3)] w1 T2)) := rfl
set_option maxHeartbeats 4000000 in
set_option maxRecDepth 1000000 in
theorem qe_16_4_68ii_i_25 {d n : Nat} {T : qS} {l0 : Nat} {l1 : Nat} {l2 : Int32} {l3 : Int32} {s0 : Int32} : qz d 16 n 25 4 [some (za 6 l0 0), some (za 8 l1 0), some (zi l2), some (zi l3)] [zi s0] T = (if s0 = l3 then (qa_len (7, l0, 0) T (fun x2 => (qa_copy (7, l0, 0) (8, l1, 0) (zo 0) (l2 <<< (l3 &&& 31)) x2 T (fun T3 => (some (none, T3)))))) else (qa_len (7, l0, 0) T (fun x1 => none))) := rfl
set_option maxHeartbeats 4000000 in
set_option maxRecDepth 1000000 in
theorem qe_17_0_88noo__44 {d n : Nat} {T : qS} {l0 : Nat} {l1 : Nat} : qz d 17 n 44 0 [some (za 8 l0 0), some (za 8 l1 0), some (zn), none, none] [] T = (zx_if (qx_rc (8, l1, 0) 11 T) (qx_ret 5 (q_sem zF d 7 [za 8 l1 0] T) [] (fun w1 T2 => qz d 17 n 40 8 [some (za 8 l0 0), some (za 8 l1 0), some (zn), none, none] w1 T2))) := rfl
set_option maxHeartbeats 4000000 in
set_option maxRecDepth 1000000 in
theorem qe_17_8_88noo_8_40 {d n : Nat} {T : qS} {l0 : Nat} {l1 : Nat} {s0 : Nat} : qz d 17 n 40 8 [some (za 8 l0 0), some (za 8 l1 0), some (zn), none, none] [za 8 s0 0] T = (zx_if (qx_rc (8, l1, 0) 11 T) (qx_ret 1 (q_sem zF d 26 [za 8 l1 0] T) [] (fun w1 T2 => qz d 17 n 37 13 [some (za 8 l0 0), some (za 8 l1 0), some (zn), some (za 8 s0 0), none] w1 T2))) := rfl
set_option maxHeartbeats 4000000 in
set_option maxRecDepth 1000000 in
theorem qe_17_13_88n8o_i_37 {d n : Nat} {T : qS} {l0 : Nat} {l1 : Nat} {l3 : Nat} {s0 : Int32} : qz d 17 n 37 13 [some (za 8 l0 0), some (za 8 l1 0), some (zn), some (za 8 l3 0), none] [zi s0] T = (zx_if (qx_rc (8, l1, 0) 11 T) (qx_ret 1 (q_sem zF d 8 [za 8 l1 0] T) [] (fun w1 T2 => qz d 17 n 34 19 [some (za 8 l0 0), some (za 8 l1 0), some (zn), some (za 8 l3 0), some (zi s0)] w1 T2))) := rfl
set_option maxHeartbeats 4000000 in
set_option maxRecDepth 1000000 in
theorem qe_17_19_88n8i_i_34 {d n : Nat} {T : qS} {l0 : Nat} {l1 : Nat} {l3 : Nat} {l4 : Int32} {s0 : Int32} : qz d 17 n 34 19 [some (za 8 l0 0), some (za 8 l1 0), some (zn), some (za 8 l3 0), some (zi l4)] [zi s0] T = (if s0 = (zo 0) then ((qf_get 11 2 (8, l1, 0) T (fun v4 => qz d 17 n 29 51 [some (za 8 l0 0), some (za 8 l1 0), some (zn), some (za 8 l3 0), some (zi l4)] (v4 :: []) T))) else (qf_put 12 1 (8, l0, 0) (zi (zo 0)) T (fun T5 => (qx_ret 5 (q_sem zF d 31 [za 8 l3 0, zi (zo 0), zi l4] T5) [za 8 l0 0] (fun w6 T7 => qz d 17 n 25 35 [some (za 8 l0 0), some (za 8 l1 0), some (zn), some (za 8 l3 0), some (zi l4)] w6 T7))))) := rfl
set_option maxHeartbeats 4000000 in
set_option maxRecDepth 1000000 in
theorem qe_17_94_88n8i_88_21 {d n : Nat} {T : qS} {l0 : Nat} {l1 : Nat} {l3 : Nat} {l4 : Int32} {s0 : Nat} {s1 : Nat} : qz d 17 n 21 94 [some (za 8 l0 0), some (za 8 l1 0), some (zn), some (za 8 l3 0), some (zi l4)] [za 8 s0 0, za 8 s1 0] T = (qf_put 12 0 (8, s1, 0) (za 8 s0 0) T (fun T1 => (some (none, T1)))) := rfl
set_option maxHeartbeats 4000000 in
set_option maxRecDepth 1000000 in
theorem qe_17_51_88n8i_i_29 {d n : Nat} {T : qS} {l0 : Nat} {l1 : Nat} {l3 : Nat} {l4 : Int32} {s0 : Int32} : qz d 17 n 29 51 [some (za 8 l0 0), some (za 8 l1 0), some (zn), some (za 8 l3 0), some (zi l4)] [zi s0] T = (if s0 = (zo 0) then (qf_put 12 1 (8, l0, 0) (zi (zo 1)) T (fun T1 => (qx_ret 5 (q_sem zF d 31 [za 8 l3 0, zi (zo 0), zi (l4 <<< ((zo 1) &&& 31))] T1) [za 8 l0 0] (fun w2 T3 => qz d 17 n 18 94 [some (za 8 l0 0), some (za 8 l1 0), some (zn), some (za 8 l3 0), some (zi l4)] w2 T3)))) else none) := rfl
set_option maxHeartbeats 4000000 in
set_option maxRecDepth 1000000 in
theorem qe_17_35_88n8i_88_25 {d n : Nat} {T : qS} {l0 : Nat} {l1 : Nat} {l3 : Nat} {l4 : Int32} {s0 : Nat} {s1 : Nat} : qz d 17 n 25 35 [some (za 8 l0 0), some (za 8 l1 0), some (zn), some (za 8 l3 0), some (zi l4)] [za 8 s0 0, za 8 s1 0] T = (qf_put 12 0 (8, s1, 0) (za 8 s0 0) T (fun T1 => (some (none, T1)))) := rfl
set_option maxHeartbeats 4000000 in
set_option maxRecDepth 1000000 in
theorem qe_17_94_88n8i_88_18 {d n : Nat} {T : qS} {l0 : Nat} {l1 : Nat} {l3 : Nat} {l4 : Int32} {s0 : Nat} {s1 : Nat} : qz d 17 n 18 94 [some (za 8 l0 0), some (za 8 l1 0), some (zn), some (za 8 l3 0), some (zi l4)] [za 8 s0 0, za 8 s1 0] T = (qf_put 12 0 (8, s1, 0) (za 8 s0 0) T (fun T1 => (some (none, T1)))) := rfl
set_option maxHeartbeats 4000000 in
set_option maxRecDepth 1000000 in
theorem qe_18_0_6__8 {d n : Nat} {T : qS} {l0 : Nat} : qz d 18 n 8 0 [some (za 6 l0 0)] [] T = ((some (some (zi (zo 0)), T))) := rfl
set_option maxHeartbeats 4000000 in
set_option maxRecDepth 1000000 in
theorem qe_18_0_8__8 {d n : Nat} {T : qS} {l0 : Nat} : qz d 18 n 8 0 [some (za 8 l0 0)] [] T = ((qf_get 12 1 (8, l0, 0) T (fun v1 => qz d 18 n 4 10 [some (za 8 l0 0)] (v1 :: []) T))) := rfl
set_option maxHeartbeats 4000000 in
set_option maxRecDepth 1000000 in
theorem qe_18_10_8_i_4 {d n : Nat} {T : qS} {l0 : Nat} {s0 : Int32} : qz d 18 n 4 10 [some (za 8 l0 0)] [zi s0] T = (if (s0).toInt8.toInt32 = s0 then (some (some (zi s0), T)) else none) := rfl
set_option maxHeartbeats 4000000 in
set_option maxRecDepth 1000000 in
theorem qe_19_0_8__10 {d n : Nat} {T : qS} {l0 : Nat} : qz d 19 n 10 0 [some (za 8 l0 0)] [] T = ((qf_get 12 1 (8, l0, 0) T (fun v1 => qz d 19 n 6 10 [some (za 8 l0 0)] (v1 :: []) T))) := rfl
set_option maxHeartbeats 4000000 in
set_option maxRecDepth 1000000 in
theorem qe_19_10_8_i_6 {d n : Nat} {T : qS} {l0 : Nat} {s0 : Int32} : qz d 19 n 6 10 [some (za 8 l0 0)] [zi s0] T = (if s0 = (zo 0) then (some (some (zi (zo 1)), T)) else (some (some (zi (zo 0)), T))) := rfl
set_option maxHeartbeats 4000000 in
set_option maxRecDepth 1000000 in
theorem qe_20_0_86__5 {d n : Nat} {T : qS} {l0 : Nat} {l1 : Nat} : qz d 20 n 5 0 [some (za 8 l0 0), some (za 6 l1 0)] [] T = (qx_ret 0 (q_sem zF d 0 [za 8 l0 0, za 6 l1 0] T) [] (fun w1 T2 => qz d 20 n 2 5 [some (za 8 l0 0), some (za 6 l1 0)] w1 T2)) := rfl
set_option maxHeartbeats 4000000 in
set_option maxRecDepth 1000000 in
theorem qe_20_5_86__2 {d n : Nat} {T : qS} {l0 : Nat} {l1 : Nat} : qz d 20 n 2 5 [some (za 8 l0 0), some (za 6 l1 0)] [] T = (some (none, T)) := rfl
set_option maxHeartbeats 4000000 in
set_option maxRecDepth 1000000 in
theorem qe_21_0_86__7 {d n : Nat} {T : qS} {l0 : Nat} {l1 : Nat} : qz d 21 n 7 0 [some (za 8 l0 0), some (za 6 l1 0)] [] T = (zx_if (qx_rc (8, l0, 0) 11 T) (qx_ret 5 (q_sem zF d 4 [za 8 l0 0, za 6 l1 0] T) [] (fun w1 T2 => qz d 21 n 4 5 [some (za 8 l0 0), some (za 6 l1 0)] w1 T2))) := rfl
set_option maxHeartbeats 4000000 in
set_option maxRecDepth 1000000 in
theorem qe_21_5_86_8_4 {d n : Nat} {T : qS} {l0 : Nat} {l1 : Nat} {s0 : Nat} : qz d 21 n 4 5 [some (za 8 l0 0), some (za 6 l1 0)] [za 8 s0 0] T = (some (some (za 8 l0 0), T)) := rfl
set_option maxHeartbeats 4000000 in
set_option maxRecDepth 1000000 in
theorem qe_22_0_8i__7 {d n : Nat} {T : qS} {l0 : Nat} {l1 : Int32} : qz d 22 n 7 0 [some (za 8 l0 0), some (zi l1)] [] T = (zx_if (qx_rc (8, l0, 0) 11 T) (qx_ret 5 (q_sem zF d 5 [za 8 l0 0, zi l1] T) [] (fun w1 T2 => qz d 22 n 4 5 [some (za 8 l0 0), some (zi l1)] w1 T2))) := rfl
set_option maxHeartbeats 4000000 in
set_option maxRecDepth 1000000 in
theorem qe_22_5_8i_8_4 {d n : Nat} {T : qS} {l0 : Nat} {l1 : Int32} {s0 : Nat} : qz d 22 n 4 5 [some (za 8 l0 0), some (zi l1)] [za 8 s0 0] T = (some (some (za 8 l0 0), T)) := rfl
set_option maxHeartbeats 4000000 in
set_option maxRecDepth 1000000 in
theorem qe_23_0_8i__7 {d n : Nat} {T : qS} {l0 : Nat} {l1 : Int32} : qz d 23 n 7 0 [some (za 8 l0 0), some (zi l1)] [] T = (zx_if (qx_rc (8, l0, 0) 11 T) (qx_ret 5 (q_sem zF d 6 [za 8 l0 0, zi l1] T) [] (fun w1 T2 => qz d 23 n 4 5 [some (za 8 l0 0), some (zi l1)] w1 T2))) := rfl
set_option maxHeartbeats 4000000 in
set_option maxRecDepth 1000000 in
theorem qe_23_5_8i_8_4 {d n : Nat} {T : qS} {l0 : Nat} {l1 : Int32} {s0 : Nat} : qz d 23 n 4 5 [some (za 8 l0 0), some (zi l1)] [za 8 s0 0] T = (some (some (za 8 l0 0), T)) := rfl
set_option maxHeartbeats 4000000 in
set_option maxRecDepth 1000000 in
theorem qe_24_0_8__6 {d n : Nat} {T : qS} {l0 : Nat} : qz d 24 n 6 0 [some (za 8 l0 0)] [] T = (qx_ret 0 (q_sem zF d 13 [za 8 T.2.length 0, za 8 l0 0] (T.1, T.2 ++ [.inl (12, qd_obj 12)])) [za 8 T.2.length 0] (fun w1 T2 => qz d 24 n 2 8 [some (za 8 l0 0)] w1 T2)) := rfl
set_option maxHeartbeats 4000000 in
set_option maxRecDepth 1000000 in
theorem qe_24_8_8_8_2 {d n : Nat} {T : qS} {l0 : Nat} {s0 : Nat} : qz d 24 n 2 8 [some (za 8 l0 0)] [za 8 s0 0] T = (some (some (za 8 s0 0), T)) := rfl
set_option maxHeartbeats 4000000 in
set_option maxRecDepth 1000000 in
theorem qe_25_0_86__5 {d n : Nat} {T : qS} {l0 : Nat} {l1 : Nat} : qz d 25 n 5 0 [some (za 8 l0 0), some (za 6 l1 0)] [] T = (zx_if (qx_rc (8, l0, 0) 11 T) (qx_ret 5 (q_sem zF d 21 [za 8 l0 0, za 6 l1 0] T) [] (fun w1 T2 => qz d 25 n 2 5 [some (za 8 l0 0), some (za 6 l1 0)] w1 T2))) := rfl
set_option maxHeartbeats 4000000 in
set_option maxRecDepth 1000000 in
theorem qe_25_5_86_8_2 {d n : Nat} {T : qS} {l0 : Nat} {l1 : Nat} {s0 : Nat} : qz d 25 n 2 5 [some (za 8 l0 0), some (za 6 l1 0)] [za 8 s0 0] T = (some (some (za 8 s0 0), T)) := rfl
set_option maxHeartbeats 4000000 in
set_option maxRecDepth 1000000 in
theorem qe_26_0_8__4 {d n : Nat} {T : qS} {l0 : Nat} : qz d 26 n 4 0 [some (za 8 l0 0)] [] T = (zx_if (qx_rc (8, l0, 0) 11 T) (qx_ret 1 (q_sem zF d 1 [za 8 l0 0] T) [] (fun w1 T2 => qz d 26 n 2 4 [some (za 8 l0 0)] w1 T2))) := rfl
set_option maxHeartbeats 4000000 in
set_option maxRecDepth 1000000 in
theorem qe_26_4_8_i_2 {d n : Nat} {T : qS} {l0 : Nat} {s0 : Int32} : qz d 26 n 2 4 [some (za 8 l0 0)] [zi s0] T = (some (some (zi s0), T)) := rfl
set_option maxHeartbeats 4000000 in
set_option maxRecDepth 1000000 in
theorem qe_27_0_8i__12 {d n : Nat} {T : qS} {l0 : Nat} {l1 : Int32} : qz d 27 n 12 0 [some (za 8 l0 0), some (zi l1)] [] T = (qa_len (8, l0, 0) T (fun x1 => (qa_in l1 x1 (qa_bld (8, l0, 0) l1 T (fun x2 => (if ((((x2 &&& (zo 255))).toUInt32 % 65536).toInt32).toUInt32.toUInt16.toUInt32.toInt32 = (((x2 &&& (zo 255))).toUInt32 % 65536).toInt32 then (some (some (zi (((x2 &&& (zo 255))).toUInt32 % 65536).toInt32), T)) else none)))))) := rfl
set_option maxHeartbeats 4000000 in
set_option maxRecDepth 1000000 in
theorem qe_28_0_i__8 {d n : Nat} {T : qS} {l0 : Int32} : qz d 28 n 8 0 [some (zi l0)] [] T = (if (zo 255) < l0 then (some (some (zi (zo 0)), T)) else (some (some (zi (zo 1)), T))) := rfl
set_option maxHeartbeats 4000000 in
set_option maxRecDepth 1000000 in
theorem qe_29_0_8io__23 {d n : Nat} {T : qS} {l0 : Nat} {l1 : Int32} : qz d 29 n 23 0 [some (za 8 l0 0), some (zi l1), none] [] T = (qa_len (8, l0, 0) T (fun x1 => (if l1 = x1 then (qcl l0 T (fun T4 => (qcast T.2.length T4 (some (some (za 8 T.2.length 0), T4))))) else (qa_new l1 5 T (fun v2 T3 => qz d 29 n 17 17 [some (za 8 l0 0), some (zi l1), none] (v2 :: []) T3))))) := rfl
set_option maxHeartbeats 4000000 in
set_option maxRecDepth 1000000 in
theorem qe_29_17_8io_8_17 {d n : Nat} {T : qS} {l0 : Nat} {l1 : Int32} {s0 : Nat} : qz d 29 n 17 17 [some (za 8 l0 0), some (zi l1), none] [za 8 s0 0] T = (qa_len (8, l0, 0) T (fun x1 => (qa_copy (8, l0, 0) (8, s0, 0) (zo 0) (zo 0) (zmin x1 l1) T (fun T2 => (some (some (za 8 s0 0), T2)))))) := rfl
set_option maxHeartbeats 4000000 in
set_option maxRecDepth 1000000 in
theorem qe_30_0_ii__6 {d n : Nat} {T : qS} {l0 : Int32} {l1 : Int32} : qz d 30 n 6 0 [some (zi l0), some (zi l1)] [] T = (if l0 ≤ l1 then (some (none, T)) else none) := rfl
set_option maxHeartbeats 4000000 in
set_option maxRecDepth 1000000 in
theorem qe_31_0_8ii__16 {d n : Nat} {T : qS} {l0 : Nat} {l1 : Int32} {l2 : Int32} : qz d 31 n 16 0 [some (za 8 l0 0), some (zi l1), some (zi l2)] [] T = (if l1 = (zo 0) then (qa_len (8, l0, 0) T (fun x3 => (if l2 = x3 then (qcl l0 T (fun T4 => (qcast T.2.length T4 (some (some (za 8 T.2.length 0), T4))))) else (qx_ret 5 (q_sem zF d 32 [za 8 l0 0, zi l1, zi l2] T) [] (fun w5 T6 => qz d 31 n 6 16 [some (za 8 l0 0), some (zi l1), some (zi l2)] w5 T6))))) else (qx_ret 5 (q_sem zF d 32 [za 8 l0 0, zi l1, zi l2] T) [] (fun w1 T2 => qz d 31 n 10 16 [some (za 8 l0 0), some (zi l1), some (zi l2)] w1 T2))) := rfl
set_option maxHeartbeats 4000000 in
set_option maxRecDepth 1000000 in
theorem qe_31_16_8ii_8_10 {d n : Nat} {T : qS} {l0 : Nat} {l1 : Int32} {l2 : Int32} {s0 : Nat} : qz d 31 n 10 16 [some (za 8 l0 0), some (zi l1), some (zi l2)] [za 8 s0 0] T = (some (some (za 8 s0 0), T)) := rfl
set_option maxHeartbeats 4000000 in
set_option maxRecDepth 1000000 in
theorem qe_31_16_8ii_8_6 {d n : Nat} {T : qS} {l0 : Nat} {l1 : Int32} {l2 : Int32} {s0 : Nat} : qz d 31 n 6 16 [some (za 8 l0 0), some (zi l1), some (zi l2)] [za 8 s0 0] T = (some (some (za 8 s0 0), T)) := rfl
set_option maxHeartbeats 4000000 in
set_option maxRecDepth 1000000 in
theorem qe_32_0_8iioo__24 {d n : Nat} {T : qS} {l0 : Nat} {l1 : Int32} {l2 : Int32} : qz d 32 n 24 0 [some (za 8 l0 0), some (zi l1), some (zi l2), none, none] [] T = (qx_ret 0 (q_sem zF d 30 [zi l1, zi l2] T) [] (fun w1 T2 => qz d 32 n 21 5 [some (za 8 l0 0), some (zi l1), some (zi l2), none, none] w1 T2)) := rfl
set_option maxHeartbeats 4000000 in
set_option maxRecDepth 1000000 in
theorem qe_32_5_8iioo__21 {d n : Nat} {T : qS} {l0 : Nat} {l1 : Int32} {l2 : Int32} : qz d 32 n 21 5 [some (za 8 l0 0), some (zi l1), some (zi l2), none, none] [] T = (qa_new (l2 - l1) 5 T (fun v1 T2 => qz d 32 n 15 12 [some (za 8 l0 0), some (zi l1), some (zi l2), some (zi (l2 - l1)), none] (v1 :: []) T2)) := rfl
set_option maxHeartbeats 4000000 in
set_option maxRecDepth 1000000 in
theorem qe_32_12_8iiio_8_15 {d n : Nat} {T : qS} {l0 : Nat} {l1 : Int32} {l2 : Int32} {l3 : Int32} {s0 : Nat} : qz d 32 n 15 12 [some (za 8 l0 0), some (zi l1), some (zi l2), some (zi l3), none] [za 8 s0 0] T = (qa_len (8, l0, 0) T (fun x1 => (qa_copy (8, l0, 0) (8, s0, 0) l1 (zo 0) (zmin (x1 - l1) l3) T (fun T2 => (some (some (za 8 s0 0), T2)))))) := rfl
set_option maxHeartbeats 4000000 in
set_option maxRecDepth 1000000 in
theorem qe_33_0_iiio__18 {d n : Nat} {T : qS} {l0 : Int32} {l1 : Int32} {l2 : Int32} : qz d 33 n 18 0 [some (zi l0), some (zi l1), some (zi l2), none] [] T = (if (l0 + (zmax l1 l2)) ≤ (zo 0) then none else (if (zo 2147483639) < (l0 + (zmax l1 l2)) then none else (some (some (zi (l0 + (zmax l1 l2))), T)))) := rfl

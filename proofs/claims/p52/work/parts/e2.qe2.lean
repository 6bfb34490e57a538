/-! EQUATIONS of the law's level, by program (tools/gensemq.py) -/
set_option maxHeartbeats 4000000 in
set_option maxRecDepth 1000000 in
theorem qe_34_0_ii__7 {d n : Nat} {T : qS} {l0 : Int32} {l1 : Int32} : qz d 34 n 7 0 [some (zi l0), some (zi l1)] [] T = (if l1 = (zo 0) then none else (some (some (zi ((l0 &&& (zo 2147483647)) - (l0 &&& (zo 2147483647)) / l1 * l1)), T))) := rfl
set_option maxHeartbeats 4000000 in
set_option maxRecDepth 1000000 in
theorem qe_35_0_5i__13 {d n : Nat} {T : qS} {l1 : Int32} : qz d 35 n 13 0 [some (za 5 0 0), some (zi l1)] [] T = (qa_len (5, 0, 0) T (fun x1 => (if x1 ≤ l1 then (some (some (zi ((zo 37) * l1)), T)) else (qa_ld (5, 0, 0) l1 T (fun x2 => (some (some (zi x2), T))))))) := rfl
set_option maxHeartbeats 4000000 in
set_option maxRecDepth 1000000 in
theorem qe_36_0_18io__68 {d n : Nat} {T : qS} {l1 : Nat} {l2 : Int32} : qz d 36 n 68 0 [some (za 1 0 0), some (za 8 l1 0), some (zi l2), none] [] T = (qa_ld (8, l1, 0) (zo 5) T (fun x1 => (if (zo 20) = (zo 0) then none else (if (zo 4) = (zo 0) then none else (qa_ld (8, l1, 0) ((x1 - x1 / (zo 20) * (zo 20)) / (zo 4)) T (fun x2 => (qa_ld (8, l1, 0) (zo 5) T (fun x3 => (if (zo 4) = (zo 0) then none else (qa_st (8, l1, 0) ((x1 - x1 / (zo 20) * (zo 20)) / (zo 4)) (x2 ||| (l2 <<< (((zo 24) - ((zo 8) * (x3 - x3 / (zo 4) * (zo 4)))) &&& 31))) T (fun T4 => (qa_ld (8, l1, 0) (zo 5) T4 (fun x5 => (qa_st (8, l1, 0) (zo 5) (x5 + (zo 1)) T4 (fun T6 => (qa_ld (8, l1, 0) (zo 5) T6 (fun x7 => (if (zo 20) = (zo 0) then none else (if (x7 - x7 / (zo 20) * (zo 20)) = (zo 0) then (qa_ld (8, l1, 0) (zo 0) T6 (fun x8 => (qa_ld (8, l1, 0) (zo 1) T6 (fun x9 => (qa_ld (8, l1, 0) (zo 2) T6 (fun x10 => (qa_ld (8, l1, 0) (zo 3) T6 (fun x11 => (qa_ld (8, l1, 0) (zo 4) T6 (fun x12 => (qz_ret 1 (zr_sem zF d 89 [za 1 0 0, zi x8, zi x9, zi x10, zi x11, zi x12] T6.1) T6.2 [] (fun w13 T14 => qz d 36 n 15 62 [some (za 1 0 0), some (za 8 l1 0), some (zi l2), none] w13 T14)))))))))))) else (some (none, T6))))))))))))))))))))) := rfl
set_option maxHeartbeats 4000000 in
set_option maxRecDepth 1000000 in
theorem qe_36_62_18io_i_15 {d n : Nat} {T : qS} {l1 : Nat} {l2 : Int32} {s0 : Int32} : qz d 36 n 15 62 [some (za 1 0 0), some (za 8 l1 0), some (zi l2), none] [zi s0] T = qy d 36 n 65 [none, some (za 8 l1 0), none, some (zi (zo 0))] [] T := rfl
set_option maxHeartbeats 4000000 in
set_option maxRecDepth 1000000 in
theorem qe_36_65_o8oi__68 {d n : Nat} {T : qS} {l1 : Nat} {l3 : Int32} : qz d 36 n 68 65 [none, some (za 8 l1 0), none, some (zi l3)] [] T = (if (zo 5) ≤ l3 then (some (none, T)) else (qa_st (8, l1, 0) l3 (zo 0) T (fun T1 => qy d 36 n 65 [none, some (za 8 l1 0), none, some (zi (l3 + (zo 1)))] [] T1))) := rfl
set_option maxHeartbeats 4000000 in
set_option maxRecDepth 1000000 in
theorem qe_37_0_188o__16 {d n : Nat} {T : qS} {l1 : Nat} {l2 : Nat} : qz d 37 n 16 0 [some (za 1 0 0), some (za 8 l1 0), some (za 8 l2 0), none] [] T = qy d 37 n 2 [some (za 1 0 0), some (za 8 l1 0), some (za 8 l2 0), some (zi (zo 0))] [] T := rfl
set_option maxHeartbeats 4000000 in
set_option maxRecDepth 1000000 in
theorem qe_37_2_188i__16 {d n : Nat} {T : qS} {l1 : Nat} {l2 : Nat} {l3 : Int32} : qz d 37 n 16 2 [some (za 1 0 0), some (za 8 l1 0), some (za 8 l2 0), some (zi l3)] [] T = (zx_if (qx_rc (8, l2, 0) 12 T) (qx_ret 1 (q_sem zF d 14 [za 8 l2 0] T) [zi l3] (fun w1 T2 => qz d 37 n 13 7 [some (za 1 0 0), some (za 8 l1 0), some (za 8 l2 0), some (zi l3)] w1 T2))) := rfl
set_option maxHeartbeats 4000000 in
set_option maxRecDepth 1000000 in
theorem qe_37_7_188i_ii_13 {d n : Nat} {T : qS} {l1 : Nat} {l2 : Nat} {l3 : Int32} {s0 : Int32} {s1 : Int32} : qz d 37 n 13 7 [some (za 1 0 0), some (za 8 l1 0), some (za 8 l2 0), some (zi l3)] [zi s0, zi s1] T = (if s0 ≤ s1 then (some (none, T)) else (zx_if (qx_rc (8, l2, 0) 12 T) (qx_ret 1 (q_sem zF d 15 [za 8 l2 0, zi l3] T) [za 8 l1 0, za 1 0 0] (fun w1 T2 => qz d 37 n 7 17 [some (za 1 0 0), some (za 8 l1 0), some (za 8 l2 0), some (zi l3)] w1 T2)))) := rfl
set_option maxHeartbeats 4000000 in
set_option maxRecDepth 1000000 in
theorem qe_37_17_188i_i81_7 {d n : Nat} {T : qS} {l1 : Nat} {l2 : Nat} {l3 : Int32} {s0 : Int32} {s1 : Nat} : qz d 37 n 7 17 [some (za 1 0 0), some (za 8 l1 0), some (za 8 l2 0), some (zi l3)] [zi s0, za 8 s1 0, za 1 0 0] T = (qx_ret 0 (q_sem zF d 36 [za 1 0 0, za 8 s1 0, zi s0] T) [] (fun w1 T2 => qz d 37 n 6 20 [some (za 1 0 0), some (za 8 l1 0), some (za 8 l2 0), some (zi l3)] w1 T2)) := rfl
set_option maxHeartbeats 4000000 in
set_option maxRecDepth 1000000 in
theorem qe_37_20_188i__6 {d n : Nat} {T : qS} {l1 : Nat} {l2 : Nat} {l3 : Int32} : qz d 37 n 6 20 [some (za 1 0 0), some (za 8 l1 0), some (za 8 l2 0), some (zi l3)] [] T = qy d 37 n 2 [some (za 1 0 0), some (za 8 l1 0), some (za 8 l2 0), some (zi (l3 + (zo 1)))] [] T := rfl
set_option maxHeartbeats 4000000 in
set_option maxRecDepth 1000000 in
theorem qe_38_0_18o__22 {d n : Nat} {T : qS} {l1 : Nat} : qz d 38 n 22 0 [some (za 1 0 0), some (za 8 l1 0), none] [] T = (qa_ld (8, l1, 0) (zo 5) T (fun x1 => qy d 38 n 4 [some (za 1 0 0), some (za 8 l1 0), some (zi x1)] [] T)) := rfl
set_option maxHeartbeats 4000000 in
set_option maxRecDepth 1000000 in
theorem qe_38_4_18i__22 {d n : Nat} {T : qS} {l1 : Nat} {l2 : Int32} : qz d 38 n 22 4 [some (za 1 0 0), some (za 8 l1 0), some (zi l2)] [] T = (qa_ld (8, l1, 0) (zo 5) T (fun x1 => (if (zo 20) = (zo 0) then none else (if (x1 - x1 / (zo 20) * (zo 20)) = (zo 0) then (qa_st (8, l1, 0) (zo 5) (zo 0) T (fun T2 => (some (some (zi l2), T2)))) else (qx_ret 0 (q_sem zF d 36 [za 1 0 0, za 8 l1 0, zi (zo 32)] T) [] (fun w3 T4 => qz d 38 n 12 20 [some (za 1 0 0), some (za 8 l1 0), some (zi l2)] w3 T4)))))) := rfl
set_option maxHeartbeats 4000000 in
set_option maxRecDepth 1000000 in
theorem qe_38_20_18i__12 {d n : Nat} {T : qS} {l1 : Nat} {l2 : Int32} : qz d 38 n 12 20 [some (za 1 0 0), some (za 8 l1 0), some (zi l2)] [] T = qy d 38 n 4 [some (za 1 0 0), some (za 8 l1 0), some (zi l2)] [] T := rfl
set_option maxHeartbeats 4000000 in
set_option maxRecDepth 1000000 in
theorem qe_40_0_1ooooooooo__134 {d n : Nat} {T : qS}  : qz d 40 n 134 0 [some (za 1 0 0), none, none, none, none, none, none, none, none, none] [] T = (qz_ret 1 (zr_sem zF d 93 [za 1 0 0, zi (zo 0)] T.1) T.2 [] (fun w1 T2 => qz d 40 n 131 5 [some (za 1 0 0), none, none, none, none, none, none, none, none, none] w1 T2)) := rfl
set_option maxHeartbeats 4000000 in
set_option maxRecDepth 1000000 in
theorem qe_40_5_1ooooooooo_i_131 {d n : Nat} {T : qS} {s0 : Int32} : qz d 40 n 131 5 [some (za 1 0 0), none, none, none, none, none, none, none, none, none] [zi s0] T = (qz_ret 1 (zr_sem zF d 93 [za 1 0 0, zi (zo 1)] T.1) T.2 [zi s0] (fun w1 T2 => qz d 40 n 126 12 [some (za 1 0 0), some (zi s0), none, none, none, none, none, none, none, none] w1 T2)) := rfl
set_option maxHeartbeats 4000000 in
set_option maxRecDepth 1000000 in
theorem qe_40_12_1ioooooooo_ii_126 {d n : Nat} {T : qS} {l1 : Int32} {s0 : Int32} {s1 : Int32} : qz d 40 n 126 12 [some (za 1 0 0), some (zi l1), none, none, none, none, none, none, none, none] [zi s0, zi s1] T = (qz_ret 1 (zr_sem zF d 93 [za 1 0 0, zi (zo 4)] T.1) T.2 [] (fun w1 T2 => qz d 40 n 121 19 [some (za 1 0 0), some (zi l1), some (zi (s1 * s0)), none, none, none, none, none, none, none] w1 T2)) := rfl
set_option maxHeartbeats 4000000 in
set_option maxRecDepth 1000000 in
theorem qe_40_19_1iiooooooo_i_121 {d n : Nat} {T : qS} {l1 : Int32} {l2 : Int32} {s0 : Int32} : qz d 40 n 121 19 [some (za 1 0 0), some (zi l1), some (zi l2), none, none, none, none, none, none, none] [zi s0] T = (qz_ret 1 (zr_sem zF d 93 [za 1 0 0, zi (zo 2)] T.1) T.2 [] (fun w1 T2 => qz d 40 n 117 25 [some (za 1 0 0), some (zi l1), some (zi l2), some (zi s0), none, none, none, none, none, none] w1 T2)) := rfl
set_option maxHeartbeats 4000000 in
set_option maxRecDepth 1000000 in
theorem qe_40_25_1iiioooooo_i_117 {d n : Nat} {T : qS} {l1 : Int32} {l2 : Int32} {l3 : Int32} {s0 : Int32} : qz d 40 n 117 25 [some (za 1 0 0), some (zi l1), some (zi l2), some (zi l3), none, none, none, none, none, none] [zi s0] T = (qz_ret 1 (zr_sem zF d 93 [za 1 0 0, zi (zo 3)] T.1) T.2 [] (fun w1 T2 => qz d 40 n 113 32 [some (za 1 0 0), some (zi l1), some (zi l2), some (zi l3), some (zi s0), none, none, none, none, none] w1 T2)) := rfl
set_option maxHeartbeats 4000000 in
set_option maxRecDepth 1000000 in
theorem qe_40_32_1iiiiooooo_i_113 {d n : Nat} {T : qS} {l1 : Int32} {l2 : Int32} {l3 : Int32} {l4 : Int32} {s0 : Int32} : qz d 40 n 113 32 [some (za 1 0 0), some (zi l1), some (zi l2), some (zi l3), some (zi l4), none, none, none, none, none] [zi s0] T = (qa_new (((((zo 15) + ((zo 11) * l3)) + ((zo 6) * l4)) + s0) + l2) 0 T (fun v1 T2 => qz d 40 n 98 54 [some (za 1 0 0), some (zi l1), some (zi l2), some (zi l3), some (zi l4), some (zi s0), none, none, none, none] (v1 :: []) T2)) := rfl
set_option maxHeartbeats 4000000 in
set_option maxRecDepth 1000000 in
theorem qe_40_54_1iiiiioooo_8_98 {d n : Nat} {T : qS} {l1 : Int32} {l2 : Int32} {l3 : Int32} {l4 : Int32} {l5 : Int32} {s0 : Nat} : qz d 40 n 98 54 [some (za 1 0 0), some (zi l1), some (zi l2), some (zi l3), some (zi l4), some (zi l5), none, none, none, none] [za 8 s0 0] T = qy d 40 n 62 [some (za 1 0 0), some (zi l1), some (zi l2), some (zi l3), some (zi l4), some (zi l5), some (za 8 s0 0), some (zi (zo 0)), some (zi (zo 0)), none] [] T := rfl
set_option maxHeartbeats 4000000 in
set_option maxRecDepth 1000000 in
theorem qe_40_62_1iiiii8iio__134 {d n : Nat} {T : qS} {l1 : Int32} {l2 : Int32} {l3 : Int32} {l4 : Int32} {l5 : Int32} {l6 : Nat} {l7 : Int32} {l8 : Int32} : qz d 40 n 134 62 [some (za 1 0 0), some (zi l1), some (zi l2), some (zi l3), some (zi l4), some (zi l5), some (za 8 l6 0), some (zi l7), some (zi l8), none] [] T = (if (zo 15) ≤ l8 then qy d 40 n 92 [some (za 1 0 0), some (zi l1), some (zi l2), some (zi l3), some (zi l4), some (zi l5), some (za 8 l6 0), some (zi l7), some (zi (zo 0)), none] [] T else (qz_ret 1 (zr_sem zF d 93 [za 1 0 0, zi l8] T.1) T.2 [zi l7, za 8 l6 0] (fun w1 T2 => qz d 40 n 125 82 [some (za 1 0 0), some (zi l1), some (zi l2), some (zi l3), some (zi l4), some (zi l5), some (za 8 l6 0), some (zi (l7 + (zo 1))), some (zi l8), none] w1 T2))) := rfl
set_option maxHeartbeats 4000000 in
set_option maxRecDepth 1000000 in
theorem qe_40_92_1iiiii8iio__134 {d n : Nat} {T : qS} {l1 : Int32} {l2 : Int32} {l3 : Int32} {l4 : Int32} {l5 : Int32} {l6 : Nat} {l7 : Int32} {l8 : Int32} : qz d 40 n 134 92 [some (za 1 0 0), some (zi l1), some (zi l2), some (zi l3), some (zi l4), some (zi l5), some (za 8 l6 0), some (zi l7), some (zi l8), none] [] T = (if l3 ≤ l8 then qy d 40 n 139 [some (za 1 0 0), some (zi l1), some (zi l2), none, some (zi l4), some (zi l5), some (za 8 l6 0), some (zi l7), some (zi (zo 0)), none] [] T else qy d 40 n 101 [some (za 1 0 0), some (zi l1), some (zi l2), some (zi l3), some (zi l4), some (zi l5), some (za 8 l6 0), some (zi l7), some (zi l8), some (zi (zo 0))] [] T) := rfl
set_option maxHeartbeats 4000000 in
set_option maxRecDepth 1000000 in
theorem qe_40_82_1iiiii8iio_ii8_125 {d n : Nat} {T : qS} {l1 : Int32} {l2 : Int32} {l3 : Int32} {l4 : Int32} {l5 : Int32} {l6 : Nat} {l7 : Int32} {l8 : Int32} {s0 : Int32} {s1 : Int32} {s2 : Nat} : qz d 40 n 125 82 [some (za 1 0 0), some (zi l1), some (zi l2), some (zi l3), some (zi l4), some (zi l5), some (za 8 l6 0), some (zi l7), some (zi l8), none] [zi s0, zi s1, za 8 s2 0] T = (qa_st (8, s2, 0) s1 s0 T (fun T1 => qy d 40 n 62 [some (za 1 0 0), some (zi l1), some (zi l2), some (zi l3), some (zi l4), some (zi l5), some (za 8 l6 0), some (zi l7), some (zi (l8 + (zo 1))), none] [] T1)) := rfl
set_option maxHeartbeats 4000000 in
set_option maxRecDepth 1000000 in
theorem qe_40_139_1iioii8iio__134 {d n : Nat} {T : qS} {l1 : Int32} {l2 : Int32} {l4 : Int32} {l5 : Int32} {l6 : Nat} {l7 : Int32} {l8 : Int32} : qz d 40 n 134 139 [some (za 1 0 0), some (zi l1), some (zi l2), none, some (zi l4), some (zi l5), some (za 8 l6 0), some (zi l7), some (zi l8), none] [] T = (if l4 ≤ l8 then qy d 40 n 187 [some (za 1 0 0), some (zi l1), some (zi l2), none, none, some (zi l5), some (za 8 l6 0), some (zi l7), some (zi (zo 0)), none] [] T else qy d 40 n 149 [some (za 1 0 0), some (zi l1), some (zi l2), none, some (zi l4), some (zi l5), some (za 8 l6 0), some (zi l7), some (zi l8), some (zi (zo 0))] [] T) := rfl
set_option maxHeartbeats 4000000 in
set_option maxRecDepth 1000000 in
theorem qe_40_101_1iiiii8iii__134 {d n : Nat} {T : qS} {l1 : Int32} {l2 : Int32} {l3 : Int32} {l4 : Int32} {l5 : Int32} {l6 : Nat} {l7 : Int32} {l8 : Int32} {l9 : Int32} : qz d 40 n 134 101 [some (za 1 0 0), some (zi l1), some (zi l2), some (zi l3), some (zi l4), some (zi l5), some (za 8 l6 0), some (zi l7), some (zi l8), some (zi l9)] [] T = (if (zo 11) ≤ l9 then qy d 40 n 92 [some (za 1 0 0), some (zi l1), some (zi l2), some (zi l3), some (zi l4), some (zi l5), some (za 8 l6 0), some (zi l7), some (zi (l8 + (zo 1))), none] [] T else (qz_ret 1 (zr_sem zF d 94 [za 1 0 0, zi l8, zi l9] T.1) T.2 [zi l7, za 8 l6 0] (fun w1 T2 => qz d 40 n 124 123 [some (za 1 0 0), some (zi l1), some (zi l2), some (zi l3), some (zi l4), some (zi l5), some (za 8 l6 0), some (zi (l7 + (zo 1))), some (zi l8), some (zi l9)] w1 T2))) := rfl
set_option maxHeartbeats 4000000 in
set_option maxRecDepth 1000000 in
theorem qe_40_187_1iiooi8iio__134 {d n : Nat} {T : qS} {l1 : Int32} {l2 : Int32} {l5 : Int32} {l6 : Nat} {l7 : Int32} {l8 : Int32} : qz d 40 n 134 187 [some (za 1 0 0), some (zi l1), some (zi l2), none, none, some (zi l5), some (za 8 l6 0), some (zi l7), some (zi l8), none] [] T = (if l5 ≤ l8 then qy d 40 n 218 [some (za 1 0 0), some (zi l1), some (zi l2), none, none, none, some (za 8 l6 0), some (zi l7), some (zi (zo 0)), none] [] T else (qz_ret 1 (zr_sem zF d 96 [za 1 0 0, zi l8, zi (zo 2)] T.1) T.2 [zi l7, za 8 l6 0] (fun w1 T2 => qz d 40 n 124 208 [some (za 1 0 0), some (zi l1), some (zi l2), none, none, some (zi l5), some (za 8 l6 0), some (zi (l7 + (zo 1))), some (zi l8), none] w1 T2))) := rfl
set_option maxHeartbeats 4000000 in
set_option maxRecDepth 1000000 in
theorem qe_40_149_1iioii8iii__134 {d n : Nat} {T : qS} {l1 : Int32} {l2 : Int32} {l4 : Int32} {l5 : Int32} {l6 : Nat} {l7 : Int32} {l8 : Int32} {l9 : Int32} : qz d 40 n 134 149 [some (za 1 0 0), some (zi l1), some (zi l2), none, some (zi l4), some (zi l5), some (za 8 l6 0), some (zi l7), some (zi l8), some (zi l9)] [] T = (if (zo 6) ≤ l9 then qy d 40 n 139 [some (za 1 0 0), some (zi l1), some (zi l2), none, some (zi l4), some (zi l5), some (za 8 l6 0), some (zi l7), some (zi (l8 + (zo 1))), none] [] T else (qz_ret 1 (zr_sem zF d 95 [za 1 0 0, zi l8, zi l9] T.1) T.2 [zi l7, za 8 l6 0] (fun w1 T2 => qz d 40 n 124 171 [some (za 1 0 0), some (zi l1), some (zi l2), none, some (zi l4), some (zi l5), some (za 8 l6 0), some (zi (l7 + (zo 1))), some (zi l8), some (zi l9)] w1 T2))) := rfl
set_option maxHeartbeats 4000000 in
set_option maxRecDepth 1000000 in
theorem qe_40_123_1iiiii8iii_ii8_124 {d n : Nat} {T : qS} {l1 : Int32} {l2 : Int32} {l3 : Int32} {l4 : Int32} {l5 : Int32} {l6 : Nat} {l7 : Int32} {l8 : Int32} {l9 : Int32} {s0 : Int32} {s1 : Int32} {s2 : Nat} : qz d 40 n 124 123 [some (za 1 0 0), some (zi l1), some (zi l2), some (zi l3), some (zi l4), some (zi l5), some (za 8 l6 0), some (zi l7), some (zi l8), some (zi l9)] [zi s0, zi s1, za 8 s2 0] T = (qa_st (8, s2, 0) s1 s0 T (fun T1 => qy d 40 n 101 [some (za 1 0 0), some (zi l1), some (zi l2), some (zi l3), some (zi l4), some (zi l5), some (za 8 l6 0), some (zi l7), some (zi l8), some (zi (l9 + (zo 1)))] [] T1)) := rfl
set_option maxHeartbeats 4000000 in
set_option maxRecDepth 1000000 in
theorem qe_40_218_1iiooo8iio__134 {d n : Nat} {T : qS} {l1 : Int32} {l2 : Int32} {l6 : Nat} {l7 : Int32} {l8 : Int32} : qz d 40 n 134 218 [some (za 1 0 0), some (zi l1), some (zi l2), none, none, none, some (za 8 l6 0), some (zi l7), some (zi l8), none] [] T = (if l2 ≤ l8 then (some (some (za 8 l6 0), T)) else (if l1 = (zo 0) then none else (if l1 = (zo 0) then none else (qz_ret 1 (zr_sem zF d 97 [za 1 0 0, zi (l8 - l8 / l1 * l1), zi (l8 / l1)] T.1) T.2 [zi l7, za 8 l6 0] (fun w1 T2 => qz d 40 n 120 243 [some (za 1 0 0), some (zi l1), some (zi l2), none, none, none, some (za 8 l6 0), some (zi (l7 + (zo 1))), some (zi l8), none] w1 T2))))) := rfl
set_option maxHeartbeats 4000000 in
set_option maxRecDepth 1000000 in
theorem qe_40_208_1iiooi8iio_ii8_124 {d n : Nat} {T : qS} {l1 : Int32} {l2 : Int32} {l5 : Int32} {l6 : Nat} {l7 : Int32} {l8 : Int32} {s0 : Int32} {s1 : Int32} {s2 : Nat} : qz d 40 n 124 208 [some (za 1 0 0), some (zi l1), some (zi l2), none, none, some (zi l5), some (za 8 l6 0), some (zi l7), some (zi l8), none] [zi s0, zi s1, za 8 s2 0] T = (qa_st (8, s2, 0) s1 s0 T (fun T1 => qy d 40 n 187 [some (za 1 0 0), some (zi l1), some (zi l2), none, none, some (zi l5), some (za 8 l6 0), some (zi l7), some (zi (l8 + (zo 1))), none] [] T1)) := rfl
set_option maxHeartbeats 4000000 in
set_option maxRecDepth 1000000 in
theorem qe_40_171_1iioii8iii_ii8_124 {d n : Nat} {T : qS} {l1 : Int32} {l2 : Int32} {l4 : Int32} {l5 : Int32} {l6 : Nat} {l7 : Int32} {l8 : Int32} {l9 : Int32} {s0 : Int32} {s1 : Int32} {s2 : Nat} : qz d 40 n 124 171 [some (za 1 0 0), some (zi l1), some (zi l2), none, some (zi l4), some (zi l5), some (za 8 l6 0), some (zi l7), some (zi l8), some (zi l9)] [zi s0, zi s1, za 8 s2 0] T = (qa_st (8, s2, 0) s1 s0 T (fun T1 => qy d 40 n 149 [some (za 1 0 0), some (zi l1), some (zi l2), none, some (zi l4), some (zi l5), some (za 8 l6 0), some (zi l7), some (zi l8), some (zi (l9 + (zo 1)))] [] T1)) := rfl
set_option maxHeartbeats 4000000 in
set_option maxRecDepth 1000000 in
theorem qe_40_243_1iiooo8iio_ii8_120 {d n : Nat} {T : qS} {l1 : Int32} {l2 : Int32} {l6 : Nat} {l7 : Int32} {l8 : Int32} {s0 : Int32} {s1 : Int32} {s2 : Nat} : qz d 40 n 120 243 [some (za 1 0 0), some (zi l1), some (zi l2), none, none, none, some (za 8 l6 0), some (zi l7), some (zi l8), none] [zi s0, zi s1, za 8 s2 0] T = (qa_st (8, s2, 0) s1 s0 T (fun T1 => qy d 40 n 218 [some (za 1 0 0), some (zi l1), some (zi l2), none, none, none, some (za 8 l6 0), some (zi l7), some (zi (l8 + (zo 1))), none] [] T1)) := rfl
set_option maxHeartbeats 4000000 in
set_option maxRecDepth 1000000 in
theorem qe_41_0_88o__27 {d n : Nat} {T : qS} {l0 : Nat} {l1 : Nat} : qz d 41 n 27 0 [some (za 8 l0 0), some (za 8 l1 0), none] [] T = (qa_len (8, l0, 0) T (fun x1 => (qa_len (8, l1, 0) T (fun x2 => (if x1 = x2 then qy d 41 n 11 [some (za 8 l0 0), some (za 8 l1 0), some (zi (zo 0))] [] T else (some (some (zi (zo 0)), T))))))) := rfl
set_option maxHeartbeats 4000000 in
set_option maxRecDepth 1000000 in
theorem qe_41_11_88i__27 {d n : Nat} {T : qS} {l0 : Nat} {l1 : Nat} {l2 : Int32} : qz d 41 n 27 11 [some (za 8 l0 0), some (za 8 l1 0), some (zi l2)] [] T = (qa_len (8, l0, 0) T (fun x1 => (if x1 ≤ l2 then (some (some (zi (zo 1)), T)) else (qa_ld (8, l0, 0) l2 T (fun x2 => (qa_ld (8, l1, 0) l2 T (fun x3 => (if x2 = x3 then qy d 41 n 11 [some (za 8 l0 0), some (za 8 l1 0), some (zi (l2 + (zo 1)))] [] T else (some (some (zi (zo 0)), T)))))))))) := rfl
set_option maxHeartbeats 4000000 in
set_option maxRecDepth 1000000 in
theorem qe_42_0_i__8 {d n : Nat} {T : qS} {l0 : Int32} : qz d 42 n 8 0 [some (zi l0)] [] T = (if (zo 0) ≤ l0 then (some (some (zi l0), T)) else (some (some (zi (-l0)), T))) := rfl
set_option maxHeartbeats 4000000 in
set_option maxRecDepth 1000000 in
theorem qe_44_0_1oo__33 {d n : Nat} {T : qS}  : qz d 44 n 33 0 [some (za 1 0 0), none, none] [] T = qy d 44 n 4 [some (za 1 0 0), some (zi (zo 0)), some (zi (zo 0))] [] T := rfl
set_option maxHeartbeats 4000000 in
set_option maxRecDepth 1000000 in
theorem qe_44_4_1ii__33 {d n : Nat} {T : qS} {l1 : Int32} {l2 : Int32} : qz d 44 n 33 4 [some (za 1 0 0), some (zi l1), some (zi l2)] [] T = (qz_ret 1 (zr_sem zF d 93 [za 1 0 0, zi (zo 0)] T.1) T.2 [zi l2] (fun w1 T2 => qz d 44 n 29 10 [some (za 1 0 0), some (zi l1), some (zi l2)] w1 T2)) := rfl
set_option maxHeartbeats 4000000 in
set_option maxRecDepth 1000000 in
theorem qe_44_10_1ii_ii_29 {d n : Nat} {T : qS} {l1 : Int32} {l2 : Int32} {s0 : Int32} {s1 : Int32} : qz d 44 n 29 10 [some (za 1 0 0), some (zi l1), some (zi l2)] [zi s0, zi s1] T = (qz_ret 1 (zr_sem zF d 93 [za 1 0 0, zi (zo 1)] T.1) T.2 [zi s0, zi s1] (fun w1 T2 => qz d 44 n 26 15 [some (za 1 0 0), some (zi l1), some (zi l2)] w1 T2)) := rfl
set_option maxHeartbeats 4000000 in
set_option maxRecDepth 1000000 in
theorem qe_44_15_1ii_iii_26 {d n : Nat} {T : qS} {l1 : Int32} {l2 : Int32} {s0 : Int32} {s1 : Int32} {s2 : Int32} : qz d 44 n 26 15 [some (za 1 0 0), some (zi l1), some (zi l2)] [zi s0, zi s1, zi s2] T = (if (s1 * s0) ≤ s2 then (some (some (zi l1), T)) else (qz_ret 1 (zr_sem zF d 93 [za 1 0 0, zi (zo 0)] T.1) T.2 [zi l2, za 1 0 0, zi l1] (fun w1 T2 => qz d 44 n 18 27 [some (za 1 0 0), some (zi l1), some (zi l2)] w1 T2))) := rfl
set_option maxHeartbeats 4000000 in
set_option maxRecDepth 1000000 in
theorem qe_44_27_1ii_ii1i_18 {d n : Nat} {T : qS} {l1 : Int32} {l2 : Int32} {s0 : Int32} {s1 : Int32} {s3 : Int32} : qz d 44 n 18 27 [some (za 1 0 0), some (zi l1), some (zi l2)] [zi s0, zi s1, za 1 0 0, zi s3] T = (if s0 = (zo 0) then none else (qz_ret 1 (zr_sem zF d 93 [za 1 0 0, zi (zo 0)] T.1) T.2 [zi l2, zi (s1 - s1 / s0 * s0), za 1 0 0, zi s3] (fun w1 T2 => qz d 44 n 13 34 [some (za 1 0 0), some (zi l1), some (zi l2)] w1 T2))) := rfl
set_option maxHeartbeats 4000000 in
set_option maxRecDepth 1000000 in
theorem qe_44_34_1ii_iii1i_13 {d n : Nat} {T : qS} {l1 : Int32} {l2 : Int32} {s0 : Int32} {s1 : Int32} {s2 : Int32} {s4 : Int32} : qz d 44 n 13 34 [some (za 1 0 0), some (zi l1), some (zi l2)] [zi s0, zi s1, zi s2, za 1 0 0, zi s4] T = (if s0 = (zo 0) then none else (qz_ret 1 (zr_sem zF d 97 [za 1 0 0, zi s2, zi (s1 / s0)] T.1) T.2 [zi s4] (fun w1 T2 => qz d 44 n 11 38 [some (za 1 0 0), some (zi l1), some (zi l2)] w1 T2))) := rfl
set_option maxHeartbeats 4000000 in
set_option maxRecDepth 1000000 in
theorem qe_44_38_1ii_ii_11 {d n : Nat} {T : qS} {l1 : Int32} {l2 : Int32} {s0 : Int32} {s1 : Int32} : qz d 44 n 11 38 [some (za 1 0 0), some (zi l1), some (zi l2)] [zi s0, zi s1] T = qy d 44 n 4 [some (za 1 0 0), some (zi (zmax s1 s0)), some (zi (l2 + (zo 1)))] [] T := rfl

/-! THE LAW'S PURE SIDE 39b: the law's own equations, with the fuel of its run (tools/gen47.py) -/
set_option maxHeartbeats 4000000 in
set_option maxRecDepth 1000000 in
theorem qf_47_8_51ooooooo__166 {d n m : Nat} {T : qS}  : qz d 47 n (m + 2) 8 [some (za 5 0 0), some (za 1 0 0), none, none, none, none, none, none, none] [] T = (qa_new (zo 6) 0 T (fun v1 T2 => qz d 47 n m 12 [some (za 5 0 0), some (za 1 0 0), none, none, none, none, none, none, none] (v1 :: []) T2)) := rfl
set_option maxHeartbeats 4000000 in
set_option maxRecDepth 1000000 in
theorem qf_47_12_51ooooooo_8_164 {d n : Nat} {T : qS} {s0 : Nat} : qz d 47 n 999999999999998 12 [some (za 5 0 0), some (za 1 0 0), none, none, none, none, none, none, none] [za 8 s0 0] T = (qx_ret 5 (q_sem zF d 39 [za 5 0 0, zi (zo 0)] T) [za 8 s0 0, za 1 0 0] (fun w1 T2 => qz d 47 n 999999999999992 20 [some (za 5 0 0), some (za 1 0 0), some (za 8 s0 0), none, none, none, none, none, none] w1 T2)) := rfl
set_option maxHeartbeats 4000000 in
set_option maxRecDepth 1000000 in
theorem qf_47_20_518oooooo_881_158 {d n : Nat} {T : qS} {l2 : Nat} {s0 : Nat} {s1 : Nat} : qz d 47 n 999999999999992 20 [some (za 5 0 0), some (za 1 0 0), some (za 8 l2 0), none, none, none, none, none, none] [za 8 s0 0, za 8 s1 0, za 1 0 0] T = (qx_ret 0 (q_sem zF d 37 [za 1 0 0, za 8 s1 0, za 8 s0 0] T) [] (fun w1 T2 => qz d 47 n 999999999999991 23 [some (za 5 0 0), some (za 1 0 0), some (za 8 l2 0), none, none, none, none, none, none] w1 T2)) := rfl
set_option maxHeartbeats 4000000 in
set_option maxRecDepth 1000000 in
theorem qf_47_23_518oooooo__157 {d n : Nat} {T : qS} {l2 : Nat} : qz d 47 n 999999999999991 23 [some (za 5 0 0), some (za 1 0 0), some (za 8 l2 0), none, none, none, none, none, none] [] T = (qx_ret 1 (q_sem zF d 38 [za 1 0 0, za 8 l2 0] T) [za 1 0 0] (fun w1 T2 => qz d 47 n 999999999999987 29 [some (za 5 0 0), some (za 1 0 0), some (za 8 l2 0), none, none, none, none, none, none] w1 T2)) := rfl
set_option maxHeartbeats 4000000 in
set_option maxRecDepth 1000000 in
theorem qf_47_29_518oooooo_i1_153 {d n : Nat} {T : qS} {l2 : Nat} {s0 : Int32} : qz d 47 n 999999999999987 29 [some (za 5 0 0), some (za 1 0 0), some (za 8 l2 0), none, none, none, none, none, none] [zi s0, za 1 0 0] T = (qz_ret 1 (zr_sem zF d 90 [za 1 0 0, zi s0] T.1) T.2 [] (fun w1 T2 => qz d 47 n 999999999999986 32 [some (za 5 0 0), some (za 1 0 0), some (za 8 l2 0), none, none, none, none, none, none] w1 T2)) := rfl
set_option maxHeartbeats 4000000 in
set_option maxRecDepth 1000000 in
theorem qf_47_32_518oooooo_i_152 {d n : Nat} {T : qS} {l2 : Nat} {s0 : Int32} : qz d 47 n 999999999999986 32 [some (za 5 0 0), some (za 1 0 0), some (za 8 l2 0), none, none, none, none, none, none] [zi s0] T = (if s0 < (zo 1) then (some (some (zi (zo 0)), T)) else (qz_ret 1 (zr_sem zF d 93 [za 1 0 0, zi (zo 4)] T.1) T.2 [] (fun w1 T2 => qz d 47 n 999999999999979 43 [some (za 5 0 0), some (za 1 0 0), some (za 8 l2 0), some (zi s0), none, none, none, none, none] w1 T2))) := rfl
set_option maxHeartbeats 4000000 in
set_option maxRecDepth 1000000 in
theorem qf_47_43_518iooooo_i_145 {d n : Nat} {T : qS} {l2 : Nat} {l3 : Int32} {s0 : Int32} : qz d 47 n 999999999999979 43 [some (za 5 0 0), some (za 1 0 0), some (za 8 l2 0), some (zi l3), none, none, none, none, none] [zi s0] T = (if s0 = l3 then (qx_ret 1 (q_sem zF d 43 [za 1 0 0] T) [] (fun w1 T2 => qz d 47 n 999999999999975 51 [some (za 5 0 0), some (za 1 0 0), some (za 8 l2 0), some (zi l3), none, none, none, none, none] w1 T2)) else (some (some (zi (zo 0)), T))) := rfl
set_option maxHeartbeats 4000000 in
set_option maxRecDepth 1000000 in
theorem qf_47_51_518iooooo_i_141 {d n : Nat} {T : qS} {l2 : Nat} {l3 : Int32} {s0 : Int32} : qz d 47 n 999999999999975 51 [some (za 5 0 0), some (za 1 0 0), some (za 8 l2 0), some (zi l3), none, none, none, none, none] [zi s0] T = (if s0 = (zo 0) then (some (some (zi (zo 0)), T)) else qy d 47 n 59 [some (za 5 0 0), some (za 1 0 0), none, none, some (zi (zo 0)), none, none, none, none] [] T) := rfl
set_option maxHeartbeats 4000000 in
set_option maxRecDepth 1000000 in
theorem qf_47_59_51ooioooo__166 {d n : Nat} {T : qS} {l4 : Int32} : qz d 47 n 1000000000000000 59 [some (za 5 0 0), some (za 1 0 0), none, none, some (zi l4), none, none, none, none] [] T = (if (zo 40) ≤ l4 then (qz_ret 0 (zr_sem zF d 136 [za 1 0 0] T.1) T.2 [] (fun w1 T2 => qz d 47 n 999999999999995 247 [some (za 5 0 0), some (za 1 0 0), none, none, some (zi l4), none, none, none, none] w1 T2)) else (qx_ret 5 (q_sem zF d 40 [za 1 0 0] T) [] (fun w3 T4 => qz d 47 n 999999999999995 70 [some (za 5 0 0), some (za 1 0 0), none, none, some (zi l4), none, none, none, none] w3 T4))) := rfl
set_option maxHeartbeats 4000000 in
set_option maxRecDepth 1000000 in
theorem qf_47_247_51ooioooo__161 {d n : Nat} {T : qS} {l4 : Int32} : qz d 47 n 999999999999995 247 [some (za 5 0 0), some (za 1 0 0), none, none, some (zi l4), none, none, none, none] [] T = (qx_ret 5 (q_sem zF d 40 [za 1 0 0] T) [] (fun w1 T2 => qz d 47 n 999999999999993 251 [some (za 5 0 0), some (za 1 0 0), none, none, some (zi l4), none, none, none, none] w1 T2)) := rfl
set_option maxHeartbeats 4000000 in
set_option maxRecDepth 1000000 in
theorem qf_47_70_51ooioooo_8_161 {d n : Nat} {T : qS} {l4 : Int32} {s0 : Nat} : qz d 47 n 999999999999995 70 [some (za 5 0 0), some (za 1 0 0), none, none, some (zi l4), none, none, none, none] [za 8 s0 0] T = (qz_ret 1 (zr_sem zF d 134 [za 1 0 0] T.1) T.2 [] (fun w1 T2 => qz d 47 n 999999999999992 76 [some (za 5 0 0), some (za 1 0 0), none, none, some (zi l4), some (za 8 s0 0), none, none, none] w1 T2)) := rfl
set_option maxHeartbeats 4000000 in
set_option maxRecDepth 1000000 in
theorem qf_47_251_51ooioooo_8_159 {d n : Nat} {T : qS} {l4 : Int32} {s0 : Nat} : qz d 47 n 999999999999993 251 [some (za 5 0 0), some (za 1 0 0), none, none, some (zi l4), none, none, none, none] [za 8 s0 0] T = qy d 47 n 256 [some (za 5 0 0), some (za 1 0 0), none, none, some (za 8 s0 0), some (zi (zo 0)), none, none, none] [] T := rfl
set_option maxHeartbeats 4000000 in
set_option maxRecDepth 1000000 in
theorem qf_47_76_51ooi8ooo_i_158 {d n : Nat} {T : qS} {l4 : Int32} {l5 : Nat} {s0 : Int32} : qz d 47 n 999999999999992 76 [some (za 5 0 0), some (za 1 0 0), none, none, some (zi l4), some (za 8 l5 0), none, none, none] [zi s0] T = (qz_ret 1 (zr_sem zF d 93 [za 1 0 0, zi (zo 6)] T.1) T.2 [] (fun w1 T2 => qz d 47 n 999999999999988 84 [some (za 5 0 0), some (za 1 0 0), none, none, some (zi l4), some (za 8 l5 0), some (zi s0), none, none] w1 T2)) := rfl
set_option maxHeartbeats 4000000 in
set_option maxRecDepth 1000000 in
theorem qf_47_256_51oo8iooo__166 {d n : Nat} {T : qS} {l4 : Nat} {l5 : Int32} : qz d 47 n 1000000000000000 256 [some (za 5 0 0), some (za 1 0 0), none, none, some (za 8 l4 0), some (zi l5), none, none, none] [] T = (if (zo 5) ≤ l5 then (qz_ret 1 (zr_sem zF d 137 [za 1 0 0] T.1) T.2 [] (fun w1 T2 => qz d 47 n 999999999999995 297 [some (za 5 0 0), some (za 1 0 0), none, none, some (za 8 l4 0), some (zi l5), none, none, none] w1 T2)) else (qx_ret 1 (q_sem zF d 35 [za 5 0 0, zi ((zo 44) + l5)] T) [za 1 0 0] (fun w3 T4 => qz d 47 n 999999999999991 272 [some (za 5 0 0), some (za 1 0 0), none, none, some (za 8 l4 0), some (zi l5), none, none, none] w3 T4))) := rfl
set_option maxHeartbeats 4000000 in
set_option maxRecDepth 1000000 in
theorem qf_47_84_51ooi8ioo_i_154 {d n : Nat} {T : qS} {l4 : Int32} {l5 : Nat} {l6 : Int32} {s0 : Int32} : qz d 47 n 999999999999988 84 [some (za 5 0 0), some (za 1 0 0), none, none, some (zi l4), some (za 8 l5 0), some (zi l6), none, none] [zi s0] T = (qz_ret 1 (zr_sem zF d 93 [za 1 0 0, zi (zo 7)] T.1) T.2 [zi s0] (fun w1 T2 => qz d 47 n 999999999999985 90 [some (za 5 0 0), some (za 1 0 0), none, none, some (zi l4), some (za 8 l5 0), some (zi l6), none, none] w1 T2)) := rfl
set_option maxHeartbeats 4000000 in
set_option maxRecDepth 1000000 in
theorem qf_47_297_51oo8iooo_i_161 {d n : Nat} {T : qS} {l4 : Nat} {l5 : Int32} {s0 : Int32} : qz d 47 n 999999999999995 297 [some (za 5 0 0), some (za 1 0 0), none, none, some (za 8 l4 0), some (zi l5), none, none, none] [zi s0] T = (if s0 = (zo 0) then (some (some (zi (zo 0)), T)) else (qx_ret 5 (q_sem zF d 40 [za 1 0 0] T) [] (fun w1 T2 => qz d 47 n 999999999999992 304 [some (za 5 0 0), some (za 1 0 0), none, none, some (za 8 l4 0), some (zi l5), none, none, none] w1 T2))) := rfl
set_option maxHeartbeats 4000000 in
set_option maxRecDepth 1000000 in
theorem qf_47_272_51oo8iooo_i1_157 {d n : Nat} {T : qS} {l4 : Nat} {l5 : Int32} {s0 : Int32} : qz d 47 n 999999999999991 272 [some (za 5 0 0), some (za 1 0 0), none, none, some (za 8 l4 0), some (zi l5), none, none, none] [zi s0, za 1 0 0] T = (qx_ret 1 (q_sem zF d 46 [za 1 0 0, zi s0] T) [] (fun w1 T2 => qz d 47 n 999999999999990 275 [some (za 5 0 0), some (za 1 0 0), none, none, some (za 8 l4 0), some (zi l5), none, none, none] w1 T2)) := rfl
set_option maxHeartbeats 4000000 in
set_option maxRecDepth 1000000 in
theorem qf_47_90_51ooi8ioo_ii_151 {d n : Nat} {T : qS} {l4 : Int32} {l5 : Nat} {l6 : Int32} {s0 : Int32} {s1 : Int32} : qz d 47 n 999999999999985 90 [some (za 5 0 0), some (za 1 0 0), none, none, some (zi l4), some (za 8 l5 0), some (zi l6), none, none] [zi s0, zi s1] T = (qx_ret 1 (q_sem zF d 35 [za 5 0 0, zi ((zo 4) + l4)] T) [za 1 0 0] (fun w1 T2 => qz d 47 n 999999999999977 102 [some (za 5 0 0), some (za 1 0 0), none, none, some (zi l4), some (za 8 l5 0), some (zi l6), some (zi (s1 + s0)), none] w1 T2)) := rfl
set_option maxHeartbeats 4000000 in
set_option maxRecDepth 1000000 in
theorem qf_47_304_51oo8iooo_8_158 {d n : Nat} {T : qS} {l4 : Nat} {l5 : Int32} {s0 : Nat} : qz d 47 n 999999999999992 304 [some (za 5 0 0), some (za 1 0 0), none, none, some (za 8 l4 0), some (zi l5), none, none, none] [za 8 s0 0] T = (qx_ret 1 (q_sem zF d 41 [za 8 s0 0, za 8 l4 0] T) [] (fun w1 T2 => qz d 47 n 999999999999990 309 [some (za 5 0 0), some (za 1 0 0), none, none, some (za 8 l4 0), some (zi l5), none, none, none] w1 T2)) := rfl
set_option maxHeartbeats 4000000 in
set_option maxRecDepth 1000000 in
theorem qf_47_275_51oo8iooo_i_156 {d n : Nat} {T : qS} {l4 : Nat} {l5 : Int32} {s0 : Int32} : qz d 47 n 999999999999990 275 [some (za 5 0 0), some (za 1 0 0), none, none, some (za 8 l4 0), some (zi l5), none, none, none] [zi s0] T = (if s0 = (zo 0) then (some (some (zi (zo 0)), T)) else (qx_ret 1 (q_sem zF d 43 [za 1 0 0] T) [] (fun w1 T2 => qz d 47 n 999999999999987 282 [some (za 5 0 0), some (za 1 0 0), none, none, some (za 8 l4 0), some (zi l5), none, none, none] w1 T2))) := rfl
set_option maxHeartbeats 4000000 in
set_option maxRecDepth 1000000 in
theorem qf_47_102_51ooi8iio_i1_143 {d n : Nat} {T : qS} {l4 : Int32} {l5 : Nat} {l6 : Int32} {l7 : Int32} {s0 : Int32} : qz d 47 n 999999999999977 102 [some (za 5 0 0), some (za 1 0 0), none, none, some (zi l4), some (za 8 l5 0), some (zi l6), some (zi l7), none] [zi s0, za 1 0 0] T = (qx_ret 1 (q_sem zF d 46 [za 1 0 0, zi s0] T) [] (fun w1 T2 => qz d 47 n 999999999999976 105 [some (za 5 0 0), some (za 1 0 0), none, none, some (zi l4), some (za 8 l5 0), some (zi l6), some (zi l7), none] w1 T2)) := rfl
set_option maxHeartbeats 4000000 in
set_option maxRecDepth 1000000 in
theorem qf_47_309_51oo8iooo_i_156 {d n : Nat} {T : qS} {l4 : Nat} {l5 : Int32} {s0 : Int32} : qz d 47 n 999999999999990 309 [some (za 5 0 0), some (za 1 0 0), none, none, some (za 8 l4 0), some (zi l5), none, none, none] [zi s0] T = (if s0 = (zo 0) then (some (some (zi (zo 0)), T)) else (qz_ret 1 (zr_sem zF d 134 [za 1 0 0] T.1) T.2 [] (fun w1 T2 => qz d 47 n 999999999999987 316 [some (za 5 0 0), some (za 1 0 0), none, none, some (za 8 l4 0), some (zi l5), none, none, none] w1 T2))) := rfl
set_option maxHeartbeats 4000000 in
set_option maxRecDepth 1000000 in
theorem qf_47_282_51oo8iooo_i_153 {d n : Nat} {T : qS} {l4 : Nat} {l5 : Int32} {s0 : Int32} : qz d 47 n 999999999999987 282 [some (za 5 0 0), some (za 1 0 0), none, none, some (za 8 l4 0), some (zi l5), none, none, none] [zi s0] T = (if s0 = (zo 0) then (some (some (zi (zo 0)), T)) else qy d 47 n 256 [some (za 5 0 0), some (za 1 0 0), none, none, some (za 8 l4 0), some (zi (l5 + (zo 1))), none, none, none] [] T) := rfl
set_option maxHeartbeats 4000000 in
set_option maxRecDepth 1000000 in
theorem qf_47_105_51ooi8iio_i_142 {d n : Nat} {T : qS} {l4 : Int32} {l5 : Nat} {l6 : Int32} {l7 : Int32} {s0 : Int32} : qz d 47 n 999999999999976 105 [some (za 5 0 0), some (za 1 0 0), none, none, some (zi l4), some (za 8 l5 0), some (zi l6), some (zi l7), none] [zi s0] T = (if s0 = (zo 0) then (some (some (zi (zo 0)), T)) else (qx_ret 1 (q_sem zF d 43 [za 1 0 0] T) [] (fun w1 T2 => qz d 47 n 999999999999973 112 [some (za 5 0 0), some (za 1 0 0), none, none, some (zi l4), some (za 8 l5 0), some (zi l6), some (zi l7), none] w1 T2))) := rfl
set_option maxHeartbeats 4000000 in
set_option maxRecDepth 1000000 in
theorem qf_47_316_51oo8iooo_i_153 {d n : Nat} {T : qS} {l4 : Nat} {l5 : Int32} {s0 : Int32} : qz d 47 n 999999999999987 316 [some (za 5 0 0), some (za 1 0 0), none, none, some (za 8 l4 0), some (zi l5), none, none, none] [zi s0] T = (if s0 = (zo 0) then (qz_ret 1 (zr_sem zF d 135 [za 1 0 0] T.1) T.2 [] (fun w1 T2 => qz d 47 n 999999999999984 323 [some (za 5 0 0), some (za 1 0 0), none, none, some (za 8 l4 0), some (zi l5), none, none, none] w1 T2)) else (some (some (zi (zo 0)), T))) := rfl
set_option maxHeartbeats 4000000 in
set_option maxRecDepth 1000000 in
theorem qf_47_112_51ooi8iio_i_139 {d n : Nat} {T : qS} {l4 : Int32} {l5 : Nat} {l6 : Int32} {l7 : Int32} {s0 : Int32} : qz d 47 n 999999999999973 112 [some (za 5 0 0), some (za 1 0 0), none, none, some (zi l4), some (za 8 l5 0), some (zi l6), some (zi l7), none] [zi s0] T = (if s0 = (zo 0) then (some (some (zi (zo 0)), T)) else (qz_ret 1 (zr_sem zF d 93 [za 1 0 0, zi (zo 6)] T.1) T.2 [] (fun w1 T2 => qz d 47 n 999999999999969 121 [some (za 5 0 0), some (za 1 0 0), none, none, some (zi l4), some (za 8 l5 0), some (zi l6), some (zi l7), none] w1 T2))) := rfl
set_option maxHeartbeats 4000000 in
set_option maxRecDepth 1000000 in
theorem qf_47_323_51oo8iooo_i_150 {d n : Nat} {T : qS} {l4 : Nat} {l5 : Int32} {s0 : Int32} : qz d 47 n 999999999999984 323 [some (za 5 0 0), some (za 1 0 0), none, none, some (za 8 l4 0), some (zi l5), none, none, none] [zi s0] T = (if s0 = (zo (-1)) then (some (some (zi (zo 1)), T)) else (some (some (zi (zo 0)), T))) := rfl
set_option maxHeartbeats 4000000 in
set_option maxRecDepth 1000000 in
theorem qf_47_121_51ooi8iio_i_135 {d n : Nat} {T : qS} {l4 : Int32} {l5 : Nat} {l6 : Int32} {l7 : Int32} {s0 : Int32} : qz d 47 n 999999999999969 121 [some (za 5 0 0), some (za 1 0 0), none, none, some (zi l4), some (za 8 l5 0), some (zi l6), some (zi l7), none] [zi s0] T = (qz_ret 1 (zr_sem zF d 93 [za 1 0 0, zi (zo 7)] T.1) T.2 [zi s0] (fun w1 T2 => qz d 47 n 999999999999966 127 [some (za 5 0 0), some (za 1 0 0), none, none, some (zi l4), some (za 8 l5 0), some (zi l6), some (zi l7), none] w1 T2)) := rfl
set_option maxHeartbeats 4000000 in
set_option maxRecDepth 1000000 in
theorem qf_47_127_51ooi8iio_ii_132 {d n : Nat} {T : qS} {l4 : Int32} {l5 : Nat} {l6 : Int32} {l7 : Int32} {s0 : Int32} {s1 : Int32} : qz d 47 n 999999999999966 127 [some (za 5 0 0), some (za 1 0 0), none, none, some (zi l4), some (za 8 l5 0), some (zi l6), some (zi l7), none] [zi s0, zi s1] T = (if l7 ≤ (s1 + s0) then (qx_ret 5 (q_sem zF d 40 [za 1 0 0] T) [] (fun w1 T2 => qz d 47 n 999999999999961 139 [some (za 5 0 0), some (za 1 0 0), none, none, some (zi l4), some (za 8 l5 0), some (zi l6), some (zi l7), none] w1 T2)) else (some (some (zi (zo 0)), T))) := rfl
set_option maxHeartbeats 4000000 in
set_option maxRecDepth 1000000 in
theorem qf_47_139_51ooi8iio_8_127 {d n : Nat} {T : qS} {l4 : Int32} {l5 : Nat} {l6 : Int32} {l7 : Int32} {s0 : Nat} : qz d 47 n 999999999999961 139 [some (za 5 0 0), some (za 1 0 0), none, none, some (zi l4), some (za 8 l5 0), some (zi l6), some (zi l7), none] [za 8 s0 0] T = (qz_ret 1 (zr_sem zF d 134 [za 1 0 0] T.1) T.2 [] (fun w1 T2 => qz d 47 n 999999999999958 145 [some (za 5 0 0), some (za 1 0 0), none, none, some (zi l4), some (za 8 l5 0), some (zi l6), some (zi l7), some (za 8 s0 0)] w1 T2)) := rfl
set_option maxHeartbeats 4000000 in
set_option maxRecDepth 1000000 in
theorem qf_47_145_51ooi8ii8_i_124 {d n : Nat} {T : qS} {l4 : Int32} {l5 : Nat} {l6 : Int32} {l7 : Int32} {l8 : Nat} {s0 : Int32} : qz d 47 n 999999999999958 145 [some (za 5 0 0), some (za 1 0 0), none, none, some (zi l4), some (za 8 l5 0), some (zi l6), some (zi l7), some (za 8 l8 0)] [zi s0] T = (if s0 ≤ l6 then (qz_ret 1 (zr_sem zF d 134 [za 1 0 0] T.1) T.2 [] (fun w1 T2 => qz d 47 n 999999999999954 213 [some (za 5 0 0), some (za 1 0 0), none, none, some (zi l4), some (za 8 l5 0), some (zi l6), some (zi l7), some (za 8 l8 0)] w1 T2)) else (if (zo 3) = (zo 0) then none else (if (l4 - l4 / (zo 3) * (zo 3)) = (zo 0) then (qz_ret 1 (zr_sem zF d 135 [za 1 0 0] T.1) T.2 [] (fun w5 T6 => qz d 47 n 999999999999950 161 [some (za 5 0 0), some (za 1 0 0), none, none, some (zi l4), some (za 8 l5 0), some (zi l6), some (zi l7), some (za 8 l8 0)] w5 T6)) else (qz_ret 1 (zr_sem zF d 134 [za 1 0 0] T.1) T.2 [] (fun w3 T4 => qz d 47 n 999999999999950 213 [some (za 5 0 0), some (za 1 0 0), none, none, some (zi l4), some (za 8 l5 0), some (zi l6), some (zi l7), some (za 8 l8 0)] w3 T4))))) := rfl
set_option maxHeartbeats 4000000 in
set_option maxRecDepth 1000000 in
theorem qf_47_213_51ooi8ii8_i_120 {d n : Nat} {T : qS} {l4 : Int32} {l5 : Nat} {l6 : Int32} {l7 : Int32} {l8 : Nat} {s0 : Int32} : qz d 47 n 999999999999954 213 [some (za 5 0 0), some (za 1 0 0), none, none, some (zi l4), some (za 8 l5 0), some (zi l6), some (zi l7), some (za 8 l8 0)] [zi s0] T = (if s0 = l6 then (if (zo 10) ≤ l6 then qy d 47 n 59 [some (za 5 0 0), some (za 1 0 0), none, none, some (zi (l4 + (zo 1))), none, none, none, none] [] T else (qx_ret 1 (q_sem zF d 41 [za 8 l5 0, za 8 l8 0] T) [] (fun w1 T2 => qz d 47 n 999999999999946 232 [some (za 5 0 0), some (za 1 0 0), none, none, some (zi l4), some (za 8 l5 0), some (zi l6), some (zi l7), some (za 8 l8 0)] w1 T2))) else qy d 47 n 59 [some (za 5 0 0), some (za 1 0 0), none, none, some (zi (l4 + (zo 1))), none, none, none, none] [] T) := rfl
set_option maxHeartbeats 4000000 in
set_option maxRecDepth 1000000 in
theorem qf_47_213_51ooi8ii8_i_116 {d n : Nat} {T : qS} {l4 : Int32} {l5 : Nat} {l6 : Int32} {l7 : Int32} {l8 : Nat} {s0 : Int32} : qz d 47 n 999999999999950 213 [some (za 5 0 0), some (za 1 0 0), none, none, some (zi l4), some (za 8 l5 0), some (zi l6), some (zi l7), some (za 8 l8 0)] [zi s0] T = (if s0 = l6 then (if (zo 10) ≤ l6 then qy d 47 n 59 [some (za 5 0 0), some (za 1 0 0), none, none, some (zi (l4 + (zo 1))), none, none, none, none] [] T else (qx_ret 1 (q_sem zF d 41 [za 8 l5 0, za 8 l8 0] T) [] (fun w1 T2 => qz d 47 n 999999999999942 232 [some (za 5 0 0), some (za 1 0 0), none, none, some (zi l4), some (za 8 l5 0), some (zi l6), some (zi l7), some (za 8 l8 0)] w1 T2))) else qy d 47 n 59 [some (za 5 0 0), some (za 1 0 0), none, none, some (zi (l4 + (zo 1))), none, none, none, none] [] T) := rfl
set_option maxHeartbeats 4000000 in
set_option maxRecDepth 1000000 in
theorem qf_47_161_51ooi8ii8_i_116 {d n : Nat} {T : qS} {l4 : Int32} {l5 : Nat} {l6 : Int32} {l7 : Int32} {l8 : Nat} {s0 : Int32} : qz d 47 n 999999999999950 161 [some (za 5 0 0), some (za 1 0 0), none, none, some (zi l4), some (za 8 l5 0), some (zi l6), some (zi l7), some (za 8 l8 0)] [zi s0] T = (if s0 = l6 then (qx_ret 5 (q_sem zF d 40 [za 1 0 0] T) [] (fun w1 T2 => qz d 47 n 999999999999946 170 [some (za 5 0 0), some (za 1 0 0), none, none, some (zi l4), some (za 8 l5 0), some (zi l6), some (zi l7), some (za 8 l8 0)] w1 T2)) else (some (some (zi (zo 0)), T))) := rfl
set_option maxHeartbeats 4000000 in
set_option maxRecDepth 1000000 in
theorem qf_47_232_51ooi8ii8_i_112 {d n : Nat} {T : qS} {l4 : Int32} {l5 : Nat} {l6 : Int32} {l7 : Int32} {l8 : Nat} {s0 : Int32} : qz d 47 n 999999999999946 232 [some (za 5 0 0), some (za 1 0 0), none, none, some (zi l4), some (za 8 l5 0), some (zi l6), some (zi l7), some (za 8 l8 0)] [zi s0] T = (if s0 = (zo 0) then (some (some (zi (zo 0)), T)) else qy d 47 n 59 [some (za 5 0 0), some (za 1 0 0), none, none, some (zi (l4 + (zo 1))), none, none, none, none] [] T) := rfl
set_option maxHeartbeats 4000000 in
set_option maxRecDepth 1000000 in
theorem qf_47_232_51ooi8ii8_i_108 {d n : Nat} {T : qS} {l4 : Int32} {l5 : Nat} {l6 : Int32} {l7 : Int32} {l8 : Nat} {s0 : Int32} : qz d 47 n 999999999999942 232 [some (za 5 0 0), some (za 1 0 0), none, none, some (zi l4), some (za 8 l5 0), some (zi l6), some (zi l7), some (za 8 l8 0)] [zi s0] T = (if s0 = (zo 0) then (some (some (zi (zo 0)), T)) else qy d 47 n 59 [some (za 5 0 0), some (za 1 0 0), none, none, some (zi (l4 + (zo 1))), none, none, none, none] [] T) := rfl
set_option maxHeartbeats 4000000 in
set_option maxRecDepth 1000000 in
theorem qf_47_170_51ooi8ii8_8_112 {d n : Nat} {T : qS} {l4 : Int32} {l5 : Nat} {l6 : Int32} {l7 : Int32} {l8 : Nat} {s0 : Nat} : qz d 47 n 999999999999946 170 [some (za 5 0 0), some (za 1 0 0), none, none, some (zi l4), some (za 8 l5 0), some (zi l6), some (zi l7), some (za 8 l8 0)] [za 8 s0 0] T = (qx_ret 1 (q_sem zF d 41 [za 8 s0 0, za 8 l5 0] T) [] (fun w1 T2 => qz d 47 n 999999999999944 175 [some (za 5 0 0), some (za 1 0 0), none, none, some (zi l4), some (za 8 l5 0), some (zi l6), some (zi l7), some (za 8 l8 0)] w1 T2)) := rfl
set_option maxHeartbeats 4000000 in
set_option maxRecDepth 1000000 in
theorem qf_47_175_51ooi8ii8_i_110 {d n : Nat} {T : qS} {l4 : Int32} {l5 : Nat} {l6 : Int32} {l7 : Int32} {l8 : Nat} {s0 : Int32} : qz d 47 n 999999999999944 175 [some (za 5 0 0), some (za 1 0 0), none, none, some (zi l4), some (za 8 l5 0), some (zi l6), some (zi l7), some (za 8 l8 0)] [zi s0] T = (if s0 = (zo 0) then (some (some (zi (zo 0)), T)) else (qx_ret 1 (q_sem zF d 35 [za 5 0 0, zi ((zo 4) + l4)] T) [za 1 0 0] (fun w1 T2 => qz d 47 n 999999999999937 189 [some (za 5 0 0), some (za 1 0 0), none, none, some (zi l4), some (za 8 l5 0), some (zi l6), some (zi l7), some (za 8 l8 0)] w1 T2))) := rfl
set_option maxHeartbeats 4000000 in
set_option maxRecDepth 1000000 in
theorem qf_47_189_51ooi8ii8_i1_103 {d n : Nat} {T : qS} {l4 : Int32} {l5 : Nat} {l6 : Int32} {l7 : Int32} {l8 : Nat} {s0 : Int32} : qz d 47 n 999999999999937 189 [some (za 5 0 0), some (za 1 0 0), none, none, some (zi l4), some (za 8 l5 0), some (zi l6), some (zi l7), some (za 8 l8 0)] [zi s0, za 1 0 0] T = (qx_ret 1 (q_sem zF d 46 [za 1 0 0, zi s0] T) [] (fun w1 T2 => qz d 47 n 999999999999936 192 [some (za 5 0 0), some (za 1 0 0), none, none, some (zi l4), some (za 8 l5 0), some (zi l6), some (zi l7), some (za 8 l8 0)] w1 T2)) := rfl
set_option maxHeartbeats 4000000 in
set_option maxRecDepth 1000000 in
theorem qf_47_192_51ooi8ii8_i_102 {d n : Nat} {T : qS} {l4 : Int32} {l5 : Nat} {l6 : Int32} {l7 : Int32} {l8 : Nat} {s0 : Int32} : qz d 47 n 999999999999936 192 [some (za 5 0 0), some (za 1 0 0), none, none, some (zi l4), some (za 8 l5 0), some (zi l6), some (zi l7), some (za 8 l8 0)] [zi s0] T = (if s0 = (zo 0) then (some (some (zi (zo 0)), T)) else (qx_ret 5 (q_sem zF d 40 [za 1 0 0] T) [] (fun w1 T2 => qz d 47 n 999999999999933 199 [some (za 5 0 0), some (za 1 0 0), none, none, some (zi l4), some (za 8 l5 0), some (zi l6), some (zi l7), some (za 8 l8 0)] w1 T2))) := rfl
set_option maxHeartbeats 4000000 in
set_option maxRecDepth 1000000 in
theorem qf_47_199_51ooi8ii8_8_99 {d n : Nat} {T : qS} {l4 : Int32} {l5 : Nat} {l6 : Int32} {l7 : Int32} {l8 : Nat} {s0 : Nat} : qz d 47 n 999999999999933 199 [some (za 5 0 0), some (za 1 0 0), none, none, some (zi l4), some (za 8 l5 0), some (zi l6), some (zi l7), some (za 8 l8 0)] [za 8 s0 0] T = (qx_ret 1 (q_sem zF d 41 [za 8 s0 0, za 8 l8 0] T) [] (fun w1 T2 => qz d 47 n 999999999999931 204 [some (za 5 0 0), some (za 1 0 0), none, none, some (zi l4), some (za 8 l5 0), some (zi l6), some (zi l7), some (za 8 l8 0)] w1 T2)) := rfl
set_option maxHeartbeats 4000000 in
set_option maxRecDepth 1000000 in
theorem qf_47_204_51ooi8ii8_i_97 {d n : Nat} {T : qS} {l4 : Int32} {l5 : Nat} {l6 : Int32} {l7 : Int32} {l8 : Nat} {s0 : Int32} : qz d 47 n 999999999999931 204 [some (za 5 0 0), some (za 1 0 0), none, none, some (zi l4), some (za 8 l5 0), some (zi l6), some (zi l7), some (za 8 l8 0)] [zi s0] T = (if s0 = (zo 0) then (some (some (zi (zo 0)), T)) else (qz_ret 1 (zr_sem zF d 134 [za 1 0 0] T.1) T.2 [] (fun w1 T2 => qz d 47 n 999999999999928 213 [some (za 5 0 0), some (za 1 0 0), none, none, some (zi l4), some (za 8 l5 0), some (zi l6), some (zi l7), some (za 8 l8 0)] w1 T2))) := rfl
set_option maxHeartbeats 4000000 in
set_option maxRecDepth 1000000 in
theorem qf_47_213_51ooi8ii8_i_94 {d n : Nat} {T : qS} {l4 : Int32} {l5 : Nat} {l6 : Int32} {l7 : Int32} {l8 : Nat} {s0 : Int32} : qz d 47 n 999999999999928 213 [some (za 5 0 0), some (za 1 0 0), none, none, some (zi l4), some (za 8 l5 0), some (zi l6), some (zi l7), some (za 8 l8 0)] [zi s0] T = (if s0 = l6 then (if (zo 10) ≤ l6 then qy d 47 n 59 [some (za 5 0 0), some (za 1 0 0), none, none, some (zi (l4 + (zo 1))), none, none, none, none] [] T else (qx_ret 1 (q_sem zF d 41 [za 8 l5 0, za 8 l8 0] T) [] (fun w1 T2 => qz d 47 n 999999999999920 232 [some (za 5 0 0), some (za 1 0 0), none, none, some (zi l4), some (za 8 l5 0), some (zi l6), some (zi l7), some (za 8 l8 0)] w1 T2))) else qy d 47 n 59 [some (za 5 0 0), some (za 1 0 0), none, none, some (zi (l4 + (zo 1))), none, none, none, none] [] T) := rfl
set_option maxHeartbeats 4000000 in
set_option maxRecDepth 1000000 in
theorem qf_47_232_51ooi8ii8_i_86 {d n : Nat} {T : qS} {l4 : Int32} {l5 : Nat} {l6 : Int32} {l7 : Int32} {l8 : Nat} {s0 : Int32} : qz d 47 n 999999999999920 232 [some (za 5 0 0), some (za 1 0 0), none, none, some (zi l4), some (za 8 l5 0), some (zi l6), some (zi l7), some (za 8 l8 0)] [zi s0] T = (if s0 = (zo 0) then (some (some (zi (zo 0)), T)) else qy d 47 n 59 [some (za 5 0 0), some (za 1 0 0), none, none, some (zi (l4 + (zo 1))), none, none, none, none] [] T) := rfl

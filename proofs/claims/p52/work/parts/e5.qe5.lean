/-! EQUATIONS of the law's level, by program (tools/gensemq.py) -/
set_option maxHeartbeats 4000000 in
set_option maxRecDepth 1000000 in
theorem qe_46_0_1iooooo__228 {d n : Nat} {T : qS} {l1 : Int32} : qz d 46 n 228 0 [some (za 1 0 0), some (zi l1), none, none, none, none, none] [] T = (qx_ret 1 (q_sem zF d 34 [zi l1, zi (zo 14)] T) [] (fun w1 T2 => qz d 46 n 225 6 [some (za 1 0 0), some (zi l1), none, none, none, none, none] w1 T2)) := rfl
set_option maxHeartbeats 4000000 in
set_option maxRecDepth 1000000 in
theorem qe_46_6_1iooooo_i_225 {d n : Nat} {T : qS} {l1 : Int32} {s0 : Int32} : qz d 46 n 225 6 [some (za 1 0 0), some (zi l1), none, none, none, none, none] [zi s0] T = (qz_ret 1 (zr_sem zF d 93 [za 1 0 0, zi (zo 0)] T.1) T.2 [zi (l1 >>> ((zo 4) &&& 31))] (fun w1 T2 => qz d 46 n 216 17 [some (za 1 0 0), some (zi l1), some (zi s0), some (zi (l1 >>> ((zo 4) &&& 31))), none, none, none] w1 T2)) := rfl
set_option maxHeartbeats 4000000 in
set_option maxRecDepth 1000000 in
theorem qe_46_17_1iiiooo_ii_216 {d n : Nat} {T : qS} {l1 : Int32} {l2 : Int32} {l3 : Int32} {s0 : Int32} {s1 : Int32} : qz d 46 n 216 17 [some (za 1 0 0), some (zi l1), some (zi l2), some (zi l3), none, none, none] [zi s0, zi s1] T = (qx_ret 1 (q_sem zF d 34 [zi s1, zi s0] T) [] (fun w1 T2 => qz d 46 n 215 20 [some (za 1 0 0), some (zi l1), some (zi l2), some (zi l3), none, none, none] w1 T2)) := rfl
set_option maxHeartbeats 4000000 in
set_option maxRecDepth 1000000 in
theorem qe_46_20_1iiiooo_i_215 {d n : Nat} {T : qS} {l1 : Int32} {l2 : Int32} {l3 : Int32} {s0 : Int32} : qz d 46 n 215 20 [some (za 1 0 0), some (zi l1), some (zi l2), some (zi l3), none, none, none] [zi s0] T = (qz_ret 1 (zr_sem zF d 93 [za 1 0 0, zi (zo 1)] T.1) T.2 [zi (l3 >>> ((zo 2) &&& 31))] (fun w1 T2 => qz d 46 n 208 30 [some (za 1 0 0), some (zi l1), some (zi l2), some (zi l3), some (zi s0), none, none] w1 T2)) := rfl
set_option maxHeartbeats 4000000 in
set_option maxRecDepth 1000000 in
theorem qe_46_30_1iiiioo_ii_208 {d n : Nat} {T : qS} {l1 : Int32} {l2 : Int32} {l3 : Int32} {l4 : Int32} {s0 : Int32} {s1 : Int32} : qz d 46 n 208 30 [some (za 1 0 0), some (zi l1), some (zi l2), some (zi l3), some (zi l4), none, none] [zi s0, zi s1] T = (qx_ret 1 (q_sem zF d 34 [zi s1, zi s0] T) [] (fun w1 T2 => qz d 46 n 207 33 [some (za 1 0 0), some (zi l1), some (zi l2), some (zi l3), some (zi l4), none, none] w1 T2)) := rfl
set_option maxHeartbeats 4000000 in
set_option maxRecDepth 1000000 in
theorem qe_46_33_1iiiioo_i_207 {d n : Nat} {T : qS} {l1 : Int32} {l2 : Int32} {l3 : Int32} {l4 : Int32} {s0 : Int32} : qz d 46 n 207 33 [some (za 1 0 0), some (zi l1), some (zi l2), some (zi l3), some (zi l4), none, none] [zi s0] T = (qz_ret 1 (zr_sem zF d 93 [za 1 0 0, zi (zo 4)] T.1) T.2 [zi (l3 >>> ((zo 1) &&& 31))] (fun w1 T2 => qz d 46 n 200 43 [some (za 1 0 0), some (zi l1), some (zi l2), some (zi l3), some (zi l4), some (zi s0), none] w1 T2)) := rfl
set_option maxHeartbeats 4000000 in
set_option maxRecDepth 1000000 in
theorem qe_46_43_1iiiiio_ii_200 {d n : Nat} {T : qS} {l1 : Int32} {l2 : Int32} {l3 : Int32} {l4 : Int32} {l5 : Int32} {s0 : Int32} {s1 : Int32} : qz d 46 n 200 43 [some (za 1 0 0), some (zi l1), some (zi l2), some (zi l3), some (zi l4), some (zi l5), none] [zi s0, zi s1] T = (qx_ret 1 (q_sem zF d 34 [zi s1, zi s0] T) [] (fun w1 T2 => qz d 46 n 199 46 [some (za 1 0 0), some (zi l1), some (zi l2), some (zi l3), some (zi l4), some (zi l5), none] w1 T2)) := rfl
set_option maxHeartbeats 4000000 in
set_option maxRecDepth 1000000 in
theorem qe_46_46_1iiiiio_i_199 {d n : Nat} {T : qS} {l1 : Int32} {l2 : Int32} {l3 : Int32} {l4 : Int32} {l5 : Int32} {s0 : Int32} : qz d 46 n 199 46 [some (za 1 0 0), some (zi l1), some (zi l2), some (zi l3), some (zi l4), some (zi l5), none] [zi s0] T = (if (zo 4) ≤ l2 then (if l2 = (zo 4) then (qx_ret 1 (q_sem zF d 34 [zi l3, zi (zo 30)] T) [zi (zo 1), za 1 0 0] (fun w19 T20 => qz d 46 n 187 71 [some (za 1 0 0), some (zi l1), some (zi l2), some (zi l3), some (zi l4), some (zi l5), some (zi s0)] w19 T20)) else (if l2 = (zo 5) then (qx_ret 1 (q_sem zF d 34 [zi (l3 >>> ((zo 3) &&& 31)), zi (zo 99)] T) [zi (zo 1), zi l5, zi l4, za 1 0 0] (fun w17 T18 => qz d 46 n 180 103 [some (za 1 0 0), some (zi l1), some (zi l2), some (zi l3), some (zi l4), some (zi l5), some (zi s0)] w17 T18)) else (if l2 = (zo 6) then (qz_ret 1 (zr_sem zF d 123 [za 1 0 0, zi s0, zi l4, zi l5] T.1) T.2 [] (fun w15 T16 => qz d 46 n 181 145 [some (za 1 0 0), some (zi l1), some (zi l2), some (zi l3), some (zi l4), some (zi l5), some (zi s0)] w15 T16)) else (if l2 = (zo 7) then (qx_ret 1 (q_sem zF d 34 [zi l3, zi (zo 601)] T) [zi s0, za 1 0 0] (fun w13 T14 => qz d 46 n 178 172 [some (za 1 0 0), some (zi l1), some (zi l2), some (zi l3), some (zi l4), some (zi l5), some (zi s0)] w13 T14)) else (if l2 = (zo 8) then (qx_ret 1 (q_sem zF d 34 [zi l3, zi (zo 100)] T) [zi l5, zi l4, zi s0, za 1 0 0] (fun w11 T12 => qz d 46 n 173 223 [some (za 1 0 0), some (zi l1), some (zi l2), some (zi l3), some (zi l4), some (zi l5), some (zi s0)] w11 T12)) else (if l2 = (zo 9) then (qx_ret 1 (q_sem zF d 34 [zi (l3 >>> ((zo 4) &&& 31)), zi (zo 99)] T) [zi (zo 1), zi l5, zi l4, za 1 0 0] (fun w9 T10 => qz d 46 n 168 257 [some (za 1 0 0), some (zi l1), some (zi l2), some (zi l3), some (zi l4), some (zi l5), some (zi s0)] w9 T10)) else (if l2 = (zo 10) then (qz_ret 1 (zr_sem zF d 129 [za 1 0 0, zi l4, zi l5] T.1) T.2 [] (fun w7 T8 => qz d 46 n 170 284 [some (za 1 0 0), some (zi l1), some (zi l2), some (zi l3), some (zi l4), some (zi l5), some (zi s0)] w7 T8)) else (if l2 = (zo 11) then (qz_ret 1 (zr_sem zF d 93 [za 1 0 0, zi (zo 2)] T.1) T.2 [] (fun w5 T6 => qz d 46 n 168 315 [some (za 1 0 0), some (zi l1), some (zi l2), some (zi l3), some (zi l4), some (zi l5), some (zi s0)] w5 T6)) else (if l2 = (zo 12) then (qz_ret 1 (zr_sem zF d 93 [za 1 0 0, zi (zo 3)] T.1) T.2 [] (fun w3 T4 => qz d 46 n 165 359 [some (za 1 0 0), some (zi l1), some (zi l2), some (zi l3), some (zi l4), some (zi l5), some (zi s0)] w3 T4)) else (qx_ret 1 (q_sem zF d 34 [zi l3, zi (zo 1001)] T) [za 1 0 0] (fun w1 T2 => qz d 46 n 164 400 [some (za 1 0 0), some (zi l1), some (zi l2), some (zi l3), some (zi l4), some (zi l5), some (zi s0)] w1 T2))))))))))) else (qx_ret 1 (q_sem zF d 45 [za 1 0 0] T) [] (fun w21 T22 => qz d 46 n 193 57 [some (za 1 0 0), some (zi l1), some (zi l2), some (zi l3), some (zi l4), some (zi l5), some (zi s0)] w21 T22))) := rfl
set_option maxHeartbeats 4000000 in
set_option maxRecDepth 1000000 in
theorem qe_46_400_1iiiiii_i1_164 {d n : Nat} {T : qS} {l1 : Int32} {l2 : Int32} {l3 : Int32} {l4 : Int32} {l5 : Int32} {l6 : Int32} {s0 : Int32} : qz d 46 n 164 400 [some (za 1 0 0), some (zi l1), some (zi l2), some (zi l3), some (zi l4), some (zi l5), some (zi l6)] [zi s0, za 1 0 0] T = (qz_ret 1 (zr_sem zF d 132 [za 1 0 0, zi s0] T.1) T.2 [] (fun w1 T2 => qz d 46 n 163 403 [some (za 1 0 0), some (zi l1), some (zi l2), some (zi l3), some (zi l4), some (zi l5), some (zi l6)] w1 T2)) := rfl
set_option maxHeartbeats 4000000 in
set_option maxRecDepth 1000000 in
theorem qe_46_359_1iiiiii_i_165 {d n : Nat} {T : qS} {l1 : Int32} {l2 : Int32} {l3 : Int32} {l4 : Int32} {l5 : Int32} {l6 : Int32} {s0 : Int32} : qz d 46 n 165 359 [some (za 1 0 0), some (zi l1), some (zi l2), some (zi l3), some (zi l4), some (zi l5), some (zi l6)] [zi s0] T = (if s0 = (zo 0) then (some (some (zi (zo 1)), T)) else (qz_ret 1 (zr_sem zF d 93 [za 1 0 0, zi (zo 3)] T.1) T.2 [zi l3, za 1 0 0] (fun w1 T2 => qz d 46 n 159 369 [some (za 1 0 0), some (zi l1), some (zi l2), some (zi l3), some (zi l4), some (zi l5), some (zi l6)] w1 T2))) := rfl
set_option maxHeartbeats 4000000 in
set_option maxRecDepth 1000000 in
theorem qe_46_315_1iiiiii_i_168 {d n : Nat} {T : qS} {l1 : Int32} {l2 : Int32} {l3 : Int32} {l4 : Int32} {l5 : Int32} {l6 : Int32} {s0 : Int32} : qz d 46 n 168 315 [some (za 1 0 0), some (zi l1), some (zi l2), some (zi l3), some (zi l4), some (zi l5), some (zi l6)] [zi s0] T = (if s0 = (zo 0) then (some (some (zi (zo 1)), T)) else (qz_ret 1 (zr_sem zF d 93 [za 1 0 0, zi (zo 2)] T.1) T.2 [zi l3, za 1 0 0] (fun w1 T2 => qz d 46 n 162 325 [some (za 1 0 0), some (zi l1), some (zi l2), some (zi l3), some (zi l4), some (zi l5), some (zi l6)] w1 T2))) := rfl
set_option maxHeartbeats 4000000 in
set_option maxRecDepth 1000000 in
theorem qe_46_284_1iiiiii_i_170 {d n : Nat} {T : qS} {l1 : Int32} {l2 : Int32} {l3 : Int32} {l4 : Int32} {l5 : Int32} {l6 : Int32} {s0 : Int32} : qz d 46 n 170 284 [some (za 1 0 0), some (zi l1), some (zi l2), some (zi l3), some (zi l4), some (zi l5), some (zi l6)] [zi s0] T = (if s0 < (zo 0) then (some (some (zi (zo 0)), T)) else (qz_ret 1 (zr_sem zF d 97 [za 1 0 0, zi l4, zi l5] T.1) T.2 [] (fun w1 T2 => qz d 46 n 165 295 [some (za 1 0 0), some (zi l1), some (zi l2), some (zi l3), some (zi l4), some (zi l5), some (zi l6)] w1 T2))) := rfl
set_option maxHeartbeats 4000000 in
set_option maxRecDepth 1000000 in
theorem qe_46_257_1iiiiii_iiii1_168 {d n : Nat} {T : qS} {l1 : Int32} {l2 : Int32} {l3 : Int32} {l4 : Int32} {l5 : Int32} {l6 : Int32} {s0 : Int32} {s1 : Int32} {s2 : Int32} {s3 : Int32} : qz d 46 n 168 257 [some (za 1 0 0), some (zi l1), some (zi l2), some (zi l3), some (zi l4), some (zi l5), some (zi l6)] [zi s0, zi s1, zi s2, zi s3, za 1 0 0] T = (qz_ret 1 (zr_sem zF d 128 [za 1 0 0, zi s3, zi s2, zi (s1 + s0)] T.1) T.2 [] (fun w1 T2 => qz d 46 n 166 261 [some (za 1 0 0), some (zi l1), some (zi l2), some (zi l3), some (zi l4), some (zi l5), some (zi l6)] w1 T2)) := rfl
set_option maxHeartbeats 4000000 in
set_option maxRecDepth 1000000 in
theorem qe_46_223_1iiiiii_iiii1_173 {d n : Nat} {T : qS} {l1 : Int32} {l2 : Int32} {l3 : Int32} {l4 : Int32} {l5 : Int32} {l6 : Int32} {s0 : Int32} {s1 : Int32} {s2 : Int32} {s3 : Int32} : qz d 46 n 173 223 [some (za 1 0 0), some (zi l1), some (zi l2), some (zi l3), some (zi l4), some (zi l5), some (zi l6)] [zi s0, zi s1, zi s2, zi s3, za 1 0 0] T = (qz_ret 1 (zr_sem zF d 114 [za 1 0 0, zi s3, zi s2, zi s1, zi s0] T.1) T.2 [] (fun w1 T2 => qz d 46 n 172 226 [some (za 1 0 0), some (zi l1), some (zi l2), some (zi l3), some (zi l4), some (zi l5), some (zi l6)] w1 T2)) := rfl
set_option maxHeartbeats 4000000 in
set_option maxRecDepth 1000000 in
theorem qe_46_172_1iiiiii_ii1_178 {d n : Nat} {T : qS} {l1 : Int32} {l2 : Int32} {l3 : Int32} {l4 : Int32} {l5 : Int32} {l6 : Int32} {s0 : Int32} {s1 : Int32} : qz d 46 n 178 172 [some (za 1 0 0), some (zi l1), some (zi l2), some (zi l3), some (zi l4), some (zi l5), some (zi l6)] [zi s0, zi s1, za 1 0 0] T = (qx_ret 1 (q_sem zF d 34 [zi (l3 >>> ((zo 3) &&& 31)), zi (zo 601)] T) [zi (s0 - (zo 300)), zi s1, za 1 0 0] (fun w1 T2 => qz d 46 n 171 185 [some (za 1 0 0), some (zi l1), some (zi l2), some (zi l3), some (zi l4), some (zi l5), some (zi l6)] w1 T2)) := rfl
set_option maxHeartbeats 4000000 in
set_option maxRecDepth 1000000 in
theorem qe_46_145_1iiiiii_i_181 {d n : Nat} {T : qS} {l1 : Int32} {l2 : Int32} {l3 : Int32} {l4 : Int32} {l5 : Int32} {l6 : Int32} {s0 : Int32} : qz d 46 n 181 145 [some (za 1 0 0), some (zi l1), some (zi l2), some (zi l3), some (zi l4), some (zi l5), some (zi l6)] [zi s0] T = (if s0 < (zo (-3)) then (some (some (zi (zo 0)), T)) else (some (some (zi (zo 1)), T))) := rfl
set_option maxHeartbeats 4000000 in
set_option maxRecDepth 1000000 in
theorem qe_46_103_1iiiiii_iiii1_180 {d n : Nat} {T : qS} {l1 : Int32} {l2 : Int32} {l3 : Int32} {l4 : Int32} {l5 : Int32} {l6 : Int32} {s0 : Int32} {s1 : Int32} {s2 : Int32} {s3 : Int32} : qz d 46 n 180 103 [some (za 1 0 0), some (zi l1), some (zi l2), some (zi l3), some (zi l4), some (zi l5), some (zi l6)] [zi s0, zi s1, zi s2, zi s3, za 1 0 0] T = (qx_ret 1 (q_sem zF d 34 [zi (l3 >>> ((zo 4) &&& 31)), zi (zo 400)] T) [zi (zo 1), zi (s1 + s0), zi s2, zi s3, za 1 0 0] (fun w1 T2 => qz d 46 n 173 114 [some (za 1 0 0), some (zi l1), some (zi l2), some (zi l3), some (zi l4), some (zi l5), some (zi l6)] w1 T2)) := rfl
set_option maxHeartbeats 4000000 in
set_option maxRecDepth 1000000 in
theorem qe_46_71_1iiiiii_ii1_187 {d n : Nat} {T : qS} {l1 : Int32} {l2 : Int32} {l3 : Int32} {l4 : Int32} {l5 : Int32} {l6 : Int32} {s0 : Int32} {s1 : Int32} : qz d 46 n 187 71 [some (za 1 0 0), some (zi l1), some (zi l2), some (zi l3), some (zi l4), some (zi l5), some (zi l6)] [zi s0, zi s1, za 1 0 0] T = (qz_ret 1 (zr_sem zF d 133 [za 1 0 0, zi (s1 + s0)] T.1) T.2 [] (fun w1 T2 => qz d 46 n 185 75 [some (za 1 0 0), some (zi l1), some (zi l2), some (zi l3), some (zi l4), some (zi l5), some (zi l6)] w1 T2)) := rfl
set_option maxHeartbeats 4000000 in
set_option maxRecDepth 1000000 in
theorem qe_46_57_1iiiiii_i_193 {d n : Nat} {T : qS} {l1 : Int32} {l2 : Int32} {l3 : Int32} {l4 : Int32} {l5 : Int32} {l6 : Int32} {s0 : Int32} : qz d 46 n 193 57 [some (za 1 0 0), some (zi l1), some (zi l2), some (zi l3), some (zi l4), some (zi l5), some (zi l6)] [zi s0] T = (if s0 &&& 1 = s0 then (some (some (zi s0), T)) else none) := rfl
set_option maxHeartbeats 4000000 in
set_option maxRecDepth 1000000 in
theorem qe_46_403_1iiiiii_i_163 {d n : Nat} {T : qS} {l1 : Int32} {l2 : Int32} {l3 : Int32} {l4 : Int32} {l5 : Int32} {l6 : Int32} {s0 : Int32} : qz d 46 n 163 403 [some (za 1 0 0), some (zi l1), some (zi l2), some (zi l3), some (zi l4), some (zi l5), some (zi l6)] [zi s0] T = (if s0 < (zo 0) then (some (some (zi (zo 0)), T)) else (some (some (zi (zo 1)), T))) := rfl
set_option maxHeartbeats 4000000 in
set_option maxRecDepth 1000000 in
theorem qe_46_369_1iiiiii_ii1_159 {d n : Nat} {T : qS} {l1 : Int32} {l2 : Int32} {l3 : Int32} {l4 : Int32} {l5 : Int32} {l6 : Int32} {s0 : Int32} {s1 : Int32} : qz d 46 n 159 369 [some (za 1 0 0), some (zi l1), some (zi l2), some (zi l3), some (zi l4), some (zi l5), some (zi l6)] [zi s0, zi s1, za 1 0 0] T = (qx_ret 1 (q_sem zF d 34 [zi s1, zi s0] T) [za 1 0 0] (fun w1 T2 => qz d 46 n 158 372 [some (za 1 0 0), some (zi l1), some (zi l2), some (zi l3), some (zi l4), some (zi l5), some (zi l6)] w1 T2)) := rfl
set_option maxHeartbeats 4000000 in
set_option maxRecDepth 1000000 in
theorem qe_46_325_1iiiiii_ii1_162 {d n : Nat} {T : qS} {l1 : Int32} {l2 : Int32} {l3 : Int32} {l4 : Int32} {l5 : Int32} {l6 : Int32} {s0 : Int32} {s1 : Int32} : qz d 46 n 162 325 [some (za 1 0 0), some (zi l1), some (zi l2), some (zi l3), some (zi l4), some (zi l5), some (zi l6)] [zi s0, zi s1, za 1 0 0] T = (qx_ret 1 (q_sem zF d 34 [zi s1, zi s0] T) [za 1 0 0] (fun w1 T2 => qz d 46 n 161 328 [some (za 1 0 0), some (zi l1), some (zi l2), some (zi l3), some (zi l4), some (zi l5), some (zi l6)] w1 T2)) := rfl
set_option maxHeartbeats 4000000 in
set_option maxRecDepth 1000000 in
theorem qe_46_295_1iiiiii_i_165 {d n : Nat} {T : qS} {l1 : Int32} {l2 : Int32} {l3 : Int32} {l4 : Int32} {l5 : Int32} {l6 : Int32} {s0 : Int32} : qz d 46 n 165 295 [some (za 1 0 0), some (zi l1), some (zi l2), some (zi l3), some (zi l4), some (zi l5), some (zi l6)] [zi s0] T = (if s0 = (zo 0) then (some (some (zi (zo 1)), T)) else (some (some (zi (zo 0)), T))) := rfl
set_option maxHeartbeats 4000000 in
set_option maxRecDepth 1000000 in
theorem qe_46_261_1iiiiii_i_166 {d n : Nat} {T : qS} {l1 : Int32} {l2 : Int32} {l3 : Int32} {l4 : Int32} {l5 : Int32} {l6 : Int32} {s0 : Int32} : qz d 46 n 166 261 [some (za 1 0 0), some (zi l1), some (zi l2), some (zi l3), some (zi l4), some (zi l5), some (zi l6)] [zi s0] T = (if s0 ≤ (zo 0) then (some (some (zi (zo 0)), T)) else (some (some (zi (zo 1)), T))) := rfl
set_option maxHeartbeats 4000000 in
set_option maxRecDepth 1000000 in
theorem qe_46_226_1iiiiii_i_172 {d n : Nat} {T : qS} {l1 : Int32} {l2 : Int32} {l3 : Int32} {l4 : Int32} {l5 : Int32} {l6 : Int32} {s0 : Int32} : qz d 46 n 172 226 [some (za 1 0 0), some (zi l1), some (zi l2), some (zi l3), some (zi l4), some (zi l5), some (zi l6)] [zi s0] T = (if (zo 99) < s0 then (some (some (zi (zo 0)), T)) else (some (some (zi (zo 1)), T))) := rfl
set_option maxHeartbeats 4000000 in
set_option maxRecDepth 1000000 in
theorem qe_46_185_1iiiiii_iii1_171 {d n : Nat} {T : qS} {l1 : Int32} {l2 : Int32} {l3 : Int32} {l4 : Int32} {l5 : Int32} {l6 : Int32} {s0 : Int32} {s1 : Int32} {s2 : Int32} : qz d 46 n 171 185 [some (za 1 0 0), some (zi l1), some (zi l2), some (zi l3), some (zi l4), some (zi l5), some (zi l6)] [zi s0, zi s1, zi s2, za 1 0 0] T = (qz_ret 1 (zr_sem zF d 124 [za 1 0 0, zi s2, zi s1, zi (s0 - (zo 300))] T.1) T.2 [] (fun w1 T2 => qz d 46 n 168 192 [some (za 1 0 0), some (zi l1), some (zi l2), some (zi l3), some (zi l4), some (zi l5), some (zi l6)] w1 T2)) := rfl
set_option maxHeartbeats 4000000 in
set_option maxRecDepth 1000000 in
theorem qe_46_114_1iiiiii_iiiii1_173 {d n : Nat} {T : qS} {l1 : Int32} {l2 : Int32} {l3 : Int32} {l4 : Int32} {l5 : Int32} {l6 : Int32} {s0 : Int32} {s1 : Int32} {s2 : Int32} {s3 : Int32} {s4 : Int32} : qz d 46 n 173 114 [some (za 1 0 0), some (zi l1), some (zi l2), some (zi l3), some (zi l4), some (zi l5), some (zi l6)] [zi s0, zi s1, zi s2, zi s3, zi s4, za 1 0 0] T = (qz_ret 1 (zr_sem zF d 122 [za 1 0 0, zi s4, zi s3, zi s2, zi (s1 + s0)] T.1) T.2 [] (fun w1 T2 => qz d 46 n 171 118 [some (za 1 0 0), some (zi l1), some (zi l2), some (zi l3), some (zi l4), some (zi l5), some (zi l6)] w1 T2)) := rfl
set_option maxHeartbeats 4000000 in
set_option maxRecDepth 1000000 in
theorem qe_46_75_1iiiiii_i_185 {d n : Nat} {T : qS} {l1 : Int32} {l2 : Int32} {l3 : Int32} {l4 : Int32} {l5 : Int32} {l6 : Int32} {s0 : Int32} : qz d 46 n 185 75 [some (za 1 0 0), some (zi l1), some (zi l2), some (zi l3), some (zi l4), some (zi l5), some (zi l6)] [zi s0] T = (if s0 < (zo 0) then (some (some (zi (zo 0)), T)) else (some (some (zi (zo 1)), T))) := rfl
set_option maxHeartbeats 4000000 in
set_option maxRecDepth 1000000 in
theorem qe_46_372_1iiiiii_i1_158 {d n : Nat} {T : qS} {l1 : Int32} {l2 : Int32} {l3 : Int32} {l4 : Int32} {l5 : Int32} {l6 : Int32} {s0 : Int32} : qz d 46 n 158 372 [some (za 1 0 0), some (zi l1), some (zi l2), some (zi l3), some (zi l4), some (zi l5), some (zi l6)] [zi s0, za 1 0 0] T = (qx_ret 1 (q_sem zF d 34 [zi (l3 >>> ((zo 3) &&& 31)), zi (zo 100)] T) [zi s0, za 1 0 0] (fun w1 T2 => qz d 46 n 153 380 [some (za 1 0 0), some (zi l1), some (zi l2), some (zi l3), some (zi l4), some (zi l5), some (zi l6)] w1 T2)) := rfl
set_option maxHeartbeats 4000000 in
set_option maxRecDepth 1000000 in
theorem qe_46_328_1iiiiii_i1_161 {d n : Nat} {T : qS} {l1 : Int32} {l2 : Int32} {l3 : Int32} {l4 : Int32} {l5 : Int32} {l6 : Int32} {s0 : Int32} : qz d 46 n 161 328 [some (za 1 0 0), some (zi l1), some (zi l2), some (zi l3), some (zi l4), some (zi l5), some (zi l6)] [zi s0, za 1 0 0] T = (qx_ret 1 (q_sem zF d 34 [zi (l3 >>> ((zo 3) &&& 31)), zi (zo 100)] T) [zi s0, za 1 0 0] (fun w1 T2 => qz d 46 n 156 336 [some (za 1 0 0), some (zi l1), some (zi l2), some (zi l3), some (zi l4), some (zi l5), some (zi l6)] w1 T2)) := rfl
set_option maxHeartbeats 4000000 in
set_option maxRecDepth 1000000 in
theorem qe_46_192_1iiiiii_i_168 {d n : Nat} {T : qS} {l1 : Int32} {l2 : Int32} {l3 : Int32} {l4 : Int32} {l5 : Int32} {l6 : Int32} {s0 : Int32} : qz d 46 n 168 192 [some (za 1 0 0), some (zi l1), some (zi l2), some (zi l3), some (zi l4), some (zi l5), some (zi l6)] [zi s0] T = (if (zo 600) < s0 then (some (some (zi (zo 0)), T)) else (some (some (zi (zo 1)), T))) := rfl
set_option maxHeartbeats 4000000 in
set_option maxRecDepth 1000000 in
theorem qe_46_118_1iiiiii_i_171 {d n : Nat} {T : qS} {l1 : Int32} {l2 : Int32} {l3 : Int32} {l4 : Int32} {l5 : Int32} {l6 : Int32} {s0 : Int32} : qz d 46 n 171 118 [some (za 1 0 0), some (zi l1), some (zi l2), some (zi l3), some (zi l4), some (zi l5), some (zi l6)] [zi s0] T = (if s0 < (zo (-3)) then (some (some (zi (zo 0)), T)) else (some (some (zi (zo 1)), T))) := rfl
set_option maxHeartbeats 4000000 in
set_option maxRecDepth 1000000 in
theorem qe_46_380_1iiiiii_ii1_153 {d n : Nat} {T : qS} {l1 : Int32} {l2 : Int32} {l3 : Int32} {l4 : Int32} {l5 : Int32} {l6 : Int32} {s0 : Int32} {s1 : Int32} : qz d 46 n 153 380 [some (za 1 0 0), some (zi l1), some (zi l2), some (zi l3), some (zi l4), some (zi l5), some (zi l6)] [zi s0, zi s1, za 1 0 0] T = (qz_ret 1 (zr_sem zF d 127 [za 1 0 0, zi s1, zi s0] T.1) T.2 [] (fun w1 T2 => qz d 46 n 152 383 [some (za 1 0 0), some (zi l1), some (zi l2), some (zi l3), some (zi l4), some (zi l5), some (zi l6)] w1 T2)) := rfl
set_option maxHeartbeats 4000000 in
set_option maxRecDepth 1000000 in
theorem qe_46_336_1iiiiii_ii1_156 {d n : Nat} {T : qS} {l1 : Int32} {l2 : Int32} {l3 : Int32} {l4 : Int32} {l5 : Int32} {l6 : Int32} {s0 : Int32} {s1 : Int32} : qz d 46 n 156 336 [some (za 1 0 0), some (zi l1), some (zi l2), some (zi l3), some (zi l4), some (zi l5), some (zi l6)] [zi s0, zi s1, za 1 0 0] T = (qz_ret 1 (zr_sem zF d 126 [za 1 0 0, zi s1, zi s0] T.1) T.2 [] (fun w1 T2 => qz d 46 n 155 339 [some (za 1 0 0), some (zi l1), some (zi l2), some (zi l3), some (zi l4), some (zi l5), some (zi l6)] w1 T2)) := rfl
set_option maxHeartbeats 4000000 in
set_option maxRecDepth 1000000 in
theorem qe_46_383_1iiiiii_i_152 {d n : Nat} {T : qS} {l1 : Int32} {l2 : Int32} {l3 : Int32} {l4 : Int32} {l5 : Int32} {l6 : Int32} {s0 : Int32} : qz d 46 n 152 383 [some (za 1 0 0), some (zi l1), some (zi l2), some (zi l3), some (zi l4), some (zi l5), some (zi l6)] [zi s0] T = (if s0 < (zo 0) then (some (some (zi (zo 0)), T)) else (some (some (zi (zo 1)), T))) := rfl
set_option maxHeartbeats 4000000 in
set_option maxRecDepth 1000000 in
theorem qe_46_339_1iiiiii_i_155 {d n : Nat} {T : qS} {l1 : Int32} {l2 : Int32} {l3 : Int32} {l4 : Int32} {l5 : Int32} {l6 : Int32} {s0 : Int32} : qz d 46 n 155 339 [some (za 1 0 0), some (zi l1), some (zi l2), some (zi l3), some (zi l4), some (zi l5), some (zi l6)] [zi s0] T = (if s0 < (zo 0) then (some (some (zi (zo 0)), T)) else (some (some (zi (zo 1)), T))) := rfl
set_option maxHeartbeats 4000000 in
set_option maxRecDepth 1000000 in
theorem qe_47_8_51ooooooo__166 {d n : Nat} {T : qS}  : qz d 47 n 166 8 [some (za 5 0 0), some (za 1 0 0), none, none, none, none, none, none, none] [] T = (qa_new (zo 6) 0 T (fun v1 T2 => qz d 47 n 164 12 [some (za 5 0 0), some (za 1 0 0), none, none, none, none, none, none, none] (v1 :: []) T2)) := rfl
set_option maxHeartbeats 4000000 in
set_option maxRecDepth 1000000 in
theorem qe_47_12_51ooooooo_8_164 {d n : Nat} {T : qS} {s0 : Nat} : qz d 47 n 164 12 [some (za 5 0 0), some (za 1 0 0), none, none, none, none, none, none, none] [za 8 s0 0] T = (qx_ret 5 (q_sem zF d 39 [za 5 0 0, zi (zo 0)] T) [za 8 s0 0, za 1 0 0] (fun w1 T2 => qz d 47 n 158 20 [some (za 5 0 0), some (za 1 0 0), some (za 8 s0 0), none, none, none, none, none, none] w1 T2)) := rfl
set_option maxHeartbeats 4000000 in
set_option maxRecDepth 1000000 in
theorem qe_47_20_518oooooo_881_158 {d n : Nat} {T : qS} {l2 : Nat} {s0 : Nat} {s1 : Nat} : qz d 47 n 158 20 [some (za 5 0 0), some (za 1 0 0), some (za 8 l2 0), none, none, none, none, none, none] [za 8 s0 0, za 8 s1 0, za 1 0 0] T = (qx_ret 0 (q_sem zF d 37 [za 1 0 0, za 8 s1 0, za 8 s0 0] T) [] (fun w1 T2 => qz d 47 n 157 23 [some (za 5 0 0), some (za 1 0 0), some (za 8 l2 0), none, none, none, none, none, none] w1 T2)) := rfl
set_option maxHeartbeats 4000000 in
set_option maxRecDepth 1000000 in
theorem qe_47_23_518oooooo__157 {d n : Nat} {T : qS} {l2 : Nat} : qz d 47 n 157 23 [some (za 5 0 0), some (za 1 0 0), some (za 8 l2 0), none, none, none, none, none, none] [] T = (qx_ret 1 (q_sem zF d 38 [za 1 0 0, za 8 l2 0] T) [za 1 0 0] (fun w1 T2 => qz d 47 n 153 29 [some (za 5 0 0), some (za 1 0 0), some (za 8 l2 0), none, none, none, none, none, none] w1 T2)) := rfl
set_option maxHeartbeats 4000000 in
set_option maxRecDepth 1000000 in
theorem qe_47_29_518oooooo_i1_153 {d n : Nat} {T : qS} {l2 : Nat} {s0 : Int32} : qz d 47 n 153 29 [some (za 5 0 0), some (za 1 0 0), some (za 8 l2 0), none, none, none, none, none, none] [zi s0, za 1 0 0] T = (qz_ret 1 (zr_sem zF d 90 [za 1 0 0, zi s0] T.1) T.2 [] (fun w1 T2 => qz d 47 n 152 32 [some (za 5 0 0), some (za 1 0 0), some (za 8 l2 0), none, none, none, none, none, none] w1 T2)) := rfl
set_option maxHeartbeats 4000000 in
set_option maxRecDepth 1000000 in
theorem qe_47_32_518oooooo_i_152 {d n : Nat} {T : qS} {l2 : Nat} {s0 : Int32} : qz d 47 n 152 32 [some (za 5 0 0), some (za 1 0 0), some (za 8 l2 0), none, none, none, none, none, none] [zi s0] T = (if s0 < (zo 1) then (some (some (zi (zo 0)), T)) else (qz_ret 1 (zr_sem zF d 93 [za 1 0 0, zi (zo 4)] T.1) T.2 [] (fun w1 T2 => qz d 47 n 145 43 [some (za 5 0 0), some (za 1 0 0), some (za 8 l2 0), some (zi s0), none, none, none, none, none] w1 T2))) := rfl
set_option maxHeartbeats 4000000 in
set_option maxRecDepth 1000000 in
theorem qe_47_43_518iooooo_i_145 {d n : Nat} {T : qS} {l2 : Nat} {l3 : Int32} {s0 : Int32} : qz d 47 n 145 43 [some (za 5 0 0), some (za 1 0 0), some (za 8 l2 0), some (zi l3), none, none, none, none, none] [zi s0] T = (if s0 = l3 then (qx_ret 1 (q_sem zF d 43 [za 1 0 0] T) [] (fun w1 T2 => qz d 47 n 141 51 [some (za 5 0 0), some (za 1 0 0), some (za 8 l2 0), some (zi l3), none, none, none, none, none] w1 T2)) else (some (some (zi (zo 0)), T))) := rfl
set_option maxHeartbeats 4000000 in
set_option maxRecDepth 1000000 in
theorem qe_47_51_518iooooo_i_141 {d n : Nat} {T : qS} {l2 : Nat} {l3 : Int32} {s0 : Int32} : qz d 47 n 141 51 [some (za 5 0 0), some (za 1 0 0), some (za 8 l2 0), some (zi l3), none, none, none, none, none] [zi s0] T = (if s0 = (zo 0) then (some (some (zi (zo 0)), T)) else qy d 47 n 59 [some (za 5 0 0), some (za 1 0 0), none, none, some (zi (zo 0)), none, none, none, none] [] T) := rfl
set_option maxHeartbeats 4000000 in
set_option maxRecDepth 1000000 in
theorem qe_47_59_51ooioooo__166 {d n : Nat} {T : qS} {l4 : Int32} : qz d 47 n 166 59 [some (za 5 0 0), some (za 1 0 0), none, none, some (zi l4), none, none, none, none] [] T = (if (zo 40) ≤ l4 then (qz_ret 0 (zr_sem zF d 136 [za 1 0 0] T.1) T.2 [] (fun w1 T2 => qz d 47 n 161 247 [some (za 5 0 0), some (za 1 0 0), none, none, some (zi l4), none, none, none, none] w1 T2)) else (qx_ret 5 (q_sem zF d 40 [za 1 0 0] T) [] (fun w3 T4 => qz d 47 n 161 70 [some (za 5 0 0), some (za 1 0 0), none, none, some (zi l4), none, none, none, none] w3 T4))) := rfl
set_option maxHeartbeats 4000000 in
set_option maxRecDepth 1000000 in
theorem qe_47_247_51ooioooo__161 {d n : Nat} {T : qS} {l4 : Int32} : qz d 47 n 161 247 [some (za 5 0 0), some (za 1 0 0), none, none, some (zi l4), none, none, none, none] [] T = (qx_ret 5 (q_sem zF d 40 [za 1 0 0] T) [] (fun w1 T2 => qz d 47 n 159 251 [some (za 5 0 0), some (za 1 0 0), none, none, some (zi l4), none, none, none, none] w1 T2)) := rfl
set_option maxHeartbeats 4000000 in
set_option maxRecDepth 1000000 in
theorem qe_47_70_51ooioooo_8_161 {d n : Nat} {T : qS} {l4 : Int32} {s0 : Nat} : qz d 47 n 161 70 [some (za 5 0 0), some (za 1 0 0), none, none, some (zi l4), none, none, none, none] [za 8 s0 0] T = (qz_ret 1 (zr_sem zF d 134 [za 1 0 0] T.1) T.2 [] (fun w1 T2 => qz d 47 n 158 76 [some (za 5 0 0), some (za 1 0 0), none, none, some (zi l4), some (za 8 s0 0), none, none, none] w1 T2)) := rfl
set_option maxHeartbeats 4000000 in
set_option maxRecDepth 1000000 in
theorem qe_47_251_51ooioooo_8_159 {d n : Nat} {T : qS} {l4 : Int32} {s0 : Nat} : qz d 47 n 159 251 [some (za 5 0 0), some (za 1 0 0), none, none, some (zi l4), none, none, none, none] [za 8 s0 0] T = qy d 47 n 256 [some (za 5 0 0), some (za 1 0 0), none, none, some (za 8 s0 0), some (zi (zo 0)), none, none, none] [] T := rfl
set_option maxHeartbeats 4000000 in
set_option maxRecDepth 1000000 in
theorem qe_47_76_51ooi8ooo_i_158 {d n : Nat} {T : qS} {l4 : Int32} {l5 : Nat} {s0 : Int32} : qz d 47 n 158 76 [some (za 5 0 0), some (za 1 0 0), none, none, some (zi l4), some (za 8 l5 0), none, none, none] [zi s0] T = (qz_ret 1 (zr_sem zF d 93 [za 1 0 0, zi (zo 6)] T.1) T.2 [] (fun w1 T2 => qz d 47 n 154 84 [some (za 5 0 0), some (za 1 0 0), none, none, some (zi l4), some (za 8 l5 0), some (zi s0), none, none] w1 T2)) := rfl
set_option maxHeartbeats 4000000 in
set_option maxRecDepth 1000000 in
theorem qe_47_256_51oo8iooo__166 {d n : Nat} {T : qS} {l4 : Nat} {l5 : Int32} : qz d 47 n 166 256 [some (za 5 0 0), some (za 1 0 0), none, none, some (za 8 l4 0), some (zi l5), none, none, none] [] T = (if (zo 5) ≤ l5 then (qz_ret 1 (zr_sem zF d 137 [za 1 0 0] T.1) T.2 [] (fun w1 T2 => qz d 47 n 161 297 [some (za 5 0 0), some (za 1 0 0), none, none, some (za 8 l4 0), some (zi l5), none, none, none] w1 T2)) else (qx_ret 1 (q_sem zF d 35 [za 5 0 0, zi ((zo 44) + l5)] T) [za 1 0 0] (fun w3 T4 => qz d 47 n 157 272 [some (za 5 0 0), some (za 1 0 0), none, none, some (za 8 l4 0), some (zi l5), none, none, none] w3 T4))) := rfl
set_option maxHeartbeats 4000000 in
set_option maxRecDepth 1000000 in
theorem qe_47_84_51ooi8ioo_i_154 {d n : Nat} {T : qS} {l4 : Int32} {l5 : Nat} {l6 : Int32} {s0 : Int32} : qz d 47 n 154 84 [some (za 5 0 0), some (za 1 0 0), none, none, some (zi l4), some (za 8 l5 0), some (zi l6), none, none] [zi s0] T = (qz_ret 1 (zr_sem zF d 93 [za 1 0 0, zi (zo 7)] T.1) T.2 [zi s0] (fun w1 T2 => qz d 47 n 151 90 [some (za 5 0 0), some (za 1 0 0), none, none, some (zi l4), some (za 8 l5 0), some (zi l6), none, none] w1 T2)) := rfl
set_option maxHeartbeats 4000000 in
set_option maxRecDepth 1000000 in
theorem qe_47_297_51oo8iooo_i_161 {d n : Nat} {T : qS} {l4 : Nat} {l5 : Int32} {s0 : Int32} : qz d 47 n 161 297 [some (za 5 0 0), some (za 1 0 0), none, none, some (za 8 l4 0), some (zi l5), none, none, none] [zi s0] T = (if s0 = (zo 0) then (some (some (zi (zo 0)), T)) else (qx_ret 5 (q_sem zF d 40 [za 1 0 0] T) [] (fun w1 T2 => qz d 47 n 158 304 [some (za 5 0 0), some (za 1 0 0), none, none, some (za 8 l4 0), some (zi l5), none, none, none] w1 T2))) := rfl
set_option maxHeartbeats 4000000 in
set_option maxRecDepth 1000000 in
theorem qe_47_272_51oo8iooo_i1_157 {d n : Nat} {T : qS} {l4 : Nat} {l5 : Int32} {s0 : Int32} : qz d 47 n 157 272 [some (za 5 0 0), some (za 1 0 0), none, none, some (za 8 l4 0), some (zi l5), none, none, none] [zi s0, za 1 0 0] T = (qx_ret 1 (q_sem zF d 46 [za 1 0 0, zi s0] T) [] (fun w1 T2 => qz d 47 n 156 275 [some (za 5 0 0), some (za 1 0 0), none, none, some (za 8 l4 0), some (zi l5), none, none, none] w1 T2)) := rfl
set_option maxHeartbeats 4000000 in
set_option maxRecDepth 1000000 in
theorem qe_47_90_51ooi8ioo_ii_151 {d n : Nat} {T : qS} {l4 : Int32} {l5 : Nat} {l6 : Int32} {s0 : Int32} {s1 : Int32} : qz d 47 n 151 90 [some (za 5 0 0), some (za 1 0 0), none, none, some (zi l4), some (za 8 l5 0), some (zi l6), none, none] [zi s0, zi s1] T = (qx_ret 1 (q_sem zF d 35 [za 5 0 0, zi ((zo 4) + l4)] T) [za 1 0 0] (fun w1 T2 => qz d 47 n 143 102 [some (za 5 0 0), some (za 1 0 0), none, none, some (zi l4), some (za 8 l5 0), some (zi l6), some (zi (s1 + s0)), none] w1 T2)) := rfl
set_option maxHeartbeats 4000000 in
set_option maxRecDepth 1000000 in
theorem qe_47_304_51oo8iooo_8_158 {d n : Nat} {T : qS} {l4 : Nat} {l5 : Int32} {s0 : Nat} : qz d 47 n 158 304 [some (za 5 0 0), some (za 1 0 0), none, none, some (za 8 l4 0), some (zi l5), none, none, none] [za 8 s0 0] T = (qx_ret 1 (q_sem zF d 41 [za 8 s0 0, za 8 l4 0] T) [] (fun w1 T2 => qz d 47 n 156 309 [some (za 5 0 0), some (za 1 0 0), none, none, some (za 8 l4 0), some (zi l5), none, none, none] w1 T2)) := rfl
set_option maxHeartbeats 4000000 in
set_option maxRecDepth 1000000 in
theorem qe_47_275_51oo8iooo_i_156 {d n : Nat} {T : qS} {l4 : Nat} {l5 : Int32} {s0 : Int32} : qz d 47 n 156 275 [some (za 5 0 0), some (za 1 0 0), none, none, some (za 8 l4 0), some (zi l5), none, none, none] [zi s0] T = (if s0 = (zo 0) then (some (some (zi (zo 0)), T)) else (qx_ret 1 (q_sem zF d 43 [za 1 0 0] T) [] (fun w1 T2 => qz d 47 n 153 282 [some (za 5 0 0), some (za 1 0 0), none, none, some (za 8 l4 0), some (zi l5), none, none, none] w1 T2))) := rfl
set_option maxHeartbeats 4000000 in
set_option maxRecDepth 1000000 in
theorem qe_47_102_51ooi8iio_i1_143 {d n : Nat} {T : qS} {l4 : Int32} {l5 : Nat} {l6 : Int32} {l7 : Int32} {s0 : Int32} : qz d 47 n 143 102 [some (za 5 0 0), some (za 1 0 0), none, none, some (zi l4), some (za 8 l5 0), some (zi l6), some (zi l7), none] [zi s0, za 1 0 0] T = (qx_ret 1 (q_sem zF d 46 [za 1 0 0, zi s0] T) [] (fun w1 T2 => qz d 47 n 142 105 [some (za 5 0 0), some (za 1 0 0), none, none, some (zi l4), some (za 8 l5 0), some (zi l6), some (zi l7), none] w1 T2)) := rfl
set_option maxHeartbeats 4000000 in
set_option maxRecDepth 1000000 in
theorem qe_47_309_51oo8iooo_i_156 {d n : Nat} {T : qS} {l4 : Nat} {l5 : Int32} {s0 : Int32} : qz d 47 n 156 309 [some (za 5 0 0), some (za 1 0 0), none, none, some (za 8 l4 0), some (zi l5), none, none, none] [zi s0] T = (if s0 = (zo 0) then (some (some (zi (zo 0)), T)) else (qz_ret 1 (zr_sem zF d 134 [za 1 0 0] T.1) T.2 [] (fun w1 T2 => qz d 47 n 153 316 [some (za 5 0 0), some (za 1 0 0), none, none, some (za 8 l4 0), some (zi l5), none, none, none] w1 T2))) := rfl
set_option maxHeartbeats 4000000 in
set_option maxRecDepth 1000000 in
theorem qe_47_282_51oo8iooo_i_153 {d n : Nat} {T : qS} {l4 : Nat} {l5 : Int32} {s0 : Int32} : qz d 47 n 153 282 [some (za 5 0 0), some (za 1 0 0), none, none, some (za 8 l4 0), some (zi l5), none, none, none] [zi s0] T = (if s0 = (zo 0) then (some (some (zi (zo 0)), T)) else qy d 47 n 256 [some (za 5 0 0), some (za 1 0 0), none, none, some (za 8 l4 0), some (zi (l5 + (zo 1))), none, none, none] [] T) := rfl
set_option maxHeartbeats 4000000 in
set_option maxRecDepth 1000000 in
theorem qe_47_105_51ooi8iio_i_142 {d n : Nat} {T : qS} {l4 : Int32} {l5 : Nat} {l6 : Int32} {l7 : Int32} {s0 : Int32} : qz d 47 n 142 105 [some (za 5 0 0), some (za 1 0 0), none, none, some (zi l4), some (za 8 l5 0), some (zi l6), some (zi l7), none] [zi s0] T = (if s0 = (zo 0) then (some (some (zi (zo 0)), T)) else (qx_ret 1 (q_sem zF d 43 [za 1 0 0] T) [] (fun w1 T2 => qz d 47 n 139 112 [some (za 5 0 0), some (za 1 0 0), none, none, some (zi l4), some (za 8 l5 0), some (zi l6), some (zi l7), none] w1 T2))) := rfl
set_option maxHeartbeats 4000000 in
set_option maxRecDepth 1000000 in
theorem qe_47_316_51oo8iooo_i_153 {d n : Nat} {T : qS} {l4 : Nat} {l5 : Int32} {s0 : Int32} : qz d 47 n 153 316 [some (za 5 0 0), some (za 1 0 0), none, none, some (za 8 l4 0), some (zi l5), none, none, none] [zi s0] T = (if s0 = (zo 0) then (qz_ret 1 (zr_sem zF d 135 [za 1 0 0] T.1) T.2 [] (fun w1 T2 => qz d 47 n 150 323 [some (za 5 0 0), some (za 1 0 0), none, none, some (za 8 l4 0), some (zi l5), none, none, none] w1 T2)) else (some (some (zi (zo 0)), T))) := rfl
set_option maxHeartbeats 4000000 in
set_option maxRecDepth 1000000 in
theorem qe_47_112_51ooi8iio_i_139 {d n : Nat} {T : qS} {l4 : Int32} {l5 : Nat} {l6 : Int32} {l7 : Int32} {s0 : Int32} : qz d 47 n 139 112 [some (za 5 0 0), some (za 1 0 0), none, none, some (zi l4), some (za 8 l5 0), some (zi l6), some (zi l7), none] [zi s0] T = (if s0 = (zo 0) then (some (some (zi (zo 0)), T)) else (qz_ret 1 (zr_sem zF d 93 [za 1 0 0, zi (zo 6)] T.1) T.2 [] (fun w1 T2 => qz d 47 n 135 121 [some (za 5 0 0), some (za 1 0 0), none, none, some (zi l4), some (za 8 l5 0), some (zi l6), some (zi l7), none] w1 T2))) := rfl
set_option maxHeartbeats 4000000 in
set_option maxRecDepth 1000000 in
theorem qe_47_323_51oo8iooo_i_150 {d n : Nat} {T : qS} {l4 : Nat} {l5 : Int32} {s0 : Int32} : qz d 47 n 150 323 [some (za 5 0 0), some (za 1 0 0), none, none, some (za 8 l4 0), some (zi l5), none, none, none] [zi s0] T = (if s0 = (zo (-1)) then (some (some (zi (zo 1)), T)) else (some (some (zi (zo 0)), T))) := rfl
set_option maxHeartbeats 4000000 in
set_option maxRecDepth 1000000 in
theorem qe_47_121_51ooi8iio_i_135 {d n : Nat} {T : qS} {l4 : Int32} {l5 : Nat} {l6 : Int32} {l7 : Int32} {s0 : Int32} : qz d 47 n 135 121 [some (za 5 0 0), some (za 1 0 0), none, none, some (zi l4), some (za 8 l5 0), some (zi l6), some (zi l7), none] [zi s0] T = (qz_ret 1 (zr_sem zF d 93 [za 1 0 0, zi (zo 7)] T.1) T.2 [zi s0] (fun w1 T2 => qz d 47 n 132 127 [some (za 5 0 0), some (za 1 0 0), none, none, some (zi l4), some (za 8 l5 0), some (zi l6), some (zi l7), none] w1 T2)) := rfl
set_option maxHeartbeats 4000000 in
set_option maxRecDepth 1000000 in
theorem qe_47_127_51ooi8iio_ii_132 {d n : Nat} {T : qS} {l4 : Int32} {l5 : Nat} {l6 : Int32} {l7 : Int32} {s0 : Int32} {s1 : Int32} : qz d 47 n 132 127 [some (za 5 0 0), some (za 1 0 0), none, none, some (zi l4), some (za 8 l5 0), some (zi l6), some (zi l7), none] [zi s0, zi s1] T = (if l7 ≤ (s1 + s0) then (qx_ret 5 (q_sem zF d 40 [za 1 0 0] T) [] (fun w1 T2 => qz d 47 n 127 139 [some (za 5 0 0), some (za 1 0 0), none, none, some (zi l4), some (za 8 l5 0), some (zi l6), some (zi l7), none] w1 T2)) else (some (some (zi (zo 0)), T))) := rfl
set_option maxHeartbeats 4000000 in
set_option maxRecDepth 1000000 in
theorem qe_47_139_51ooi8iio_8_127 {d n : Nat} {T : qS} {l4 : Int32} {l5 : Nat} {l6 : Int32} {l7 : Int32} {s0 : Nat} : qz d 47 n 127 139 [some (za 5 0 0), some (za 1 0 0), none, none, some (zi l4), some (za 8 l5 0), some (zi l6), some (zi l7), none] [za 8 s0 0] T = (qz_ret 1 (zr_sem zF d 134 [za 1 0 0] T.1) T.2 [] (fun w1 T2 => qz d 47 n 124 145 [some (za 5 0 0), some (za 1 0 0), none, none, some (zi l4), some (za 8 l5 0), some (zi l6), some (zi l7), some (za 8 s0 0)] w1 T2)) := rfl
set_option maxHeartbeats 4000000 in
set_option maxRecDepth 1000000 in
theorem qe_47_145_51ooi8ii8_i_124 {d n : Nat} {T : qS} {l4 : Int32} {l5 : Nat} {l6 : Int32} {l7 : Int32} {l8 : Nat} {s0 : Int32} : qz d 47 n 124 145 [some (za 5 0 0), some (za 1 0 0), none, none, some (zi l4), some (za 8 l5 0), some (zi l6), some (zi l7), some (za 8 l8 0)] [zi s0] T = (if s0 ≤ l6 then (qz_ret 1 (zr_sem zF d 134 [za 1 0 0] T.1) T.2 [] (fun w1 T2 => qz d 47 n 120 213 [some (za 5 0 0), some (za 1 0 0), none, none, some (zi l4), some (za 8 l5 0), some (zi l6), some (zi l7), some (za 8 l8 0)] w1 T2)) else (if (zo 3) = (zo 0) then none else (if (l4 - l4 / (zo 3) * (zo 3)) = (zo 0) then (qz_ret 1 (zr_sem zF d 135 [za 1 0 0] T.1) T.2 [] (fun w5 T6 => qz d 47 n 116 161 [some (za 5 0 0), some (za 1 0 0), none, none, some (zi l4), some (za 8 l5 0), some (zi l6), some (zi l7), some (za 8 l8 0)] w5 T6)) else (qz_ret 1 (zr_sem zF d 134 [za 1 0 0] T.1) T.2 [] (fun w3 T4 => qz d 47 n 116 213 [some (za 5 0 0), some (za 1 0 0), none, none, some (zi l4), some (za 8 l5 0), some (zi l6), some (zi l7), some (za 8 l8 0)] w3 T4))))) := rfl
set_option maxHeartbeats 4000000 in
set_option maxRecDepth 1000000 in
theorem qe_47_213_51ooi8ii8_i_120 {d n : Nat} {T : qS} {l4 : Int32} {l5 : Nat} {l6 : Int32} {l7 : Int32} {l8 : Nat} {s0 : Int32} : qz d 47 n 120 213 [some (za 5 0 0), some (za 1 0 0), none, none, some (zi l4), some (za 8 l5 0), some (zi l6), some (zi l7), some (za 8 l8 0)] [zi s0] T = (if s0 = l6 then (if (zo 10) ≤ l6 then qy d 47 n 59 [some (za 5 0 0), some (za 1 0 0), none, none, some (zi (l4 + (zo 1))), none, none, none, none] [] T else (qx_ret 1 (q_sem zF d 41 [za 8 l5 0, za 8 l8 0] T) [] (fun w1 T2 => qz d 47 n 112 232 [some (za 5 0 0), some (za 1 0 0), none, none, some (zi l4), some (za 8 l5 0), some (zi l6), some (zi l7), some (za 8 l8 0)] w1 T2))) else qy d 47 n 59 [some (za 5 0 0), some (za 1 0 0), none, none, some (zi (l4 + (zo 1))), none, none, none, none] [] T) := rfl
set_option maxHeartbeats 4000000 in
set_option maxRecDepth 1000000 in
theorem qe_47_213_51ooi8ii8_i_116 {d n : Nat} {T : qS} {l4 : Int32} {l5 : Nat} {l6 : Int32} {l7 : Int32} {l8 : Nat} {s0 : Int32} : qz d 47 n 116 213 [some (za 5 0 0), some (za 1 0 0), none, none, some (zi l4), some (za 8 l5 0), some (zi l6), some (zi l7), some (za 8 l8 0)] [zi s0] T = (if s0 = l6 then (if (zo 10) ≤ l6 then qy d 47 n 59 [some (za 5 0 0), some (za 1 0 0), none, none, some (zi (l4 + (zo 1))), none, none, none, none] [] T else (qx_ret 1 (q_sem zF d 41 [za 8 l5 0, za 8 l8 0] T) [] (fun w1 T2 => qz d 47 n 108 232 [some (za 5 0 0), some (za 1 0 0), none, none, some (zi l4), some (za 8 l5 0), some (zi l6), some (zi l7), some (za 8 l8 0)] w1 T2))) else qy d 47 n 59 [some (za 5 0 0), some (za 1 0 0), none, none, some (zi (l4 + (zo 1))), none, none, none, none] [] T) := rfl
set_option maxHeartbeats 4000000 in
set_option maxRecDepth 1000000 in
theorem qe_47_161_51ooi8ii8_i_116 {d n : Nat} {T : qS} {l4 : Int32} {l5 : Nat} {l6 : Int32} {l7 : Int32} {l8 : Nat} {s0 : Int32} : qz d 47 n 116 161 [some (za 5 0 0), some (za 1 0 0), none, none, some (zi l4), some (za 8 l5 0), some (zi l6), some (zi l7), some (za 8 l8 0)] [zi s0] T = (if s0 = l6 then (qx_ret 5 (q_sem zF d 40 [za 1 0 0] T) [] (fun w1 T2 => qz d 47 n 112 170 [some (za 5 0 0), some (za 1 0 0), none, none, some (zi l4), some (za 8 l5 0), some (zi l6), some (zi l7), some (za 8 l8 0)] w1 T2)) else (some (some (zi (zo 0)), T))) := rfl
set_option maxHeartbeats 4000000 in
set_option maxRecDepth 1000000 in
theorem qe_47_232_51ooi8ii8_i_112 {d n : Nat} {T : qS} {l4 : Int32} {l5 : Nat} {l6 : Int32} {l7 : Int32} {l8 : Nat} {s0 : Int32} : qz d 47 n 112 232 [some (za 5 0 0), some (za 1 0 0), none, none, some (zi l4), some (za 8 l5 0), some (zi l6), some (zi l7), some (za 8 l8 0)] [zi s0] T = (if s0 = (zo 0) then (some (some (zi (zo 0)), T)) else qy d 47 n 59 [some (za 5 0 0), some (za 1 0 0), none, none, some (zi (l4 + (zo 1))), none, none, none, none] [] T) := rfl
set_option maxHeartbeats 4000000 in
set_option maxRecDepth 1000000 in
theorem qe_47_232_51ooi8ii8_i_108 {d n : Nat} {T : qS} {l4 : Int32} {l5 : Nat} {l6 : Int32} {l7 : Int32} {l8 : Nat} {s0 : Int32} : qz d 47 n 108 232 [some (za 5 0 0), some (za 1 0 0), none, none, some (zi l4), some (za 8 l5 0), some (zi l6), some (zi l7), some (za 8 l8 0)] [zi s0] T = (if s0 = (zo 0) then (some (some (zi (zo 0)), T)) else qy d 47 n 59 [some (za 5 0 0), some (za 1 0 0), none, none, some (zi (l4 + (zo 1))), none, none, none, none] [] T) := rfl
set_option maxHeartbeats 4000000 in
set_option maxRecDepth 1000000 in
theorem qe_47_170_51ooi8ii8_8_112 {d n : Nat} {T : qS} {l4 : Int32} {l5 : Nat} {l6 : Int32} {l7 : Int32} {l8 : Nat} {s0 : Nat} : qz d 47 n 112 170 [some (za 5 0 0), some (za 1 0 0), none, none, some (zi l4), some (za 8 l5 0), some (zi l6), some (zi l7), some (za 8 l8 0)] [za 8 s0 0] T = (qx_ret 1 (q_sem zF d 41 [za 8 s0 0, za 8 l5 0] T) [] (fun w1 T2 => qz d 47 n 110 175 [some (za 5 0 0), some (za 1 0 0), none, none, some (zi l4), some (za 8 l5 0), some (zi l6), some (zi l7), some (za 8 l8 0)] w1 T2)) := rfl
set_option maxHeartbeats 4000000 in
set_option maxRecDepth 1000000 in
theorem qe_47_175_51ooi8ii8_i_110 {d n : Nat} {T : qS} {l4 : Int32} {l5 : Nat} {l6 : Int32} {l7 : Int32} {l8 : Nat} {s0 : Int32} : qz d 47 n 110 175 [some (za 5 0 0), some (za 1 0 0), none, none, some (zi l4), some (za 8 l5 0), some (zi l6), some (zi l7), some (za 8 l8 0)] [zi s0] T = (if s0 = (zo 0) then (some (some (zi (zo 0)), T)) else (qx_ret 1 (q_sem zF d 35 [za 5 0 0, zi ((zo 4) + l4)] T) [za 1 0 0] (fun w1 T2 => qz d 47 n 103 189 [some (za 5 0 0), some (za 1 0 0), none, none, some (zi l4), some (za 8 l5 0), some (zi l6), some (zi l7), some (za 8 l8 0)] w1 T2))) := rfl
set_option maxHeartbeats 4000000 in
set_option maxRecDepth 1000000 in
theorem qe_47_189_51ooi8ii8_i1_103 {d n : Nat} {T : qS} {l4 : Int32} {l5 : Nat} {l6 : Int32} {l7 : Int32} {l8 : Nat} {s0 : Int32} : qz d 47 n 103 189 [some (za 5 0 0), some (za 1 0 0), none, none, some (zi l4), some (za 8 l5 0), some (zi l6), some (zi l7), some (za 8 l8 0)] [zi s0, za 1 0 0] T = (qx_ret 1 (q_sem zF d 46 [za 1 0 0, zi s0] T) [] (fun w1 T2 => qz d 47 n 102 192 [some (za 5 0 0), some (za 1 0 0), none, none, some (zi l4), some (za 8 l5 0), some (zi l6), some (zi l7), some (za 8 l8 0)] w1 T2)) := rfl
set_option maxHeartbeats 4000000 in
set_option maxRecDepth 1000000 in
theorem qe_47_192_51ooi8ii8_i_102 {d n : Nat} {T : qS} {l4 : Int32} {l5 : Nat} {l6 : Int32} {l7 : Int32} {l8 : Nat} {s0 : Int32} : qz d 47 n 102 192 [some (za 5 0 0), some (za 1 0 0), none, none, some (zi l4), some (za 8 l5 0), some (zi l6), some (zi l7), some (za 8 l8 0)] [zi s0] T = (if s0 = (zo 0) then (some (some (zi (zo 0)), T)) else (qx_ret 5 (q_sem zF d 40 [za 1 0 0] T) [] (fun w1 T2 => qz d 47 n 99 199 [some (za 5 0 0), some (za 1 0 0), none, none, some (zi l4), some (za 8 l5 0), some (zi l6), some (zi l7), some (za 8 l8 0)] w1 T2))) := rfl
set_option maxHeartbeats 4000000 in
set_option maxRecDepth 1000000 in
theorem qe_47_199_51ooi8ii8_8_99 {d n : Nat} {T : qS} {l4 : Int32} {l5 : Nat} {l6 : Int32} {l7 : Int32} {l8 : Nat} {s0 : Nat} : qz d 47 n 99 199 [some (za 5 0 0), some (za 1 0 0), none, none, some (zi l4), some (za 8 l5 0), some (zi l6), some (zi l7), some (za 8 l8 0)] [za 8 s0 0] T = (qx_ret 1 (q_sem zF d 41 [za 8 s0 0, za 8 l8 0] T) [] (fun w1 T2 => qz d 47 n 97 204 [some (za 5 0 0), some (za 1 0 0), none, none, some (zi l4), some (za 8 l5 0), some (zi l6), some (zi l7), some (za 8 l8 0)] w1 T2)) := rfl
set_option maxHeartbeats 4000000 in
set_option maxRecDepth 1000000 in
theorem qe_47_204_51ooi8ii8_i_97 {d n : Nat} {T : qS} {l4 : Int32} {l5 : Nat} {l6 : Int32} {l7 : Int32} {l8 : Nat} {s0 : Int32} : qz d 47 n 97 204 [some (za 5 0 0), some (za 1 0 0), none, none, some (zi l4), some (za 8 l5 0), some (zi l6), some (zi l7), some (za 8 l8 0)] [zi s0] T = (if s0 = (zo 0) then (some (some (zi (zo 0)), T)) else (qz_ret 1 (zr_sem zF d 134 [za 1 0 0] T.1) T.2 [] (fun w1 T2 => qz d 47 n 94 213 [some (za 5 0 0), some (za 1 0 0), none, none, some (zi l4), some (za 8 l5 0), some (zi l6), some (zi l7), some (za 8 l8 0)] w1 T2))) := rfl
set_option maxHeartbeats 4000000 in
set_option maxRecDepth 1000000 in
theorem qe_47_213_51ooi8ii8_i_94 {d n : Nat} {T : qS} {l4 : Int32} {l5 : Nat} {l6 : Int32} {l7 : Int32} {l8 : Nat} {s0 : Int32} : qz d 47 n 94 213 [some (za 5 0 0), some (za 1 0 0), none, none, some (zi l4), some (za 8 l5 0), some (zi l6), some (zi l7), some (za 8 l8 0)] [zi s0] T = (if s0 = l6 then (if (zo 10) ≤ l6 then qy d 47 n 59 [some (za 5 0 0), some (za 1 0 0), none, none, some (zi (l4 + (zo 1))), none, none, none, none] [] T else (qx_ret 1 (q_sem zF d 41 [za 8 l5 0, za 8 l8 0] T) [] (fun w1 T2 => qz d 47 n 86 232 [some (za 5 0 0), some (za 1 0 0), none, none, some (zi l4), some (za 8 l5 0), some (zi l6), some (zi l7), some (za 8 l8 0)] w1 T2))) else qy d 47 n 59 [some (za 5 0 0), some (za 1 0 0), none, none, some (zi (l4 + (zo 1))), none, none, none, none] [] T) := rfl
set_option maxHeartbeats 4000000 in
set_option maxRecDepth 1000000 in
theorem qe_47_232_51ooi8ii8_i_86 {d n : Nat} {T : qS} {l4 : Int32} {l5 : Nat} {l6 : Int32} {l7 : Int32} {l8 : Nat} {s0 : Int32} : qz d 47 n 86 232 [some (za 5 0 0), some (za 1 0 0), none, none, some (zi l4), some (za 8 l5 0), some (zi l6), some (zi l7), some (za 8 l8 0)] [zi s0] T = (if s0 = (zo 0) then (some (some (zi (zo 0)), T)) else qy d 47 n 59 [some (za 5 0 0), some (za 1 0 0), none, none, some (zi (l4 + (zo 1))), none, none, none, none] [] T) := rfl

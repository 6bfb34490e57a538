/-! THE PURE SIDE 59: cases of the main loop (written by tools/gen58.py) -/
set_option maxHeartbeats 4000000 in
set_option maxRecDepth 1000000 in
theorem zM_28 {d k : Nat} {S : zS} {i : Int32} : zMn d (k + 1) 28 (zLV i) S = (if S.1 5 0 1 0 - zo 6 < i then some (.inl (some (zi (zo 1))), S) else za_in i (S.1 5 0 1 0) (zx_sw (S.1 5 0 0 i.toNatClampNeg &&& zo 63) (fun t => zMj d k t (zLV i) S) zTB 3031)) := rfl
set_option maxHeartbeats 4000000 in
set_option maxRecDepth 1000000 in
theorem zMj_454 {d k : Nat} {S : zS} {i : Int32} : zMj d k 454 (zLV i) S = (za_in (i + (zo 1)) (S.1 5 0 1 0) ((za_in (i + (zo 2)) (S.1 5 0 1 0) ((zx_ret1 (zr_sem zF d 299 [za 1 0 0, zi (S.1 5 0 0 ((i + (zo 1))).toNatClampNeg), zi (S.1 5 0 0 ((i + (zo 2))).toNatClampNeg), za 4 0 0] S) (fun x3 S1 => (za_in (i + (zo 1)) (S1.1 5 0 1 0) ((za_in (i + (zo 2)) (S1.1 5 0 1 0) ((zx_ret1 (zr_sem zF d 195 [za 3 0 0, zi (S1.1 5 0 0 ((i + (zo 1))).toNatClampNeg), zi (S1.1 5 0 0 ((i + (zo 2))).toNatClampNeg)] S1) (fun x6 S4 => (zx_ret1 (zr_sem zF d 145 [za 3 0 0] S4) (fun x9 S7 => (if x9 = x3 then (if x3 = (zo 0) then (if (zo 0) = (zo 0) then (if (lg_cmp S7.2.1 (x6).toInt64) = (zo 0) then zMn d k 519 (zLV i) S7 else some (.inl (some (zi (zo 0))), S7)) else none) else zMn d k 519 (zLV i) S7) else some (.inl (some (zi (zo 0))), S7))) zxx)) zxx)))))) zxx))))) := rfl
set_option maxHeartbeats 4000000 in
set_option maxRecDepth 1000000 in
theorem zMj_918 {d k : Nat} {S : zS} {i : Int32} : zMj d k 918 (zLV i) S = (za_in (i + (zo 1)) (S.1 5 0 1 0) ((za_in (i + (zo 2)) (S.1 5 0 1 0) ((za_in (i + (zo 3)) (S.1 5 0 1 0) ((if (S.1 5 0 0 ((i + (zo 3))).toNatClampNeg) = (zo 0) then zMs d k 945 (zLV i) [zi (zo 0), zi (S.1 5 0 0 ((i + (zo 2))).toNatClampNeg), zi (S.1 5 0 0 ((i + (zo 1))).toNatClampNeg), za 1 0 0] S else zMs d k 945 (zLV i) [zi (zo 1), zi (S.1 5 0 0 ((i + (zo 2))).toNatClampNeg), zi (S.1 5 0 0 ((i + (zo 1))).toNatClampNeg), za 1 0 0] S))))))) := rfl
set_option maxHeartbeats 4000000 in
set_option maxRecDepth 1000000 in
theorem zMj_1338 {d k : Nat} {S : zS} {i : Int32} : zMj d k 1338 (zLV i) S = (za_in (i + (zo 1)) (S.1 5 0 1 0) ((za_in (i + (zo 2)) (S.1 5 0 1 0) ((za_in (i + (zo 3)) (S.1 5 0 1 0) ((zx_ret1 (zr_sem zF d 311 [za 1 0 0, zi (S.1 5 0 0 ((i + (zo 1))).toNatClampNeg), zi (S.1 5 0 0 ((i + (zo 2))).toNatClampNeg), zi (S.1 5 0 0 ((i + (zo 3))).toNatClampNeg), za 4 0 0] S) (fun x3 S1 => (za_in (i + (zo 1)) (S1.1 5 0 1 0) ((za_in (i + (zo 2)) (S1.1 5 0 1 0) ((za_in (i + (zo 3)) (S1.1 5 0 1 0) ((zx_ret1 (zr_sem zF d 218 [za 3 0 0, zi (S1.1 5 0 0 ((i + (zo 1))).toNatClampNeg), zi (S1.1 5 0 0 ((i + (zo 2))).toNatClampNeg), zi (S1.1 5 0 0 ((i + (zo 3))).toNatClampNeg)] S1) (fun x6 S4 => (zx_ret1 (zr_sem zF d 145 [za 3 0 0] S4) (fun x9 S7 => (if x9 = x3 then (if x3 = (zo 0) then (if (zo 0) = (zo 0) then (if (lg_cmp S7.2.1 (x6).toInt64) = (zo 0) then zMn d k 1415 (zLV i) S7 else some (.inl (some (zi (zo 0))), S7)) else none) else zMn d k 1415 (zLV i) S7) else some (.inl (some (zi (zo 0))), S7))) zxx)) zxx)))))))) zxx))))))) := rfl
set_option maxHeartbeats 4000000 in
set_option maxRecDepth 1000000 in
theorem zMj_1771 {d k : Nat} {S : zS} {i : Int32} : zMj d k 1771 (zLV i) S = (za_in (i + (zo 1)) (S.1 5 0 1 0) ((zx_ret1 (zr_sem zF d 317 [za 1 0 0, zi (S.1 5 0 0 ((i + (zo 1))).toNatClampNeg), za 4 0 0] S) (fun x3 S1 => (za_in (i + (zo 1)) (S1.1 5 0 1 0) ((zx_ret1 (zr_sem zF d 225 [za 3 0 0, zi (S1.1 5 0 0 ((i + (zo 1))).toNatClampNeg)] S1) (fun x6 S4 => (zx_ret1 (zr_sem zF d 145 [za 3 0 0] S4) (fun x9 S7 => (if x9 = x3 then (if x3 = (zo 0) then (if (zo 0) = (zo 0) then (if (lg_cmp S7.2.1 (x6).toInt64) = (zo 0) then zMn d k 1824 (zLV i) S7 else some (.inl (some (zi (zo 0))), S7)) else none) else zMn d k 1824 (zLV i) S7) else some (.inl (some (zi (zo 0))), S7))) zxx)) zxx)))) zxx))) := rfl
set_option maxHeartbeats 4000000 in
set_option maxRecDepth 1000000 in
theorem zMj_2188 {d k : Nat} {S : zS} {i : Int32} : zMj d k 2188 (zLV i) S = (za_in (i + (zo 1)) (S.1 5 0 1 0) ((za_in (i + (zo 2)) (S.1 5 0 1 0) ((za_in (i + (zo 3)) (S.1 5 0 1 0) ((zx_ret1 (zr_sem zF d 321 [za 1 0 0, zi (S.1 5 0 0 ((i + (zo 1))).toNatClampNeg), zi (S.1 5 0 0 ((i + (zo 2))).toNatClampNeg), zi (S.1 5 0 0 ((i + (zo 3))).toNatClampNeg), za 4 0 0] S) (fun x3 S1 => (za_in (i + (zo 1)) (S1.1 5 0 1 0) ((za_in (i + (zo 2)) (S1.1 5 0 1 0) ((za_in (i + (zo 3)) (S1.1 5 0 1 0) ((zx_ret1 (zr_sem zF d 234 [za 3 0 0, zi (S1.1 5 0 0 ((i + (zo 1))).toNatClampNeg), zi (S1.1 5 0 0 ((i + (zo 2))).toNatClampNeg), zi (S1.1 5 0 0 ((i + (zo 3))).toNatClampNeg)] S1) (fun x6 S4 => (zx_ret1 (zr_sem zF d 145 [za 3 0 0] S4) (fun x9 S7 => (if x9 = x3 then (if x3 = (zo 0) then (if (zo 0) = (zo 0) then (if (lg_cmp S7.2.1 (x6).toInt64) = (zo 0) then zMn d k 2265 (zLV i) S7 else some (.inl (some (zi (zo 0))), S7)) else none) else zMn d k 2265 (zLV i) S7) else some (.inl (some (zi (zo 0))), S7))) zxx)) zxx)))))))) zxx))))))) := rfl
set_option maxHeartbeats 4000000 in
set_option maxRecDepth 1000000 in
theorem zMj_2664 {d k : Nat} {S : zS} {i : Int32} : zMj d k 2664 (zLV i) S = (za_in (i + (zo 1)) (S.1 5 0 1 0) ((za_in (i + (zo 2)) (S.1 5 0 1 0) ((zx_ret1 (zr_sem zF d 328 [za 1 0 0, zi (S.1 5 0 0 ((i + (zo 1))).toNatClampNeg), zi (S.1 5 0 0 ((i + (zo 2))).toNatClampNeg), za 4 0 0] S) (fun x3 S1 => (za_in (i + (zo 1)) (S1.1 5 0 1 0) ((za_in (i + (zo 2)) (S1.1 5 0 1 0) ((zx_ret1 (zr_sem zF d 242 [za 3 0 0, zi (S1.1 5 0 0 ((i + (zo 1))).toNatClampNeg), zi (S1.1 5 0 0 ((i + (zo 2))).toNatClampNeg)] S1) (fun x6 S4 => (zx_ret1 (zr_sem zF d 145 [za 3 0 0] S4) (fun x9 S7 => (if x9 = x3 then (if x3 = (zo 0) then (if (zo 0) = (zo 0) then (if (lg_cmp S7.2.1 (x6).toInt64) = (zo 0) then zMn d k 2729 (zLV i) S7 else some (.inl (some (zi (zo 0))), S7)) else none) else zMn d k 2729 (zLV i) S7) else some (.inl (some (zi (zo 0))), S7))) zxx)) zxx)))))) zxx))))) := rfl
set_option maxHeartbeats 4000000 in
set_option maxRecDepth 1000000 in
theorem zMj_2951 {d k : Nat} {S : zS} {i : Int32} : zMj d k 2951 (zLV i) S = (zx_ret0 (zr_sem zF d 136 [za 1 0 0] S) (fun S1 => (zx_ret0 (zr_sem zF d 252 [za 3 0 0] S1) (fun S3 => zMn d k 3031 (zLV i) S3) zxx)) zxx) := rfl
set_option maxHeartbeats 4000000 in
set_option maxRecDepth 1000000 in
theorem zM_382 {d k : Nat} {S : zS} {i : Int32} : zMn d (k + 1) 382 (zLV i) S = zMn d k 3031 (zLV i) S := rfl
set_option maxHeartbeats 4000000 in
set_option maxRecDepth 1000000 in
theorem zM_847 {d k : Nat} {S : zS} {i : Int32} : zMn d (k + 1) 847 (zLV i) S = zMn d k 3031 (zLV i) S := rfl
set_option maxHeartbeats 4000000 in
set_option maxRecDepth 1000000 in
theorem zM_1415 {d k : Nat} {S : zS} {i : Int32} : zMn d (k + 1) 1415 (zLV i) S = zMn d k 3031 (zLV i) S := rfl
set_option maxHeartbeats 4000000 in
set_option maxRecDepth 1000000 in
theorem zM_1878 {d k : Nat} {S : zS} {i : Int32} : zMn d (k + 1) 1878 (zLV i) S = zMn d k 3031 (zLV i) S := rfl
set_option maxHeartbeats 4000000 in
set_option maxRecDepth 1000000 in
theorem zM_2389 {d k : Nat} {S : zS} {i : Int32} : zMn d (k + 1) 2389 (zLV i) S = zMn d k 3031 (zLV i) S := rfl
set_option maxHeartbeats 4000000 in
set_option maxRecDepth 1000000 in
theorem zM_2841 {d k : Nat} {S : zS} {i : Int32} : zMn d (k + 1) 2841 (zLV i) S = zMn d k 3031 (zLV i) S := rfl

/-! THE PURE SIDE 61: cases of the main loop (written by tools/gen58.py) -/
set_option maxHeartbeats 4000000 in
set_option maxRecDepth 1000000 in
theorem zMj_3031 {d k : Nat} {S : zS} {i : Int32} : zMj d k 3031 (zLV i) S = zMn d k 3031 (zLV i) S := rfl
set_option maxHeartbeats 4000000 in
set_option maxRecDepth 1000000 in
theorem zMj_590 {d k : Nat} {S : zS} {i : Int32} : zMj d k 590 (zLV i) S = (za_in (i + (zo 1)) (S.1 5 0 1 0) ((za_in (i + (zo 2)) (S.1 5 0 1 0) ((zx_ret1 (zr_sem zF d 301 [za 1 0 0, zi (S.1 5 0 0 ((i + (zo 1))).toNatClampNeg), zi (S.1 5 0 0 ((i + (zo 2))).toNatClampNeg), za 4 0 0] S) (fun x3 S1 => (za_in (i + (zo 1)) (S1.1 5 0 1 0) ((za_in (i + (zo 2)) (S1.1 5 0 1 0) ((zx_ret1 (zr_sem zF d 197 [za 3 0 0, zi (S1.1 5 0 0 ((i + (zo 1))).toNatClampNeg), zi (S1.1 5 0 0 ((i + (zo 2))).toNatClampNeg)] S1) (fun x6 S4 => (zx_ret1 (zr_sem zF d 145 [za 3 0 0] S4) (fun x9 S7 => (if x9 = x3 then (if x3 = (zo 0) then (if (zo 0) = (zo 0) then (if (lg_cmp S7.2.1 (x6).toInt64) = (zo 0) then zMn d k 655 (zLV i) S7 else some (.inl (some (zi (zo 0))), S7)) else none) else zMn d k 655 (zLV i) S7) else some (.inl (some (zi (zo 0))), S7))) zxx)) zxx)))))) zxx))))) := rfl
set_option maxHeartbeats 4000000 in
set_option maxRecDepth 1000000 in
theorem zMj_1120 {d k : Nat} {S : zS} {i : Int32} : zMj d k 1120 (zLV i) S = (zx_ret1 (zr_sem zF d 103 [za 1 0 0] S) (fun x3 S1 => (zx_ret1 (zr_sem zF d 205 [za 3 0 0] S1) (fun x6 S4 => (if x3 = x6 then zMn d k 3031 (zLV i) S4 else some (.inl (some (zi (zo 0))), S4))) zxx)) zxx) := rfl
set_option maxHeartbeats 4000000 in
set_option maxRecDepth 1000000 in
theorem zMj_1498 {d k : Nat} {S : zS} {i : Int32} : zMj d k 1498 (zLV i) S = (za_in (i + (zo 1)) (S.1 5 0 1 0) ((zx_ret1 (zr_sem zF d 313 [za 1 0 0, zi (S.1 5 0 0 ((i + (zo 1))).toNatClampNeg), za 4 0 0] S) (fun x3 S1 => (za_in (i + (zo 1)) (S1.1 5 0 1 0) ((zx_ret1 (zr_sem zF d 220 [za 3 0 0, zi (S1.1 5 0 0 ((i + (zo 1))).toNatClampNeg)] S1) (fun x6 S4 => (zx_ret1 (zr_sem zF d 145 [za 3 0 0] S4) (fun x9 S7 => (if x9 = x3 then (if x3 = (zo 0) then (if (zo 0) = (zo 0) then (if (lg_cmp S7.2.1 (x6).toInt64) = (zo 0) then zMn d k 1551 (zLV i) S7 else some (.inl (some (zi (zo 0))), S7)) else none) else zMn d k 1551 (zLV i) S7) else some (.inl (some (zi (zo 0))), S7))) zxx)) zxx)))) zxx))) := rfl
set_option maxHeartbeats 4000000 in
set_option maxRecDepth 1000000 in
theorem zMj_1840 {d k : Nat} {S : zS} {i : Int32} : zMj d k 1840 (zLV i) S = (zx_ret4 (zr_sem zF d 108 [za 1 0 0] S) (fun x3 S1 => (zx_ret4 (zr_sem zF d 227 [za 3 0 0] S1) (fun x6 S4 => (if (Op.cmpValue (FP.dcmp x3 x6) .l) = (zo 0) then zMn d k 1878 (zLV i) S4 else (if (Op.cmpValue (FP.dcmp x3 x3) .l) = (zo 0) then zMn d k 1876 [none, none, none, none, none, none, none, none, none, none] S4 else (if (Op.cmpValue (FP.dcmp x6 x6) .l) = (zo 0) then zMn d k 1876 [none, none, none, none, none, none, none, none, none, none] S4 else zMn d k 1878 (zLV i) S4)))) zxx)) zxx) := rfl
set_option maxHeartbeats 4000000 in
set_option maxRecDepth 1000000 in
theorem zMj_2324 {d k : Nat} {S : zS} {i : Int32} : zMj d k 2324 (zLV i) S = (za_in (i + (zo 1)) (S.1 5 0 1 0) ((za_in (i + (zo 2)) (S.1 5 0 1 0) ((zx_ret1 (zr_sem zF d 323 [za 1 0 0, zi (S.1 5 0 0 ((i + (zo 1))).toNatClampNeg), zi (S.1 5 0 0 ((i + (zo 2))).toNatClampNeg), za 4 0 0] S) (fun x3 S1 => (za_in (i + (zo 1)) (S1.1 5 0 1 0) ((za_in (i + (zo 2)) (S1.1 5 0 1 0) ((zx_ret1 (zr_sem zF d 237 [za 3 0 0, zi (S1.1 5 0 0 ((i + (zo 1))).toNatClampNeg), zi (S1.1 5 0 0 ((i + (zo 2))).toNatClampNeg)] S1) (fun x6 S4 => (zx_ret1 (zr_sem zF d 145 [za 3 0 0] S4) (fun x9 S7 => (if x9 = x3 then (if x3 = (zo 0) then (if (zo 0) = (zo 0) then (if (lg_cmp S7.2.1 (x6).toInt64) = (zo 0) then zMn d k 2389 (zLV i) S7 else some (.inl (some (zi (zo 0))), S7)) else none) else zMn d k 2389 (zLV i) S7) else some (.inl (some (zi (zo 0))), S7))) zxx)) zxx)))))) zxx))))) := rfl
set_option maxHeartbeats 4000000 in
set_option maxRecDepth 1000000 in
theorem zMj_2788 {d k : Nat} {S : zS} {i : Int32} : zMj d k 2788 (zLV i) S = (za_in (i + (zo 1)) (S.1 5 0 1 0) ((zx_ret1 (zr_sem zF d 330 [za 1 0 0, zi (S.1 5 0 0 ((i + (zo 1))).toNatClampNeg), za 4 0 0] S) (fun x3 S1 => (za_in (i + (zo 1)) (S1.1 5 0 1 0) ((zx_ret1 (zr_sem zF d 244 [za 3 0 0, zi (S1.1 5 0 0 ((i + (zo 1))).toNatClampNeg)] S1) (fun x6 S4 => (zx_ret1 (zr_sem zF d 145 [za 3 0 0] S4) (fun x9 S7 => (if x9 = x3 then (if x3 = (zo 0) then (if (zo 0) = (zo 0) then (if (lg_cmp S7.2.1 (x6).toInt64) = (zo 0) then zMn d k 2841 (zLV i) S7 else some (.inl (some (zi (zo 0))), S7)) else none) else zMn d k 2841 (zLV i) S7) else some (.inl (some (zi (zo 0))), S7))) zxx)) zxx)))) zxx))) := rfl
set_option maxHeartbeats 4000000 in
set_option maxRecDepth 1000000 in
theorem zMj_2975 {d k : Nat} {S : zS} {i : Int32} : zMj d k 2975 (zLV i) S = (za_in (i + (zo 1)) (S.1 5 0 1 0) ((zx_ret1 (zr_sem zF d 332 [za 1 0 0, zi (S.1 5 0 0 ((i + (zo 1))).toNatClampNeg), za 4 0 0] S) (fun x3 S1 => (za_in (i + (zo 1)) (S1.1 5 0 1 0) ((zx_ret1 (zr_sem zF d 290 [za 3 0 0, zi (S1.1 5 0 0 ((i + (zo 1))).toNatClampNeg)] S1) (fun x6 S4 => (zx_ret1 (zr_sem zF d 145 [za 3 0 0] S4) (fun x9 S7 => (if x9 = x3 then (if x3 = (zo 0) then (if (zo 0) = (zo 0) then (if (lg_cmp S7.2.1 (x6).toInt64) = (zo 0) then zMn d k 3028 (zLV i) S7 else some (.inl (some (zi (zo 0))), S7)) else none) else zMn d k 3028 (zLV i) S7) else some (.inl (some (zi (zo 0))), S7))) zxx)) zxx)))) zxx))) := rfl
set_option maxHeartbeats 4000000 in
set_option maxRecDepth 1000000 in
theorem zM_519 {d k : Nat} {S : zS} {i : Int32} : zMn d (k + 1) 519 (zLV i) S = zMn d k 3031 (zLV i) S := rfl
set_option maxHeartbeats 4000000 in
set_option maxRecDepth 1000000 in
theorem zM_1033 {d k : Nat} {S : zS} {i : Int32} : zMn d (k + 1) 1033 (zLV i) S = zMn d k 3031 (zLV i) S := rfl
set_option maxHeartbeats 4000000 in
set_option maxRecDepth 1000000 in
theorem zM_1551 {d k : Nat} {S : zS} {i : Int32} : zMn d (k + 1) 1551 (zLV i) S = zMn d k 3031 (zLV i) S := rfl
set_option maxHeartbeats 4000000 in
set_option maxRecDepth 1000000 in
theorem zM_2013 {d k : Nat} {S : zS} {i : Int32} : zMn d (k + 1) 2013 (zLV i) S = zMn d k 3031 (zLV i) S := rfl
set_option maxHeartbeats 4000000 in
set_option maxRecDepth 1000000 in
theorem zM_2537 {d k : Nat} {S : zS} {i : Int32} : zMn d (k + 1) 2537 (zLV i) S = zMn d k 3031 (zLV i) S := rfl
set_option maxHeartbeats 4000000 in
set_option maxRecDepth 1000000 in
theorem zM_3028 {d k : Nat} {S : zS} {i : Int32} : zMn d (k + 1) 3028 (zLV i) S = zMn d k 3031 (zLV i) S := rfl

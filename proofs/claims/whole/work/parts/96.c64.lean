/-! THE PURE SIDE 64: cases of the main loop (written by tools/gen58.py) -/
set_option maxHeartbeats 4000000 in
set_option maxRecDepth 1000000 in
theorem zMj_385 {d k : Nat} {S : zS} {i : Int32} : zMj d k 385 (zLV i) S = (zx_ret1 (zr_sem zF d 91 [za 1 0 0] S) (fun x3 S1 => (zx_ret1 (zr_sem zF d 255 [za 3 0 0] S1) (fun x6 S4 => (if x3 = x6 then zMn d k 3031 (zLV i) S4 else some (.inl (some (zi (zo 0))), S4))) zxx)) zxx) := rfl
set_option maxHeartbeats 4000000 in
set_option maxRecDepth 1000000 in
theorem zMj_794 {d k : Nat} {S : zS} {i : Int32} : zMj d k 794 (zLV i) S = (za_in (i + (zo 1)) (S.1 5 0 1 0) ((zx_ret1 (zr_sem zF d 304 [za 1 0 0, zi (S.1 5 0 0 ((i + (zo 1))).toNatClampNeg), za 4 0 0] S) (fun x3 S1 => (za_in (i + (zo 1)) (S1.1 5 0 1 0) ((zx_ret1 (zr_sem zF d 200 [za 3 0 0, zi (S1.1 5 0 0 ((i + (zo 1))).toNatClampNeg)] S1) (fun x6 S4 => (zx_ret1 (zr_sem zF d 145 [za 3 0 0] S4) (fun x9 S7 => (if x9 = x3 then (if x3 = (zo 0) then (if (zo 0) = (zo 0) then (if (lg_cmp S7.2.1 (x6).toInt64) = (zo 0) then zMn d k 847 (zLV i) S7 else some (.inl (some (zi (zo 0))), S7)) else none) else zMn d k 847 (zLV i) S7) else some (.inl (some (zi (zo 0))), S7))) zxx)) zxx)))) zxx))) := rfl
set_option maxHeartbeats 4000000 in
set_option maxRecDepth 1000000 in
theorem zMj_1269 {d k : Nat} {S : zS} {i : Int32} : zMj d k 1269 (zLV i) S = (zx_ret1 (zr_sem zF d 106 [za 1 0 0] S) (fun x3 S1 => (zx_ret1 (zr_sem zF d 210 [za 3 0 0] S1) (fun x6 S4 => (if x3 = x6 then zMn d k 3031 (zLV i) S4 else some (.inl (some (zi (zo 0))), S4))) zxx)) zxx) := rfl
set_option maxHeartbeats 4000000 in
set_option maxRecDepth 1000000 in
theorem zMj_1647 {d k : Nat} {S : zS} {i : Int32} : zMj d k 1647 (zLV i) S = (za_in (i + (zo 1)) (S.1 5 0 1 0) ((zx_ret1 (zr_sem zF d 315 [za 1 0 0, zi (S.1 5 0 0 ((i + (zo 1))).toNatClampNeg), za 4 0 0] S) (fun x3 S1 => (za_in (i + (zo 1)) (S1.1 5 0 1 0) ((zx_ret1 (zr_sem zF d 223 [za 3 0 0, zi (S1.1 5 0 0 ((i + (zo 1))).toNatClampNeg)] S1) (fun x6 S4 => (zx_ret1 (zr_sem zF d 145 [za 3 0 0] S4) (fun x9 S7 => (if x9 = x3 then (if x3 = (zo 0) then (if (zo 0) = (zo 0) then (if (lg_cmp S7.2.1 (x6).toInt64) = (zo 0) then zMn d k 1700 (zLV i) S7 else some (.inl (some (zi (zo 0))), S7)) else none) else zMn d k 1700 (zLV i) S7) else some (.inl (some (zi (zo 0))), S7))) zxx)) zxx)))) zxx))) := rfl
set_option maxHeartbeats 4000000 in
set_option maxRecDepth 1000000 in
theorem zMj_2016 {d k : Nat} {S : zS} {i : Int32} : zMj d k 2016 (zLV i) S = (za_in (i + (zo 1)) (S.1 5 0 1 0) ((za_in (i + (zo 2)) (S.1 5 0 1 0) ((za_in (i + (zo 3)) (S.1 5 0 1 0) ((zx_ret1 (zr_sem zF d 319 [za 1 0 0, zi (S.1 5 0 0 ((i + (zo 1))).toNatClampNeg), zi (S.1 5 0 0 ((i + (zo 2))).toNatClampNeg), zi (S.1 5 0 0 ((i + (zo 3))).toNatClampNeg), za 4 0 0] S) (fun x3 S1 => (za_in (i + (zo 1)) (S1.1 5 0 1 0) ((za_in (i + (zo 2)) (S1.1 5 0 1 0) ((za_in (i + (zo 3)) (S1.1 5 0 1 0) ((zx_ret1 (zr_sem zF d 232 [za 3 0 0, zi (S1.1 5 0 0 ((i + (zo 1))).toNatClampNeg), zi (S1.1 5 0 0 ((i + (zo 2))).toNatClampNeg), zi (S1.1 5 0 0 ((i + (zo 3))).toNatClampNeg)] S1) (fun x6 S4 => (zx_ret1 (zr_sem zF d 145 [za 3 0 0] S4) (fun x9 S7 => (if x9 = x3 then (if x3 = (zo 0) then (if (zo 0) = (zo 0) then (if (lg_cmp S7.2.1 (x6).toInt64) = (zo 0) then zMn d k 2093 (zLV i) S7 else some (.inl (some (zi (zo 0))), S7)) else none) else zMn d k 2093 (zLV i) S7) else some (.inl (some (zi (zo 0))), S7))) zxx)) zxx)))))))) zxx))))))) := rfl
set_option maxHeartbeats 4000000 in
set_option maxRecDepth 1000000 in
theorem zMj_2540 {d k : Nat} {S : zS} {i : Int32} : zMj d k 2540 (zLV i) S = (za_in (i + (zo 1)) (S.1 5 0 1 0) ((za_in (i + (zo 2)) (S.1 5 0 1 0) ((zx_ret1 (zr_sem zF d 326 [za 1 0 0, zi (S.1 5 0 0 ((i + (zo 1))).toNatClampNeg), zi (S.1 5 0 0 ((i + (zo 2))).toNatClampNeg), za 4 0 0] S) (fun x3 S1 => (za_in (i + (zo 1)) (S1.1 5 0 1 0) ((za_in (i + (zo 2)) (S1.1 5 0 1 0) ((zx_ret1 (zr_sem zF d 240 [za 3 0 0, zi (S1.1 5 0 0 ((i + (zo 1))).toNatClampNeg), zi (S1.1 5 0 0 ((i + (zo 2))).toNatClampNeg)] S1) (fun x6 S4 => (zx_ret1 (zr_sem zF d 145 [za 3 0 0] S4) (fun x9 S7 => (if x9 = x3 then (if x3 = (zo 0) then (if (zo 0) = (zo 0) then (if (lg_cmp S7.2.1 (x6).toInt64) = (zo 0) then zMn d k 2605 (zLV i) S7 else some (.inl (some (zi (zo 0))), S7)) else none) else zMn d k 2605 (zLV i) S7) else some (.inl (some (zi (zo 0))), S7))) zxx)) zxx)))))) zxx))))) := rfl
set_option maxHeartbeats 4000000 in
set_option maxRecDepth 1000000 in
theorem zMj_2925 {d k : Nat} {S : zS} {i : Int32} : zMj d k 2925 (zLV i) S = (zx_ret1 (zr_sem zF d 134 [za 1 0 0] S) (fun x3 S1 => (zx_ret1 (zr_sem zF d 250 [za 3 0 0] S1) (fun x6 S4 => (if x3 = x6 then zMn d k 3031 (zLV i) S4 else some (.inl (some (zi (zo 0))), S4))) zxx)) zxx) := rfl
set_option maxHeartbeats 4000000 in
set_option maxRecDepth 1000000 in
theorem zMs_1057 {d k : Nat} {S : zS} {i : Int32} {q r p l6 : Int32} : zMs d (k + 1) 1057 (zLV i) [zi q, zi p, za 1 0 0] S = (zx_ret1 (zr_sem zF d 307 [za 1 0 0, zi p, zi q, za 4 0 0] S) (fun x3 S1 => (za_in (i + (zo 1)) (S1.1 5 0 1 0) ((za_in (i + (zo 2)) (S1.1 5 0 1 0) ((if (S1.1 5 0 0 ((i + (zo 2))).toNatClampNeg) = (zo 0) then zMs d k 1084 [some (za 5 0 0), some (za 1 0 0), some (za 3 0 0), some (za 4 0 0), some (za 4 0 1), some (zi i), some (zi x3), none, none, none] [zi (zo 0), zi (S1.1 5 0 0 ((i + (zo 1))).toNatClampNeg), za 3 0 0] S1 else zMs d k 1084 [some (za 5 0 0), some (za 1 0 0), some (za 3 0 0), some (za 4 0 0), some (za 4 0 1), some (zi i), some (zi x3), none, none, none] [zi (zo 1), zi (S1.1 5 0 0 ((i + (zo 1))).toNatClampNeg), za 3 0 0] S1)))))) zxx) := rfl
set_option maxHeartbeats 4000000 in
set_option maxRecDepth 1000000 in
theorem zM_723 {d k : Nat} {S : zS} {i : Int32} : zMn d (k + 1) 723 (zLV i) S = zMn d k 3031 (zLV i) S := rfl
set_option maxHeartbeats 4000000 in
set_option maxRecDepth 1000000 in
theorem zM_1266 {d k : Nat} {S : zS} {i : Int32} : zMn d (k + 1) 1266 (zLV i) S = zMn d k 3031 (zLV i) S := rfl
set_option maxHeartbeats 4000000 in
set_option maxRecDepth 1000000 in
theorem zM_1768 {d k : Nat} {S : zS} {i : Int32} : zMn d (k + 1) 1768 (zLV i) S = zMn d k 3031 (zLV i) S := rfl
set_option maxHeartbeats 4000000 in
set_option maxRecDepth 1000000 in
theorem zM_2265 {d k : Nat} {S : zS} {i : Int32} : zMn d (k + 1) 2265 (zLV i) S = zMn d k 3031 (zLV i) S := rfl
set_option maxHeartbeats 4000000 in
set_option maxRecDepth 1000000 in
theorem zM_2729 {d k : Nat} {S : zS} {i : Int32} : zMn d (k + 1) 2729 (zLV i) S = zMn d k 3031 (zLV i) S := rfl

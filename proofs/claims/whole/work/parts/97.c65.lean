/-! THE PURE SIDE 65: cases of the main loop (written by tools/gen58.py) -/
set_option maxHeartbeats 4000000 in
set_option maxRecDepth 1000000 in
theorem zMj_398 {d k : Nat} {S : zS} {i : Int32} : zMj d k 398 (zLV i) S = (za_in (i + (zo 1)) (S.1 5 0 1 0) ((zx_ret1 (zr_sem zF d 298 [za 1 0 0, zi (S.1 5 0 0 ((i + (zo 1))).toNatClampNeg), za 4 0 0] S) (fun x3 S1 => (za_in (i + (zo 1)) (S1.1 5 0 1 0) ((zx_ret1 (zr_sem zF d 193 [za 3 0 0, zi (S1.1 5 0 0 ((i + (zo 1))).toNatClampNeg)] S1) (fun x6 S4 => (zx_ret1 (zr_sem zF d 145 [za 3 0 0] S4) (fun x9 S7 => (if x9 = x3 then (if x3 = (zo 0) then (if (zo 0) = (zo 0) then (if (lg_cmp S7.2.1 (x6).toInt64) = (zo 0) then zMn d k 451 (zLV i) S7 else some (.inl (some (zi (zo 0))), S7)) else none) else zMn d k 451 (zLV i) S7) else some (.inl (some (zi (zo 0))), S7))) zxx)) zxx)))) zxx))) := rfl
set_option maxHeartbeats 4000000 in
set_option maxRecDepth 1000000 in
theorem zMj_850 {d k : Nat} {S : zS} {i : Int32} : zMj d k 850 (zLV i) S = (za_in (i + (zo 1)) (S.1 5 0 1 0) ((za_in (i + (zo 2)) (S.1 5 0 1 0) ((zx_ret1 (zr_sem zF d 305 [za 1 0 0, zi (S.1 5 0 0 ((i + (zo 1))).toNatClampNeg), zi (S.1 5 0 0 ((i + (zo 2))).toNatClampNeg), za 4 0 0] S) (fun x3 S1 => (za_in (i + (zo 1)) (S1.1 5 0 1 0) ((za_in (i + (zo 2)) (S1.1 5 0 1 0) ((zx_ret1 (zr_sem zF d 202 [za 3 0 0, zi (S1.1 5 0 0 ((i + (zo 1))).toNatClampNeg), zi (S1.1 5 0 0 ((i + (zo 2))).toNatClampNeg)] S1) (fun x6 S4 => (zx_ret1 (zr_sem zF d 145 [za 3 0 0] S4) (fun x9 S7 => (if x9 = x3 then (if x3 = (zo 0) then (if (zo 0) = (zo 0) then (if (lg_cmp S7.2.1 (x6).toInt64) = (zo 0) then zMn d k 915 (zLV i) S7 else some (.inl (some (zi (zo 0))), S7)) else none) else zMn d k 915 (zLV i) S7) else some (.inl (some (zi (zo 0))), S7))) zxx)) zxx)))))) zxx))))) := rfl
set_option maxHeartbeats 4000000 in
set_option maxRecDepth 1000000 in
theorem zMj_1282 {d k : Nat} {S : zS} {i : Int32} : zMj d k 1282 (zLV i) S = (za_in (i + (zo 1)) (S.1 5 0 1 0) ((zx_ret1 (zr_sem zF d 310 [za 1 0 0, zi (S.1 5 0 0 ((i + (zo 1))).toNatClampNeg), za 4 0 0] S) (fun x3 S1 => (za_in (i + (zo 1)) (S1.1 5 0 1 0) ((zx_ret1 (zr_sem zF d 211 [za 3 0 0, zi (S1.1 5 0 0 ((i + (zo 1))).toNatClampNeg)] S1) (fun x6 S4 => (zx_ret1 (zr_sem zF d 145 [za 3 0 0] S4) (fun x9 S7 => (if x9 = x3 then (if x3 = (zo 0) then (if (zo 0) = (zo 0) then (if (lg_cmp S7.2.1 (x6).toInt64) = (zo 0) then zMn d k 1335 (zLV i) S7 else some (.inl (some (zi (zo 0))), S7)) else none) else zMn d k 1335 (zLV i) S7) else some (.inl (some (zi (zo 0))), S7))) zxx)) zxx)))) zxx))) := rfl
set_option maxHeartbeats 4000000 in
set_option maxRecDepth 1000000 in
theorem zMj_1703 {d k : Nat} {S : zS} {i : Int32} : zMj d k 1703 (zLV i) S = (za_in (i + (zo 1)) (S.1 5 0 1 0) ((za_in (i + (zo 2)) (S.1 5 0 1 0) ((zx_ret1 (zr_sem zF d 316 [za 1 0 0, zi (S.1 5 0 0 ((i + (zo 1))).toNatClampNeg), zi (S.1 5 0 0 ((i + (zo 2))).toNatClampNeg), za 4 0 0] S) (fun x3 S1 => (za_in (i + (zo 1)) (S1.1 5 0 1 0) ((za_in (i + (zo 2)) (S1.1 5 0 1 0) ((zx_ret1 (zr_sem zF d 224 [za 3 0 0, zi (S1.1 5 0 0 ((i + (zo 1))).toNatClampNeg), zi (S1.1 5 0 0 ((i + (zo 2))).toNatClampNeg)] S1) (fun x6 S4 => (zx_ret1 (zr_sem zF d 145 [za 3 0 0] S4) (fun x9 S7 => (if x9 = x3 then (if x3 = (zo 0) then (if (zo 0) = (zo 0) then (if (lg_cmp S7.2.1 (x6).toInt64) = (zo 0) then zMn d k 1768 (zLV i) S7 else some (.inl (some (zi (zo 0))), S7)) else none) else zMn d k 1768 (zLV i) S7) else some (.inl (some (zi (zo 0))), S7))) zxx)) zxx)))))) zxx))))) := rfl
set_option maxHeartbeats 4000000 in
set_option maxRecDepth 1000000 in
theorem zMj_2096 {d k : Nat} {S : zS} {i : Int32} : zMj d k 2096 (zLV i) S = (za_in (i + (zo 1)) (S.1 5 0 1 0) ((za_in (i + (zo 2)) (S.1 5 0 1 0) ((za_in (i + (zo 3)) (S.1 5 0 1 0) ((za_in (i + (zo 4)) (S.1 5 0 1 0) ((zx_ret1 (zr_sem zF d 320 [za 1 0 0, zi (S.1 5 0 0 ((i + (zo 1))).toNatClampNeg), zi (S.1 5 0 0 ((i + (zo 2))).toNatClampNeg), zi (S.1 5 0 0 ((i + (zo 3))).toNatClampNeg), zi (S.1 5 0 0 ((i + (zo 4))).toNatClampNeg), za 4 0 0] S) (fun x3 S1 => (za_in (i + (zo 1)) (S1.1 5 0 1 0) ((za_in (i + (zo 2)) (S1.1 5 0 1 0) ((za_in (i + (zo 3)) (S1.1 5 0 1 0) ((za_in (i + (zo 4)) (S1.1 5 0 1 0) ((zx_ret1 (zr_sem zF d 233 [za 3 0 0, zi (S1.1 5 0 0 ((i + (zo 1))).toNatClampNeg), zi (S1.1 5 0 0 ((i + (zo 2))).toNatClampNeg), zi (S1.1 5 0 0 ((i + (zo 3))).toNatClampNeg), zi (S1.1 5 0 0 ((i + (zo 4))).toNatClampNeg)] S1) (fun x6 S4 => (zx_ret1 (zr_sem zF d 145 [za 3 0 0] S4) (fun x9 S7 => (if x9 = x3 then (if x3 = (zo 0) then (if (zo 0) = (zo 0) then (if (lg_cmp S7.2.1 (x6).toInt64) = (zo 0) then zMn d k 2185 (zLV i) S7 else some (.inl (some (zi (zo 0))), S7)) else none) else zMn d k 2185 (zLV i) S7) else some (.inl (some (zi (zo 0))), S7))) zxx)) zxx)))))))))) zxx))))))))) := rfl
set_option maxHeartbeats 4000000 in
set_option maxRecDepth 1000000 in
theorem zMj_2608 {d k : Nat} {S : zS} {i : Int32} : zMj d k 2608 (zLV i) S = (za_in (i + (zo 1)) (S.1 5 0 1 0) ((zx_ret1 (zr_sem zF d 327 [za 1 0 0, zi (S.1 5 0 0 ((i + (zo 1))).toNatClampNeg), za 4 0 0] S) (fun x3 S1 => (za_in (i + (zo 1)) (S1.1 5 0 1 0) ((zx_ret1 (zr_sem zF d 241 [za 3 0 0, zi (S1.1 5 0 0 ((i + (zo 1))).toNatClampNeg)] S1) (fun x6 S4 => (zx_ret1 (zr_sem zF d 145 [za 3 0 0] S4) (fun x9 S7 => (if x9 = x3 then (if x3 = (zo 0) then (if (zo 0) = (zo 0) then (if (lg_cmp S7.2.1 (x6).toInt64) = (zo 0) then zMn d k 2661 (zLV i) S7 else some (.inl (some (zi (zo 0))), S7)) else none) else zMn d k 2661 (zLV i) S7) else some (.inl (some (zi (zo 0))), S7))) zxx)) zxx)))) zxx))) := rfl
set_option maxHeartbeats 4000000 in
set_option maxRecDepth 1000000 in
theorem zMj_2938 {d k : Nat} {S : zS} {i : Int32} : zMj d k 2938 (zLV i) S = (zx_ret1 (zr_sem zF d 135 [za 1 0 0] S) (fun x3 S1 => (zx_ret1 (zr_sem zF d 251 [za 3 0 0] S1) (fun x6 S4 => (if x3 = x6 then zMn d k 3031 (zLV i) S4 else some (.inl (some (zi (zo 0))), S4))) zxx)) zxx) := rfl
set_option maxHeartbeats 4000000 in
set_option maxRecDepth 1000000 in
theorem zMs_1084 {d k : Nat} {S : zS} {i : Int32} {q r p l6 : Int32} : zMs d (k + 1) 1084 [some (za 5 0 0), some (za 1 0 0), some (za 3 0 0), some (za 4 0 0), some (za 4 0 1), some (zi i), some (zi l6), none, none, none] [zi q, zi p, za 3 0 0] S = (zx_ret1 (zr_sem zF d 204 [za 3 0 0, zi p, zi q] S) (fun x3 S1 => (zx_ret1 (zr_sem zF d 145 [za 3 0 0] S1) (fun x6 S4 => (if x6 = l6 then (if l6 = (zo 0) then (if (zo 0) = (zo 0) then (if (lg_cmp S4.2.1 (x3).toInt64) = (zo 0) then zMn d k 1117 (zLV i) S4 else some (.inl (some (zi (zo 0))), S4)) else none) else zMn d k 1117 (zLV i) S4) else some (.inl (some (zi (zo 0))), S4))) zxx)) zxx) := rfl
set_option maxHeartbeats 4000000 in
set_option maxRecDepth 1000000 in
theorem zM_791 {d k : Nat} {S : zS} {i : Int32} : zMn d (k + 1) 791 (zLV i) S = zMn d k 3031 (zLV i) S := rfl
set_option maxHeartbeats 4000000 in
set_option maxRecDepth 1000000 in
theorem zM_1335 {d k : Nat} {S : zS} {i : Int32} : zMn d (k + 1) 1335 (zLV i) S = zMn d k 3031 (zLV i) S := rfl
set_option maxHeartbeats 4000000 in
set_option maxRecDepth 1000000 in
theorem zM_1824 {d k : Nat} {S : zS} {i : Int32} : zMn d (k + 1) 1824 (zLV i) S = zMn d k 3031 (zLV i) S := rfl
set_option maxHeartbeats 4000000 in
set_option maxRecDepth 1000000 in
theorem zM_2321 {d k : Nat} {S : zS} {i : Int32} : zMn d (k + 1) 2321 (zLV i) S = zMn d k 3031 (zLV i) S := rfl
set_option maxHeartbeats 4000000 in
set_option maxRecDepth 1000000 in
theorem zM_2785 {d k : Nat} {S : zS} {i : Int32} : zMn d (k + 1) 2785 (zLV i) S = zMn d k 3031 (zLV i) S := rfl

/-! THE PURE SIDE 60: cases of the main loop (written by tools/gen58.py) -/
set_option maxHeartbeats 4000000 in
set_option maxRecDepth 1000000 in
theorem zM_3031 {d k : Nat} {S : zS} {i : Int32} : zMn d (k + 1) 3031 (zLV i) S = zMn d k 28 (zLV (i + zo 6)) S := rfl
set_option maxHeartbeats 4000000 in
set_option maxRecDepth 1000000 in
theorem zMj_522 {d k : Nat} {S : zS} {i : Int32} : zMj d k 522 (zLV i) S = (za_in (i + (zo 1)) (S.1 5 0 1 0) ((za_in (i + (zo 2)) (S.1 5 0 1 0) ((zx_ret1 (zr_sem zF d 300 [za 1 0 0, zi (S.1 5 0 0 ((i + (zo 1))).toNatClampNeg), zi (S.1 5 0 0 ((i + (zo 2))).toNatClampNeg), za 4 0 0] S) (fun x3 S1 => (za_in (i + (zo 1)) (S1.1 5 0 1 0) ((za_in (i + (zo 2)) (S1.1 5 0 1 0) ((zx_ret1 (zr_sem zF d 196 [za 3 0 0, zi (S1.1 5 0 0 ((i + (zo 1))).toNatClampNeg), zi (S1.1 5 0 0 ((i + (zo 2))).toNatClampNeg)] S1) (fun x6 S4 => (zx_ret1 (zr_sem zF d 145 [za 3 0 0] S4) (fun x9 S7 => (if x9 = x3 then (if x3 = (zo 0) then (if (zo 0) = (zo 0) then (if (lg_cmp S7.2.1 (x6).toInt64) = (zo 0) then zMn d k 587 (zLV i) S7 else some (.inl (some (zi (zo 0))), S7)) else none) else zMn d k 587 (zLV i) S7) else some (.inl (some (zi (zo 0))), S7))) zxx)) zxx)))))) zxx))))) := rfl
set_option maxHeartbeats 4000000 in
set_option maxRecDepth 1000000 in
theorem zMj_1036 {d k : Nat} {S : zS} {i : Int32} : zMj d k 1036 (zLV i) S = (za_in (i + (zo 1)) (S.1 5 0 1 0) ((za_in (i + (zo 2)) (S.1 5 0 1 0) ((if (S.1 5 0 0 ((i + (zo 2))).toNatClampNeg) = (zo 0) then zMs d k 1057 (zLV i) [zi (zo 0), zi (S.1 5 0 0 ((i + (zo 1))).toNatClampNeg), za 1 0 0] S else zMs d k 1057 (zLV i) [zi (zo 1), zi (S.1 5 0 0 ((i + (zo 1))).toNatClampNeg), za 1 0 0] S))))) := rfl
set_option maxHeartbeats 4000000 in
set_option maxRecDepth 1000000 in
theorem zMj_1418 {d k : Nat} {S : zS} {i : Int32} : zMj d k 1418 (zLV i) S = (za_in (i + (zo 1)) (S.1 5 0 1 0) ((za_in (i + (zo 2)) (S.1 5 0 1 0) ((za_in (i + (zo 3)) (S.1 5 0 1 0) ((zx_ret1 (zr_sem zF d 312 [za 1 0 0, zi (S.1 5 0 0 ((i + (zo 1))).toNatClampNeg), zi (S.1 5 0 0 ((i + (zo 2))).toNatClampNeg), zi (S.1 5 0 0 ((i + (zo 3))).toNatClampNeg), za 4 0 0] S) (fun x3 S1 => (za_in (i + (zo 1)) (S1.1 5 0 1 0) ((za_in (i + (zo 2)) (S1.1 5 0 1 0) ((za_in (i + (zo 3)) (S1.1 5 0 1 0) ((zx_ret1 (zr_sem zF d 219 [za 3 0 0, zi (S1.1 5 0 0 ((i + (zo 1))).toNatClampNeg), zi (S1.1 5 0 0 ((i + (zo 2))).toNatClampNeg), zi (S1.1 5 0 0 ((i + (zo 3))).toNatClampNeg)] S1) (fun x6 S4 => (zx_ret1 (zr_sem zF d 145 [za 3 0 0] S4) (fun x9 S7 => (if x9 = x3 then (if x3 = (zo 0) then (if (zo 0) = (zo 0) then (if (lg_cmp S7.2.1 (x6).toInt64) = (zo 0) then zMn d k 1495 (zLV i) S7 else some (.inl (some (zi (zo 0))), S7)) else none) else zMn d k 1495 (zLV i) S7) else some (.inl (some (zi (zo 0))), S7))) zxx)) zxx)))))))) zxx))))))) := rfl
set_option maxHeartbeats 4000000 in
set_option maxRecDepth 1000000 in
theorem zMj_1827 {d k : Nat} {S : zS} {i : Int32} : zMj d k 1827 (zLV i) S = (zx_ret1 (zr_sem zF d 121 [za 1 0 0] S) (fun x3 S1 => (zx_ret1 (zr_sem zF d 226 [za 3 0 0] S1) (fun x6 S4 => (if x3 = x6 then zMn d k 3031 (zLV i) S4 else some (.inl (some (zi (zo 0))), S4))) zxx)) zxx) := rfl
set_option maxHeartbeats 4000000 in
set_option maxRecDepth 1000000 in
theorem zMj_2268 {d k : Nat} {S : zS} {i : Int32} : zMj d k 2268 (zLV i) S = (za_in (i + (zo 1)) (S.1 5 0 1 0) ((zx_ret1 (zr_sem zF d 322 [za 1 0 0, zi (S.1 5 0 0 ((i + (zo 1))).toNatClampNeg), za 4 0 0] S) (fun x3 S1 => (za_in (i + (zo 1)) (S1.1 5 0 1 0) ((zx_ret1 (zr_sem zF d 235 [za 3 0 0, zi (S1.1 5 0 0 ((i + (zo 1))).toNatClampNeg)] S1) (fun x6 S4 => (zx_ret1 (zr_sem zF d 145 [za 3 0 0] S4) (fun x9 S7 => (if x9 = x3 then (if x3 = (zo 0) then (if (zo 0) = (zo 0) then (if (lg_cmp S7.2.1 (x6).toInt64) = (zo 0) then zMn d k 2321 (zLV i) S7 else some (.inl (some (zi (zo 0))), S7)) else none) else zMn d k 2321 (zLV i) S7) else some (.inl (some (zi (zo 0))), S7))) zxx)) zxx)))) zxx))) := rfl
set_option maxHeartbeats 4000000 in
set_option maxRecDepth 1000000 in
theorem zMj_2732 {d k : Nat} {S : zS} {i : Int32} : zMj d k 2732 (zLV i) S = (za_in (i + (zo 1)) (S.1 5 0 1 0) ((zx_ret1 (zr_sem zF d 329 [za 1 0 0, zi (S.1 5 0 0 ((i + (zo 1))).toNatClampNeg), za 4 0 0] S) (fun x3 S1 => (za_in (i + (zo 1)) (S1.1 5 0 1 0) ((zx_ret1 (zr_sem zF d 243 [za 3 0 0, zi (S1.1 5 0 0 ((i + (zo 1))).toNatClampNeg)] S1) (fun x6 S4 => (zx_ret1 (zr_sem zF d 145 [za 3 0 0] S4) (fun x9 S7 => (if x9 = x3 then (if x3 = (zo 0) then (if (zo 0) = (zo 0) then (if (lg_cmp S7.2.1 (x6).toInt64) = (zo 0) then zMn d k 2785 (zLV i) S7 else some (.inl (some (zi (zo 0))), S7)) else none) else zMn d k 2785 (zLV i) S7) else some (.inl (some (zi (zo 0))), S7))) zxx)) zxx)))) zxx))) := rfl
set_option maxHeartbeats 4000000 in
set_option maxRecDepth 1000000 in
theorem zMj_2962 {d k : Nat} {S : zS} {i : Int32} : zMj d k 2962 (zLV i) S = (zx_ret1 (zr_sem zF d 137 [za 1 0 0] S) (fun x3 S1 => (zx_ret1 (zr_sem zF d 253 [za 3 0 0] S1) (fun x6 S4 => (if x3 = x6 then zMn d k 3031 (zLV i) S4 else some (.inl (some (zi (zo 0))), S4))) zxx)) zxx) := rfl
set_option maxHeartbeats 4000000 in
set_option maxRecDepth 1000000 in
theorem zM_451 {d k : Nat} {S : zS} {i : Int32} : zMn d (k + 1) 451 (zLV i) S = zMn d k 3031 (zLV i) S := rfl
set_option maxHeartbeats 4000000 in
set_option maxRecDepth 1000000 in
theorem zM_915 {d k : Nat} {S : zS} {i : Int32} : zMn d (k + 1) 915 (zLV i) S = zMn d k 3031 (zLV i) S := rfl
set_option maxHeartbeats 4000000 in
set_option maxRecDepth 1000000 in
theorem zM_1495 {d k : Nat} {S : zS} {i : Int32} : zMn d (k + 1) 1495 (zLV i) S = zMn d k 3031 (zLV i) S := rfl
set_option maxHeartbeats 4000000 in
set_option maxRecDepth 1000000 in
theorem zM_1921 {d k : Nat} {S : zS} {i : Int32} : zMn d (k + 1) 1921 (zLV i) S = zMn d k 3031 (zLV i) S := rfl
set_option maxHeartbeats 4000000 in
set_option maxRecDepth 1000000 in
theorem zM_2457 {d k : Nat} {S : zS} {i : Int32} : zMn d (k + 1) 2457 (zLV i) S = zMn d k 3031 (zLV i) S := rfl
set_option maxHeartbeats 4000000 in
set_option maxRecDepth 1000000 in
theorem zM_2897 {d k : Nat} {S : zS} {i : Int32} : zMn d (k + 1) 2897 (zLV i) S = zMn d k 3031 (zLV i) S := rfl

/-! THE PURE SIDE 38: the words of the texts -/
def txw (t : Nat) : List Int := match t with
  | 0 => [97, 110, 100]
  | 1 => [98, 97, 116, 104]
  | 2 => [98, 111, 97, 116]
  | 3 => [100, 114, 97, 105, 110]
  | 4 => [102, 105, 114, 115, 116]
  | 5 => [104, 105, 116, 115]
  | 6 => [108, 101, 118, 101, 108]
  | 7 => [109, 97, 110, 121]
  | 8 => [109, 111, 118, 101, 115]
  | 13 => [110, 111, 116]
  | 14 => [111, 114]
  | 16 => [112, 117, 115, 104]
  | 17 => [115, 111, 97, 112]
  | 18 => [115, 116, 97, 116, 101]
  | 19 => [115, 116, 114, 101, 110, 103, 116, 104]
  | 20 => [116, 97, 112]
  | 22 => [119, 101, 105, 103, 104, 116]
  | 23 => [119, 101, 116]
  | 24 => [119, 105, 110, 100]
  | 25 => [120]
  | 26 => [121]
  | _ => []
def txl (t : Nat) : Nat := (txw t).length
def txc (t i : Nat) : Int := (txw t).getD i 0
def isW (t : Nat) : Prop := 0 < txl t
set_option maxRecDepth 100000 in
theorem zl_0 {d : Nat} {S : zS} : zr_sem zF (d + 3) 292 [za 6 0 0] S = some (.inl (some (zi (zo (txl 0)))), S) := (zr_y (lv := [some (za 6 0 0)]) rfl rfl).trans rfl
set_option maxRecDepth 100000 in
theorem zl_0_0 {d : Nat} {S : zS} : zr_sem zF (d + 5) 293 [za 6 0 0, zi (zo 0)] S = some (.inl (some (zi (zo (txc 0 0)))), S) := (zr_y (lv := [some (za 6 0 0), some (zi (zo 0))]) rfl rfl).trans rfl
set_option maxRecDepth 100000 in
theorem zl_0_1 {d : Nat} {S : zS} : zr_sem zF (d + 5) 293 [za 6 0 0, zi (zo 1)] S = some (.inl (some (zi (zo (txc 0 1)))), S) := (zr_y (lv := [some (za 6 0 0), some (zi (zo 1))]) rfl rfl).trans rfl
set_option maxRecDepth 100000 in
theorem zl_0_2 {d : Nat} {S : zS} : zr_sem zF (d + 5) 293 [za 6 0 0, zi (zo 2)] S = some (.inl (some (zi (zo (txc 0 2)))), S) := (zr_y (lv := [some (za 6 0 0), some (zi (zo 2))]) rfl rfl).trans rfl
set_option maxRecDepth 100000 in
theorem zl_1 {d : Nat} {S : zS} : zr_sem zF (d + 3) 292 [za 6 1 0] S = some (.inl (some (zi (zo (txl 1)))), S) := (zr_y (lv := [some (za 6 1 0)]) rfl rfl).trans rfl
set_option maxRecDepth 100000 in
theorem zl_1_0 {d : Nat} {S : zS} : zr_sem zF (d + 5) 293 [za 6 1 0, zi (zo 0)] S = some (.inl (some (zi (zo (txc 1 0)))), S) := (zr_y (lv := [some (za 6 1 0), some (zi (zo 0))]) rfl rfl).trans rfl
set_option maxRecDepth 100000 in
theorem zl_1_1 {d : Nat} {S : zS} : zr_sem zF (d + 5) 293 [za 6 1 0, zi (zo 1)] S = some (.inl (some (zi (zo (txc 1 1)))), S) := (zr_y (lv := [some (za 6 1 0), some (zi (zo 1))]) rfl rfl).trans rfl
set_option maxRecDepth 100000 in
theorem zl_1_2 {d : Nat} {S : zS} : zr_sem zF (d + 5) 293 [za 6 1 0, zi (zo 2)] S = some (.inl (some (zi (zo (txc 1 2)))), S) := (zr_y (lv := [some (za 6 1 0), some (zi (zo 2))]) rfl rfl).trans rfl
set_option maxRecDepth 100000 in
theorem zl_1_3 {d : Nat} {S : zS} : zr_sem zF (d + 5) 293 [za 6 1 0, zi (zo 3)] S = some (.inl (some (zi (zo (txc 1 3)))), S) := (zr_y (lv := [some (za 6 1 0), some (zi (zo 3))]) rfl rfl).trans rfl
set_option maxRecDepth 100000 in
theorem zl_2 {d : Nat} {S : zS} : zr_sem zF (d + 3) 292 [za 6 2 0] S = some (.inl (some (zi (zo (txl 2)))), S) := (zr_y (lv := [some (za 6 2 0)]) rfl rfl).trans rfl
set_option maxRecDepth 100000 in
theorem zl_2_0 {d : Nat} {S : zS} : zr_sem zF (d + 5) 293 [za 6 2 0, zi (zo 0)] S = some (.inl (some (zi (zo (txc 2 0)))), S) := (zr_y (lv := [some (za 6 2 0), some (zi (zo 0))]) rfl rfl).trans rfl
set_option maxRecDepth 100000 in
theorem zl_2_1 {d : Nat} {S : zS} : zr_sem zF (d + 5) 293 [za 6 2 0, zi (zo 1)] S = some (.inl (some (zi (zo (txc 2 1)))), S) := (zr_y (lv := [some (za 6 2 0), some (zi (zo 1))]) rfl rfl).trans rfl
set_option maxRecDepth 100000 in
theorem zl_2_2 {d : Nat} {S : zS} : zr_sem zF (d + 5) 293 [za 6 2 0, zi (zo 2)] S = some (.inl (some (zi (zo (txc 2 2)))), S) := (zr_y (lv := [some (za 6 2 0), some (zi (zo 2))]) rfl rfl).trans rfl
set_option maxRecDepth 100000 in
theorem zl_2_3 {d : Nat} {S : zS} : zr_sem zF (d + 5) 293 [za 6 2 0, zi (zo 3)] S = some (.inl (some (zi (zo (txc 2 3)))), S) := (zr_y (lv := [some (za 6 2 0), some (zi (zo 3))]) rfl rfl).trans rfl
set_option maxRecDepth 100000 in
theorem zl_3 {d : Nat} {S : zS} : zr_sem zF (d + 3) 292 [za 6 3 0] S = some (.inl (some (zi (zo (txl 3)))), S) := (zr_y (lv := [some (za 6 3 0)]) rfl rfl).trans rfl
set_option maxRecDepth 100000 in
theorem zl_3_0 {d : Nat} {S : zS} : zr_sem zF (d + 5) 293 [za 6 3 0, zi (zo 0)] S = some (.inl (some (zi (zo (txc 3 0)))), S) := (zr_y (lv := [some (za 6 3 0), some (zi (zo 0))]) rfl rfl).trans rfl
set_option maxRecDepth 100000 in
theorem zl_3_1 {d : Nat} {S : zS} : zr_sem zF (d + 5) 293 [za 6 3 0, zi (zo 1)] S = some (.inl (some (zi (zo (txc 3 1)))), S) := (zr_y (lv := [some (za 6 3 0), some (zi (zo 1))]) rfl rfl).trans rfl
set_option maxRecDepth 100000 in
theorem zl_3_2 {d : Nat} {S : zS} : zr_sem zF (d + 5) 293 [za 6 3 0, zi (zo 2)] S = some (.inl (some (zi (zo (txc 3 2)))), S) := (zr_y (lv := [some (za 6 3 0), some (zi (zo 2))]) rfl rfl).trans rfl
set_option maxRecDepth 100000 in
theorem zl_3_3 {d : Nat} {S : zS} : zr_sem zF (d + 5) 293 [za 6 3 0, zi (zo 3)] S = some (.inl (some (zi (zo (txc 3 3)))), S) := (zr_y (lv := [some (za 6 3 0), some (zi (zo 3))]) rfl rfl).trans rfl
set_option maxRecDepth 100000 in
theorem zl_3_4 {d : Nat} {S : zS} : zr_sem zF (d + 5) 293 [za 6 3 0, zi (zo 4)] S = some (.inl (some (zi (zo (txc 3 4)))), S) := (zr_y (lv := [some (za 6 3 0), some (zi (zo 4))]) rfl rfl).trans rfl
set_option maxRecDepth 100000 in
theorem zl_4 {d : Nat} {S : zS} : zr_sem zF (d + 3) 292 [za 6 4 0] S = some (.inl (some (zi (zo (txl 4)))), S) := (zr_y (lv := [some (za 6 4 0)]) rfl rfl).trans rfl
set_option maxRecDepth 100000 in
theorem zl_4_0 {d : Nat} {S : zS} : zr_sem zF (d + 5) 293 [za 6 4 0, zi (zo 0)] S = some (.inl (some (zi (zo (txc 4 0)))), S) := (zr_y (lv := [some (za 6 4 0), some (zi (zo 0))]) rfl rfl).trans rfl
set_option maxRecDepth 100000 in
theorem zl_4_1 {d : Nat} {S : zS} : zr_sem zF (d + 5) 293 [za 6 4 0, zi (zo 1)] S = some (.inl (some (zi (zo (txc 4 1)))), S) := (zr_y (lv := [some (za 6 4 0), some (zi (zo 1))]) rfl rfl).trans rfl
set_option maxRecDepth 100000 in
theorem zl_4_2 {d : Nat} {S : zS} : zr_sem zF (d + 5) 293 [za 6 4 0, zi (zo 2)] S = some (.inl (some (zi (zo (txc 4 2)))), S) := (zr_y (lv := [some (za 6 4 0), some (zi (zo 2))]) rfl rfl).trans rfl
set_option maxRecDepth 100000 in
theorem zl_4_3 {d : Nat} {S : zS} : zr_sem zF (d + 5) 293 [za 6 4 0, zi (zo 3)] S = some (.inl (some (zi (zo (txc 4 3)))), S) := (zr_y (lv := [some (za 6 4 0), some (zi (zo 3))]) rfl rfl).trans rfl
set_option maxRecDepth 100000 in
theorem zl_4_4 {d : Nat} {S : zS} : zr_sem zF (d + 5) 293 [za 6 4 0, zi (zo 4)] S = some (.inl (some (zi (zo (txc 4 4)))), S) := (zr_y (lv := [some (za 6 4 0), some (zi (zo 4))]) rfl rfl).trans rfl
set_option maxRecDepth 100000 in
theorem zl_5 {d : Nat} {S : zS} : zr_sem zF (d + 3) 292 [za 6 5 0] S = some (.inl (some (zi (zo (txl 5)))), S) := (zr_y (lv := [some (za 6 5 0)]) rfl rfl).trans rfl
set_option maxRecDepth 100000 in
theorem zl_5_0 {d : Nat} {S : zS} : zr_sem zF (d + 5) 293 [za 6 5 0, zi (zo 0)] S = some (.inl (some (zi (zo (txc 5 0)))), S) := (zr_y (lv := [some (za 6 5 0), some (zi (zo 0))]) rfl rfl).trans rfl
set_option maxRecDepth 100000 in
theorem zl_5_1 {d : Nat} {S : zS} : zr_sem zF (d + 5) 293 [za 6 5 0, zi (zo 1)] S = some (.inl (some (zi (zo (txc 5 1)))), S) := (zr_y (lv := [some (za 6 5 0), some (zi (zo 1))]) rfl rfl).trans rfl
set_option maxRecDepth 100000 in
theorem zl_5_2 {d : Nat} {S : zS} : zr_sem zF (d + 5) 293 [za 6 5 0, zi (zo 2)] S = some (.inl (some (zi (zo (txc 5 2)))), S) := (zr_y (lv := [some (za 6 5 0), some (zi (zo 2))]) rfl rfl).trans rfl
set_option maxRecDepth 100000 in
theorem zl_5_3 {d : Nat} {S : zS} : zr_sem zF (d + 5) 293 [za 6 5 0, zi (zo 3)] S = some (.inl (some (zi (zo (txc 5 3)))), S) := (zr_y (lv := [some (za 6 5 0), some (zi (zo 3))]) rfl rfl).trans rfl
set_option maxRecDepth 100000 in
theorem zl_6 {d : Nat} {S : zS} : zr_sem zF (d + 3) 292 [za 6 6 0] S = some (.inl (some (zi (zo (txl 6)))), S) := (zr_y (lv := [some (za 6 6 0)]) rfl rfl).trans rfl
set_option maxRecDepth 100000 in
theorem zl_6_0 {d : Nat} {S : zS} : zr_sem zF (d + 5) 293 [za 6 6 0, zi (zo 0)] S = some (.inl (some (zi (zo (txc 6 0)))), S) := (zr_y (lv := [some (za 6 6 0), some (zi (zo 0))]) rfl rfl).trans rfl
set_option maxRecDepth 100000 in
theorem zl_6_1 {d : Nat} {S : zS} : zr_sem zF (d + 5) 293 [za 6 6 0, zi (zo 1)] S = some (.inl (some (zi (zo (txc 6 1)))), S) := (zr_y (lv := [some (za 6 6 0), some (zi (zo 1))]) rfl rfl).trans rfl
set_option maxRecDepth 100000 in
theorem zl_6_2 {d : Nat} {S : zS} : zr_sem zF (d + 5) 293 [za 6 6 0, zi (zo 2)] S = some (.inl (some (zi (zo (txc 6 2)))), S) := (zr_y (lv := [some (za 6 6 0), some (zi (zo 2))]) rfl rfl).trans rfl
set_option maxRecDepth 100000 in
theorem zl_6_3 {d : Nat} {S : zS} : zr_sem zF (d + 5) 293 [za 6 6 0, zi (zo 3)] S = some (.inl (some (zi (zo (txc 6 3)))), S) := (zr_y (lv := [some (za 6 6 0), some (zi (zo 3))]) rfl rfl).trans rfl
set_option maxRecDepth 100000 in
theorem zl_6_4 {d : Nat} {S : zS} : zr_sem zF (d + 5) 293 [za 6 6 0, zi (zo 4)] S = some (.inl (some (zi (zo (txc 6 4)))), S) := (zr_y (lv := [some (za 6 6 0), some (zi (zo 4))]) rfl rfl).trans rfl
set_option maxRecDepth 100000 in
theorem zl_7 {d : Nat} {S : zS} : zr_sem zF (d + 3) 292 [za 6 7 0] S = some (.inl (some (zi (zo (txl 7)))), S) := (zr_y (lv := [some (za 6 7 0)]) rfl rfl).trans rfl
set_option maxRecDepth 100000 in
theorem zl_7_0 {d : Nat} {S : zS} : zr_sem zF (d + 5) 293 [za 6 7 0, zi (zo 0)] S = some (.inl (some (zi (zo (txc 7 0)))), S) := (zr_y (lv := [some (za 6 7 0), some (zi (zo 0))]) rfl rfl).trans rfl
set_option maxRecDepth 100000 in
theorem zl_7_1 {d : Nat} {S : zS} : zr_sem zF (d + 5) 293 [za 6 7 0, zi (zo 1)] S = some (.inl (some (zi (zo (txc 7 1)))), S) := (zr_y (lv := [some (za 6 7 0), some (zi (zo 1))]) rfl rfl).trans rfl
set_option maxRecDepth 100000 in
theorem zl_7_2 {d : Nat} {S : zS} : zr_sem zF (d + 5) 293 [za 6 7 0, zi (zo 2)] S = some (.inl (some (zi (zo (txc 7 2)))), S) := (zr_y (lv := [some (za 6 7 0), some (zi (zo 2))]) rfl rfl).trans rfl
set_option maxRecDepth 100000 in
theorem zl_7_3 {d : Nat} {S : zS} : zr_sem zF (d + 5) 293 [za 6 7 0, zi (zo 3)] S = some (.inl (some (zi (zo (txc 7 3)))), S) := (zr_y (lv := [some (za 6 7 0), some (zi (zo 3))]) rfl rfl).trans rfl
set_option maxRecDepth 100000 in
theorem zl_8 {d : Nat} {S : zS} : zr_sem zF (d + 3) 292 [za 6 8 0] S = some (.inl (some (zi (zo (txl 8)))), S) := (zr_y (lv := [some (za 6 8 0)]) rfl rfl).trans rfl
set_option maxRecDepth 100000 in
theorem zl_8_0 {d : Nat} {S : zS} : zr_sem zF (d + 5) 293 [za 6 8 0, zi (zo 0)] S = some (.inl (some (zi (zo (txc 8 0)))), S) := (zr_y (lv := [some (za 6 8 0), some (zi (zo 0))]) rfl rfl).trans rfl
set_option maxRecDepth 100000 in
theorem zl_8_1 {d : Nat} {S : zS} : zr_sem zF (d + 5) 293 [za 6 8 0, zi (zo 1)] S = some (.inl (some (zi (zo (txc 8 1)))), S) := (zr_y (lv := [some (za 6 8 0), some (zi (zo 1))]) rfl rfl).trans rfl
set_option maxRecDepth 100000 in
theorem zl_8_2 {d : Nat} {S : zS} : zr_sem zF (d + 5) 293 [za 6 8 0, zi (zo 2)] S = some (.inl (some (zi (zo (txc 8 2)))), S) := (zr_y (lv := [some (za 6 8 0), some (zi (zo 2))]) rfl rfl).trans rfl
set_option maxRecDepth 100000 in
theorem zl_8_3 {d : Nat} {S : zS} : zr_sem zF (d + 5) 293 [za 6 8 0, zi (zo 3)] S = some (.inl (some (zi (zo (txc 8 3)))), S) := (zr_y (lv := [some (za 6 8 0), some (zi (zo 3))]) rfl rfl).trans rfl
set_option maxRecDepth 100000 in
theorem zl_8_4 {d : Nat} {S : zS} : zr_sem zF (d + 5) 293 [za 6 8 0, zi (zo 4)] S = some (.inl (some (zi (zo (txc 8 4)))), S) := (zr_y (lv := [some (za 6 8 0), some (zi (zo 4))]) rfl rfl).trans rfl
set_option maxRecDepth 100000 in
theorem zl_13 {d : Nat} {S : zS} : zr_sem zF (d + 3) 292 [za 6 13 0] S = some (.inl (some (zi (zo (txl 13)))), S) := (zr_y (lv := [some (za 6 13 0)]) rfl rfl).trans rfl
set_option maxRecDepth 100000 in
theorem zl_13_0 {d : Nat} {S : zS} : zr_sem zF (d + 5) 293 [za 6 13 0, zi (zo 0)] S = some (.inl (some (zi (zo (txc 13 0)))), S) := (zr_y (lv := [some (za 6 13 0), some (zi (zo 0))]) rfl rfl).trans rfl
set_option maxRecDepth 100000 in
theorem zl_13_1 {d : Nat} {S : zS} : zr_sem zF (d + 5) 293 [za 6 13 0, zi (zo 1)] S = some (.inl (some (zi (zo (txc 13 1)))), S) := (zr_y (lv := [some (za 6 13 0), some (zi (zo 1))]) rfl rfl).trans rfl
set_option maxRecDepth 100000 in
theorem zl_13_2 {d : Nat} {S : zS} : zr_sem zF (d + 5) 293 [za 6 13 0, zi (zo 2)] S = some (.inl (some (zi (zo (txc 13 2)))), S) := (zr_y (lv := [some (za 6 13 0), some (zi (zo 2))]) rfl rfl).trans rfl
set_option maxRecDepth 100000 in
theorem zl_14 {d : Nat} {S : zS} : zr_sem zF (d + 3) 292 [za 6 14 0] S = some (.inl (some (zi (zo (txl 14)))), S) := (zr_y (lv := [some (za 6 14 0)]) rfl rfl).trans rfl
set_option maxRecDepth 100000 in
theorem zl_14_0 {d : Nat} {S : zS} : zr_sem zF (d + 5) 293 [za 6 14 0, zi (zo 0)] S = some (.inl (some (zi (zo (txc 14 0)))), S) := (zr_y (lv := [some (za 6 14 0), some (zi (zo 0))]) rfl rfl).trans rfl
set_option maxRecDepth 100000 in
theorem zl_14_1 {d : Nat} {S : zS} : zr_sem zF (d + 5) 293 [za 6 14 0, zi (zo 1)] S = some (.inl (some (zi (zo (txc 14 1)))), S) := (zr_y (lv := [some (za 6 14 0), some (zi (zo 1))]) rfl rfl).trans rfl
set_option maxRecDepth 100000 in
theorem zl_16 {d : Nat} {S : zS} : zr_sem zF (d + 3) 292 [za 6 16 0] S = some (.inl (some (zi (zo (txl 16)))), S) := (zr_y (lv := [some (za 6 16 0)]) rfl rfl).trans rfl
set_option maxRecDepth 100000 in
theorem zl_16_0 {d : Nat} {S : zS} : zr_sem zF (d + 5) 293 [za 6 16 0, zi (zo 0)] S = some (.inl (some (zi (zo (txc 16 0)))), S) := (zr_y (lv := [some (za 6 16 0), some (zi (zo 0))]) rfl rfl).trans rfl
set_option maxRecDepth 100000 in
theorem zl_16_1 {d : Nat} {S : zS} : zr_sem zF (d + 5) 293 [za 6 16 0, zi (zo 1)] S = some (.inl (some (zi (zo (txc 16 1)))), S) := (zr_y (lv := [some (za 6 16 0), some (zi (zo 1))]) rfl rfl).trans rfl
set_option maxRecDepth 100000 in
theorem zl_16_2 {d : Nat} {S : zS} : zr_sem zF (d + 5) 293 [za 6 16 0, zi (zo 2)] S = some (.inl (some (zi (zo (txc 16 2)))), S) := (zr_y (lv := [some (za 6 16 0), some (zi (zo 2))]) rfl rfl).trans rfl
set_option maxRecDepth 100000 in
theorem zl_16_3 {d : Nat} {S : zS} : zr_sem zF (d + 5) 293 [za 6 16 0, zi (zo 3)] S = some (.inl (some (zi (zo (txc 16 3)))), S) := (zr_y (lv := [some (za 6 16 0), some (zi (zo 3))]) rfl rfl).trans rfl
set_option maxRecDepth 100000 in
theorem zl_17 {d : Nat} {S : zS} : zr_sem zF (d + 3) 292 [za 6 17 0] S = some (.inl (some (zi (zo (txl 17)))), S) := (zr_y (lv := [some (za 6 17 0)]) rfl rfl).trans rfl
set_option maxRecDepth 100000 in
theorem zl_17_0 {d : Nat} {S : zS} : zr_sem zF (d + 5) 293 [za 6 17 0, zi (zo 0)] S = some (.inl (some (zi (zo (txc 17 0)))), S) := (zr_y (lv := [some (za 6 17 0), some (zi (zo 0))]) rfl rfl).trans rfl
set_option maxRecDepth 100000 in
theorem zl_17_1 {d : Nat} {S : zS} : zr_sem zF (d + 5) 293 [za 6 17 0, zi (zo 1)] S = some (.inl (some (zi (zo (txc 17 1)))), S) := (zr_y (lv := [some (za 6 17 0), some (zi (zo 1))]) rfl rfl).trans rfl
set_option maxRecDepth 100000 in
theorem zl_17_2 {d : Nat} {S : zS} : zr_sem zF (d + 5) 293 [za 6 17 0, zi (zo 2)] S = some (.inl (some (zi (zo (txc 17 2)))), S) := (zr_y (lv := [some (za 6 17 0), some (zi (zo 2))]) rfl rfl).trans rfl
set_option maxRecDepth 100000 in
theorem zl_17_3 {d : Nat} {S : zS} : zr_sem zF (d + 5) 293 [za 6 17 0, zi (zo 3)] S = some (.inl (some (zi (zo (txc 17 3)))), S) := (zr_y (lv := [some (za 6 17 0), some (zi (zo 3))]) rfl rfl).trans rfl
set_option maxRecDepth 100000 in
theorem zl_18 {d : Nat} {S : zS} : zr_sem zF (d + 3) 292 [za 6 18 0] S = some (.inl (some (zi (zo (txl 18)))), S) := (zr_y (lv := [some (za 6 18 0)]) rfl rfl).trans rfl
set_option maxRecDepth 100000 in
theorem zl_18_0 {d : Nat} {S : zS} : zr_sem zF (d + 5) 293 [za 6 18 0, zi (zo 0)] S = some (.inl (some (zi (zo (txc 18 0)))), S) := (zr_y (lv := [some (za 6 18 0), some (zi (zo 0))]) rfl rfl).trans rfl
set_option maxRecDepth 100000 in
theorem zl_18_1 {d : Nat} {S : zS} : zr_sem zF (d + 5) 293 [za 6 18 0, zi (zo 1)] S = some (.inl (some (zi (zo (txc 18 1)))), S) := (zr_y (lv := [some (za 6 18 0), some (zi (zo 1))]) rfl rfl).trans rfl
set_option maxRecDepth 100000 in
theorem zl_18_2 {d : Nat} {S : zS} : zr_sem zF (d + 5) 293 [za 6 18 0, zi (zo 2)] S = some (.inl (some (zi (zo (txc 18 2)))), S) := (zr_y (lv := [some (za 6 18 0), some (zi (zo 2))]) rfl rfl).trans rfl
set_option maxRecDepth 100000 in
theorem zl_18_3 {d : Nat} {S : zS} : zr_sem zF (d + 5) 293 [za 6 18 0, zi (zo 3)] S = some (.inl (some (zi (zo (txc 18 3)))), S) := (zr_y (lv := [some (za 6 18 0), some (zi (zo 3))]) rfl rfl).trans rfl
set_option maxRecDepth 100000 in
theorem zl_18_4 {d : Nat} {S : zS} : zr_sem zF (d + 5) 293 [za 6 18 0, zi (zo 4)] S = some (.inl (some (zi (zo (txc 18 4)))), S) := (zr_y (lv := [some (za 6 18 0), some (zi (zo 4))]) rfl rfl).trans rfl
set_option maxRecDepth 100000 in
theorem zl_19 {d : Nat} {S : zS} : zr_sem zF (d + 3) 292 [za 6 19 0] S = some (.inl (some (zi (zo (txl 19)))), S) := (zr_y (lv := [some (za 6 19 0)]) rfl rfl).trans rfl
set_option maxRecDepth 100000 in
theorem zl_19_0 {d : Nat} {S : zS} : zr_sem zF (d + 5) 293 [za 6 19 0, zi (zo 0)] S = some (.inl (some (zi (zo (txc 19 0)))), S) := (zr_y (lv := [some (za 6 19 0), some (zi (zo 0))]) rfl rfl).trans rfl
set_option maxRecDepth 100000 in
theorem zl_19_1 {d : Nat} {S : zS} : zr_sem zF (d + 5) 293 [za 6 19 0, zi (zo 1)] S = some (.inl (some (zi (zo (txc 19 1)))), S) := (zr_y (lv := [some (za 6 19 0), some (zi (zo 1))]) rfl rfl).trans rfl
set_option maxRecDepth 100000 in
theorem zl_19_2 {d : Nat} {S : zS} : zr_sem zF (d + 5) 293 [za 6 19 0, zi (zo 2)] S = some (.inl (some (zi (zo (txc 19 2)))), S) := (zr_y (lv := [some (za 6 19 0), some (zi (zo 2))]) rfl rfl).trans rfl
set_option maxRecDepth 100000 in
theorem zl_19_3 {d : Nat} {S : zS} : zr_sem zF (d + 5) 293 [za 6 19 0, zi (zo 3)] S = some (.inl (some (zi (zo (txc 19 3)))), S) := (zr_y (lv := [some (za 6 19 0), some (zi (zo 3))]) rfl rfl).trans rfl
set_option maxRecDepth 100000 in
theorem zl_19_4 {d : Nat} {S : zS} : zr_sem zF (d + 5) 293 [za 6 19 0, zi (zo 4)] S = some (.inl (some (zi (zo (txc 19 4)))), S) := (zr_y (lv := [some (za 6 19 0), some (zi (zo 4))]) rfl rfl).trans rfl
set_option maxRecDepth 100000 in
theorem zl_19_5 {d : Nat} {S : zS} : zr_sem zF (d + 5) 293 [za 6 19 0, zi (zo 5)] S = some (.inl (some (zi (zo (txc 19 5)))), S) := (zr_y (lv := [some (za 6 19 0), some (zi (zo 5))]) rfl rfl).trans rfl
set_option maxRecDepth 100000 in
theorem zl_19_6 {d : Nat} {S : zS} : zr_sem zF (d + 5) 293 [za 6 19 0, zi (zo 6)] S = some (.inl (some (zi (zo (txc 19 6)))), S) := (zr_y (lv := [some (za 6 19 0), some (zi (zo 6))]) rfl rfl).trans rfl
set_option maxRecDepth 100000 in
theorem zl_19_7 {d : Nat} {S : zS} : zr_sem zF (d + 5) 293 [za 6 19 0, zi (zo 7)] S = some (.inl (some (zi (zo (txc 19 7)))), S) := (zr_y (lv := [some (za 6 19 0), some (zi (zo 7))]) rfl rfl).trans rfl
set_option maxRecDepth 100000 in
theorem zl_20 {d : Nat} {S : zS} : zr_sem zF (d + 3) 292 [za 6 20 0] S = some (.inl (some (zi (zo (txl 20)))), S) := (zr_y (lv := [some (za 6 20 0)]) rfl rfl).trans rfl
set_option maxRecDepth 100000 in
theorem zl_20_0 {d : Nat} {S : zS} : zr_sem zF (d + 5) 293 [za 6 20 0, zi (zo 0)] S = some (.inl (some (zi (zo (txc 20 0)))), S) := (zr_y (lv := [some (za 6 20 0), some (zi (zo 0))]) rfl rfl).trans rfl
set_option maxRecDepth 100000 in
theorem zl_20_1 {d : Nat} {S : zS} : zr_sem zF (d + 5) 293 [za 6 20 0, zi (zo 1)] S = some (.inl (some (zi (zo (txc 20 1)))), S) := (zr_y (lv := [some (za 6 20 0), some (zi (zo 1))]) rfl rfl).trans rfl
set_option maxRecDepth 100000 in
theorem zl_20_2 {d : Nat} {S : zS} : zr_sem zF (d + 5) 293 [za 6 20 0, zi (zo 2)] S = some (.inl (some (zi (zo (txc 20 2)))), S) := (zr_y (lv := [some (za 6 20 0), some (zi (zo 2))]) rfl rfl).trans rfl
set_option maxRecDepth 100000 in
theorem zl_22 {d : Nat} {S : zS} : zr_sem zF (d + 3) 292 [za 6 22 0] S = some (.inl (some (zi (zo (txl 22)))), S) := (zr_y (lv := [some (za 6 22 0)]) rfl rfl).trans rfl
set_option maxRecDepth 100000 in
theorem zl_22_0 {d : Nat} {S : zS} : zr_sem zF (d + 5) 293 [za 6 22 0, zi (zo 0)] S = some (.inl (some (zi (zo (txc 22 0)))), S) := (zr_y (lv := [some (za 6 22 0), some (zi (zo 0))]) rfl rfl).trans rfl
set_option maxRecDepth 100000 in
theorem zl_22_1 {d : Nat} {S : zS} : zr_sem zF (d + 5) 293 [za 6 22 0, zi (zo 1)] S = some (.inl (some (zi (zo (txc 22 1)))), S) := (zr_y (lv := [some (za 6 22 0), some (zi (zo 1))]) rfl rfl).trans rfl
set_option maxRecDepth 100000 in
theorem zl_22_2 {d : Nat} {S : zS} : zr_sem zF (d + 5) 293 [za 6 22 0, zi (zo 2)] S = some (.inl (some (zi (zo (txc 22 2)))), S) := (zr_y (lv := [some (za 6 22 0), some (zi (zo 2))]) rfl rfl).trans rfl
set_option maxRecDepth 100000 in
theorem zl_22_3 {d : Nat} {S : zS} : zr_sem zF (d + 5) 293 [za 6 22 0, zi (zo 3)] S = some (.inl (some (zi (zo (txc 22 3)))), S) := (zr_y (lv := [some (za 6 22 0), some (zi (zo 3))]) rfl rfl).trans rfl
set_option maxRecDepth 100000 in
theorem zl_22_4 {d : Nat} {S : zS} : zr_sem zF (d + 5) 293 [za 6 22 0, zi (zo 4)] S = some (.inl (some (zi (zo (txc 22 4)))), S) := (zr_y (lv := [some (za 6 22 0), some (zi (zo 4))]) rfl rfl).trans rfl
set_option maxRecDepth 100000 in
theorem zl_22_5 {d : Nat} {S : zS} : zr_sem zF (d + 5) 293 [za 6 22 0, zi (zo 5)] S = some (.inl (some (zi (zo (txc 22 5)))), S) := (zr_y (lv := [some (za 6 22 0), some (zi (zo 5))]) rfl rfl).trans rfl
set_option maxRecDepth 100000 in
theorem zl_23 {d : Nat} {S : zS} : zr_sem zF (d + 3) 292 [za 6 23 0] S = some (.inl (some (zi (zo (txl 23)))), S) := (zr_y (lv := [some (za 6 23 0)]) rfl rfl).trans rfl
set_option maxRecDepth 100000 in
theorem zl_23_0 {d : Nat} {S : zS} : zr_sem zF (d + 5) 293 [za 6 23 0, zi (zo 0)] S = some (.inl (some (zi (zo (txc 23 0)))), S) := (zr_y (lv := [some (za 6 23 0), some (zi (zo 0))]) rfl rfl).trans rfl
set_option maxRecDepth 100000 in
theorem zl_23_1 {d : Nat} {S : zS} : zr_sem zF (d + 5) 293 [za 6 23 0, zi (zo 1)] S = some (.inl (some (zi (zo (txc 23 1)))), S) := (zr_y (lv := [some (za 6 23 0), some (zi (zo 1))]) rfl rfl).trans rfl
set_option maxRecDepth 100000 in
theorem zl_23_2 {d : Nat} {S : zS} : zr_sem zF (d + 5) 293 [za 6 23 0, zi (zo 2)] S = some (.inl (some (zi (zo (txc 23 2)))), S) := (zr_y (lv := [some (za 6 23 0), some (zi (zo 2))]) rfl rfl).trans rfl
set_option maxRecDepth 100000 in
theorem zl_24 {d : Nat} {S : zS} : zr_sem zF (d + 3) 292 [za 6 24 0] S = some (.inl (some (zi (zo (txl 24)))), S) := (zr_y (lv := [some (za 6 24 0)]) rfl rfl).trans rfl
set_option maxRecDepth 100000 in
theorem zl_24_0 {d : Nat} {S : zS} : zr_sem zF (d + 5) 293 [za 6 24 0, zi (zo 0)] S = some (.inl (some (zi (zo (txc 24 0)))), S) := (zr_y (lv := [some (za 6 24 0), some (zi (zo 0))]) rfl rfl).trans rfl
set_option maxRecDepth 100000 in
theorem zl_24_1 {d : Nat} {S : zS} : zr_sem zF (d + 5) 293 [za 6 24 0, zi (zo 1)] S = some (.inl (some (zi (zo (txc 24 1)))), S) := (zr_y (lv := [some (za 6 24 0), some (zi (zo 1))]) rfl rfl).trans rfl
set_option maxRecDepth 100000 in
theorem zl_24_2 {d : Nat} {S : zS} : zr_sem zF (d + 5) 293 [za 6 24 0, zi (zo 2)] S = some (.inl (some (zi (zo (txc 24 2)))), S) := (zr_y (lv := [some (za 6 24 0), some (zi (zo 2))]) rfl rfl).trans rfl
set_option maxRecDepth 100000 in
theorem zl_24_3 {d : Nat} {S : zS} : zr_sem zF (d + 5) 293 [za 6 24 0, zi (zo 3)] S = some (.inl (some (zi (zo (txc 24 3)))), S) := (zr_y (lv := [some (za 6 24 0), some (zi (zo 3))]) rfl rfl).trans rfl
set_option maxRecDepth 100000 in
theorem zl_25 {d : Nat} {S : zS} : zr_sem zF (d + 3) 292 [za 6 25 0] S = some (.inl (some (zi (zo (txl 25)))), S) := (zr_y (lv := [some (za 6 25 0)]) rfl rfl).trans rfl
set_option maxRecDepth 100000 in
theorem zl_25_0 {d : Nat} {S : zS} : zr_sem zF (d + 5) 293 [za 6 25 0, zi (zo 0)] S = some (.inl (some (zi (zo (txc 25 0)))), S) := (zr_y (lv := [some (za 6 25 0), some (zi (zo 0))]) rfl rfl).trans rfl
set_option maxRecDepth 100000 in
theorem zl_26 {d : Nat} {S : zS} : zr_sem zF (d + 3) 292 [za 6 26 0] S = some (.inl (some (zi (zo (txl 26)))), S) := (zr_y (lv := [some (za 6 26 0)]) rfl rfl).trans rfl
set_option maxRecDepth 100000 in
theorem zl_26_0 {d : Nat} {S : zS} : zr_sem zF (d + 5) 293 [za 6 26 0, zi (zo 0)] S = some (.inl (some (zi (zo (txc 26 0)))), S) := (zr_y (lv := [some (za 6 26 0), some (zi (zo 0))]) rfl rfl).trans rfl
theorem isW_c {t : Nat} (h : isW t) : t = 0 ∨ t = 1 ∨ t = 2 ∨ t = 3 ∨ t = 4 ∨ t = 5 ∨ t = 6 ∨ t = 7 ∨ t = 8 ∨ t = 13 ∨ t = 14 ∨ t = 16 ∨ t = 17 ∨ t = 18 ∨ t = 19 ∨ t = 20 ∨ t = 22 ∨ t = 23 ∨ t = 24 ∨ t = 25 ∨ t = 26 := by
  unfold isW txl at h
  unfold txw at h
  split at h
  · omega
  · omega
  · omega
  · omega
  · omega
  · omega
  · omega
  · omega
  · omega
  · omega
  · omega
  · omega
  · omega
  · omega
  · omega
  · omega
  · omega
  · omega
  · omega
  · omega
  · omega
  · exact absurd h (by decide)
theorem z292 {d t : Nat} {S : zS} (h : isW t) : zr_sem zF (d + 3) 292 [za 6 t 0] S = some (.inl (some (zi (zo (txl t)))), S) := by
  rcases isW_c h with e | e | e | e | e | e | e | e | e | e | e | e | e | e | e | e | e | e | e | e | e <;> subst e
  · exact zl_0
  · exact zl_1
  · exact zl_2
  · exact zl_3
  · exact zl_4
  · exact zl_5
  · exact zl_6
  · exact zl_7
  · exact zl_8
  · exact zl_13
  · exact zl_14
  · exact zl_16
  · exact zl_17
  · exact zl_18
  · exact zl_19
  · exact zl_20
  · exact zl_22
  · exact zl_23
  · exact zl_24
  · exact zl_25
  · exact zl_26
theorem z293 {d t i : Nat} {S : zS} (h : isW t) (hi : i < txl t) : zr_sem zF (d + 5) 293 [za 6 t 0, zi (zo i)] S = some (.inl (some (zi (zo (txc t i)))), S) := by
  rcases isW_c h with e | e | e | e | e | e | e | e | e | e | e | e | e | e | e | e | e | e | e | e | e <;> subst e
  · have hi2 : i < 3 := hi
    rcases (show i = 0 ∨ i = 1 ∨ i = 2 by omega) with e | e | e <;> subst e
    · exact zl_0_0
    · exact zl_0_1
    · exact zl_0_2
  · have hi2 : i < 4 := hi
    rcases (show i = 0 ∨ i = 1 ∨ i = 2 ∨ i = 3 by omega) with e | e | e | e <;> subst e
    · exact zl_1_0
    · exact zl_1_1
    · exact zl_1_2
    · exact zl_1_3
  · have hi2 : i < 4 := hi
    rcases (show i = 0 ∨ i = 1 ∨ i = 2 ∨ i = 3 by omega) with e | e | e | e <;> subst e
    · exact zl_2_0
    · exact zl_2_1
    · exact zl_2_2
    · exact zl_2_3
  · have hi2 : i < 5 := hi
    rcases (show i = 0 ∨ i = 1 ∨ i = 2 ∨ i = 3 ∨ i = 4 by omega) with e | e | e | e | e <;> subst e
    · exact zl_3_0
    · exact zl_3_1
    · exact zl_3_2
    · exact zl_3_3
    · exact zl_3_4
  · have hi2 : i < 5 := hi
    rcases (show i = 0 ∨ i = 1 ∨ i = 2 ∨ i = 3 ∨ i = 4 by omega) with e | e | e | e | e <;> subst e
    · exact zl_4_0
    · exact zl_4_1
    · exact zl_4_2
    · exact zl_4_3
    · exact zl_4_4
  · have hi2 : i < 4 := hi
    rcases (show i = 0 ∨ i = 1 ∨ i = 2 ∨ i = 3 by omega) with e | e | e | e <;> subst e
    · exact zl_5_0
    · exact zl_5_1
    · exact zl_5_2
    · exact zl_5_3
  · have hi2 : i < 5 := hi
    rcases (show i = 0 ∨ i = 1 ∨ i = 2 ∨ i = 3 ∨ i = 4 by omega) with e | e | e | e | e <;> subst e
    · exact zl_6_0
    · exact zl_6_1
    · exact zl_6_2
    · exact zl_6_3
    · exact zl_6_4
  · have hi2 : i < 4 := hi
    rcases (show i = 0 ∨ i = 1 ∨ i = 2 ∨ i = 3 by omega) with e | e | e | e <;> subst e
    · exact zl_7_0
    · exact zl_7_1
    · exact zl_7_2
    · exact zl_7_3
  · have hi2 : i < 5 := hi
    rcases (show i = 0 ∨ i = 1 ∨ i = 2 ∨ i = 3 ∨ i = 4 by omega) with e | e | e | e | e <;> subst e
    · exact zl_8_0
    · exact zl_8_1
    · exact zl_8_2
    · exact zl_8_3
    · exact zl_8_4
  · have hi2 : i < 3 := hi
    rcases (show i = 0 ∨ i = 1 ∨ i = 2 by omega) with e | e | e <;> subst e
    · exact zl_13_0
    · exact zl_13_1
    · exact zl_13_2
  · have hi2 : i < 2 := hi
    rcases (show i = 0 ∨ i = 1 by omega) with e | e <;> subst e
    · exact zl_14_0
    · exact zl_14_1
  · have hi2 : i < 4 := hi
    rcases (show i = 0 ∨ i = 1 ∨ i = 2 ∨ i = 3 by omega) with e | e | e | e <;> subst e
    · exact zl_16_0
    · exact zl_16_1
    · exact zl_16_2
    · exact zl_16_3
  · have hi2 : i < 4 := hi
    rcases (show i = 0 ∨ i = 1 ∨ i = 2 ∨ i = 3 by omega) with e | e | e | e <;> subst e
    · exact zl_17_0
    · exact zl_17_1
    · exact zl_17_2
    · exact zl_17_3
  · have hi2 : i < 5 := hi
    rcases (show i = 0 ∨ i = 1 ∨ i = 2 ∨ i = 3 ∨ i = 4 by omega) with e | e | e | e | e <;> subst e
    · exact zl_18_0
    · exact zl_18_1
    · exact zl_18_2
    · exact zl_18_3
    · exact zl_18_4
  · have hi2 : i < 8 := hi
    rcases (show i = 0 ∨ i = 1 ∨ i = 2 ∨ i = 3 ∨ i = 4 ∨ i = 5 ∨ i = 6 ∨ i = 7 by omega) with e | e | e | e | e | e | e | e <;> subst e
    · exact zl_19_0
    · exact zl_19_1
    · exact zl_19_2
    · exact zl_19_3
    · exact zl_19_4
    · exact zl_19_5
    · exact zl_19_6
    · exact zl_19_7
  · have hi2 : i < 3 := hi
    rcases (show i = 0 ∨ i = 1 ∨ i = 2 by omega) with e | e | e <;> subst e
    · exact zl_20_0
    · exact zl_20_1
    · exact zl_20_2
  · have hi2 : i < 6 := hi
    rcases (show i = 0 ∨ i = 1 ∨ i = 2 ∨ i = 3 ∨ i = 4 ∨ i = 5 by omega) with e | e | e | e | e | e <;> subst e
    · exact zl_22_0
    · exact zl_22_1
    · exact zl_22_2
    · exact zl_22_3
    · exact zl_22_4
    · exact zl_22_5
  · have hi2 : i < 3 := hi
    rcases (show i = 0 ∨ i = 1 ∨ i = 2 by omega) with e | e | e <;> subst e
    · exact zl_23_0
    · exact zl_23_1
    · exact zl_23_2
  · have hi2 : i < 4 := hi
    rcases (show i = 0 ∨ i = 1 ∨ i = 2 ∨ i = 3 by omega) with e | e | e | e <;> subst e
    · exact zl_24_0
    · exact zl_24_1
    · exact zl_24_2
    · exact zl_24_3
  · have hi2 : i < 1 := hi
    obtain rfl : i = 0 := by omega
    exact zl_25_0
  · have hi2 : i < 1 := hi
    obtain rfl : i = 0 := by omega
    exact zl_26_0


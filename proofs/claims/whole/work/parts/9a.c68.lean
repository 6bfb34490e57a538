/-! THE PURE SIDE 68: cases of the main loop: helper and model agree (written by tools/gen68.py) -/
theorem lgc (x : Int64) : lg_cmp x x = zo 0 := by
  unfold lg_cmp
  simp
  rfl
section DT
variable {d k n len : Nat} {S S1 S' : zS}
theorem zk_329 (hl : S.1 5 0 1 0 = zo (len : Nat)) (hn : n + 6 ≤ len) (hb : len ≤ 3072) (h : Cll (d + 1) 297 279 [zi (S.1 5 0 0 (zo ((n : Int) + 1)).toNatClampNeg)] S S') : zMj (d + 1) k 329 (zLV (zo (n : Nat))) S = zMn (d + 1) k 382 (zLV (zo (n : Nat))) S' := by
  obtain ⟨S1, x, w, p1, p2, p3, p4, p5, p6⟩ := h
  have p1 : zr_sem zF (d + 1) 297 [za 1 0 0, zi (S.1 5 0 0 (zo ((n : Int) + 1)).toNatClampNeg), za 4 0 0] S = _ := p1
  have p3 : zr_sem zF (d + 1) 279 [za 3 0 0, zi (S.1 5 0 0 (zo ((n : Int) + 1)).toNatClampNeg)] S1 = _ := p3
  rw [zMj_329, zo_add (n : Int) 1, hl, zin_ok (by omega) (by omega) (by omega), p1, zr1, p2, hl, zin_ok (by omega) (by omega) (by omega), p3, zr1, m145, zr1, p4, if_pos rfl]
  by_cases hx : x = zo 0
  · rw [if_pos hx, if_pos rfl, p5 hx, lgc, if_pos rfl]
  · rw [if_neg hx]
theorem zk_398 (hl : S.1 5 0 1 0 = zo (len : Nat)) (hn : n + 6 ≤ len) (hb : len ≤ 3072) (h : Cll (d + 1) 298 193 [zi (S.1 5 0 0 (zo ((n : Int) + 1)).toNatClampNeg)] S S') : zMj (d + 1) k 398 (zLV (zo (n : Nat))) S = zMn (d + 1) k 451 (zLV (zo (n : Nat))) S' := by
  obtain ⟨S1, x, w, p1, p2, p3, p4, p5, p6⟩ := h
  have p1 : zr_sem zF (d + 1) 298 [za 1 0 0, zi (S.1 5 0 0 (zo ((n : Int) + 1)).toNatClampNeg), za 4 0 0] S = _ := p1
  have p3 : zr_sem zF (d + 1) 193 [za 3 0 0, zi (S.1 5 0 0 (zo ((n : Int) + 1)).toNatClampNeg)] S1 = _ := p3
  rw [zMj_398, zo_add (n : Int) 1, hl, zin_ok (by omega) (by omega) (by omega), p1, zr1, p2, hl, zin_ok (by omega) (by omega) (by omega), p3, zr1, m145, zr1, p4, if_pos rfl]
  by_cases hx : x = zo 0
  · rw [if_pos hx, if_pos rfl, p5 hx, lgc, if_pos rfl]
  · rw [if_neg hx]
theorem zk_454 (hl : S.1 5 0 1 0 = zo (len : Nat)) (hn : n + 6 ≤ len) (hb : len ≤ 3072) (h : Cll (d + 1) 299 195 [zi (S.1 5 0 0 (zo ((n : Int) + 1)).toNatClampNeg), zi (S.1 5 0 0 (zo ((n : Int) + 2)).toNatClampNeg)] S S') : zMj (d + 1) k 454 (zLV (zo (n : Nat))) S = zMn (d + 1) k 519 (zLV (zo (n : Nat))) S' := by
  obtain ⟨S1, x, w, p1, p2, p3, p4, p5, p6⟩ := h
  have p1 : zr_sem zF (d + 1) 299 [za 1 0 0, zi (S.1 5 0 0 (zo ((n : Int) + 1)).toNatClampNeg), zi (S.1 5 0 0 (zo ((n : Int) + 2)).toNatClampNeg), za 4 0 0] S = _ := p1
  have p3 : zr_sem zF (d + 1) 195 [za 3 0 0, zi (S.1 5 0 0 (zo ((n : Int) + 1)).toNatClampNeg), zi (S.1 5 0 0 (zo ((n : Int) + 2)).toNatClampNeg)] S1 = _ := p3
  rw [zMj_454, zo_add (n : Int) 1, zo_add (n : Int) 2, hl, zin_ok (by omega) (by omega) (by omega), zin_ok (by omega) (by omega) (by omega), p1, zr1, p2, hl, zin_ok (by omega) (by omega) (by omega), zin_ok (by omega) (by omega) (by omega), p3, zr1, m145, zr1, p4, if_pos rfl]
  by_cases hx : x = zo 0
  · rw [if_pos hx, if_pos rfl, p5 hx, lgc, if_pos rfl]
  · rw [if_neg hx]
theorem zk_522 (hl : S.1 5 0 1 0 = zo (len : Nat)) (hn : n + 6 ≤ len) (hb : len ≤ 3072) (h : Cll (d + 1) 300 196 [zi (S.1 5 0 0 (zo ((n : Int) + 1)).toNatClampNeg), zi (S.1 5 0 0 (zo ((n : Int) + 2)).toNatClampNeg)] S S') : zMj (d + 1) k 522 (zLV (zo (n : Nat))) S = zMn (d + 1) k 587 (zLV (zo (n : Nat))) S' := by
  obtain ⟨S1, x, w, p1, p2, p3, p4, p5, p6⟩ := h
  have p1 : zr_sem zF (d + 1) 300 [za 1 0 0, zi (S.1 5 0 0 (zo ((n : Int) + 1)).toNatClampNeg), zi (S.1 5 0 0 (zo ((n : Int) + 2)).toNatClampNeg), za 4 0 0] S = _ := p1
  have p3 : zr_sem zF (d + 1) 196 [za 3 0 0, zi (S.1 5 0 0 (zo ((n : Int) + 1)).toNatClampNeg), zi (S.1 5 0 0 (zo ((n : Int) + 2)).toNatClampNeg)] S1 = _ := p3
  rw [zMj_522, zo_add (n : Int) 1, zo_add (n : Int) 2, hl, zin_ok (by omega) (by omega) (by omega), zin_ok (by omega) (by omega) (by omega), p1, zr1, p2, hl, zin_ok (by omega) (by omega) (by omega), zin_ok (by omega) (by omega) (by omega), p3, zr1, m145, zr1, p4, if_pos rfl]
  by_cases hx : x = zo 0
  · rw [if_pos hx, if_pos rfl, p5 hx, lgc, if_pos rfl]
  · rw [if_neg hx]
theorem zk_590 (hl : S.1 5 0 1 0 = zo (len : Nat)) (hn : n + 6 ≤ len) (hb : len ≤ 3072) (h : Cll (d + 1) 301 197 [zi (S.1 5 0 0 (zo ((n : Int) + 1)).toNatClampNeg), zi (S.1 5 0 0 (zo ((n : Int) + 2)).toNatClampNeg)] S S') : zMj (d + 1) k 590 (zLV (zo (n : Nat))) S = zMn (d + 1) k 655 (zLV (zo (n : Nat))) S' := by
  obtain ⟨S1, x, w, p1, p2, p3, p4, p5, p6⟩ := h
  have p1 : zr_sem zF (d + 1) 301 [za 1 0 0, zi (S.1 5 0 0 (zo ((n : Int) + 1)).toNatClampNeg), zi (S.1 5 0 0 (zo ((n : Int) + 2)).toNatClampNeg), za 4 0 0] S = _ := p1
  have p3 : zr_sem zF (d + 1) 197 [za 3 0 0, zi (S.1 5 0 0 (zo ((n : Int) + 1)).toNatClampNeg), zi (S.1 5 0 0 (zo ((n : Int) + 2)).toNatClampNeg)] S1 = _ := p3
  rw [zMj_590, zo_add (n : Int) 1, zo_add (n : Int) 2, hl, zin_ok (by omega) (by omega) (by omega), zin_ok (by omega) (by omega) (by omega), p1, zr1, p2, hl, zin_ok (by omega) (by omega) (by omega), zin_ok (by omega) (by omega) (by omega), p3, zr1, m145, zr1, p4, if_pos rfl]
  by_cases hx : x = zo 0
  · rw [if_pos hx, if_pos rfl, p5 hx, lgc, if_pos rfl]
  · rw [if_neg hx]
theorem zk_658 (hl : S.1 5 0 1 0 = zo (len : Nat)) (hn : n + 6 ≤ len) (hb : len ≤ 3072) (h : Cll (d + 1) 302 198 [zi (S.1 5 0 0 (zo ((n : Int) + 1)).toNatClampNeg), zi (S.1 5 0 0 (zo ((n : Int) + 2)).toNatClampNeg)] S S') : zMj (d + 1) k 658 (zLV (zo (n : Nat))) S = zMn (d + 1) k 723 (zLV (zo (n : Nat))) S' := by
  obtain ⟨S1, x, w, p1, p2, p3, p4, p5, p6⟩ := h
  have p1 : zr_sem zF (d + 1) 302 [za 1 0 0, zi (S.1 5 0 0 (zo ((n : Int) + 1)).toNatClampNeg), zi (S.1 5 0 0 (zo ((n : Int) + 2)).toNatClampNeg), za 4 0 0] S = _ := p1
  have p3 : zr_sem zF (d + 1) 198 [za 3 0 0, zi (S.1 5 0 0 (zo ((n : Int) + 1)).toNatClampNeg), zi (S.1 5 0 0 (zo ((n : Int) + 2)).toNatClampNeg)] S1 = _ := p3
  rw [zMj_658, zo_add (n : Int) 1, zo_add (n : Int) 2, hl, zin_ok (by omega) (by omega) (by omega), zin_ok (by omega) (by omega) (by omega), p1, zr1, p2, hl, zin_ok (by omega) (by omega) (by omega), zin_ok (by omega) (by omega) (by omega), p3, zr1, m145, zr1, p4, if_pos rfl]
  by_cases hx : x = zo 0
  · rw [if_pos hx, if_pos rfl, p5 hx, lgc, if_pos rfl]
  · rw [if_neg hx]
theorem zk_726 (hl : S.1 5 0 1 0 = zo (len : Nat)) (hn : n + 6 ≤ len) (hb : len ≤ 3072) (h : Cll (d + 1) 303 199 [zi (S.1 5 0 0 (zo ((n : Int) + 1)).toNatClampNeg), zi (S.1 5 0 0 (zo ((n : Int) + 2)).toNatClampNeg)] S S') : zMj (d + 1) k 726 (zLV (zo (n : Nat))) S = zMn (d + 1) k 791 (zLV (zo (n : Nat))) S' := by
  obtain ⟨S1, x, w, p1, p2, p3, p4, p5, p6⟩ := h
  have p1 : zr_sem zF (d + 1) 303 [za 1 0 0, zi (S.1 5 0 0 (zo ((n : Int) + 1)).toNatClampNeg), zi (S.1 5 0 0 (zo ((n : Int) + 2)).toNatClampNeg), za 4 0 0] S = _ := p1
  have p3 : zr_sem zF (d + 1) 199 [za 3 0 0, zi (S.1 5 0 0 (zo ((n : Int) + 1)).toNatClampNeg), zi (S.1 5 0 0 (zo ((n : Int) + 2)).toNatClampNeg)] S1 = _ := p3
  rw [zMj_726, zo_add (n : Int) 1, zo_add (n : Int) 2, hl, zin_ok (by omega) (by omega) (by omega), zin_ok (by omega) (by omega) (by omega), p1, zr1, p2, hl, zin_ok (by omega) (by omega) (by omega), zin_ok (by omega) (by omega) (by omega), p3, zr1, m145, zr1, p4, if_pos rfl]
  by_cases hx : x = zo 0
  · rw [if_pos hx, if_pos rfl, p5 hx, lgc, if_pos rfl]
  · rw [if_neg hx]
theorem zk_794 (hl : S.1 5 0 1 0 = zo (len : Nat)) (hn : n + 6 ≤ len) (hb : len ≤ 3072) (h : Cll (d + 1) 304 200 [zi (S.1 5 0 0 (zo ((n : Int) + 1)).toNatClampNeg)] S S') : zMj (d + 1) k 794 (zLV (zo (n : Nat))) S = zMn (d + 1) k 847 (zLV (zo (n : Nat))) S' := by
  obtain ⟨S1, x, w, p1, p2, p3, p4, p5, p6⟩ := h
  have p1 : zr_sem zF (d + 1) 304 [za 1 0 0, zi (S.1 5 0 0 (zo ((n : Int) + 1)).toNatClampNeg), za 4 0 0] S = _ := p1
  have p3 : zr_sem zF (d + 1) 200 [za 3 0 0, zi (S.1 5 0 0 (zo ((n : Int) + 1)).toNatClampNeg)] S1 = _ := p3
  rw [zMj_794, zo_add (n : Int) 1, hl, zin_ok (by omega) (by omega) (by omega), p1, zr1, p2, hl, zin_ok (by omega) (by omega) (by omega), p3, zr1, m145, zr1, p4, if_pos rfl]
  by_cases hx : x = zo 0
  · rw [if_pos hx, if_pos rfl, p5 hx, lgc, if_pos rfl]
  · rw [if_neg hx]
theorem zk_850 (hl : S.1 5 0 1 0 = zo (len : Nat)) (hn : n + 6 ≤ len) (hb : len ≤ 3072) (h : Cll (d + 1) 305 202 [zi (S.1 5 0 0 (zo ((n : Int) + 1)).toNatClampNeg), zi (S.1 5 0 0 (zo ((n : Int) + 2)).toNatClampNeg)] S S') : zMj (d + 1) k 850 (zLV (zo (n : Nat))) S = zMn (d + 1) k 915 (zLV (zo (n : Nat))) S' := by
  obtain ⟨S1, x, w, p1, p2, p3, p4, p5, p6⟩ := h
  have p1 : zr_sem zF (d + 1) 305 [za 1 0 0, zi (S.1 5 0 0 (zo ((n : Int) + 1)).toNatClampNeg), zi (S.1 5 0 0 (zo ((n : Int) + 2)).toNatClampNeg), za 4 0 0] S = _ := p1
  have p3 : zr_sem zF (d + 1) 202 [za 3 0 0, zi (S.1 5 0 0 (zo ((n : Int) + 1)).toNatClampNeg), zi (S.1 5 0 0 (zo ((n : Int) + 2)).toNatClampNeg)] S1 = _ := p3
  rw [zMj_850, zo_add (n : Int) 1, zo_add (n : Int) 2, hl, zin_ok (by omega) (by omega) (by omega), zin_ok (by omega) (by omega) (by omega), p1, zr1, p2, hl, zin_ok (by omega) (by omega) (by omega), zin_ok (by omega) (by omega) (by omega), p3, zr1, m145, zr1, p4, if_pos rfl]
  by_cases hx : x = zo 0
  · rw [if_pos hx, if_pos rfl, p5 hx, lgc, if_pos rfl]
  · rw [if_neg hx]
theorem zk_1133 (hl : S.1 5 0 1 0 = zo (len : Nat)) (hn : n + 6 ≤ len) (hb : len ≤ 3072) (h : Cll (d + 1) 308 206 [zi (S.1 5 0 0 (zo ((n : Int) + 1)).toNatClampNeg), zi (S.1 5 0 0 (zo ((n : Int) + 2)).toNatClampNeg), zi (S.1 5 0 0 (zo ((n : Int) + 3)).toNatClampNeg)] S S') : zMj (d + 1) k 1133 (zLV (zo (n : Nat))) S = zMn (d + 1) k 1210 (zLV (zo (n : Nat))) S' := by
  obtain ⟨S1, x, w, p1, p2, p3, p4, p5, p6⟩ := h
  have p1 : zr_sem zF (d + 1) 308 [za 1 0 0, zi (S.1 5 0 0 (zo ((n : Int) + 1)).toNatClampNeg), zi (S.1 5 0 0 (zo ((n : Int) + 2)).toNatClampNeg), zi (S.1 5 0 0 (zo ((n : Int) + 3)).toNatClampNeg), za 4 0 0] S = _ := p1
  have p3 : zr_sem zF (d + 1) 206 [za 3 0 0, zi (S.1 5 0 0 (zo ((n : Int) + 1)).toNatClampNeg), zi (S.1 5 0 0 (zo ((n : Int) + 2)).toNatClampNeg), zi (S.1 5 0 0 (zo ((n : Int) + 3)).toNatClampNeg)] S1 = _ := p3
  rw [zMj_1133, zo_add (n : Int) 1, zo_add (n : Int) 2, zo_add (n : Int) 3, hl, zin_ok (by omega) (by omega) (by omega), zin_ok (by omega) (by omega) (by omega), zin_ok (by omega) (by omega) (by omega), p1, zr1, p2, hl, zin_ok (by omega) (by omega) (by omega), zin_ok (by omega) (by omega) (by omega), zin_ok (by omega) (by omega) (by omega), p3, zr1, m145, zr1, p4, if_pos rfl]
  by_cases hx : x = zo 0
  · rw [if_pos hx, if_pos rfl, p5 hx, lgc, if_pos rfl]
  · rw [if_neg hx]
theorem zk_1213 (hl : S.1 5 0 1 0 = zo (len : Nat)) (hn : n + 6 ≤ len) (hb : len ≤ 3072) (h : Cll (d + 1) 309 208 [zi (S.1 5 0 0 (zo ((n : Int) + 1)).toNatClampNeg)] S S') : zMj (d + 1) k 1213 (zLV (zo (n : Nat))) S = zMn (d + 1) k 1266 (zLV (zo (n : Nat))) S' := by
  obtain ⟨S1, x, w, p1, p2, p3, p4, p5, p6⟩ := h
  have p1 : zr_sem zF (d + 1) 309 [za 1 0 0, zi (S.1 5 0 0 (zo ((n : Int) + 1)).toNatClampNeg), za 4 0 0] S = _ := p1
  have p3 : zr_sem zF (d + 1) 208 [za 3 0 0, zi (S.1 5 0 0 (zo ((n : Int) + 1)).toNatClampNeg)] S1 = _ := p3
  rw [zMj_1213, zo_add (n : Int) 1, hl, zin_ok (by omega) (by omega) (by omega), p1, zr1, p2, hl, zin_ok (by omega) (by omega) (by omega), p3, zr1, m145, zr1, p4, if_pos rfl]
  by_cases hx : x = zo 0
  · rw [if_pos hx, if_pos rfl, p5 hx, lgc, if_pos rfl]
  · rw [if_neg hx]
theorem zk_1282 (hl : S.1 5 0 1 0 = zo (len : Nat)) (hn : n + 6 ≤ len) (hb : len ≤ 3072) (h : Cll (d + 1) 310 211 [zi (S.1 5 0 0 (zo ((n : Int) + 1)).toNatClampNeg)] S S') : zMj (d + 1) k 1282 (zLV (zo (n : Nat))) S = zMn (d + 1) k 1335 (zLV (zo (n : Nat))) S' := by
  obtain ⟨S1, x, w, p1, p2, p3, p4, p5, p6⟩ := h
  have p1 : zr_sem zF (d + 1) 310 [za 1 0 0, zi (S.1 5 0 0 (zo ((n : Int) + 1)).toNatClampNeg), za 4 0 0] S = _ := p1
  have p3 : zr_sem zF (d + 1) 211 [za 3 0 0, zi (S.1 5 0 0 (zo ((n : Int) + 1)).toNatClampNeg)] S1 = _ := p3
  rw [zMj_1282, zo_add (n : Int) 1, hl, zin_ok (by omega) (by omega) (by omega), p1, zr1, p2, hl, zin_ok (by omega) (by omega) (by omega), p3, zr1, m145, zr1, p4, if_pos rfl]
  by_cases hx : x = zo 0
  · rw [if_pos hx, if_pos rfl, p5 hx, lgc, if_pos rfl]
  · rw [if_neg hx]
theorem zk_1338 (hl : S.1 5 0 1 0 = zo (len : Nat)) (hn : n + 6 ≤ len) (hb : len ≤ 3072) (h : Cll (d + 1) 311 218 [zi (S.1 5 0 0 (zo ((n : Int) + 1)).toNatClampNeg), zi (S.1 5 0 0 (zo ((n : Int) + 2)).toNatClampNeg), zi (S.1 5 0 0 (zo ((n : Int) + 3)).toNatClampNeg)] S S') : zMj (d + 1) k 1338 (zLV (zo (n : Nat))) S = zMn (d + 1) k 1415 (zLV (zo (n : Nat))) S' := by
  obtain ⟨S1, x, w, p1, p2, p3, p4, p5, p6⟩ := h
  have p1 : zr_sem zF (d + 1) 311 [za 1 0 0, zi (S.1 5 0 0 (zo ((n : Int) + 1)).toNatClampNeg), zi (S.1 5 0 0 (zo ((n : Int) + 2)).toNatClampNeg), zi (S.1 5 0 0 (zo ((n : Int) + 3)).toNatClampNeg), za 4 0 0] S = _ := p1
  have p3 : zr_sem zF (d + 1) 218 [za 3 0 0, zi (S.1 5 0 0 (zo ((n : Int) + 1)).toNatClampNeg), zi (S.1 5 0 0 (zo ((n : Int) + 2)).toNatClampNeg), zi (S.1 5 0 0 (zo ((n : Int) + 3)).toNatClampNeg)] S1 = _ := p3
  rw [zMj_1338, zo_add (n : Int) 1, zo_add (n : Int) 2, zo_add (n : Int) 3, hl, zin_ok (by omega) (by omega) (by omega), zin_ok (by omega) (by omega) (by omega), zin_ok (by omega) (by omega) (by omega), p1, zr1, p2, hl, zin_ok (by omega) (by omega) (by omega), zin_ok (by omega) (by omega) (by omega), zin_ok (by omega) (by omega) (by omega), p3, zr1, m145, zr1, p4, if_pos rfl]
  by_cases hx : x = zo 0
  · rw [if_pos hx, if_pos rfl, p5 hx, lgc, if_pos rfl]
  · rw [if_neg hx]
theorem zk_1418 (hl : S.1 5 0 1 0 = zo (len : Nat)) (hn : n + 6 ≤ len) (hb : len ≤ 3072) (h : Cll (d + 1) 312 219 [zi (S.1 5 0 0 (zo ((n : Int) + 1)).toNatClampNeg), zi (S.1 5 0 0 (zo ((n : Int) + 2)).toNatClampNeg), zi (S.1 5 0 0 (zo ((n : Int) + 3)).toNatClampNeg)] S S') : zMj (d + 1) k 1418 (zLV (zo (n : Nat))) S = zMn (d + 1) k 1495 (zLV (zo (n : Nat))) S' := by
  obtain ⟨S1, x, w, p1, p2, p3, p4, p5, p6⟩ := h
  have p1 : zr_sem zF (d + 1) 312 [za 1 0 0, zi (S.1 5 0 0 (zo ((n : Int) + 1)).toNatClampNeg), zi (S.1 5 0 0 (zo ((n : Int) + 2)).toNatClampNeg), zi (S.1 5 0 0 (zo ((n : Int) + 3)).toNatClampNeg), za 4 0 0] S = _ := p1
  have p3 : zr_sem zF (d + 1) 219 [za 3 0 0, zi (S.1 5 0 0 (zo ((n : Int) + 1)).toNatClampNeg), zi (S.1 5 0 0 (zo ((n : Int) + 2)).toNatClampNeg), zi (S.1 5 0 0 (zo ((n : Int) + 3)).toNatClampNeg)] S1 = _ := p3
  rw [zMj_1418, zo_add (n : Int) 1, zo_add (n : Int) 2, zo_add (n : Int) 3, hl, zin_ok (by omega) (by omega) (by omega), zin_ok (by omega) (by omega) (by omega), zin_ok (by omega) (by omega) (by omega), p1, zr1, p2, hl, zin_ok (by omega) (by omega) (by omega), zin_ok (by omega) (by omega) (by omega), zin_ok (by omega) (by omega) (by omega), p3, zr1, m145, zr1, p4, if_pos rfl]
  by_cases hx : x = zo 0
  · rw [if_pos hx, if_pos rfl, p5 hx, lgc, if_pos rfl]
  · rw [if_neg hx]
theorem zk_1498 (hl : S.1 5 0 1 0 = zo (len : Nat)) (hn : n + 6 ≤ len) (hb : len ≤ 3072) (h : Cll (d + 1) 313 220 [zi (S.1 5 0 0 (zo ((n : Int) + 1)).toNatClampNeg)] S S') : zMj (d + 1) k 1498 (zLV (zo (n : Nat))) S = zMn (d + 1) k 1551 (zLV (zo (n : Nat))) S' := by
  obtain ⟨S1, x, w, p1, p2, p3, p4, p5, p6⟩ := h
  have p1 : zr_sem zF (d + 1) 313 [za 1 0 0, zi (S.1 5 0 0 (zo ((n : Int) + 1)).toNatClampNeg), za 4 0 0] S = _ := p1
  have p3 : zr_sem zF (d + 1) 220 [za 3 0 0, zi (S.1 5 0 0 (zo ((n : Int) + 1)).toNatClampNeg)] S1 = _ := p3
  rw [zMj_1498, zo_add (n : Int) 1, hl, zin_ok (by omega) (by omega) (by omega), p1, zr1, p2, hl, zin_ok (by omega) (by omega) (by omega), p3, zr1, m145, zr1, p4, if_pos rfl]
  by_cases hx : x = zo 0
  · rw [if_pos hx, if_pos rfl, p5 hx, lgc, if_pos rfl]
  · rw [if_neg hx]
theorem zk_1567 (hl : S.1 5 0 1 0 = zo (len : Nat)) (hn : n + 6 ≤ len) (hb : len ≤ 3072) (h : Cll (d + 1) 314 222 [zi (S.1 5 0 0 (zo ((n : Int) + 1)).toNatClampNeg), zi (S.1 5 0 0 (zo ((n : Int) + 2)).toNatClampNeg), zi (S.1 5 0 0 (zo ((n : Int) + 3)).toNatClampNeg)] S S') : zMj (d + 1) k 1567 (zLV (zo (n : Nat))) S = zMn (d + 1) k 1644 (zLV (zo (n : Nat))) S' := by
  obtain ⟨S1, x, w, p1, p2, p3, p4, p5, p6⟩ := h
  have p1 : zr_sem zF (d + 1) 314 [za 1 0 0, zi (S.1 5 0 0 (zo ((n : Int) + 1)).toNatClampNeg), zi (S.1 5 0 0 (zo ((n : Int) + 2)).toNatClampNeg), zi (S.1 5 0 0 (zo ((n : Int) + 3)).toNatClampNeg), za 4 0 0] S = _ := p1
  have p3 : zr_sem zF (d + 1) 222 [za 3 0 0, zi (S.1 5 0 0 (zo ((n : Int) + 1)).toNatClampNeg), zi (S.1 5 0 0 (zo ((n : Int) + 2)).toNatClampNeg), zi (S.1 5 0 0 (zo ((n : Int) + 3)).toNatClampNeg)] S1 = _ := p3
  rw [zMj_1567, zo_add (n : Int) 1, zo_add (n : Int) 2, zo_add (n : Int) 3, hl, zin_ok (by omega) (by omega) (by omega), zin_ok (by omega) (by omega) (by omega), zin_ok (by omega) (by omega) (by omega), p1, zr1, p2, hl, zin_ok (by omega) (by omega) (by omega), zin_ok (by omega) (by omega) (by omega), zin_ok (by omega) (by omega) (by omega), p3, zr1, m145, zr1, p4, if_pos rfl]
  by_cases hx : x = zo 0
  · rw [if_pos hx, if_pos rfl, p5 hx, lgc, if_pos rfl]
  · rw [if_neg hx]
theorem zk_1647 (hl : S.1 5 0 1 0 = zo (len : Nat)) (hn : n + 6 ≤ len) (hb : len ≤ 3072) (h : Cll (d + 1) 315 223 [zi (S.1 5 0 0 (zo ((n : Int) + 1)).toNatClampNeg)] S S') : zMj (d + 1) k 1647 (zLV (zo (n : Nat))) S = zMn (d + 1) k 1700 (zLV (zo (n : Nat))) S' := by
  obtain ⟨S1, x, w, p1, p2, p3, p4, p5, p6⟩ := h
  have p1 : zr_sem zF (d + 1) 315 [za 1 0 0, zi (S.1 5 0 0 (zo ((n : Int) + 1)).toNatClampNeg), za 4 0 0] S = _ := p1
  have p3 : zr_sem zF (d + 1) 223 [za 3 0 0, zi (S.1 5 0 0 (zo ((n : Int) + 1)).toNatClampNeg)] S1 = _ := p3
  rw [zMj_1647, zo_add (n : Int) 1, hl, zin_ok (by omega) (by omega) (by omega), p1, zr1, p2, hl, zin_ok (by omega) (by omega) (by omega), p3, zr1, m145, zr1, p4, if_pos rfl]
  by_cases hx : x = zo 0
  · rw [if_pos hx, if_pos rfl, p5 hx, lgc, if_pos rfl]
  · rw [if_neg hx]
theorem zk_1703 (hl : S.1 5 0 1 0 = zo (len : Nat)) (hn : n + 6 ≤ len) (hb : len ≤ 3072) (h : Cll (d + 1) 316 224 [zi (S.1 5 0 0 (zo ((n : Int) + 1)).toNatClampNeg), zi (S.1 5 0 0 (zo ((n : Int) + 2)).toNatClampNeg)] S S') : zMj (d + 1) k 1703 (zLV (zo (n : Nat))) S = zMn (d + 1) k 1768 (zLV (zo (n : Nat))) S' := by
  obtain ⟨S1, x, w, p1, p2, p3, p4, p5, p6⟩ := h
  have p1 : zr_sem zF (d + 1) 316 [za 1 0 0, zi (S.1 5 0 0 (zo ((n : Int) + 1)).toNatClampNeg), zi (S.1 5 0 0 (zo ((n : Int) + 2)).toNatClampNeg), za 4 0 0] S = _ := p1
  have p3 : zr_sem zF (d + 1) 224 [za 3 0 0, zi (S.1 5 0 0 (zo ((n : Int) + 1)).toNatClampNeg), zi (S.1 5 0 0 (zo ((n : Int) + 2)).toNatClampNeg)] S1 = _ := p3
  rw [zMj_1703, zo_add (n : Int) 1, zo_add (n : Int) 2, hl, zin_ok (by omega) (by omega) (by omega), zin_ok (by omega) (by omega) (by omega), p1, zr1, p2, hl, zin_ok (by omega) (by omega) (by omega), zin_ok (by omega) (by omega) (by omega), p3, zr1, m145, zr1, p4, if_pos rfl]
  by_cases hx : x = zo 0
  · rw [if_pos hx, if_pos rfl, p5 hx, lgc, if_pos rfl]
  · rw [if_neg hx]
theorem zk_1771 (hl : S.1 5 0 1 0 = zo (len : Nat)) (hn : n + 6 ≤ len) (hb : len ≤ 3072) (h : Cll (d + 1) 317 225 [zi (S.1 5 0 0 (zo ((n : Int) + 1)).toNatClampNeg)] S S') : zMj (d + 1) k 1771 (zLV (zo (n : Nat))) S = zMn (d + 1) k 1824 (zLV (zo (n : Nat))) S' := by
  obtain ⟨S1, x, w, p1, p2, p3, p4, p5, p6⟩ := h
  have p1 : zr_sem zF (d + 1) 317 [za 1 0 0, zi (S.1 5 0 0 (zo ((n : Int) + 1)).toNatClampNeg), za 4 0 0] S = _ := p1
  have p3 : zr_sem zF (d + 1) 225 [za 3 0 0, zi (S.1 5 0 0 (zo ((n : Int) + 1)).toNatClampNeg)] S1 = _ := p3
  rw [zMj_1771, zo_add (n : Int) 1, hl, zin_ok (by omega) (by omega) (by omega), p1, zr1, p2, hl, zin_ok (by omega) (by omega) (by omega), p3, zr1, m145, zr1, p4, if_pos rfl]
  by_cases hx : x = zo 0
  · rw [if_pos hx, if_pos rfl, p5 hx, lgc, if_pos rfl]
  · rw [if_neg hx]
theorem zk_1924 (hl : S.1 5 0 1 0 = zo (len : Nat)) (hn : n + 6 ≤ len) (hb : len ≤ 3072) (h : Cll (d + 1) 318 231 [zi (S.1 5 0 0 (zo ((n : Int) + 1)).toNatClampNeg), zi (S.1 5 0 0 (zo ((n : Int) + 2)).toNatClampNeg), zi (S.1 5 0 0 (zo ((n : Int) + 3)).toNatClampNeg), zi (S.1 5 0 0 (zo ((n : Int) + 4)).toNatClampNeg)] S S') : zMj (d + 1) k 1924 (zLV (zo (n : Nat))) S = zMn (d + 1) k 2013 (zLV (zo (n : Nat))) S' := by
  obtain ⟨S1, x, w, p1, p2, p3, p4, p5, p6⟩ := h
  have p1 : zr_sem zF (d + 1) 318 [za 1 0 0, zi (S.1 5 0 0 (zo ((n : Int) + 1)).toNatClampNeg), zi (S.1 5 0 0 (zo ((n : Int) + 2)).toNatClampNeg), zi (S.1 5 0 0 (zo ((n : Int) + 3)).toNatClampNeg), zi (S.1 5 0 0 (zo ((n : Int) + 4)).toNatClampNeg), za 4 0 0] S = _ := p1
  have p3 : zr_sem zF (d + 1) 231 [za 3 0 0, zi (S.1 5 0 0 (zo ((n : Int) + 1)).toNatClampNeg), zi (S.1 5 0 0 (zo ((n : Int) + 2)).toNatClampNeg), zi (S.1 5 0 0 (zo ((n : Int) + 3)).toNatClampNeg), zi (S.1 5 0 0 (zo ((n : Int) + 4)).toNatClampNeg)] S1 = _ := p3
  rw [zMj_1924, zo_add (n : Int) 1, zo_add (n : Int) 2, zo_add (n : Int) 3, zo_add (n : Int) 4, hl, zin_ok (by omega) (by omega) (by omega), zin_ok (by omega) (by omega) (by omega), zin_ok (by omega) (by omega) (by omega), zin_ok (by omega) (by omega) (by omega), p1, zr1, p2, hl, zin_ok (by omega) (by omega) (by omega), zin_ok (by omega) (by omega) (by omega), zin_ok (by omega) (by omega) (by omega), zin_ok (by omega) (by omega) (by omega), p3, zr1, m145, zr1, p4, if_pos rfl]
  by_cases hx : x = zo 0
  · rw [if_pos hx, if_pos rfl, p5 hx, lgc, if_pos rfl]
  · rw [if_neg hx]
theorem zk_2016 (hl : S.1 5 0 1 0 = zo (len : Nat)) (hn : n + 6 ≤ len) (hb : len ≤ 3072) (h : Cll (d + 1) 319 232 [zi (S.1 5 0 0 (zo ((n : Int) + 1)).toNatClampNeg), zi (S.1 5 0 0 (zo ((n : Int) + 2)).toNatClampNeg), zi (S.1 5 0 0 (zo ((n : Int) + 3)).toNatClampNeg)] S S') : zMj (d + 1) k 2016 (zLV (zo (n : Nat))) S = zMn (d + 1) k 2093 (zLV (zo (n : Nat))) S' := by
  obtain ⟨S1, x, w, p1, p2, p3, p4, p5, p6⟩ := h
  have p1 : zr_sem zF (d + 1) 319 [za 1 0 0, zi (S.1 5 0 0 (zo ((n : Int) + 1)).toNatClampNeg), zi (S.1 5 0 0 (zo ((n : Int) + 2)).toNatClampNeg), zi (S.1 5 0 0 (zo ((n : Int) + 3)).toNatClampNeg), za 4 0 0] S = _ := p1
  have p3 : zr_sem zF (d + 1) 232 [za 3 0 0, zi (S.1 5 0 0 (zo ((n : Int) + 1)).toNatClampNeg), zi (S.1 5 0 0 (zo ((n : Int) + 2)).toNatClampNeg), zi (S.1 5 0 0 (zo ((n : Int) + 3)).toNatClampNeg)] S1 = _ := p3
  rw [zMj_2016, zo_add (n : Int) 1, zo_add (n : Int) 2, zo_add (n : Int) 3, hl, zin_ok (by omega) (by omega) (by omega), zin_ok (by omega) (by omega) (by omega), zin_ok (by omega) (by omega) (by omega), p1, zr1, p2, hl, zin_ok (by omega) (by omega) (by omega), zin_ok (by omega) (by omega) (by omega), zin_ok (by omega) (by omega) (by omega), p3, zr1, m145, zr1, p4, if_pos rfl]
  by_cases hx : x = zo 0
  · rw [if_pos hx, if_pos rfl, p5 hx, lgc, if_pos rfl]
  · rw [if_neg hx]
theorem zk_2096 (hl : S.1 5 0 1 0 = zo (len : Nat)) (hn : n + 6 ≤ len) (hb : len ≤ 3072) (h : Cll (d + 1) 320 233 [zi (S.1 5 0 0 (zo ((n : Int) + 1)).toNatClampNeg), zi (S.1 5 0 0 (zo ((n : Int) + 2)).toNatClampNeg), zi (S.1 5 0 0 (zo ((n : Int) + 3)).toNatClampNeg), zi (S.1 5 0 0 (zo ((n : Int) + 4)).toNatClampNeg)] S S') : zMj (d + 1) k 2096 (zLV (zo (n : Nat))) S = zMn (d + 1) k 2185 (zLV (zo (n : Nat))) S' := by
  obtain ⟨S1, x, w, p1, p2, p3, p4, p5, p6⟩ := h
  have p1 : zr_sem zF (d + 1) 320 [za 1 0 0, zi (S.1 5 0 0 (zo ((n : Int) + 1)).toNatClampNeg), zi (S.1 5 0 0 (zo ((n : Int) + 2)).toNatClampNeg), zi (S.1 5 0 0 (zo ((n : Int) + 3)).toNatClampNeg), zi (S.1 5 0 0 (zo ((n : Int) + 4)).toNatClampNeg), za 4 0 0] S = _ := p1
  have p3 : zr_sem zF (d + 1) 233 [za 3 0 0, zi (S.1 5 0 0 (zo ((n : Int) + 1)).toNatClampNeg), zi (S.1 5 0 0 (zo ((n : Int) + 2)).toNatClampNeg), zi (S.1 5 0 0 (zo ((n : Int) + 3)).toNatClampNeg), zi (S.1 5 0 0 (zo ((n : Int) + 4)).toNatClampNeg)] S1 = _ := p3
  rw [zMj_2096, zo_add (n : Int) 1, zo_add (n : Int) 2, zo_add (n : Int) 3, zo_add (n : Int) 4, hl, zin_ok (by omega) (by omega) (by omega), zin_ok (by omega) (by omega) (by omega), zin_ok (by omega) (by omega) (by omega), zin_ok (by omega) (by omega) (by omega), p1, zr1, p2, hl, zin_ok (by omega) (by omega) (by omega), zin_ok (by omega) (by omega) (by omega), zin_ok (by omega) (by omega) (by omega), zin_ok (by omega) (by omega) (by omega), p3, zr1, m145, zr1, p4, if_pos rfl]
  by_cases hx : x = zo 0
  · rw [if_pos hx, if_pos rfl, p5 hx, lgc, if_pos rfl]
  · rw [if_neg hx]
theorem zk_2188 (hl : S.1 5 0 1 0 = zo (len : Nat)) (hn : n + 6 ≤ len) (hb : len ≤ 3072) (h : Cll (d + 1) 321 234 [zi (S.1 5 0 0 (zo ((n : Int) + 1)).toNatClampNeg), zi (S.1 5 0 0 (zo ((n : Int) + 2)).toNatClampNeg), zi (S.1 5 0 0 (zo ((n : Int) + 3)).toNatClampNeg)] S S') : zMj (d + 1) k 2188 (zLV (zo (n : Nat))) S = zMn (d + 1) k 2265 (zLV (zo (n : Nat))) S' := by
  obtain ⟨S1, x, w, p1, p2, p3, p4, p5, p6⟩ := h
  have p1 : zr_sem zF (d + 1) 321 [za 1 0 0, zi (S.1 5 0 0 (zo ((n : Int) + 1)).toNatClampNeg), zi (S.1 5 0 0 (zo ((n : Int) + 2)).toNatClampNeg), zi (S.1 5 0 0 (zo ((n : Int) + 3)).toNatClampNeg), za 4 0 0] S = _ := p1
  have p3 : zr_sem zF (d + 1) 234 [za 3 0 0, zi (S.1 5 0 0 (zo ((n : Int) + 1)).toNatClampNeg), zi (S.1 5 0 0 (zo ((n : Int) + 2)).toNatClampNeg), zi (S.1 5 0 0 (zo ((n : Int) + 3)).toNatClampNeg)] S1 = _ := p3
  rw [zMj_2188, zo_add (n : Int) 1, zo_add (n : Int) 2, zo_add (n : Int) 3, hl, zin_ok (by omega) (by omega) (by omega), zin_ok (by omega) (by omega) (by omega), zin_ok (by omega) (by omega) (by omega), p1, zr1, p2, hl, zin_ok (by omega) (by omega) (by omega), zin_ok (by omega) (by omega) (by omega), zin_ok (by omega) (by omega) (by omega), p3, zr1, m145, zr1, p4, if_pos rfl]
  by_cases hx : x = zo 0
  · rw [if_pos hx, if_pos rfl, p5 hx, lgc, if_pos rfl]
  · rw [if_neg hx]
theorem zk_2268 (hl : S.1 5 0 1 0 = zo (len : Nat)) (hn : n + 6 ≤ len) (hb : len ≤ 3072) (h : Cll (d + 1) 322 235 [zi (S.1 5 0 0 (zo ((n : Int) + 1)).toNatClampNeg)] S S') : zMj (d + 1) k 2268 (zLV (zo (n : Nat))) S = zMn (d + 1) k 2321 (zLV (zo (n : Nat))) S' := by
  obtain ⟨S1, x, w, p1, p2, p3, p4, p5, p6⟩ := h
  have p1 : zr_sem zF (d + 1) 322 [za 1 0 0, zi (S.1 5 0 0 (zo ((n : Int) + 1)).toNatClampNeg), za 4 0 0] S = _ := p1
  have p3 : zr_sem zF (d + 1) 235 [za 3 0 0, zi (S.1 5 0 0 (zo ((n : Int) + 1)).toNatClampNeg)] S1 = _ := p3
  rw [zMj_2268, zo_add (n : Int) 1, hl, zin_ok (by omega) (by omega) (by omega), p1, zr1, p2, hl, zin_ok (by omega) (by omega) (by omega), p3, zr1, m145, zr1, p4, if_pos rfl]
  by_cases hx : x = zo 0
  · rw [if_pos hx, if_pos rfl, p5 hx, lgc, if_pos rfl]
  · rw [if_neg hx]
theorem zk_2324 (hl : S.1 5 0 1 0 = zo (len : Nat)) (hn : n + 6 ≤ len) (hb : len ≤ 3072) (h : Cll (d + 1) 323 237 [zi (S.1 5 0 0 (zo ((n : Int) + 1)).toNatClampNeg), zi (S.1 5 0 0 (zo ((n : Int) + 2)).toNatClampNeg)] S S') : zMj (d + 1) k 2324 (zLV (zo (n : Nat))) S = zMn (d + 1) k 2389 (zLV (zo (n : Nat))) S' := by
  obtain ⟨S1, x, w, p1, p2, p3, p4, p5, p6⟩ := h
  have p1 : zr_sem zF (d + 1) 323 [za 1 0 0, zi (S.1 5 0 0 (zo ((n : Int) + 1)).toNatClampNeg), zi (S.1 5 0 0 (zo ((n : Int) + 2)).toNatClampNeg), za 4 0 0] S = _ := p1
  have p3 : zr_sem zF (d + 1) 237 [za 3 0 0, zi (S.1 5 0 0 (zo ((n : Int) + 1)).toNatClampNeg), zi (S.1 5 0 0 (zo ((n : Int) + 2)).toNatClampNeg)] S1 = _ := p3
  rw [zMj_2324, zo_add (n : Int) 1, zo_add (n : Int) 2, hl, zin_ok (by omega) (by omega) (by omega), zin_ok (by omega) (by omega) (by omega), p1, zr1, p2, hl, zin_ok (by omega) (by omega) (by omega), zin_ok (by omega) (by omega) (by omega), p3, zr1, m145, zr1, p4, if_pos rfl]
  by_cases hx : x = zo 0
  · rw [if_pos hx, if_pos rfl, p5 hx, lgc, if_pos rfl]
  · rw [if_neg hx]
theorem zk_2392 (hl : S.1 5 0 1 0 = zo (len : Nat)) (hn : n + 6 ≤ len) (hb : len ≤ 3072) (h : Cll (d + 1) 324 238 [zi (S.1 5 0 0 (zo ((n : Int) + 1)).toNatClampNeg), zi (S.1 5 0 0 (zo ((n : Int) + 2)).toNatClampNeg)] S S') : zMj (d + 1) k 2392 (zLV (zo (n : Nat))) S = zMn (d + 1) k 2457 (zLV (zo (n : Nat))) S' := by
  obtain ⟨S1, x, w, p1, p2, p3, p4, p5, p6⟩ := h
  have p1 : zr_sem zF (d + 1) 324 [za 1 0 0, zi (S.1 5 0 0 (zo ((n : Int) + 1)).toNatClampNeg), zi (S.1 5 0 0 (zo ((n : Int) + 2)).toNatClampNeg), za 4 0 0] S = _ := p1
  have p3 : zr_sem zF (d + 1) 238 [za 3 0 0, zi (S.1 5 0 0 (zo ((n : Int) + 1)).toNatClampNeg), zi (S.1 5 0 0 (zo ((n : Int) + 2)).toNatClampNeg)] S1 = _ := p3
  rw [zMj_2392, zo_add (n : Int) 1, zo_add (n : Int) 2, hl, zin_ok (by omega) (by omega) (by omega), zin_ok (by omega) (by omega) (by omega), p1, zr1, p2, hl, zin_ok (by omega) (by omega) (by omega), zin_ok (by omega) (by omega) (by omega), p3, zr1, m145, zr1, p4, if_pos rfl]
  by_cases hx : x = zo 0
  · rw [if_pos hx, if_pos rfl, p5 hx, lgc, if_pos rfl]
  · rw [if_neg hx]
theorem zk_2460 (hl : S.1 5 0 1 0 = zo (len : Nat)) (hn : n + 6 ≤ len) (hb : len ≤ 3072) (h : Cll (d + 1) 325 239 [zi (S.1 5 0 0 (zo ((n : Int) + 1)).toNatClampNeg), zi (S.1 5 0 0 (zo ((n : Int) + 2)).toNatClampNeg), zi (S.1 5 0 0 (zo ((n : Int) + 3)).toNatClampNeg)] S S') : zMj (d + 1) k 2460 (zLV (zo (n : Nat))) S = zMn (d + 1) k 2537 (zLV (zo (n : Nat))) S' := by
  obtain ⟨S1, x, w, p1, p2, p3, p4, p5, p6⟩ := h
  have p1 : zr_sem zF (d + 1) 325 [za 1 0 0, zi (S.1 5 0 0 (zo ((n : Int) + 1)).toNatClampNeg), zi (S.1 5 0 0 (zo ((n : Int) + 2)).toNatClampNeg), zi (S.1 5 0 0 (zo ((n : Int) + 3)).toNatClampNeg), za 4 0 0] S = _ := p1
  have p3 : zr_sem zF (d + 1) 239 [za 3 0 0, zi (S.1 5 0 0 (zo ((n : Int) + 1)).toNatClampNeg), zi (S.1 5 0 0 (zo ((n : Int) + 2)).toNatClampNeg), zi (S.1 5 0 0 (zo ((n : Int) + 3)).toNatClampNeg)] S1 = _ := p3
  rw [zMj_2460, zo_add (n : Int) 1, zo_add (n : Int) 2, zo_add (n : Int) 3, hl, zin_ok (by omega) (by omega) (by omega), zin_ok (by omega) (by omega) (by omega), zin_ok (by omega) (by omega) (by omega), p1, zr1, p2, hl, zin_ok (by omega) (by omega) (by omega), zin_ok (by omega) (by omega) (by omega), zin_ok (by omega) (by omega) (by omega), p3, zr1, m145, zr1, p4, if_pos rfl]
  by_cases hx : x = zo 0
  · rw [if_pos hx, if_pos rfl, p5 hx, lgc, if_pos rfl]
  · rw [if_neg hx]
theorem zk_2540 (hl : S.1 5 0 1 0 = zo (len : Nat)) (hn : n + 6 ≤ len) (hb : len ≤ 3072) (h : Cll (d + 1) 326 240 [zi (S.1 5 0 0 (zo ((n : Int) + 1)).toNatClampNeg), zi (S.1 5 0 0 (zo ((n : Int) + 2)).toNatClampNeg)] S S') : zMj (d + 1) k 2540 (zLV (zo (n : Nat))) S = zMn (d + 1) k 2605 (zLV (zo (n : Nat))) S' := by
  obtain ⟨S1, x, w, p1, p2, p3, p4, p5, p6⟩ := h
  have p1 : zr_sem zF (d + 1) 326 [za 1 0 0, zi (S.1 5 0 0 (zo ((n : Int) + 1)).toNatClampNeg), zi (S.1 5 0 0 (zo ((n : Int) + 2)).toNatClampNeg), za 4 0 0] S = _ := p1
  have p3 : zr_sem zF (d + 1) 240 [za 3 0 0, zi (S.1 5 0 0 (zo ((n : Int) + 1)).toNatClampNeg), zi (S.1 5 0 0 (zo ((n : Int) + 2)).toNatClampNeg)] S1 = _ := p3
  rw [zMj_2540, zo_add (n : Int) 1, zo_add (n : Int) 2, hl, zin_ok (by omega) (by omega) (by omega), zin_ok (by omega) (by omega) (by omega), p1, zr1, p2, hl, zin_ok (by omega) (by omega) (by omega), zin_ok (by omega) (by omega) (by omega), p3, zr1, m145, zr1, p4, if_pos rfl]
  by_cases hx : x = zo 0
  · rw [if_pos hx, if_pos rfl, p5 hx, lgc, if_pos rfl]
  · rw [if_neg hx]
theorem zk_2608 (hl : S.1 5 0 1 0 = zo (len : Nat)) (hn : n + 6 ≤ len) (hb : len ≤ 3072) (h : Cll (d + 1) 327 241 [zi (S.1 5 0 0 (zo ((n : Int) + 1)).toNatClampNeg)] S S') : zMj (d + 1) k 2608 (zLV (zo (n : Nat))) S = zMn (d + 1) k 2661 (zLV (zo (n : Nat))) S' := by
  obtain ⟨S1, x, w, p1, p2, p3, p4, p5, p6⟩ := h
  have p1 : zr_sem zF (d + 1) 327 [za 1 0 0, zi (S.1 5 0 0 (zo ((n : Int) + 1)).toNatClampNeg), za 4 0 0] S = _ := p1
  have p3 : zr_sem zF (d + 1) 241 [za 3 0 0, zi (S.1 5 0 0 (zo ((n : Int) + 1)).toNatClampNeg)] S1 = _ := p3
  rw [zMj_2608, zo_add (n : Int) 1, hl, zin_ok (by omega) (by omega) (by omega), p1, zr1, p2, hl, zin_ok (by omega) (by omega) (by omega), p3, zr1, m145, zr1, p4, if_pos rfl]
  by_cases hx : x = zo 0
  · rw [if_pos hx, if_pos rfl, p5 hx, lgc, if_pos rfl]
  · rw [if_neg hx]
theorem zk_2664 (hl : S.1 5 0 1 0 = zo (len : Nat)) (hn : n + 6 ≤ len) (hb : len ≤ 3072) (h : Cll (d + 1) 328 242 [zi (S.1 5 0 0 (zo ((n : Int) + 1)).toNatClampNeg), zi (S.1 5 0 0 (zo ((n : Int) + 2)).toNatClampNeg)] S S') : zMj (d + 1) k 2664 (zLV (zo (n : Nat))) S = zMn (d + 1) k 2729 (zLV (zo (n : Nat))) S' := by
  obtain ⟨S1, x, w, p1, p2, p3, p4, p5, p6⟩ := h
  have p1 : zr_sem zF (d + 1) 328 [za 1 0 0, zi (S.1 5 0 0 (zo ((n : Int) + 1)).toNatClampNeg), zi (S.1 5 0 0 (zo ((n : Int) + 2)).toNatClampNeg), za 4 0 0] S = _ := p1
  have p3 : zr_sem zF (d + 1) 242 [za 3 0 0, zi (S.1 5 0 0 (zo ((n : Int) + 1)).toNatClampNeg), zi (S.1 5 0 0 (zo ((n : Int) + 2)).toNatClampNeg)] S1 = _ := p3
  rw [zMj_2664, zo_add (n : Int) 1, zo_add (n : Int) 2, hl, zin_ok (by omega) (by omega) (by omega), zin_ok (by omega) (by omega) (by omega), p1, zr1, p2, hl, zin_ok (by omega) (by omega) (by omega), zin_ok (by omega) (by omega) (by omega), p3, zr1, m145, zr1, p4, if_pos rfl]
  by_cases hx : x = zo 0
  · rw [if_pos hx, if_pos rfl, p5 hx, lgc, if_pos rfl]
  · rw [if_neg hx]
theorem zk_2732 (hl : S.1 5 0 1 0 = zo (len : Nat)) (hn : n + 6 ≤ len) (hb : len ≤ 3072) (h : Cll (d + 1) 329 243 [zi (S.1 5 0 0 (zo ((n : Int) + 1)).toNatClampNeg)] S S') : zMj (d + 1) k 2732 (zLV (zo (n : Nat))) S = zMn (d + 1) k 2785 (zLV (zo (n : Nat))) S' := by
  obtain ⟨S1, x, w, p1, p2, p3, p4, p5, p6⟩ := h
  have p1 : zr_sem zF (d + 1) 329 [za 1 0 0, zi (S.1 5 0 0 (zo ((n : Int) + 1)).toNatClampNeg), za 4 0 0] S = _ := p1
  have p3 : zr_sem zF (d + 1) 243 [za 3 0 0, zi (S.1 5 0 0 (zo ((n : Int) + 1)).toNatClampNeg)] S1 = _ := p3
  rw [zMj_2732, zo_add (n : Int) 1, hl, zin_ok (by omega) (by omega) (by omega), p1, zr1, p2, hl, zin_ok (by omega) (by omega) (by omega), p3, zr1, m145, zr1, p4, if_pos rfl]
  by_cases hx : x = zo 0
  · rw [if_pos hx, if_pos rfl, p5 hx, lgc, if_pos rfl]
  · rw [if_neg hx]
theorem zk_2788 (hl : S.1 5 0 1 0 = zo (len : Nat)) (hn : n + 6 ≤ len) (hb : len ≤ 3072) (h : Cll (d + 1) 330 244 [zi (S.1 5 0 0 (zo ((n : Int) + 1)).toNatClampNeg)] S S') : zMj (d + 1) k 2788 (zLV (zo (n : Nat))) S = zMn (d + 1) k 2841 (zLV (zo (n : Nat))) S' := by
  obtain ⟨S1, x, w, p1, p2, p3, p4, p5, p6⟩ := h
  have p1 : zr_sem zF (d + 1) 330 [za 1 0 0, zi (S.1 5 0 0 (zo ((n : Int) + 1)).toNatClampNeg), za 4 0 0] S = _ := p1
  have p3 : zr_sem zF (d + 1) 244 [za 3 0 0, zi (S.1 5 0 0 (zo ((n : Int) + 1)).toNatClampNeg)] S1 = _ := p3
  rw [zMj_2788, zo_add (n : Int) 1, hl, zin_ok (by omega) (by omega) (by omega), p1, zr1, p2, hl, zin_ok (by omega) (by omega) (by omega), p3, zr1, m145, zr1, p4, if_pos rfl]
  by_cases hx : x = zo 0
  · rw [if_pos hx, if_pos rfl, p5 hx, lgc, if_pos rfl]
  · rw [if_neg hx]
theorem zk_2844 (hl : S.1 5 0 1 0 = zo (len : Nat)) (hn : n + 6 ≤ len) (hb : len ≤ 3072) (h : Cll (d + 1) 331 246 [zi (S.1 5 0 0 (zo ((n : Int) + 1)).toNatClampNeg)] S S') : zMj (d + 1) k 2844 (zLV (zo (n : Nat))) S = zMn (d + 1) k 2897 (zLV (zo (n : Nat))) S' := by
  obtain ⟨S1, x, w, p1, p2, p3, p4, p5, p6⟩ := h
  have p1 : zr_sem zF (d + 1) 331 [za 1 0 0, zi (S.1 5 0 0 (zo ((n : Int) + 1)).toNatClampNeg), za 4 0 0] S = _ := p1
  have p3 : zr_sem zF (d + 1) 246 [za 3 0 0, zi (S.1 5 0 0 (zo ((n : Int) + 1)).toNatClampNeg)] S1 = _ := p3
  rw [zMj_2844, zo_add (n : Int) 1, hl, zin_ok (by omega) (by omega) (by omega), p1, zr1, p2, hl, zin_ok (by omega) (by omega) (by omega), p3, zr1, m145, zr1, p4, if_pos rfl]
  by_cases hx : x = zo 0
  · rw [if_pos hx, if_pos rfl, p5 hx, lgc, if_pos rfl]
  · rw [if_neg hx]
theorem zk_2975 (hl : S.1 5 0 1 0 = zo (len : Nat)) (hn : n + 6 ≤ len) (hb : len ≤ 3072) (h : Cll (d + 1) 332 290 [zi (S.1 5 0 0 (zo ((n : Int) + 1)).toNatClampNeg)] S S') : zMj (d + 1) k 2975 (zLV (zo (n : Nat))) S = zMn (d + 1) k 3028 (zLV (zo (n : Nat))) S' := by
  obtain ⟨S1, x, w, p1, p2, p3, p4, p5, p6⟩ := h
  have p1 : zr_sem zF (d + 1) 332 [za 1 0 0, zi (S.1 5 0 0 (zo ((n : Int) + 1)).toNatClampNeg), za 4 0 0] S = _ := p1
  have p3 : zr_sem zF (d + 1) 290 [za 3 0 0, zi (S.1 5 0 0 (zo ((n : Int) + 1)).toNatClampNeg)] S1 = _ := p3
  rw [zMj_2975, zo_add (n : Int) 1, hl, zin_ok (by omega) (by omega) (by omega), p1, zr1, p2, hl, zin_ok (by omega) (by omega) (by omega), p3, zr1, m145, zr1, p4, if_pos rfl]
  by_cases hx : x = zo 0
  · rw [if_pos hx, if_pos rfl, p5 hx, lgc, if_pos rfl]
  · rw [if_neg hx]
end DT

theorem zt_a : zt_ms 3 = some (zm_3, 1, 3, 22) := rfl
theorem zt_b (x y : Int32) (n : Nat) : zl_init [za 0 n 0, zi x, zi y] 3 = [some (za 0 n 0), some (zi x), some (zi y)] := rfl
theorem zt_cellAt (F d : Nat) (S : zS) (n : Nat) (x y : Int32) : zr_sem (F + 1) (d + 1) 3 [za 0 n 0, zi x, zi y] S =
  zx_cond .lt x 0 (some (.inl (some (zi (-1))), S)) (zx_cond .ge x (S.1 0 n 0 6) (some (.inl (some (zi (-1))), S)) (zx_cond .lt y 0 (some (.inl (some (zi (-1))), S)) (zx_cond .ge y (S.1 0 n 0 7) (some (.inl (some (zi (-1))), S)) (some (.inl (some (zi (S.1 0 n 0 6 * y + x))), S))))) := rfl

/-! THE CONSTRUCTION 0: tables, the checked interpreter (tools/mkk.py, after whole's parts) -/
/-- a cell: an object (class, fields), a row of ints, a row of references (kind 1: of baths) -/
abbrev nC : Type := (Nat × List zV) ⊕ (List Int32 ⊕ (Nat × List (Option zR)))
abbrev nS : Type := List nC
/-- the reference of the k-th cell -/
abbrev zr (k : Nat) : zR := (8, k, 0)
def nc_sl : nC → Nat
  | .inl (_, fs) => fs.length
  | .inr (.inl xs) => xs.length
  | .inr (.inr (_, l)) => l.length
def n_sl (w : nS) : Nat := (w.map nc_sl).sum
/-- 0: BathBoats$Table.<init>(II)V -/
def zn_0 : List zE := [(none, 0, .aload_n 0, 1, (0, 0, 0, 0, 0), 0, []), (none, 1, .invokespecial 1, 3, (0, 0, 97, 73, 0), 0, []), (none, 4, .aload_n 0, 1, (0, 0, 0, 0, 0), 0, []), (none, 5, .iload_n 1, 1, (0, 0, 0, 0, 0), 0, []), (none, 6, .iload_n 2, 1, (0, 0, 0, 0, 0), 0, []), (none, 7, .imul, 1, (0, 0, 0, 0, 0), 0, []), (none, 8, .iconst 0, 1, (0, 0, 0, 0, 0), 0, []), (none, 9, .invokestatic 7, 3, (1, 0, 99, 74, 0), 0, []), (none, 12, .newarray .int, 2, (0, 0, 0, 0, 0), 0, []), (none, 14, .putfield 13, 3, (7, 0, 0, 77, 0), 0, []), (none, 17, .aload_n 0, 1, (0, 0, 0, 0, 0), 0, []), (none, 18, .iload_n 2, 1, (0, 0, 0, 0, 0), 0, []), (none, 19, .putfield 19, 3, (7, 1, 0, 78, 0), 0, []), (none, 22, .return_, 1, (0, 0, 0, 0, 0), 0, [])]
/-- 1: BathBoats$Row.<init>(II)V -/
def zn_1 : List zE := [(none, 0, .aload_n 0, 1, (0, 0, 0, 0, 0), 0, []), (none, 1, .invokespecial 1, 3, (0, 0, 97, 90, 0), 0, []), (none, 4, .aload_n 0, 1, (0, 0, 0, 0, 0), 0, []), (none, 5, .iload_n 1, 1, (0, 0, 0, 0, 0), 0, []), (none, 6, .iconst 0, 1, (0, 0, 0, 0, 0), 0, []), (none, 7, .invokestatic 7, 3, (1, 0, 99, 91, 0), 0, []), (none, 10, .newarray .int, 2, (0, 0, 0, 0, 0), 0, []), (none, 12, .putfield 13, 3, (6, 0, 0, 92, 0), 0, []), (none, 15, .aload_n 0, 1, (0, 0, 0, 0, 0), 0, []), (none, 16, .iload_n 2, 1, (0, 0, 0, 0, 0), 0, []), (none, 17, .putfield 19, 3, (6, 1, 0, 93, 0), 0, []), (none, 20, .return_, 1, (0, 0, 0, 0, 0), 0, [])]
/-- 2: BathBoats$Bath.<init>()V -/
def zn_2 : List zE := [(none, 0, .aload_n 0, 1, (0, 0, 0, 0, 0), 0, []), (none, 1, .invokespecial 3, 3, (0, 0, 97, 67, 0), 0, []), (none, 4, .aload_n 0, 1, (0, 0, 0, 0, 0), 0, []), (none, 5, .new 9, 3, (7, 69, 28, 68, 0), 0, []), (none, 8, .dup, 1, (0, 0, 0, 0, 0), 0, []), (none, 9, .bipush 12, 2, (0, 0, 0, 0, 0), 12, []), (none, 11, .bipush 11, 2, (0, 0, 0, 0, 0), 11, []), (none, 13, .invokespecial 13, 3, (0, 2, 0, 70, 0), 0, []), (none, 16, .putfield 16, 3, (0, 0, 0, 99, 0), 0, []), (none, 19, .aload_n 0, 1, (0, 0, 0, 0, 0), 0, []), (none, 20, .new 9, 3, (7, 69, 28, 68, 0), 0, []), (none, 23, .dup, 1, (0, 0, 0, 0, 0), 0, []), (none, 24, .iconst 5, 1, (0, 0, 0, 0, 0), 5, []), (none, 25, .bipush 6, 2, (0, 0, 0, 0, 0), 6, []), (none, 27, .invokespecial 13, 3, (0, 2, 0, 70, 0), 0, []), (none, 30, .putfield 20, 3, (0, 1, 0, 103, 0), 0, []), (none, 33, .aload_n 0, 1, (0, 0, 0, 0, 0), 0, []), (none, 34, .new 9, 3, (7, 69, 28, 68, 0), 0, []), (none, 37, .dup, 1, (0, 0, 0, 0, 0), 0, []), (none, 38, .iconst 5, 1, (0, 0, 0, 0, 0), 5, []), (none, 39, .iconst 3, 1, (0, 0, 0, 0, 0), 3, []), (none, 40, .invokespecial 13, 3, (0, 2, 0, 70, 0), 0, []), (none, 43, .putfield 23, 3, (0, 2, 0, 107, 0), 0, []), (none, 46, .aload_n 0, 1, (0, 0, 0, 0, 0), 0, []), (none, 47, .new 26, 3, (6, 86, 30, 85, 0), 0, []), (none, 50, .dup, 1, (0, 0, 0, 0, 0), 0, []), (none, 51, .bipush 100, 2, (0, 0, 0, 0, 0), 100, []), (none, 53, .iconst 0, 1, (0, 0, 0, 0, 0), 0, []), (none, 54, .invokespecial 28, 3, (1, 2, 0, 87, 0), 0, []), (none, 57, .putfield 29, 3, (0, 3, 0, 111, 0), 0, []), (none, 60, .aload_n 0, 1, (0, 0, 0, 0, 0), 0, []), (none, 61, .new 26, 3, (6, 86, 30, 85, 0), 0, []), (none, 64, .dup, 1, (0, 0, 0, 0, 0), 0, []), (none, 65, .bipush 100, 2, (0, 0, 0, 0, 0), 100, []), (none, 67, .iconst (-1), 1, (0, 0, 0, 0, 0), (-1), []), (none, 68, .invokespecial 28, 3, (1, 2, 0, 87, 0), 0, []), (none, 71, .putfield 33, 3, (0, 4, 0, 116, 0), 0, []), (none, 74, .aload_n 0, 1, (0, 0, 0, 0, 0), 0, []), (none, 75, .new 26, 3, (6, 86, 30, 85, 0), 0, []), (none, 78, .dup, 1, (0, 0, 0, 0, 0), 0, []), (none, 79, .bipush 12, 2, (0, 0, 0, 0, 0), 12, []), (none, 81, .iconst (-1), 1, (0, 0, 0, 0, 0), (-1), []), (none, 82, .invokespecial 28, 3, (1, 2, 0, 87, 0), 0, []), (none, 85, .putfield 36, 3, (0, 5, 0, 120, 0), 0, []), (none, 88, .return_, 1, (0, 0, 0, 0, 0), 0, [])]
/-- 3: BathBoats$History.<init>()V -/
def zn_3 : List zE := [(none, 0, .aload_n 0, 1, (0, 0, 0, 0, 0), 0, []), (none, 1, .invokespecial 3, 3, (0, 0, 97, 205, 0), 0, []), (none, 4, .aload_n 0, 1, (0, 0, 0, 0, 0), 0, []), (none, 5, .bipush 10, 2, (0, 0, 0, 0, 0), 10, []), (none, 7, .anewarray 9, 3, (1, 0, 0, 206, 0), 0, []), (none, 10, .putfield 11, 3, (3, 0, 0, 209, 0), 0, []), (none, 13, .iconst 0, 1, (0, 0, 0, 0, 0), 0, []), (none, 14, .istore_n 1, 1, (0, 0, 0, 0, 0), 0, []), (none, 15, .iload_n 1, 1, (0, 0, 0, 0, 0), 0, []), (none, 16, .aload_n 0, 1, (0, 0, 0, 0, 0), 0, []), (none, 17, .getfield 11, 3, (3, 0, 0, 209, 0), 0, []), (none, 20, .arraylength, 1, (0, 0, 0, 0, 0), 0, []), (none, 21, .if_icmp .ge 22, 3, (43, 0, 0, 0, 0), 0, []), (none, 24, .aload_n 0, 1, (0, 0, 0, 0, 0), 0, []), (none, 25, .getfield 11, 3, (3, 0, 0, 209, 0), 0, []), (none, 28, .iload_n 1, 1, (0, 0, 0, 0, 0), 0, []), (none, 29, .new 9, 3, (0, 63, 27, 206, 0), 0, []), (none, 32, .dup, 1, (0, 0, 0, 0, 0), 0, []), (none, 33, .invokespecial 17, 3, (2, 0, 0, 208, 0), 0, []), (none, 36, .aastore, 1, (0, 0, 0, 0, 0), 0, []), (none, 37, .iinc 1 1, 3, (0, 0, 0, 0, 0), 1, []), (none, 40, .goto (-25), 3, (15, 0, 0, 0, 0), 0, []), (none, 43, .return_, 1, (0, 0, 0, 0, 0), 0, [])]
/-- 4: BathBoats$Flow.<init>()V -/
def zn_4 : List zE := [(none, 0, .aload_n 0, 1, (0, 0, 0, 0, 0), 0, []), (none, 1, .invokespecial 3, 3, (0, 0, 97, 231, 0), 0, []), (none, 4, .aload_n 0, 1, (0, 0, 0, 0, 0), 0, []), (none, 5, .new 9, 3, (6, 86, 30, 232, 0), 0, []), (none, 8, .dup, 1, (0, 0, 0, 0, 0), 0, []), (none, 9, .bipush 100, 2, (0, 0, 0, 0, 0), 100, []), (none, 11, .iconst 0, 1, (0, 0, 0, 0, 0), 0, []), (none, 12, .invokespecial 13, 3, (1, 2, 0, 233, 0), 0, []), (none, 15, .putfield 16, 3, (2, 0, 0, 234, 0), 0, []), (none, 18, .return_, 1, (0, 0, 0, 0, 0), 0, [])]
/-- 5: BathBoats$Physics.<init>()V -/
def zn_5 : List zE := [(none, 0, .aload_n 0, 1, (0, 0, 0, 0, 0), 0, []), (none, 1, .invokespecial 3, 3, (0, 0, 97, 225, 0), 0, []), (none, 4, .aload_n 0, 1, (0, 0, 0, 0, 0), 0, []), (none, 5, .new 9, 3, (2, 227, 33, 226, 0), 0, []), (none, 8, .dup, 1, (0, 0, 0, 0, 0), 0, []), (none, 9, .invokespecial 11, 3, (4, 0, 0, 228, 0), 0, []), (none, 12, .putfield 12, 3, (4, 0, 0, 248, 0), 0, []), (none, 15, .aload_n 0, 1, (0, 0, 0, 0, 0), 0, []), (none, 16, .new 18, 3, (6, 86, 30, 246, 0), 0, []), (none, 19, .dup, 1, (0, 0, 0, 0, 0), 0, []), (none, 20, .bipush 100, 2, (0, 0, 0, 0, 0), 100, []), (none, 22, .iconst 0, 1, (0, 0, 0, 0, 0), 0, []), (none, 23, .invokespecial 20, 3, (1, 2, 0, 247, 0), 0, []), (none, 26, .putfield 23, 3, (4, 1, 0, 249, 0), 0, []), (none, 29, .return_, 1, (0, 0, 0, 0, 0), 0, [])]
/-- 6: BathBoats$Towing.<init>()V -/
def zn_6 : List zE := [(none, 0, .aload_n 0, 1, (0, 0, 0, 0, 0), 0, []), (none, 1, .invokespecial 3, 3, (0, 0, 97, 260, 0), 0, []), (none, 4, .aload_n 0, 1, (0, 0, 0, 0, 0), 0, []), (none, 5, .new 9, 3, (6, 86, 30, 261, 0), 0, []), (none, 8, .dup, 1, (0, 0, 0, 0, 0), 0, []), (none, 9, .bipush 100, 2, (0, 0, 0, 0, 0), 100, []), (none, 11, .ldc 13, 2, (0, 0, 0, 262, 0), 1000000, []), (none, 13, .invokespecial 14, 3, (1, 2, 0, 263, 0), 0, []), (none, 16, .putfield 17, 3, (9, 0, 0, 264, 0), 0, []), (none, 19, .aload_n 0, 1, (0, 0, 0, 0, 0), 0, []), (none, 20, .new 9, 3, (6, 86, 30, 261, 0), 0, []), (none, 23, .dup, 1, (0, 0, 0, 0, 0), 0, []), (none, 24, .bipush 100, 2, (0, 0, 0, 0, 0), 100, []), (none, 26, .ldc 13, 2, (0, 0, 0, 262, 0), 1000000, []), (none, 28, .invokespecial 14, 3, (1, 2, 0, 263, 0), 0, []), (none, 31, .putfield 21, 3, (9, 1, 0, 266, 0), 0, []), (none, 34, .return_, 1, (0, 0, 0, 0, 0), 0, [])]
/-- 7: BathBoats$Tokens.<init>()V -/
def zn_7 : List zE := [(none, 0, .aload_n 0, 1, (0, 0, 0, 0, 0), 0, []), (none, 1, .invokespecial 3, 3, (0, 0, 97, 277, 0), 0, []), (none, 4, .aload_n 0, 1, (0, 0, 0, 0, 0), 0, []), (none, 5, .new 9, 3, (6, 86, 30, 278, 0), 0, []), (none, 8, .dup, 1, (0, 0, 0, 0, 0), 0, []), (none, 9, .sipush 700, 3, (0, 0, 0, 0, 0), 700, []), (none, 12, .iconst (-1), 1, (0, 0, 0, 0, 0), (-1), []), (none, 13, .invokespecial 11, 3, (1, 2, 0, 279, 0), 0, []), (none, 16, .putfield 14, 3, (8, 0, 0, 280, 0), 0, []), (none, 19, .return_, 1, (0, 0, 0, 0, 0), 0, [])]
/-- 8: BathBoats$BathReader.<init>(LBathBoats$Tokens;)V -/
def zn_8 : List zE := [(none, 0, .aload_n 0, 1, (0, 0, 0, 0, 0), 0, []), (none, 1, .invokespecial 3, 3, (0, 0, 97, 317, 0), 0, []), (none, 4, .aload_n 0, 1, (0, 0, 0, 0, 0), 0, []), (none, 5, .new 9, 3, (0, 63, 27, 318, 0), 0, []), (none, 8, .dup, 1, (0, 0, 0, 0, 0), 0, []), (none, 9, .invokespecial 11, 3, (2, 0, 0, 319, 0), 0, []), (none, 12, .putfield 12, 3, (1, 1, 0, 321, 0), 0, []), (none, 15, .aload_n 0, 1, (0, 0, 0, 0, 0), 0, []), (none, 16, .aload_n 1, 1, (0, 0, 0, 0, 0), 0, []), (none, 17, .putfield 18, 3, (1, 0, 0, 320, 0), 0, []), (none, 20, .return_, 1, (0, 0, 0, 0, 0), 0, [])]
/-- 9: BathBoats$QueryReader.<init>(LBathBoats$Tokens;LBathBoats$Bath;)V -/
def zn_9 : List zE := [(none, 0, .aload_n 0, 1, (0, 0, 0, 0, 0), 0, []), (none, 1, .invokespecial 3, 3, (0, 0, 97, 333, 0), 0, []), (none, 4, .aload_n 0, 1, (0, 0, 0, 0, 0), 0, []), (none, 5, .aload_n 1, 1, (0, 0, 0, 0, 0), 0, []), (none, 6, .putfield 9, 3, (5, 0, 0, 334, 0), 0, []), (none, 9, .aload_n 0, 1, (0, 0, 0, 0, 0), 0, []), (none, 10, .aload_n 2, 1, (0, 0, 0, 0, 0), 0, []), (none, 11, .putfield 15, 3, (5, 1, 0, 335, 0), 0, []), (none, 14, .return_, 1, (0, 0, 0, 0, 0), 0, [])]
/-- 10: BathBoats$Row.fill(I)V -/
def zn_10 : List zE := [(none, 0, .iconst 0, 1, (0, 0, 0, 0, 0), 0, []), (none, 1, .istore_n 2, 1, (0, 0, 0, 0, 0), 0, []), (none, 2, .iload_n 2, 1, (0, 0, 0, 0, 0), 0, []), (none, 3, .aload_n 0, 1, (0, 0, 0, 0, 0), 0, []), (none, 4, .getfield 13, 3, (6, 0, 0, 92, 0), 0, []), (none, 7, .arraylength, 1, (0, 0, 0, 0, 0), 0, []), (none, 8, .if_icmp .ge 16, 3, (24, 0, 0, 0, 0), 0, []), (none, 11, .aload_n 0, 1, (0, 0, 0, 0, 0), 0, []), (none, 12, .getfield 13, 3, (6, 0, 0, 92, 0), 0, []), (none, 15, .iload_n 2, 1, (0, 0, 0, 0, 0), 0, []), (none, 16, .iload_n 1, 1, (0, 0, 0, 0, 0), 0, []), (none, 17, .iastore, 1, (0, 0, 0, 0, 0), 0, []), (none, 18, .iinc 2 1, 3, (0, 0, 0, 0, 0), 1, []), (none, 21, .goto (-19), 3, (2, 0, 0, 0, 0), 0, []), (none, 24, .return_, 1, (0, 0, 0, 0, 0), 0, [])]
/-- 11: BathBoats$Bath.begin(II)V -/
def zn_11 : List zE := [(none, 0, .aload_n 0, 1, (0, 0, 0, 0, 0), 0, []), (none, 1, .iload_n 1, 1, (0, 0, 0, 0, 0), 0, []), (none, 2, .putfield 39, 3, (0, 6, 0, 122, 0), 0, []), (none, 5, .aload_n 0, 1, (0, 0, 0, 0, 0), 0, []), (none, 6, .iload_n 2, 1, (0, 0, 0, 0, 0), 0, []), (none, 7, .putfield 43, 3, (0, 7, 0, 126, 0), 0, []), (none, 10, .aload_n 0, 1, (0, 0, 0, 0, 0), 0, []), (none, 11, .sipush 500, 3, (0, 0, 0, 0, 0), 500, []), (none, 14, .putfield 46, 3, (0, 8, 0, 130, 0), 0, []), (none, 17, .aload_n 0, 1, (0, 0, 0, 0, 0), 0, []), (none, 18, .iconst 1, 1, (0, 0, 0, 0, 0), 1, []), (none, 19, .putfield 49, 3, (0, 9, 0, 134, 0), 0, []), (none, 22, .aload_n 0, 1, (0, 0, 0, 0, 0), 0, []), (none, 23, .iconst 0, 1, (0, 0, 0, 0, 0), 0, []), (none, 24, .putfield 52, 3, (0, 10, 0, 138, 0), 0, []), (none, 27, .aload_n 0, 1, (0, 0, 0, 0, 0), 0, []), (none, 28, .iconst 0, 1, (0, 0, 0, 0, 0), 0, []), (none, 29, .putfield 55, 3, (0, 11, 0, 142, 0), 0, []), (none, 32, .aload_n 0, 1, (0, 0, 0, 0, 0), 0, []), (none, 33, .iconst 0, 1, (0, 0, 0, 0, 0), 0, []), (none, 34, .putfield 58, 3, (0, 12, 0, 147, 0), 0, []), (none, 37, .aload_n 0, 1, (0, 0, 0, 0, 0), 0, []), (none, 38, .iconst 0, 1, (0, 0, 0, 0, 0), 0, []), (none, 39, .putfield 61, 3, (0, 13, 0, 150, 0), 0, []), (none, 42, .aload_n 0, 1, (0, 0, 0, 0, 0), 0, []), (none, 43, .iconst 0, 1, (0, 0, 0, 0, 0), 0, []), (none, 44, .putfield 64, 3, (0, 14, 0, 154, 0), 0, []), (none, 47, .aload_n 0, 1, (0, 0, 0, 0, 0), 0, []), (none, 48, .iconst 0, 1, (0, 0, 0, 0, 0), 0, []), (none, 49, .putfield 67, 3, (0, 15, 0, 158, 0), 0, []), (none, 52, .aload_n 0, 1, (0, 0, 0, 0, 0), 0, []), (none, 53, .iconst 0, 1, (0, 0, 0, 0, 0), 0, []), (none, 54, .putfield 70, 3, (0, 16, 0, 163, 0), 0, []), (none, 57, .aload_n 0, 1, (0, 0, 0, 0, 0), 0, []), (none, 58, .getfield 29, 3, (0, 3, 0, 111, 0), 0, []), (none, 61, .iconst 0, 1, (0, 0, 0, 0, 0), 0, []), (none, 62, .invokevirtual 73, 3, (10, 1, 0, 347, 0), 0, []), (none, 65, .aload_n 0, 1, (0, 0, 0, 0, 0), 0, []), (none, 66, .getfield 33, 3, (0, 4, 0, 116, 0), 0, []), (none, 69, .iconst (-1), 1, (0, 0, 0, 0, 0), (-1), []), (none, 70, .invokevirtual 73, 3, (10, 1, 0, 347, 0), 0, []), (none, 73, .return_, 1, (0, 0, 0, 0, 0), 0, [])]
/-- 12: BathBoats.<init>()V -/
def zn_12 : List zE := [(none, 0, .aload_n 0, 1, (0, 0, 0, 0, 0), 0, []), (none, 1, .invokespecial 3, 3, (0, 0, 97, 59, 0), 0, []), (none, 4, .aload_n 0, 1, (0, 0, 0, 0, 0), 0, []), (none, 5, .new 9, 3, (0, 63, 27, 62, 0), 0, []), (none, 8, .dup, 1, (0, 0, 0, 0, 0), 0, []), (none, 9, .invokespecial 11, 3, (2, 0, 0, 64, 0), 0, []), (none, 12, .putfield 12, 3, (10, 0, 0, 351, 0), 0, []), (none, 15, .aload_n 0, 1, (0, 0, 0, 0, 0), 0, []), (none, 16, .new 9, 3, (0, 63, 27, 62, 0), 0, []), (none, 19, .dup, 1, (0, 0, 0, 0, 0), 0, []), (none, 20, .invokespecial 11, 3, (2, 0, 0, 64, 0), 0, []), (none, 23, .putfield 16, 3, (10, 1, 0, 352, 0), 0, []), (none, 26, .aload_n 0, 1, (0, 0, 0, 0, 0), 0, []), (none, 27, .new 9, 3, (0, 63, 27, 62, 0), 0, []), (none, 30, .dup, 1, (0, 0, 0, 0, 0), 0, []), (none, 31, .invokespecial 11, 3, (2, 0, 0, 64, 0), 0, []), (none, 34, .putfield 19, 3, (10, 2, 0, 353, 0), 0, []), (none, 37, .aload_n 0, 1, (0, 0, 0, 0, 0), 0, []), (none, 38, .new 22, 3, (3, 201, 31, 200, 0), 0, []), (none, 41, .dup, 1, (0, 0, 0, 0, 0), 0, []), (none, 42, .invokespecial 24, 3, (3, 0, 0, 202, 0), 0, []), (none, 45, .putfield 25, 3, (10, 3, 0, 354, 0), 0, []), (none, 48, .aload_n 0, 1, (0, 0, 0, 0, 0), 0, []), (none, 49, .new 29, 3, (4, 221, 32, 220, 0), 0, []), (none, 52, .dup, 1, (0, 0, 0, 0, 0), 0, []), (none, 53, .invokespecial 31, 3, (5, 0, 0, 222, 0), 0, []), (none, 56, .putfield 32, 3, (10, 4, 0, 355, 0), 0, []), (none, 59, .aload_n 0, 1, (0, 0, 0, 0, 0), 0, []), (none, 60, .new 36, 3, (9, 256, 34, 255, 0), 0, []), (none, 63, .dup, 1, (0, 0, 0, 0, 0), 0, []), (none, 64, .invokespecial 38, 3, (6, 0, 0, 257, 0), 0, []), (none, 67, .putfield 39, 3, (10, 5, 0, 356, 0), 0, []), (none, 70, .aload_n 0, 1, (0, 0, 0, 0, 0), 0, []), (none, 71, .new 43, 3, (8, 273, 35, 272, 0), 0, []), (none, 74, .dup, 1, (0, 0, 0, 0, 0), 0, []), (none, 75, .invokespecial 45, 3, (7, 0, 0, 274, 0), 0, []), (none, 78, .putfield 46, 3, (10, 6, 0, 357, 0), 0, []), (none, 81, .aload_n 0, 1, (0, 0, 0, 0, 0), 0, []), (none, 82, .new 50, 3, (1, 313, 36, 312, 0), 0, []), (none, 85, .dup, 1, (0, 0, 0, 0, 0), 0, []), (none, 86, .aload_n 0, 1, (0, 0, 0, 0, 0), 0, []), (none, 87, .getfield 46, 3, (10, 6, 0, 357, 0), 0, []), (none, 90, .invokespecial 52, 3, (8, 1, 0, 314, 0), 0, []), (none, 93, .putfield 55, 3, (10, 7, 0, 358, 0), 0, []), (none, 96, .aload_n 0, 1, (0, 0, 0, 0, 0), 0, []), (none, 97, .new 59, 3, (5, 329, 37, 328, 0), 0, []), (none, 100, .dup, 1, (0, 0, 0, 0, 0), 0, []), (none, 101, .aload_n 0, 1, (0, 0, 0, 0, 0), 0, []), (none, 102, .getfield 46, 3, (10, 6, 0, 357, 0), 0, []), (none, 105, .aload_n 0, 1, (0, 0, 0, 0, 0), 0, []), (none, 106, .getfield 12, 3, (10, 0, 0, 351, 0), 0, []), (none, 109, .invokespecial 61, 3, (9, 2, 0, 330, 0), 0, []), (none, 112, .putfield 64, 3, (10, 8, 0, 359, 0), 0, []), (none, 115, .aload_n 0, 1, (0, 0, 0, 0, 0), 0, []), (none, 116, .new 68, 3, (6, 86, 30, 341, 0), 0, []), (none, 119, .dup, 1, (0, 0, 0, 0, 0), 0, []), (none, 120, .bipush 10, 2, (0, 0, 0, 0, 0), 10, []), (none, 122, .iconst (-1), 1, (0, 0, 0, 0, 0), (-1), []), (none, 123, .invokespecial 70, 3, (1, 2, 0, 342, 0), 0, []), (none, 126, .putfield 73, 3, (10, 9, 0, 360, 0), 0, []), (none, 129, .aload_n 0, 1, (0, 0, 0, 0, 0), 0, []), (none, 130, .iconst (-1), 1, (0, 0, 0, 0, 0), (-1), []), (none, 131, .putfield 77, 3, (10, 11, 0, 361, 0), 0, []), (none, 134, .aload_n 0, 1, (0, 0, 0, 0, 0), 0, []), (none, 135, .getfield 12, 3, (10, 0, 0, 351, 0), 0, []), (none, 138, .iconst 5, 1, (0, 0, 0, 0, 0), 5, []), (none, 139, .iconst 5, 1, (0, 0, 0, 0, 0), 5, []), (none, 140, .invokevirtual 81, 3, (11, 2, 0, 343, 0), 0, []), (none, 143, .return_, 1, (0, 0, 0, 0, 0), 0, [])]
def zt_ns : List (List zE × Nat) := [(zn_0, 3), (zn_1, 3), (zn_2, 1), (zn_3, 2), (zn_4, 1), (zn_5, 1), (zn_6, 1), (zn_7, 1), (zn_8, 2), (zn_9, 3), (zn_10, 3), (zn_11, 3), (zn_12, 1)]
/-- the kinds of the fields by class: 0 an int, 1 a truth, 2 a float, 3 a reference -/
def kt_nf : List (List Nat) := [[3, 3, 3, 3, 3, 3, 0, 0, 0, 0, 0, 0, 0, 0, 0, 0, 0], [3, 3], [3, 2, 2], [3, 0, 0], [3, 3], [3, 3], [3, 0], [3, 0], [3, 0, 0, 0, 0, 0, 0, 0, 0], [3, 3], [3, 3, 3, 3, 3, 3, 3, 3, 3, 3, 0, 0, 1]]
def kt_mi : List zM := [(yX7_init, cX7_init, 3, none, [], 2, (72, 28, 71, 0)), (yX6_init, cX6_init, 3, none, [], 2, (89, 30, 88, 0)), (yX0_init, cX0_init, 1, none, [], 0, (66, 27, 65, 0)), (yX3_init, cX3_init, 2, none, [], 0, (204, 31, 203, 0)), (yX2_init, cX2_init, 1, none, [], 0, (230, 33, 229, 0)), (yX4_init, cX4_init, 1, none, [], 0, (224, 32, 223, 0)), (yX9_init, cX9_init, 1, none, [], 0, (259, 34, 258, 0)), (yX8_init, cX8_init, 1, none, [], 0, (276, 35, 275, 0)), (yX1_init, cX1_init, 2, none, [], 1, (316, 36, 315, 0)), (yX5_init, cX5_init, 3, none, [], 2, (332, 37, 331, 0)), (yX6_fill, cX6_fill, 3, none, [], 1, (350, 30, 348, 349)), (yX0_begin, cX0_begin, 3, none, [], 2, (346, 27, 344, 345)), (yX10_init, cX10_init, 1, none, [], 0, (58, 26, 57, 0))]
def kt_mc : List Nat := [7, 6, 0, 3, 2, 4, 9, 8, 1, 5, 6, 0, 10]
def zn_15 : List zE := [(none, 0, .new 9, 3, (10, 55, 26, 54, 0), 0, []), (none, 3, .dup, 1, (0, 0, 0, 0, 0), 0, []), (none, 4, .invokespecial 153, 3, (12, 0, 0, 56, 0), 0, []), (none, 7, .astore_n 1, 1, (0, 0, 0, 0, 0), 0, [])]
abbrev kp_aInt : Nat := 84
/-! THE CONSTRUCTION 3: the world of a list of cells, the script beside it -/
def kr_ok (n : Nat) (r : zR) : Prop := (r.1 = 8 ∧ r.2.1 < n ∧ r.2.2 = 0) ∨ (r.1 = 6 ∧ r.2.1 ∈ zt_av ∧ r.2.2 = 0) ∨ r = (5, 0, 0)
def kv_ok (n : Nat) : zV → Prop
  | .inr (.inl (some r)) => kr_ok n r
  | _ => True
def kc_ok (n : Nat) : nC → Prop
  | .inl (_, fs) => ∀ v, v ∈ fs → kv_ok n v
  | .inr (.inl _) => True
  | .inr (.inr (_, l)) => ∀ r, some r ∈ l → kr_ok n r
theorem kr_up {n m : Nat} {r : zR} (h : n ≤ m) (hr : kr_ok n r) : kr_ok m r := hr.elim (fun q => Or.inl ⟨q.1, Nat.lt_of_lt_of_le q.2.1 h, q.2.2⟩) Or.inr
theorem kv_up {n m : Nat} {v : zV} (h : n ≤ m) (hv : kv_ok n v) : kv_ok m v := by
  match v, hv with
  | .inl x, _ => trivial
  | .inr (.inl none), _ => trivial
  | .inr (.inl (some r)), hv => exact kr_up h hv
  | .inr (.inr x), _ => trivial
theorem kc_up {n m : Nat} {c : nC} (h : n ≤ m) (hc : kc_ok n c) : kc_ok m c := by
  match c, hc with
  | .inl (ci, fs), hc => exact fun v hv => kv_up h (hc v hv)
  | .inr (.inl xs), _ => trivial
  | .inr (.inr (t, l)), hc => exact fun r hr => kr_up h (hc r hr)
def k_el (cA : Nat → ClassId) (ad : zR → Nat) : nC → va_E
  | .inl (ci, fs) => .inr (ci, fs.map (zc ad))
  | .inr (.inl xs) => .inl (cA 0, xs.length, .inl (fun i => xs.getD i 0))
  | .inr (.inr (t, l)) => .inl (cA t, l.length, .inr (.inr (.inr (.inr (fun i => (l.getD i none).map ad)))))
def k_ws (cA : Nat → ClassId) (ad : zR → Nat) (w : nS) : va_W := w.mapIdx (fun k c => (ad (zr k), k_el cA ad c))
theorem kzc {n : Nat} {ad ad' : zR → Nat} (h : ∀ r, kr_ok n r → ad' r = ad r) {v : zV} (hv : kv_ok n v) : zc ad' v = zc ad v := by
  match v, hv with
  | .inl x, _ => rfl
  | .inr (.inl none), _ => rfl
  | .inr (.inl (some r)), hv => exact congrArg Value.ref (h r hv)
  | .inr (.inr (.inl x)), _ => rfl
  | .inr (.inr (.inr (.inl x))), _ => rfl
  | .inr (.inr (.inr (.inr x))), _ => rfl
theorem k_el_eq {n : Nat} {cA : Nat → ClassId} {ad ad' : zR → Nat} (h : ∀ r, kr_ok n r → ad' r = ad r) {c : nC} (hc : kc_ok n c) : k_el cA ad' c = k_el cA ad c := by
  have hl : ∀ l : List (Option zR), (∀ r, some r ∈ l → kr_ok n r) → (fun i => (l.getD i none).map ad') = (fun i => (l.getD i none).map ad) := by
    intro l hl
    funext i
    cases hg : l.getD i none with
    | none => rfl
    | some r =>
      have : some r ∈ l := by
        rw [List.getD_eq_getElem?_getD] at hg
        cases h2 : l[i]? with
        | none => rw [h2] at hg; exact nomatch hg
        | some x =>
          rw [h2] at hg
          have hg : x = some r := hg
          rw [← hg]
          exact List.mem_of_getElem? h2
      exact congrArg some (h r (hl r this))
  match c, hc with
  | .inl (ci, fs), hc =>
    show (Sum.inr (ci, fs.map (zc ad')) : va_E) = Sum.inr (ci, fs.map (zc ad))
    rw [List.map_congr_left (fun v hv => kzc h (hc v hv))]
  | .inr (.inl xs), _ => rfl
  | .inr (.inr (t, l)), hc => simp only [k_el]; rw [hl l hc]
theorem k_ws_push {cA : Nat → ClassId} {ad ad' : zR → Nat} {w : nS} {c : nC} (hw : ∀ x, x ∈ w → kc_ok w.length x) (h : ∀ r, kr_ok w.length r → ad' r = ad r) : k_ws cA ad' (w ++ [c]) = k_ws cA ad w ++ [(ad' (zr w.length), k_el cA ad' c)] := by
  unfold k_ws
  rw [List.mapIdx_append]
  have e1 : List.mapIdx (fun i c => (ad' (zr (i + w.length)), k_el cA ad' c)) [c] = [(ad' (zr w.length), k_el cA ad' c)] := by
    show [(ad' (zr (0 + w.length)), k_el cA ad' c)] = _
    rw [Nat.zero_add]
  rw [e1]
  congr 1
  refine List.ext_getElem? (fun i => ?_)
  rw [List.getElem?_mapIdx, List.getElem?_mapIdx]
  cases hi : w[i]? with
  | none => rfl
  | some x =>
    have hlt : i < w.length := (List.getElem?_eq_some_iff.mp hi).1
    show some (ad' (zr i), k_el cA ad' x) = some (ad (zr i), k_el cA ad x)
    rw [h (zr i) (Or.inl ⟨rfl, hlt, rfl⟩), k_el_eq h (hw x (List.mem_of_getElem? hi))]
theorem k_ws_at {cA : Nat → ClassId} {ad : zR → Nat} {w : nS} {k : Nat} {c : nC} (h : w[k]? = some c) : (k_ws cA ad w)[k]? = some (ad (zr k), k_el cA ad c) := by
  unfold k_ws
  rw [List.getElem?_mapIdx, h]
  rfl
theorem k_ws_set {cA : Nat → ClassId} {ad : zR → Nat} {w : nS} {k : Nat} {c : nC} : (k_ws cA ad w).set k (ad (zr k), k_el cA ad c) = k_ws cA ad (w.set k c) := by
  unfold k_ws
  refine List.ext_getElem? (fun i => ?_)
  rw [List.getElem?_set, List.getElem?_mapIdx, List.getElem?_mapIdx, List.getElem?_set, List.length_mapIdx]
  by_cases e : k = i
  · subst e
    rw [if_pos rfl, if_pos rfl]
    split
    · rfl
    · rfl
  · rw [if_neg e, if_neg e]
/-! THE CONSTRUCTION 4: the checked interpreter -/
/-- what a fresh field holds, by its kind -/
def kt_def : Nat → zV
  | 0 => zi 0
  | 1 => zi 0
  | 2 => zf 0
  | _ => zn
def kv_fit : Nat → zV → Bool
  | 0, .inl _ => true
  | 1, .inl x => decide (x &&& 1 = x)
  | 3, .inr (.inl (some _)) => true
  | _, _ => false
/-- where a step leads: a jump's target or none, the locals, the stack, the world -/
abbrev kR : Type := Option Nat × (zL × (List zV × nS))
def kn_call (Γ : Nat → List zV → nS → Option nS) (vir : Bool) (a b : Nat) (lv : zL) (st : List zV) (w : nS) : Option kR :=
  match zx_pop (b + 1) [] st with
  | some (.inr (.inl (some r)) :: as, rest) => match Nat.ble (zx_wd rest) 8 && (!vir || (match r with
      | (8, q, 0) => (match zx_nth w q with
        | some (.inl (ci, _)) => (match zx_nth kt_mc a with
          | some x => Nat.beq x ci
          | none => false)
        | _ => false)
      | _ => false)) with
    | true => match Γ a (.inr (.inl (some r)) :: as) w with
      | some w' => some (none, lv, rest, w')
      | none => none
    | false => none
  | _ => none
def kn_step (Γ : Nat → List zV → nS → Option nS) (i : Instr) (a b c : Nat) (k : Int32) (lv : zL) (st : List zV) (w : nS) : Option kR :=
  match i with
  | .iload_n j => match zl_get lv j.val with
    | some (.inl x) => some (none, lv, zi x :: st, w)
    | _ => none
  | .aload_n j => match zl_get lv j.val with
    | some (.inr (.inl (some r))) => some (none, lv, .inr (.inl (some r)) :: st, w)
    | _ => none
  | .istore_n j => match st with
    | .inl x :: st => some (none, zl_set lv j.val (some (zi x)), st, w)
    | _ => none
  | .istore j => match st with
    | .inl x :: st => some (none, zl_set lv j (some (zi x)), st, w)
    | _ => none
  | .astore_n j => match st with
    | .inr (.inl (some r)) :: st => some (none, zl_set lv j.val (some (.inr (.inl (some r)))), st, w)
    | _ => none
  | .astore j => match st with
    | .inr (.inl (some r)) :: st => some (none, zl_set lv j (some (.inr (.inl (some r)))), st, w)
    | _ => none
  | .iinc j _ => match zl_get lv j with
    | some (.inl x) => some (none, zl_set lv j (some (zi (x + k))), st, w)
    | _ => none
  | .iconst _ => some (none, lv, zi k :: st, w)
  | .bipush _ => some (none, lv, zi k :: st, w)
  | .sipush _ => some (none, lv, zi k :: st, w)
  | .ldc _ => match a with
    | 0 => some (none, lv, zi k :: st, w)
    | _ => some (none, lv, za 6 b 0 :: st, w)
  | .dup => match st with
    | .inr (.inl (some r)) :: st => some (none, lv, .inr (.inl (some r)) :: .inr (.inl (some r)) :: st, w)
    | _ => none
  | .imul => match st with
    | .inl y :: .inl x :: st => some (none, lv, zi (x * y) :: st, w)
    | _ => none
  | .if_icmp cc _ => match cc, st with
    | .ge, .inl y :: .inl x :: st => if y ≤ x then some (some a, lv, st, w) else some (none, lv, st, w)
    | _, _ => none
  | .goto _ => some (some a, lv, st, w)
  | .new _ => some (none, lv, .inr (.inl (some (zr w.length))) :: st, w ++ [.inl (a, (kt_nf.getD a []).map kt_def)])
  | .newarray _ => match st with
    | .inl n :: st => if n < 0 then none else if 1000000 < n.toNatClampNeg then none else match a with
      | 0 => some (none, lv, .inr (.inl (some (zr w.length))) :: st, w ++ [.inr (.inl (List.replicate n.toNatClampNeg 0))])
      | _ => none
    | _ => none
  | .anewarray _ => match st with
    | .inl n :: st => if n < 0 then none else if 1000000 < n.toNatClampNeg then none else some (none, lv, .inr (.inl (some (zr w.length))) :: st, w ++ [.inr (.inr (a, List.replicate n.toNatClampNeg none))])
    | _ => none
  | .putfield _ => match st with
    | v :: .inr (.inl (some (8, q, 0))) :: st => match zx_nth w q with
      | some (.inl (ci, fs)) => if ci = a ∧ b < fs.length ∧ kv_fit ((kt_nf.getD a []).getD b 9) v = true then some (none, lv, st, w.set q (.inl (ci, fs.set b v))) else none
      | _ => none
    | _ => none
  | .getfield _ => match st with
    | .inr (.inl (some (8, q, 0))) :: st => match zx_nth w q with
      | some (.inl (ci, fs)) => if ci = a then (match zx_nth fs b with
        | some v => some (none, lv, v :: st, w)
        | none => none) else none
      | _ => none
    | _ => none
  | .arraylength => match st with
    | .inr (.inl (some (8, q, 0))) :: st => match zx_nth w q with
      | some (.inr (.inl xs)) => some (none, lv, zi (Int32.ofNat xs.length) :: st, w)
      | some (.inr (.inr (1, xs))) => some (none, lv, zi (Int32.ofNat xs.length) :: st, w)
      | _ => none
    | _ => none
  | .iastore => match st with
    | .inl x :: .inl j :: .inr (.inl (some (8, q, 0))) :: st => match zx_nth w q with
      | some (.inr (.inl xs)) => if j < 0 then none else if xs.length ≤ j.toNatClampNeg then none else some (none, lv, st, w.set q (.inr (.inl (xs.set j.toNatClampNeg x))))
      | _ => none
    | _ => none
  | .aastore => match st with
    | .inr (.inl (some r)) :: .inl j :: .inr (.inl (some (8, q, 0))) :: st => match zx_nth w q with
      | some (.inr (.inr (t, xs))) => if j < 0 then none else if xs.length ≤ j.toNatClampNeg then none else (match t, r with
        | 1, (8, q2, 0) => (match zx_nth w q2 with
          | some (.inl (0, _)) => some (none, lv, st, w.set q (.inr (.inr (1, xs.set j.toNatClampNeg (some (8, q2, 0))))))
          | _ => none)
        | _, _ => none)
      | _ => none
    | _ => none
  | .invokestatic _ => match st with
    | .inl y :: .inl x :: st => match Nat.ble (zx_wd st) 100 with
      | true => some (none, lv, zi (if x < y then y else x) :: st, w)
      | false => none
    | _ => none
  | .invokespecial _ => match c with
    | 97 => match st with
      | .inr (.inl (some _)) :: st => match Nat.ble (zx_wd st) 100 with
        | true => some (none, lv, st, w)
        | false => none
      | _ => none
    | _ => kn_call Γ false a b lv st w
  | .invokevirtual _ => kn_call Γ true a b lv st w
  | _ => none
/-- a run of a method's rows; fin: behind the last row -/
def kn_go (Γ : Nat → List zV → nS → Option nS) (fin : zL → List zV → nS → Option nS) (cd : List zE) : Nat → List zE → zL → List zV → nS → Option nS
  | 0, _, _, _, _ => none
  | _ + 1, [], lv, st, w => fin lv st w
  | f + 1, e :: es, lv, st, w => match e.2.2.1 with
    | .return_ => (match st with
      | [] => some w
      | _ => none)
    | i => (match kn_step Γ i e.2.2.2.2.1.1 e.2.2.2.2.1.2.1 e.2.2.2.2.1.2.2.1 e.2.2.2.2.2.1 lv st w with
      | some (none, lv, st, w) => kn_go Γ fin cd f es lv st w
      | some (some pc, lv, st, w) => (match zx_at cd pc with
        | [] => none
        | y :: es => kn_go Γ fin cd f (y :: es) lv st w)
      | none => none)
/-- the meaning of constructor mi at depth d -/
def kn_sem (F : Nat) : Nat → Nat → List zV → nS → Option nS
  | 0, _, _, _ => none
  | d + 1, mi, av, w => match zx_nth zt_ns mi with
    | some M => kn_go (fun mi av w => kn_sem F d mi av w) (fun _ _ _ => none) M.1 F M.1 (zl_init av M.2) [] w
    | none => none
/-- the locals behind the law's start -/
def kLV : zL := [some (za 5 0 0), some (za 8 0 0), none, none, none, none, none, none, none]
def kn_fin (lv : zL) (st : List zV) (w : nS) : Option nS := match lv, st with
  | [some (.inr (.inl (some (5, 0, 0)))), some (.inr (.inl (some (8, 0, 0)))), none, none, none, none, none, none, none], [] => some w
  | _, _ => none
theorem kn_fin_ok {lv : zL} {st : List zV} {w w' : nS} (h : kn_fin lv st w = some w') : lv = kLV ∧ st = [] ∧ w = w' := by
  unfold kn_fin at h
  split at h
  · exact ⟨rfl, rfl, Option.some.inj h⟩
  · cases h
/-- the law's start: the world behind its rows -/
def kn_law (F d : Nat) : Option nS := kn_go (fun mi av w => kn_sem F d mi av w) kn_fin zn_15 F zn_15 (zl_init [.inr (.inl (some (5, 0, 0)))] 9) [] []

/-! THE LAW'S LEVEL 0: an abstract machine over the class's store and a list of the law's own cells -/
/-- a cell of the law's own: an object (class, fields), an array of numbers (0 int, 5 byte, 6 boolean), an array of rows -/
abbrev qC : Type := (Nat × List zV) ⊕ ((Nat × List Int32) ⊕ List (Option zR))
abbrev qW : Type := List qC
abbrev qS : Type := zS × qW
abbrev qO : Type := Option zV × qS
/-- what a fresh field holds: of a text builder (11), of a text (12) -/
def qd_obj : Nat → List zV
  | 11 => [zn, zi 0, zi 0, zi 0]
  | _ => [zn, zi 0, zi 0, zi 0]
/-- the kinds of the fields: 0 an int, 1 a truth, 3 a reference, 4 a byte -/
def qd_nf : Nat → List Nat
  | 11 => [3, 4, 1, 0]
  | _ => [3, 4, 0, 1]
def qv_fit : Nat → zV → Bool
  | 0, .inl _ => true
  | 1, .inl x => decide (x &&& 1 = x)
  | 3, .inr (.inl (some _)) => true
  | 4, .inl x => decide (x.toInt8.toInt32 = x)
  | _, _ => false
def qa_len (r : zR) (T : qS) (nx : Int32 → Option qO) : Option qO := match r.1 with
  | 5 => nx (T.1.1 5 0 1 0)
  | 7 => (zx_nth zt_texts r.2.1).bind (fun x => nx (Int32.ofNat x.length))
  | 8 => match zx_nth T.2 r.2.1 with
    | some (.inr (.inl x)) => nx (Int32.ofNat x.2.length)
    | _ => none
  | _ => none
def qa_in (i n : Int32) (x : Option qO) : Option qO := if i < 0 then none else if n ≤ i then none else x
def qa_ld (r : zR) (i : Int32) (T : qS) (nx : Int32 → Option qO) : Option qO := match r.1 with
  | 5 => qa_in i (T.1.1 5 0 1 0) (nx (T.1.1 5 0 0 i.toNatClampNeg))
  | 8 => match zx_nth T.2 r.2.1 with
    | some (.inr (.inl (0, xs))) => qa_in i (Int32.ofNat xs.length) (nx (xs.getD i.toNatClampNeg 0))
    | _ => none
  | _ => none
def qa_st (r : zR) (i x : Int32) (T : qS) (nx : qS → Option qO) : Option qO := match r.1 with
  | 8 => match zx_nth T.2 r.2.1 with
    | some (.inr (.inl (0, xs))) => qa_in i (Int32.ofNat xs.length) (nx (T.1, T.2.set r.2.1 (.inr (.inl (0, xs.set i.toNatClampNeg x)))))
    | _ => none
  | _ => none
/-- the digits' tables -/
def qt_dg (k : Nat) (j : Nat) : Int32 := match k with
  | 0 => Int32.ofNat (48 + j % 10)
  | _ => Int32.ofNat (48 + j / 10)
def qa_bld (r : zR) (i : Int32) (T : qS) (nx : Int32 → Option qO) : Option qO := match r.1 with
  | 7 => (zx_nth zt_texts r.2.1).bind (fun x => qa_in i (Int32.ofNat x.length) (nx (x.getD i.toNatClampNeg 0)))
  | 9 => qa_in i 100 (nx (qt_dg r.2.1 i.toNatClampNeg))
  | 8 => match zx_nth T.2 r.2.1 with
    | some (.inr (.inl (5, xs))) => qa_in i (Int32.ofNat xs.length) (nx (xs.getD i.toNatClampNeg 0))
    | some (.inr (.inl (6, xs))) => qa_in i (Int32.ofNat xs.length) (nx (xs.getD i.toNatClampNeg 0))
    | _ => none
  | _ => none
def qa_bst (r : zR) (i x : Int32) (T : qS) (nx : qS → Option qO) : Option qO := match r.1 with
  | 8 => match zx_nth T.2 r.2.1 with
    | some (.inr (.inl (5, xs))) => qa_in i (Int32.ofNat xs.length) (nx (T.1, T.2.set r.2.1 (.inr (.inl (5, xs.set i.toNatClampNeg x.toInt8.toInt32)))))
    | some (.inr (.inl (6, xs))) => qa_in i (Int32.ofNat xs.length) (if x &&& 1 = x then nx (T.1, T.2.set r.2.1 (.inr (.inl (6, xs.set i.toNatClampNeg x)))) else none)
    | _ => none
  | _ => none
def qa_ldr (r : zR) (i : Int32) (T : qS) (nx : zV → Option qO) : Option qO := match r.1 with
  | 8 => match zx_nth T.2 r.2.1 with
    | some (.inr (.inr l)) => qa_in i (Int32.ofNat l.length) (match l.getD i.toNatClampNeg none with
      | some q => nx (.inr (.inl (some q)))
      | none => none)
    | _ => none
  | _ => none
def qf_get (a b : Nat) (r : zR) (T : qS) (nx : zV → Option qO) : Option qO := match r.1 with
  | 6 => match a, b with
    | 12, 0 => nx (za 7 r.2.1 0)
    | 12, 1 => nx (zi 0)
    | _, _ => none
  | 8 => match zx_nth T.2 r.2.1 with
    | some (.inl (ci, fs)) => if ci = a then (zx_nth fs b).bind nx else none
    | _ => none
  | _ => none
def qf_put (a b : Nat) (r : zR) (v : zV) (T : qS) (nx : qS → Option qO) : Option qO := match r.1 with
  | 8 => match zx_nth T.2 r.2.1 with
    | some (.inl (ci, fs)) => if ci = a ∧ b < fs.length ∧ qv_fit ((qd_nf a).getD b 9) v = true then nx (T.1, T.2.set r.2.1 (.inl (ci, fs.set b v))) else none
    | _ => none
  | _ => none
/-- numbers copied into a row -/
def qa_cpl (xs ys : List Int32) (i j n : Nat) : List Int32 := ys.mapIdx (fun k y => if j ≤ k ∧ k < j + n then xs.getD (i + (k - j)) 0 else y)
/-- System.arraycopy of bytes -/
def qa_copy (r q : zR) (i j n : Int32) (T : qS) (nx : qS → Option qO) : Option qO := match q.1 with
  | 8 => match zx_nth T.2 q.2.1 with
    | some (.inr (.inl (5, ys))) => (match r.1 with
      | 7 => zx_nth zt_texts r.2.1
      | 8 => (match zx_nth T.2 r.2.1 with
        | some (.inr (.inl (5, xs))) => some xs
        | _ => none)
      | _ => none : Option (List Int32)).bind (fun xs => if 0 ≤ i ∧ 0 ≤ j ∧ 0 ≤ n ∧ i.toNatClampNeg + n.toNatClampNeg ≤ xs.length ∧ j.toNatClampNeg + n.toNatClampNeg ≤ ys.length then nx (T.1, T.2.set q.2.1 (.inr (.inl (5, qa_cpl xs ys i.toNatClampNeg j.toNatClampNeg n.toNatClampNeg)))) else none)
    | _ => none
  | _ => none
def qa_new (n : Int32) (k : Nat) (T : qS) (nx : zV → qS → Option qO) : Option qO := if n < 0 then none else if 1000000 < n.toNatClampNeg then none else nx (za 8 T.2.length 0) (T.1, T.2 ++ [.inr (.inl (k, List.replicate n.toNatClampNeg 0))])
def qa_new2 (n m : Int32) (T : qS) (nx : zV → qS → Option qO) : Option qO := if n < 0 then none else if m < 0 then none else if 1000 < n.toNatClampNeg then none else if 1000 < m.toNatClampNeg then none else nx (za 8 T.2.length 0) (T.1, T.2 ++ (.inr (.inr ((List.range n.toNatClampNeg).map (fun i => some (8, T.2.length + 1 + i, 0)))) :: List.replicate n.toNatClampNeg (.inr (.inl (0, List.replicate m.toNatClampNeg 0)))))
/-- is it an object of this class? (12: a text, 11: a text builder) -/
def qx_rc (r : zR) (ci : Nat) (T : qS) : Bool := match r.1 with
  | 6 => Nat.beq ci 12
  | 8 => match zx_nth T.2 r.2.1 with
    | some (.inl (c, _)) => Nat.beq c ci
    | _ => false
  | _ => false
def qx_ret (t : Nat) (r : Option qO) (st : List zV) (nx : List zV → qS → Option qO) : Option qO :=
  match t with
  | 0 => (match r with
    | some (none, T) => nx st T
    | _ => none)
  | 1 => (match r with
    | some (some (.inl x), T) => nx (zi x :: st) T
    | _ => none)
  | 5 => (match r with
    | some (some (.inr (.inl (some x))), T) => nx (.inr (.inl (some x)) :: st) T
    | _ => none)
  | _ => none
def qz_ret (t : Nat) (r : Option zO) (w : qW) (st : List zV) (nx : List zV → qS → Option qO) : Option qO :=
  match t with
  | 0 => (match r with
    | some (.inl none, S) => nx st (S, w)
    | _ => none)
  | 1 => (match r with
    | some (.inl (some (.inl x)), S) => nx (zi x :: st) (S, w)
    | _ => none)
  | _ => none
/-- a receiver's class by the way of the call: 1 a text; 2, 3, 4 a text builder -/
def qx_cls : Nat → Nat
  | 1 => 12
  | _ => 11
def qx_ints : List zV → Bool
  | [] => true
  | .inl _ :: l => qx_ints l
  | _ => false
def qx_lib (b : Nat) (st : List zV) (T : qS) (nx : List zV → qS → Option qO) : Option qO := zx_if (Nat.ble (zx_wd st) 13) (match b, st with
  | 0, .inl y :: .inl x :: st => nx (zi (if y < x then y else x) :: st) T
  | 1, .inl y :: .inl x :: st => nx (zi (if x < y then y else x) :: st) T
  | 3, .inl n :: .inl j :: .inr (.inl (some q)) :: .inl i :: .inr (.inl (some r)) :: st => qa_copy r q i j n T (fun T => nx st T)
  | 6, .inl n :: .inl i :: st => zx_if (Nat.ble (zx_wd st) 8) (qa_in i n (nx st T))
  | 7, .inr (.inl (some (8, q, 0))) :: st => (match zx_nth T.2 q with
    | some (.inr (.inl (5, xs))) => nx (za 8 T.2.length 0 :: st) (T.1, T.2 ++ [.inr (.inl (5, xs))])
    | _ => none)
  | 8, .inr (.inl (some _)) :: st => nx st T
  | _, _ => none)
def qx_cond (c : ClassFile.Cond) (x y : Int32) (t e : Option qO) : Option qO := match c with
  | .eq => if x = y then t else e
  | .ne => if x = y then e else t
  | .lt => if x < y then t else e
  | .ge => if y ≤ x then t else e
  | .gt => if y < x then t else e
  | .le => if x ≤ y then t else e
/-- one instruction: nx goes on behind it, jp at another place -/
def qx_step (Γ : Nat → List zV → qS → Option qO) (Z : Nat → List zV → zS → Option zO) (rk : Nat) (nx : zL → List zV → qS → Option qO) (jp : Nat → zL → List zV → qS → Option qO) (i : Instr) (a b c rt : Nat) (k : Int32) (lv : zL) (st : List zV) (T : qS) : Option qO :=
  match i with
  | .iload_n j => match zl_get lv j.val with
    | some (.inl x) => nx lv (zi x :: st) T
    | _ => none
  | .iload j => match zl_get lv j with
    | some (.inl x) => nx lv (zi x :: st) T
    | _ => none
  | .aload_n j => match zl_get lv j.val with
    | some (.inr (.inl (some r))) => nx lv (.inr (.inl (some r)) :: st) T
    | _ => none
  | .aload j => match zl_get lv j with
    | some (.inr (.inl (some r))) => nx lv (.inr (.inl (some r)) :: st) T
    | _ => none
  | .istore_n j => match st with
    | .inl x :: st => nx (zl_set lv j.val (some (zi x))) st T
    | _ => none
  | .istore j => match st with
    | .inl x :: st => nx (zl_set lv j (some (zi x))) st T
    | _ => none
  | .astore_n j => match st with
    | .inr (.inl (some r)) :: st => nx (zl_set lv j.val (some (.inr (.inl (some r))))) st T
    | _ => none
  | .astore j => match st with
    | .inr (.inl (some r)) :: st => nx (zl_set lv j (some (.inr (.inl (some r))))) st T
    | _ => none
  | .iinc j _ => match zl_get lv j with
    | some (.inl x) => nx (zl_set lv j (some (zi (x + k)))) st T
    | _ => none
  | .iconst _ => nx lv (zi k :: st) T
  | .bipush _ => nx lv (zi k :: st) T
  | .sipush _ => nx lv (zi k :: st) T
  | .ldc _ => match a with
    | 0 => nx lv (zi k :: st) T
    | _ => nx lv (za 6 b 0 :: st) T
  | .aconst_null => nx lv (zn :: st) T
  | .dup => match st with
    | .inr (.inl (some r)) :: st => nx lv (.inr (.inl (some r)) :: .inr (.inl (some r)) :: st) T
    | _ => none
  | .dup2 => match st with
    | .inl x :: .inr (.inl (some r)) :: st => nx lv (zi x :: .inr (.inl (some r)) :: zi x :: .inr (.inl (some r)) :: st) T
    | _ => none
  | .dup_x1 => match st with
    | .inl x :: .inr (.inl (some r)) :: st => nx lv (zi x :: .inr (.inl (some r)) :: zi x :: st) T
    | _ => none
  | .pop => match st with
    | .inl _ :: st => nx lv st T
    | .inr (.inl (some _)) :: st => nx lv st T
    | _ => none
  | .iadd => match st with
    | .inl y :: .inl x :: st => nx lv (zi (x + y) :: st) T
    | _ => none
  | .isub => match st with
    | .inl y :: .inl x :: st => nx lv (zi (x - y) :: st) T
    | _ => none
  | .imul => match st with
    | .inl y :: .inl x :: st => nx lv (zi (x * y) :: st) T
    | _ => none
  | .idiv => match st with
    | .inl y :: .inl x :: st => if y = 0 then none else nx lv (zi (x / y) :: st) T
    | _ => none
  | .irem => match st with
    | .inl y :: .inl x :: st => if y = 0 then none else nx lv (zi (x - x / y * y) :: st) T
    | _ => none
  | .ineg => match st with
    | .inl x :: st => nx lv (zi (-x) :: st) T
    | _ => none
  | .iand => match st with
    | .inl y :: .inl x :: st => nx lv (zi (x &&& y) :: st) T
    | _ => none
  | .ior => match st with
    | .inl y :: .inl x :: st => nx lv (zi (x ||| y) :: st) T
    | _ => none
  | .ishl => match st with
    | .inl y :: .inl x :: st => nx lv (zi (x <<< (y &&& 31)) :: st) T
    | _ => none
  | .ishr => match st with
    | .inl y :: .inl x :: st => nx lv (zi (x >>> (y &&& 31)) :: st) T
    | _ => none
  | .i2b => match st with
    | .inl x :: st => nx lv (zi x.toInt8.toInt32 :: st) T
    | _ => none
  | .i2c => match st with
    | .inl x :: st => nx lv (zi (x.toUInt32 % 65536).toInt32 :: st) T
    | _ => none
  | .ifCond cc _ => match st with
    | .inl x :: st => qx_cond cc x 0 (jp a lv st T) (nx lv st T)
    | _ => none
  | .if_icmp cc _ => match st with
    | .inl y :: .inl x :: st => qx_cond cc x y (jp a lv st T) (nx lv st T)
    | _ => none
  | .ifnonnull _ => match st with
    | .inr (.inl (some _)) :: st => jp a lv st T
    | _ => none
  | .goto _ => jp a lv st T
  | .getfield _ => match st with
    | .inr (.inl (some r)) :: st => qf_get a b r T (fun v => nx lv (v :: st) T)
    | _ => none
  | .putfield _ => match st with
    | v :: .inr (.inl (some r)) :: st => qf_put a b r v T (fun T => nx lv st T)
    | _ => none
  | .getstatic _ => match a with
    | 0 => nx lv (zi 1 :: st) T
    | 1 => nx lv (za 9 0 0 :: st) T
    | 2 => nx lv (za 9 1 0 :: st) T
    | _ => none
  | .arraylength => match st with
    | .inr (.inl (some r)) :: st => qa_len r T (fun x => nx lv (zi x :: st) T)
    | _ => none
  | .iaload => match st with
    | .inl j :: .inr (.inl (some r)) :: st => qa_ld r j T (fun x => nx lv (zi x :: st) T)
    | _ => none
  | .iastore => match st with
    | .inl x :: .inl j :: .inr (.inl (some r)) :: st => qa_st r j x T (fun T => nx lv st T)
    | _ => none
  | .baload => match st with
    | .inl j :: .inr (.inl (some r)) :: st => qa_bld r j T (fun x => nx lv (zi x :: st) T)
    | _ => none
  | .bastore => match st with
    | .inl x :: .inl j :: .inr (.inl (some r)) :: st => qa_bst r j x T (fun T => nx lv st T)
    | _ => none
  | .aaload => match st with
    | .inl j :: .inr (.inl (some r)) :: st => qa_ldr r j T (fun v => nx lv (v :: st) T)
    | _ => none
  | .newarray _ => match st with
    | .inl n :: st => qa_new n a T (fun v T => nx lv (v :: st) T)
    | _ => none
  | .multianewarray _ _ => match st with
    | .inl m :: .inl n :: st => qa_new2 n m T (fun v T => nx lv (v :: st) T)
    | _ => none
  | .new _ => match a with
    | 11 => nx lv (za 8 T.2.length 0 :: st) (T.1, T.2 ++ [.inl (11, qd_obj 11)])
    | 12 => nx lv (za 8 T.2.length 0 :: st) (T.1, T.2 ++ [.inl (12, qd_obj 12)])
    | _ => none
  | .checkcast _ => match st with
    | .inr (.inl (some (8, q, 0))) :: st => (match zx_nth T.2 q with
      | some (.inr (.inl (5, _))) => nx lv (za 8 q 0 :: st) T
      | _ => none)
    | _ => none
  | .invokevirtual _ => match c with
    | 10 => (zx_pop b [] st).bind (fun q => zx_if (Nat.ble (zx_wd q.2) 8) (match q.1 with
      | .inr (.inl (some (1, 0, 0))) :: as => zx_if (qx_ints as) (qz_ret rt (Z a q.1 T.1) T.2 q.2 (fun st T => nx lv st T))
      | _ => none))
    | 97 => qx_lib a st T (fun st T => nx lv st T)
    | 98 => none
    | c => (zx_pop b [] st).bind (fun q => zx_if (Nat.ble (zx_wd q.2) 8) (match q.1 with
      | .inr (.inl (some r)) :: _ => zx_if (qx_rc r (qx_cls c) T) (qx_ret rt (Γ a q.1 T) q.2 (fun st T => nx lv st T))
      | _ => none))
  | .invokespecial _ => match c with
    | 97 => qx_lib a st T (fun st T => nx lv st T)
    | 98 => none
    | 5 => (zx_pop b [] st).bind (fun q => zx_if (Nat.ble (zx_wd q.2) 8) (match q.1 with
      | .inr (.inl (some _)) :: _ => qx_ret rt (Γ a q.1 T) q.2 (fun st T => nx lv st T)
      | _ => none))
    | c => (zx_pop b [] st).bind (fun q => zx_if (Nat.ble (zx_wd q.2) 8) (match q.1 with
      | .inr (.inl (some r)) :: _ => zx_if (qx_rc r (qx_cls c) T) (qx_ret rt (Γ a q.1 T) q.2 (fun st T => nx lv st T))
      | _ => none))
  | .invokestatic _ => match c with
    | 97 => qx_lib a st T (fun st T => nx lv st T)
    | 98 => none
    | _ => (zx_pop b [] st).bind (fun q => zx_if (Nat.ble (zx_wd q.2) 8) (qx_ret rt (Γ a q.1 T) q.2 (fun st T => nx lv st T)))
  | .ireturn => match st with
    | .inl x :: [] => match rk with
      | 1 => some (some (zi x), T)
      | 2 => if x &&& 1 = x then some (some (zi x), T) else none
      | 6 => if x.toInt8.toInt32 = x then some (some (zi x), T) else none
      | 7 => if x.toUInt32.toUInt16.toUInt32.toInt32 = x then some (some (zi x), T) else none
      | _ => none
    | _ => none
  | .areturn => match st with
    | .inr (.inl (some r)) :: [] => some (some (.inr (.inl (some r))), T)
    | _ => none
  | .return_ => match st with
    | [] => some (none, T)
    | _ => none
  | _ => none
def qx_next (R : List zE → zL → List zV → qS → Option qO) (K : Nat → zL → List zV → qS → Option qO) (es : List zE) (lv : zL) (st : List zV) (T : qS) : Option qO :=
  match es with
  | [] => none
  | e :: _ => match e.1 with
    | none => R es lv st T
    | some mm => K e.2.1 (zl_keep mm lv) st T
def qx_blk (Γ : Nat → List zV → qS → Option qO) (Z : Nat → List zV → zS → Option zO) (cd : List zE) (rk : Nat) (K : Nat → zL → List zV → qS → Option qO) : Nat → List zE → zL → List zV → qS → Option qO
  | 0, _, _, _, _ => none
  | _ + 1, [], _, _, _ => none
  | m + 1, e :: es, lv, st, T => qx_step Γ Z rk (fun lv st T => qx_next (fun es lv st T => qx_blk Γ Z cd rk K m es lv st T) K es lv st T) (fun pc lv st T => qx_next (fun es lv st T => qx_blk Γ Z cd rk K m es lv st T) K (zx_at cd pc) lv st T) e.2.2.1 e.2.2.2.2.1.1 e.2.2.2.2.1.2.1 e.2.2.2.2.1.2.2.1 e.2.2.2.2.1.2.2.2.2 e.2.2.2.2.2.1 lv st T
def qx_run (Γ : Nat → List zV → qS → Option qO) (Z : Nat → List zV → zS → Option zO) (cd : List zE) (rk : Nat) (N : Nat) : Nat → Nat → zL → List zV → qS → Option qO
  | 0, _, _, _, _ => none
  | n + 1, pc, lv, st, T => qx_blk Γ Z cd rk (fun pc lv st T => qx_run Γ Z cd rk N n pc lv st T) N (zx_at cd pc) lv st T

/-! THE ABSTRACT MACHINE: what the bytecode does to an abstract store; an own text (the soundness over the machine stands in a later part) -/
/-- a reference: the kind, the number among its kind, the place within -/
abbrev zR : Type := Nat × Nat × Nat
/-- a value: an int; a reference or null; a float; a long; a double -/
abbrev zV : Type := Int32 ⊕ (Option zR ⊕ (UInt32 ⊕ (Int64 ⊕ UInt64)))
/-- the store: the numbers of all cells; the law's long and double; how many exceptions were made -/
abbrev zS : Type := (Nat → Nat → Nat → Nat → Int32) × (Int64 × (UInt64 × Nat))
abbrev zL : Type := List (Option zV)
/-- how a method ends: it returned (a value), or threw an exception (its number); the store -/
abbrev zO : Type := (Option zV ⊕ Nat) × zS
/-- an instruction, resolved: live locals where the run is cut; pc; itself; length; numbers; constant; rows -/
abbrev zE : Type := Option (List Bool) × (Nat × (Instr × (Nat × ((Nat × (Nat × (Nat × (Nat × Nat)))) × (Int32 × List (Int × Nat))))))
abbrev zi (x : Int32) : zV := .inl x
abbrev za (k n o : Nat) : zV := .inr (.inl (some (k, n, o)))
abbrev zn : zV := .inr (.inl none)
abbrev zf (x : UInt32) : zV := .inr (.inr (.inl x))
abbrev zl (x : Int64) : zV := .inr (.inr (.inr (.inl x)))
abbrev zd (x : UInt64) : zV := .inr (.inr (.inr (.inr x)))
def zs_set (S : zS) (k n o j : Nat) (v : Int32) : zS := (fun k' n' o' j' => if k' = k ∧ n' = n ∧ o' = o ∧ j' = j then v else S.1 k' n' o' j', S.2)
def zx_nth {α : Type} : List α → Nat → Option α
  | [], _ => none
  | x :: _, 0 => some x
  | _ :: l, i + 1 => zx_nth l i
def zl_get : zL → Nat → Option zV
  | [], _ => none
  | x :: _, 0 => x
  | _ :: l, i + 1 => zl_get l i
def zl_wide : Option zV → Bool
  | some (.inr (.inr (.inr _))) => true
  | _ => false
def zl_set : zL → Nat → Option zV → zL
  | [], _, _ => []
  | _ :: l, 0, v => v :: l
  | x :: l, 1, v => (match zl_wide x with | true => none | false => x) :: zl_set l 0 v
  | x :: l, i + 2, v => x :: zl_set l (i + 1) v
def zl_clr : zL → Nat → zL
  | [], _ => []
  | _ :: l, 0 => none :: l
  | x :: l, i + 1 => x :: zl_clr l i
def zl_keep : List Bool → zL → zL
  | true :: m, x :: l => x :: zl_keep m l
  | false :: m, _ :: l => none :: zl_keep m l
  | _, _ => []
def zl_pad : Nat → zL
  | 0 => []
  | n + 1 => none :: zl_pad n
def zl_init (av : List zV) (n : Nat) : zL := av.map some ++ zl_pad (n - av.length)
/-- the cell of a reference: (true, class), or (false, kind of array, length) -/
def zt_cd (T : List (List (Bool × Nat × Nat))) (r : zR) : Option (Bool × Nat × Nat) := (zx_nth T r.1).bind (fun l => zx_nth l r.2.2)
def zx_pop : Nat → List zV → List zV → Option (List zV × List zV)
  | 0, acc, st => some (acc, st)
  | n + 1, acc, v :: st => match zl_wide (some v) with
    | true => none
    | false => zx_pop n (v :: acc) st
  | _ + 1, _, [] => none
def zx_find : List (Int × Nat) → Int → Option Nat
  | [], _ => none
  | (e, t) :: l, x => if e = x then some t else zx_find l x
/-- what goes on behind a call, by what the method answers: nothing, an int, a float, a double, a reference -/
def zx_ret0 (r : Option zO) (hv : zS → Option zO) (hx : Nat → zS → Option zO) : Option zO :=
  match r with
  | some (.inl none, S) => hv S
  | some (.inr e, S) => hx e S
  | _ => none
def zx_ret1 (r : Option zO) (hv : Int32 → zS → Option zO) (hx : Nat → zS → Option zO) : Option zO :=
  match r with
  | some (.inl (some (.inl x)), S) => hv x S
  | some (.inr e, S) => hx e S
  | _ => none
def zx_ret3 (r : Option zO) (hv : UInt32 → zS → Option zO) (hx : Nat → zS → Option zO) : Option zO :=
  match r with
  | some (.inl (some (.inr (.inr (.inl x)))), S) => hv x S
  | some (.inr e, S) => hx e S
  | _ => none
def zx_ret4 (r : Option zO) (hv : UInt64 → zS → Option zO) (hx : Nat → zS → Option zO) : Option zO :=
  match r with
  | some (.inl (some (.inr (.inr (.inr (.inr x))))), S) => hv x S
  | some (.inr e, S) => hx e S
  | _ => none
def zx_ret5 (r : Option zO) (hv : Option zR → zS → Option zO) (hx : Nat → zS → Option zO) : Option zO :=
  match r with
  | some (.inl (some (.inr (.inl x))), S) => hv x S
  | some (.inr e, S) => hx e S
  | _ => none
def zx_ret (t : Nat) (r : Option zO) (st : List zV) (nx : List zV → zS → Option zO) (hx : Nat → zS → Option zO) : Option zO :=
  match t with
  | 0 => zx_ret0 r (fun S => nx st S) hx
  | 1 => zx_ret1 r (fun x S => nx (zi x :: st) S) hx
  | 3 => zx_ret3 r (fun x S => nx (zf x :: st) S) hx
  | 4 => zx_ret4 r (fun x S => nx (zd x :: st) S) hx
  | 5 => zx_ret5 r (fun x S => nx (.inr (.inl x) :: st) S) hx
  | _ => none
/-- the words of a stack -/
def zx_wd : List zV → Nat
  | [] => 0
  | v :: l => (match zl_wide (some v) with | true => 2 | false => 1) + zx_wd l
def zx_at : List zE → Nat → List zE
  | [], _ => []
  | e :: es, pc => match Nat.beq e.2.1 pc with | true => e :: es | false => zx_at es pc
def zx_next (R : List zE → zL → List zV → zS → Option zO) (K : Nat → zL → List zV → zS → Option zO) (es : List zE) (lv : zL) (st : List zV) (S : zS) : Option zO :=
  match es with
  | [] => none
  | e :: _ => match e.1 with
    | none => R es lv st S
    | some mm => K e.2.1 (zl_keep mm lv) st S
/-! TABLES OF THE ABSTRACT MACHINE, by program (wip/p52/tools/emit52.py) -/
/-- the cells by kind and place: (true, class, 0) an object, (false, kind, length) an array: kind 0 int, 1 Bath, 2 String, 3 long, 4 double -/
def zt_cells : List (List (Bool × Nat × Nat)) := [[(true, 0, 0), (true, 7, 0), (false, 0, 132), (true, 7, 0), (false, 0, 30), (true, 7, 0), (false, 0, 15), (true, 6, 0), (false, 0, 100), (true, 6, 0), (false, 0, 100), (true, 6, 0), (false, 0, 12)], [(true, 10, 0), (true, 3, 0), (false, 1, 10), (true, 4, 0), (true, 2, 0), (true, 6, 0), (false, 0, 100), (true, 6, 0), (false, 0, 100), (true, 9, 0), (true, 6, 0), (false, 0, 100), (true, 6, 0), (false, 0, 100), (true, 8, 0), (true, 6, 0), (false, 0, 700), (true, 1, 0), (true, 5, 0), (true, 6, 0), (false, 0, 10)], [(false, 0, 260)], [(true, 11, 0), (false, 0, 2600), (false, 0, 100), (false, 0, 100), (false, 0, 100), (false, 0, 10), (false, 0, 700), (false, 2, 10), (false, 0, 200), (false, 0, 200)], [(false, 3, 1), (false, 4, 1)]]
def zt_counts : List Nat := [14, 1, 0, 0, 0]
/-- the fields by class and place -/
def zt_flds : List (List (Nat × Nat × Nat × Nat)) := [[(4, 1, 0, 0), (4, 3, 0, 0), (4, 5, 0, 0), (4, 7, 0, 0), (4, 9, 0, 0), (4, 11, 0, 0), (0, 0, 0, 0), (0, 0, 0, 0), (0, 0, 0, 0), (0, 0, 0, 0), (0, 0, 0, 0), (0, 0, 0, 0), (0, 0, 0, 0), (0, 0, 0, 0), (0, 0, 0, 0), (0, 0, 0, 0), (0, 0, 0, 0)], [(3, 1, 0, 14), (3, 0, 3, 0)], [(3, 1, 0, 5), (2, 0, 0, 0), (2, 0, 0, 0)], [(3, 1, 0, 2), (0, 0, 0, 0), (0, 0, 0, 0)], [(3, 1, 0, 4), (3, 1, 0, 7)], [(3, 1, 0, 14), (3, 0, 0, 0)], [(4, 1, 0, 0), (0, 0, 0, 0)], [(4, 1, 0, 0), (0, 0, 0, 0)], [(3, 1, 0, 15), (0, 0, 0, 0), (0, 0, 0, 0), (0, 0, 0, 0), (0, 0, 0, 0), (0, 0, 0, 0), (0, 0, 0, 0), (0, 0, 0, 0), (0, 0, 0, 0)], [(3, 1, 0, 10), (3, 1, 0, 12)], [(3, 0, 0, 0), (3, 0, 1, 0), (3, 0, 2, 0), (3, 1, 0, 1), (3, 1, 0, 3), (3, 1, 0, 9), (3, 1, 0, 14), (3, 1, 0, 17), (3, 1, 0, 18), (3, 1, 0, 19), (0, 0, 0, 0), (0, 0, 0, 0), (1, 0, 0, 0)], [(3, 2, 0, 0), (3, 2, 1, 0), (3, 2, 2, 0), (3, 2, 3, 0), (3, 3, 0, 1), (3, 3, 0, 2), (3, 3, 0, 3), (3, 3, 0, 4), (5, 0, 0, 0), (0, 0, 0, 0), (0, 0, 0, 0), (1, 0, 0, 0), (3, 3, 0, 5), (0, 0, 0, 0), (3, 3, 0, 6), (0, 0, 0, 0), (0, 0, 0, 0), (0, 0, 0, 0), (0, 0, 0, 0), (0, 0, 0, 0), (0, 0, 0, 0), (0, 0, 0, 0), (0, 0, 0, 0), (0, 0, 0, 0), (3, 3, 0, 7), (3, 3, 0, 8), (3, 3, 0, 9), (0, 0, 0, 0)]]
/-- the texts -/
def zt_texts : List (List Int32) := [[97, 110, 100], [98, 97, 116, 104], [98, 111, 97, 116], [100, 114, 97, 105, 110], [102, 105, 114, 115, 116], [104, 105, 116, 115], [108, 101, 118, 101, 108], [109, 97, 110, 121], [109, 111, 118, 101, 115], [110, 111, 32, 115, 117, 99, 104, 32, 98, 111, 97, 116], [110, 111, 32, 115, 117, 99, 104, 32, 99, 101, 108, 108], [110, 111, 32, 115, 117, 99, 104, 32, 110, 117, 109, 98, 101, 114, 32, 111, 102, 32, 97, 110, 32, 101, 110, 100, 101, 100, 32, 98, 111, 97, 116], [110, 111, 32, 115, 117, 99, 104, 32, 110, 117, 109, 98, 101, 114, 32, 111, 102, 32, 116, 104, 101, 32, 98, 97, 116, 104], [110, 111, 116], [111, 114], [111, 117, 116, 32, 111, 102, 32, 114, 97, 110, 103, 101], [112, 117, 115, 104], [115, 111, 97, 112], [115, 116, 97, 116, 101], [115, 116, 114, 101, 110, 103, 116, 104], [116, 97, 112], [116, 104, 101, 114, 101, 32, 97, 114, 101, 32, 110, 111, 116, 32, 115, 111, 32, 109, 97, 110, 121], [119, 101, 105, 103, 104, 116], [119, 101, 116], [119, 105, 110, 100], [120], [121], [32, 108, 101, 118, 101, 108, 32], [32, 112, 117, 115, 104, 32], [32, 119, 101, 116, 32], [32, 119, 105, 110, 100, 32], [98, 97, 116, 104, 32], [98, 111, 97, 116, 32], [100, 114, 97, 105, 110, 32], [115, 111, 97, 112, 32], [116, 97, 112, 32]]
def zt_names : List Nat := [2, 25, 26, 22, 19, 23, 18, 17, 8, 5]
def zt_strs : List String := ["and", "bath", "boat", "drain", "first", "hits", "level", "many", "moves", "no such boat", "no such cell", "no such number of an ended boat", "no such number of the bath", "not", "or", "out of range", "push", "soap", "state", "strength", "tap", "there are not so many", "weight", "wet", "wind", "x", "y", " level ", " push ", " wet ", " wind ", "bath ", "boat ", "drain ", "soap ", "tap "]
/-- the text constants: class, entry, text -/
def zt_srs : List (String × Nat × Nat) := [("BathBoats", 170, 12), ("BathBoats", 226, 11), ("BathBoats", 333, 9), ("BathBoats", 335, 10), ("BathBoats", 337, 21), ("BathBoats", 341, 15), ("BathBoats$BathReader", 31, 3), ("BathBoats$BathReader", 40, 20), ("BathBoats$BathReader", 45, 2), ("BathBoats$BathReader", 50, 17), ("BathBoats$BathReader", 59, 1), ("BathBoats$BathReader", 71, 6), ("BathBoats$BathReader", 76, 16), ("BathBoats$BathReader", 80, 24), ("BathBoats$BathReader", 151, 23), ("BathBoatsLaw", 40, 31), ("BathBoatsLaw", 52, 27), ("BathBoatsLaw", 57, 28), ("BathBoatsLaw", 59, 30), ("BathBoatsLaw", 61, 33), ("BathBoatsLaw", 63, 35), ("BathBoatsLaw", 65, 32), ("BathBoatsLaw", 67, 29), ("BathBoatsLaw", 69, 34)]
def zt_exc : List String := ["", "java/util/NoSuchElementException", "java/lang/IllegalArgumentException"]
abbrev zp_min_static : Nat := 481
abbrev zp_min_code : Nat := 482
abbrev zp_max_static : Nat := 75
abbrev zp_max_code : Nat := 76
abbrev zp_abs_static : Nat := 1133
abbrev zp_abs_code : Nat := 1134
abbrev zp_math_init : Nat := 29
abbrev zp_copy_native : Nat := 672
abbrev zp_copy_static : Nat := 671
abbrev zp_sys_init : Nat := 44
abbrev zp_chk_code : Nat := 523
abbrev zp_chk_static : Nat := 522
abbrev zp_str_init : Nat := 40
abbrev zp_pre_field : Nat := 524
abbrev zp_pre_link : Nat := 526
abbrev zp_pre_static : Nat := 527
abbrev zp_pre_code : Nat := 528
abbrev zp_pre_init : Nat := 45
/-- the value of a field: 0 a number, 1 a truth, 2 a float, 3 a fixed reference, 4 one beside this object, 5 the model's row -/
def zf_get (f : Nat × Nat × Nat × Nat) (k : Nat) (r : zR) (S : zS) (nx : zV → Option zO) : Option zO :=
  match f with
  | (0, _) => nx (zi (S.1 r.1 r.2.1 r.2.2 k))
  | (1, _) => nx (zi (S.1 r.1 r.2.1 r.2.2 k))
  | (2, _) => nx (zf (S.1 r.1 r.2.1 r.2.2 k).toUInt32)
  | (3, a, b, c) => nx (za a b c)
  | (4, a, _, _) => nx (za r.1 r.2.1 (r.2.2 + a))
  | (5, _) => if (S.1 r.1 r.2.1 r.2.2 k).toNatClampNeg < 4 then nx (za 2 (S.1 r.1 r.2.1 r.2.2 k).toNatClampNeg 0) else none
  | _ => none
def zf_put (f : Nat × Nat × Nat × Nat) (k : Nat) (r : zR) (v : zV) (S : zS) : Option zS :=
  match f.1, v with
  | 0, .inl x => some (zs_set S r.1 r.2.1 r.2.2 k x)
  | 1, .inl x => if x &&& 1 = x then some (zs_set S r.1 r.2.1 r.2.2 k x) else none
  | 2, .inr (.inr (.inl x)) => some (zs_set S r.1 r.2.1 r.2.2 k x.toInt32)
  | 5, .inr (.inl (some (2, n, 0))) => match Nat.ble 4 n with | true => none | false => some (zs_set S r.1 r.2.1 r.2.2 k (Int32.ofNat n))
  | _, _ => none
def zf_of (ci k : Nat) : Option (Nat × Nat × Nat × Nat) := (zx_nth zt_flds ci).bind (fun l => zx_nth l k)
/-- is it an object of this class? -/
def zx_is (r : zR) (ci : Nat) : Bool := match zt_cd zt_cells r with
  | some (true, c, _) => Nat.beq c ci
  | _ => false
/-- .. or a text? -/
def zx_rc (r : zR) (c : Nat) : Bool := match c with
  | 12 => Nat.beq r.1 6
  | _ => zx_is r c
def zx_if {α : Type} (b : Bool) (x : Option α) : Option α := match b with
  | true => x
  | false => none
def za_len (r : zR) (S : zS) (nx : Int32 → Option zO) : Option zO := match r.1 with
  | 5 => nx (S.1 5 0 1 0)
  | 7 => (zx_nth zt_texts r.2.1).bind (fun w => nx (Int32.ofNat w.length))
  | _ => match zt_cd zt_cells r with
    | some (false, _, n) => nx (Int32.ofNat n)
    | _ => none
/-- a place i within a row of n -/
def za_in (i n : Int32) (x : Option zO) : Option zO := if i < 0 then none else if n ≤ i then none else x
def za_ld (r : zR) (i : Int32) (S : zS) (nx : Int32 → Option zO) : Option zO := match r.1 with
  | 5 => za_in i (S.1 5 0 1 0) (nx (S.1 5 0 0 i.toNatClampNeg))
  | _ => match zt_cd zt_cells r with
    | some (false, 0, n) => za_in i (Int32.ofNat n) (nx (S.1 r.1 r.2.1 r.2.2 i.toNatClampNeg))
    | _ => none
def za_st (r : zR) (i x : Int32) (S : zS) (nx : zS → Option zO) : Option zO := match zt_cd zt_cells r with
  | some (false, 0, n) => za_in i (Int32.ofNat n) (nx (zs_set S r.1 r.2.1 r.2.2 i.toNatClampNeg x))
  | _ => none
def za_ldr (r : zR) (i : Int32) (nx : zV → Option zO) : Option zO := match zt_cd zt_cells r with
  | some (false, 1, n) => za_in i (Int32.ofNat n) (nx (za 0 (4 + i.toNatClampNeg) 0))
  | some (false, 2, n) => za_in i (Int32.ofNat n) ((zx_nth zt_names i.toNatClampNeg).bind (fun t => nx (za 6 t 0)))
  | _ => none
/-- System.arraycopy of numbers, from the start of a row to the start of another -/
def za_copy (r q : zR) (i j n : Int32) (S : zS) (nx : zS → Option zO) : Option zO := match zt_cd zt_cells r, zt_cd zt_cells q with
  | some (false, 0, a), some (false, 0, b) => if i = 0 ∧ j = 0 ∧ 0 ≤ n ∧ n ≤ Int32.ofNat a ∧ n ≤ Int32.ofNat b then
      nx (fun k' n' o' j' => if k' = q.1 ∧ n' = q.2.1 ∧ o' = q.2.2 ∧ j' < n.toNatClampNeg then S.1 r.1 r.2.1 r.2.2 j' else S.1 k' n' o' j', S.2) else none
  | _, _ => none
/-- the members of the JDK that are known by themselves -/
def zx_lib (b : Nat) (st : List zV) (S : zS) (nx : List zV → zS → Option zO) : Option zO := zx_if (Nat.ble (zx_wd st) 13) (match b, st with
  | 0, .inl y :: .inl x :: st => nx (zi (if y < x then y else x) :: st) S
  | 1, .inl y :: .inl x :: st => nx (zi (if x < y then y else x) :: st) S
  | 2, .inl x :: st => nx (zi (if 0 ≤ x then x else 0 - x) :: st) S
  | 3, .inl n :: .inl j :: .inr (.inl (some q)) :: .inl i :: .inr (.inl (some r)) :: st => za_copy r q i j n S (fun S' => nx st S')
  | 6, .inl n :: .inl i :: st => zx_if (Nat.ble (zx_wd st) 8) (za_in i n (nx st S))
  | _, _ => none)
def zx_cond (c : ClassFile.Cond) (x y : Int32) (t e : Option zO) : Option zO := match c with
  | .eq => if x = y then t else e
  | .ne => if x = y then e else t
  | .lt => if x < y then t else e
  | .ge => if y ≤ x then t else e
  | .gt => if y < x then t else e
  | .le => if x ≤ y then t else e
/-- a switch: the rows name values; tb's first row is the default -/
def zx_sw (x : Int32) (jp : Nat → Option zO) : List (Int × Nat) → Nat → Option zO
  | [], d => jp d
  | (v, t) :: l, d => if x.toInt = v then jp t else zx_sw x jp l d
/-- one instruction: nx goes on behind it, jp at another place, rt ends -/
def zx_step (Γ : Nat → List zV → zS → Option zO) (rk : Nat) (nx : zL → List zV → zS → Option zO) (jp : Nat → zL → List zV → zS → Option zO) (i : Instr) (a b c rt : Nat) (k : Int32) (tb : List (Int × Nat)) (lv : zL) (st : List zV) (S : zS) : Option zO :=
  match i with
  | .iload_n j => match zl_get lv j.val with
    | some (.inl x) => nx lv (zi x :: st) S
    | _ => none
  | .iload j => match zl_get lv j with
    | some (.inl x) => nx lv (zi x :: st) S
    | _ => none
  | .aload_n j => match zl_get lv j.val with
    | some (.inr (.inl (some r))) => nx lv (.inr (.inl (some r)) :: st) S
    | some (.inr (.inl none)) => nx lv (zn :: st) S
    | _ => none
  | .aload j => match zl_get lv j with
    | some (.inr (.inl (some r))) => nx lv (.inr (.inl (some r)) :: st) S
    | _ => none
  | .fload_n j => match zl_get lv j.val with
    | some (.inr (.inr (.inl x))) => nx lv (zf x :: st) S
    | _ => none
  | .fload j => match zl_get lv j with
    | some (.inr (.inr (.inl x))) => nx lv (zf x :: st) S
    | _ => none
  | .dload j => match zl_get lv j with
    | some (.inr (.inr (.inr (.inr x)))) => nx lv (zd x :: st) S
    | _ => none
  | .istore_n j => match st with
    | .inl x :: st => nx (zl_set lv j.val (some (zi x))) st S
    | _ => none
  | .istore j => match st with
    | .inl x :: st => nx (zl_set lv j (some (zi x))) st S
    | _ => none
  | .astore_n j => match st with
    | .inr (.inl (some r)) :: st => nx (zl_set lv j.val (some (.inr (.inl (some r))))) st S
    | .inr (.inl none) :: st => nx (zl_set lv j.val (some zn)) st S
    | _ => none
  | .astore j => match st with
    | .inr (.inl (some r)) :: st => nx (zl_set lv j (some (.inr (.inl (some r))))) st S
    | _ => none
  | .fstore_n j => match st with
    | .inr (.inr (.inl x)) :: st => nx (zl_set lv j.val (some (zf x))) st S
    | _ => none
  | .fstore j => match st with
    | .inr (.inr (.inl x)) :: st => nx (zl_set lv j (some (zf x))) st S
    | _ => none
  | .dstore j => match st with
    | .inr (.inr (.inr (.inr x))) :: st => nx (zl_clr (zl_set lv j (some (zd x))) (j + 1)) st S
    | _ => none
  | .iinc j _ => match zl_get lv j with
    | some (.inl x) => nx (zl_set lv j (some (zi (x + k)))) st S
    | _ => none
  | .iconst _ => nx lv (zi k :: st) S
  | .bipush _ => nx lv (zi k :: st) S
  | .sipush _ => nx lv (zi k :: st) S
  | .ldc _ => match a with
    | 0 => nx lv (zi k :: st) S
    | _ => nx lv (za 6 b 0 :: st) S
  | .ldc_w _ => match a with
    | 0 => nx lv (zi k :: st) S
    | _ => nx lv (za 6 b 0 :: st) S
  | .aconst_null => nx lv (zn :: st) S
  | .fconst j => match j.val with
    | 0 => nx lv (zf FP.fconst0 :: st) S
    | _ => none
  | .dconst j => match j.val with
    | 0 => nx lv (zd FP.dconst0 :: st) S
    | _ => none
  | .dup => match st with
    | .inl x :: st => nx lv (zi x :: zi x :: st) S
    | .inr (.inl (some r)) :: st => nx lv (.inr (.inl (some r)) :: .inr (.inl (some r)) :: st) S
    | _ => none
  | .dup2 => match st with
    | .inl x :: .inr (.inl (some r)) :: st => nx lv (zi x :: .inr (.inl (some r)) :: zi x :: .inr (.inl (some r)) :: st) S
    | _ => none
  | .iadd => match st with
    | .inl y :: .inl x :: st => nx lv (zi (x + y) :: st) S
    | _ => none
  | .isub => match st with
    | .inl y :: .inl x :: st => nx lv (zi (x - y) :: st) S
    | _ => none
  | .imul => match st with
    | .inl y :: .inl x :: st => nx lv (zi (x * y) :: st) S
    | _ => none
  | .idiv => match st with
    | .inl y :: .inl x :: st => if y = 0 then none else nx lv (zi (x / y) :: st) S
    | _ => none
  | .irem => match st with
    | .inl y :: .inl x :: st => if y = 0 then none else nx lv (zi (x - x / y * y) :: st) S
    | _ => none
  | .ineg => match st with
    | .inl x :: st => nx lv (zi (-x) :: st) S
    | _ => none
  | .iand => match st with
    | .inl y :: .inl x :: st => nx lv (zi (x &&& y) :: st) S
    | _ => none
  | .ior => match st with
    | .inl y :: .inl x :: st => nx lv (zi (x ||| y) :: st) S
    | _ => none
  | .ixor => match st with
    | .inl y :: .inl x :: st => nx lv (zi (x ^^^ y) :: st) S
    | _ => none
  | .ishl => match st with
    | .inl y :: .inl x :: st => nx lv (zi (x <<< (y &&& 31)) :: st) S
    | _ => none
  | .ishr => match st with
    | .inl y :: .inl x :: st => nx lv (zi (x >>> (y &&& 31)) :: st) S
    | _ => none
  | .iushr => match st with
    | .inl y :: .inl x :: st => nx lv (zi (x.toUInt32 >>> (y.toUInt32 &&& Int32.toUInt32 31)).toInt32 :: st) S
    | _ => none
  | .i2l => match st with
    | .inl x :: st => nx lv (zl x.toInt64 :: st) S
    | _ => none
  | .i2f => match st with
    | .inl x :: st => nx lv (zf (FP.i2f x) :: st) S
    | _ => none
  | .i2d => match st with
    | .inl x :: st => nx lv (zd (FP.i2d x) :: st) S
    | _ => none
  | .f2i => match st with
    | .inr (.inr (.inl x)) :: st => nx lv (zi (FP.f2i x) :: st) S
    | _ => none
  | .f2d => match st with
    | .inr (.inr (.inl x)) :: st => if FP.fIsNaN x = true then none else nx lv (zd (FP.f2d x) :: st) S
    | _ => none
  | .fadd => match st with
    | .inr (.inr (.inl y)) :: .inr (.inr (.inl x)) :: st => if FP.fIsNaN (FP.fadd x y) = true then none else nx lv (zf (FP.fadd x y) :: st) S
    | _ => none
  | .fsub => match st with
    | .inr (.inr (.inl y)) :: .inr (.inr (.inl x)) :: st => if FP.fIsNaN (FP.fsub x y) = true then none else nx lv (zf (FP.fsub x y) :: st) S
    | _ => none
  | .fmul => match st with
    | .inr (.inr (.inl y)) :: .inr (.inr (.inl x)) :: st => if FP.fIsNaN (FP.fmul x y) = true then none else nx lv (zf (FP.fmul x y) :: st) S
    | _ => none
  | .fdiv => match st with
    | .inr (.inr (.inl y)) :: .inr (.inr (.inl x)) :: st => if FP.fIsNaN (FP.fdiv x y) = true then none else nx lv (zf (FP.fdiv x y) :: st) S
    | _ => none
  | .ddiv => match st with
    | .inr (.inr (.inr (.inr y))) :: .inr (.inr (.inr (.inr x))) :: st => if FP.dIsNaN (FP.ddiv x y) = true then none else nx lv (zd (FP.ddiv x y) :: st) S
    | _ => none
  | .fneg => match st with
    | .inr (.inr (.inl x)) :: st => nx lv (zf (FP.fneg x) :: st) S
    | _ => none
  | .fcmp op => match st with
    | .inr (.inr (.inl y)) :: .inr (.inr (.inl x)) :: st => nx lv (zi (Op.cmpValue (FP.fcmp x y) op) :: st) S
    | _ => none
  | .dcmp op => match st with
    | .inr (.inr (.inr (.inr y))) :: .inr (.inr (.inr (.inr x))) :: st => nx lv (zi (Op.cmpValue (FP.dcmp x y) op) :: st) S
    | _ => none
  | .lcmp => match st with
    | .inr (.inr (.inr (.inl y))) :: .inr (.inr (.inr (.inl x))) :: st => nx lv (zi (lg_cmp x y) :: st) S
    | _ => none
  | .ifCond cc _ => match st with
    | .inl x :: st => zx_cond cc x 0 (jp a lv st S) (nx lv st S)
    | _ => none
  | .if_icmp cc _ => match st with
    | .inl y :: .inl x :: st => zx_cond cc x y (jp a lv st S) (nx lv st S)
    | _ => none
  | .ifnonnull _ => match st with
    | .inr (.inl (some _)) :: st => jp a lv st S
    | .inr (.inl none) :: st => nx lv st S
    | _ => none
  | .goto _ => jp a lv st S
  | .tableswitch .. => match st with
    | .inl x :: st => zx_sw x (fun t => jp t lv st S) tb a
    | _ => none
  | .lookupswitch .. => match st with
    | .inl x :: st => zx_sw x (fun t => jp t lv st S) tb a
    | _ => none
  | .getfield _ => match c with
   | 2 => match st with
    | .inr (.inl (some (6, t, 0))) :: st => match b with
      | 0 => nx lv (za 7 t 0 :: st) S
      | _ => nx lv (zi 0 :: st) S
    | _ => none
   | _ => match st with
    | .inr (.inl (some r)) :: st => zx_if (zx_is r a) ((zf_of a b).bind (fun f => zf_get f b r S (fun v => nx lv (v :: st) S)))
    | _ => none
  | .putfield _ => match st with
    | v :: .inr (.inl (some r)) :: st => zx_if (zx_is r a) ((zf_of a b).bind (fun f => (zf_put f b r v S).bind (fun S' => nx lv st S')))
    | _ => none
  | .arraylength => match st with
    | .inr (.inl (some r)) :: st => za_len r S (fun x => nx lv (zi x :: st) S)
    | _ => none
  | .iaload => match st with
    | .inl j :: .inr (.inl (some r)) :: st => za_ld r j S (fun x => nx lv (zi x :: st) S)
    | _ => none
  | .iastore => match st with
    | .inl x :: .inl j :: .inr (.inl (some r)) :: st => za_st r j x S (fun S' => nx lv st S')
    | _ => none
  | .baload => match st with
    | .inl j :: .inr (.inl (some (7, t, 0))) :: st => (zx_nth zt_texts t).bind (fun w => za_in j (Int32.ofNat w.length) ((zx_nth w j.toNatClampNeg).bind (fun x => nx lv (zi x :: st) S)))
    | _ => none
  | .getstatic _ => nx lv (zi 1 :: st) S
  | .i2c => match st with
    | .inl x :: st => nx lv (zi (x.toUInt32 % 65536).toInt32 :: st) S
    | _ => none
  | .aaload => match st with
    | .inl j :: .inr (.inl (some r)) :: st => za_ldr r j (fun v => nx lv (v :: st) S)
    | _ => none
  | .laload => match st with
    | .inl j :: .inr (.inl (some (4, 0, 0))) :: st => if j = 0 then nx lv (zl S.2.1 :: st) S else none
    | _ => none
  | .lastore => match st with
    | .inr (.inr (.inr (.inl x))) :: .inl j :: .inr (.inl (some (4, 0, 0))) :: st => if j = 0 then nx lv st (S.1, x, S.2.2) else none
    | _ => none
  | .daload => match st with
    | .inl j :: .inr (.inl (some (4, 0, 1))) :: st => if j = 0 then nx lv (zd S.2.2.1 :: st) S else none
    | _ => none
  | .dastore => match st with
    | .inr (.inr (.inr (.inr x))) :: .inl j :: .inr (.inl (some (4, 0, 1))) :: st => if j = 0 then nx lv st (S.1, S.2.1, x, S.2.2.2) else none
    | _ => none
  | .new _ => match a, st with
    | 1, [] => some (.inr b, S.1, S.2.1, S.2.2.1, S.2.2.2 + 1)
    | _, _ => none
  | .invokevirtual _ => match c with
    | 99 => zx_lib a st S (fun st S => nx lv st S)
    | 98 => none
    | _ => (zx_pop b [] st).bind (fun q => zx_if (Nat.ble (zx_wd q.2) 8) (match q.1 with
      | .inr (.inl (some r)) :: _ => zx_if (zx_rc r c) (zx_ret rt (Γ a q.1 S) q.2 (fun st S => nx lv st S) (fun e S => match tb with
        | [] => some (.inr e, S)
        | _ :: _ => (zx_find tb (Int.ofNat e)).bind (fun t => (zx_find tb (-1)).bind (fun j => jp t (zl_set lv j none) [] S))))
      | _ => none))
  | .invokestatic _ => match c with
    | 99 => zx_lib a st S (fun st S => nx lv st S)
    | 98 => none
    | _ => (zx_pop b [] st).bind (fun q => zx_if (Nat.ble (zx_wd q.2) 8) (zx_ret rt (Γ a q.1 S) q.2 (fun st S => nx lv st S) (fun e S => some (.inr e, S))))
  | .ireturn => match st with
    | .inl x :: [] => match rk with
      | 1 => some (.inl (some (zi x)), S)
      | 2 => if x &&& 1 = x then some (.inl (some (zi x)), S) else none
      | 6 => if x.toInt8.toInt32 = x then some (.inl (some (zi x)), S) else none
      | 7 => if x.toUInt32.toUInt16.toUInt32.toInt32 = x then some (.inl (some (zi x)), S) else none
      | _ => none
    | _ => none
  | .freturn => match st with
    | .inr (.inr (.inl x)) :: [] => some (.inl (some (zf x)), S)
    | _ => none
  | .dreturn => match st with
    | .inr (.inr (.inr (.inr x))) :: [] => some (.inl (some (zd x)), S)
    | _ => none
  | .areturn => match st with
    | .inr (.inl r) :: [] => some (.inl (some (.inr (.inl r))), S)
    | _ => none
  | .return_ => match st with
    | [] => some (.inl none, S)
    | _ => none
  | _ => none
def zx_blk (Γ : Nat → List zV → zS → Option zO) (cd : List zE) (rk : Nat) (K : Nat → zL → List zV → zS → Option zO) : Nat → List zE → zL → List zV → zS → Option zO
  | 0, _, _, _, _ => none
  | _ + 1, [], _, _, _ => none
  | m + 1, e :: es, lv, st, S => zx_step Γ rk (fun lv st S => zx_next (fun es lv st S => zx_blk Γ cd rk K m es lv st S) K es lv st S) (fun pc lv st S => zx_next (fun es lv st S => zx_blk Γ cd rk K m es lv st S) K (zx_at cd pc) lv st S) e.2.2.1 e.2.2.2.2.1.1 e.2.2.2.2.1.2.1 e.2.2.2.2.1.2.2.1 e.2.2.2.2.1.2.2.2.2 e.2.2.2.2.2.1 e.2.2.2.2.2.2 lv st S
def zx_run (Γ : Nat → List zV → zS → Option zO) (cd : List zE) (rk : Nat) (N : Nat) : Nat → Nat → zL → List zV → zS → Option zO
  | 0, _, _, _, _ => none
  | n + 1, pc, lv, st, S => zx_blk Γ cd rk (fun pc lv st S => zx_run Γ cd rk N n pc lv st S) N (zx_at cd pc) lv st S

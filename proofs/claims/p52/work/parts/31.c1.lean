/-! THE PURE SIDE 1: laws of numbers, rows, reads and writes -/
theorem zo_add (a b : Int) : zo a + zo b = zo (a + b) := (Int32.ofInt_add a b).symm
theorem zo_sub (a b : Int) : zo a - zo b = zo (a - b) := by
  unfold zo; rw [Int.sub_eq_add_neg, Int32.ofInt_add, Int32.ofInt_neg, Int32.sub_eq_add_neg]
theorem zo_mul (a b : Int) : zo a * zo b = zo (a * b) := (Int32.ofInt_mul a b).symm
theorem zo_neg (a : Int) : -zo a = zo (-a) := (Int32.ofInt_neg a).symm
theorem zo_toInt {a : Int} (h1 : -2147483648 ≤ a) (h2 : a < 2147483648) : (zo a).toInt = a := Int32.toInt_ofInt_of_le h1 h2
theorem zo_lt {a b : Int} (h1 : -2147483648 ≤ a) (h2 : a < 2147483648) (h3 : -2147483648 ≤ b) (h4 : b < 2147483648) : (zo a < zo b) = (a < b) := by
  rw [Int32.lt_iff_toInt_lt, zo_toInt h1 h2, zo_toInt h3 h4]
theorem zo_le {a b : Int} (h1 : -2147483648 ≤ a) (h2 : a < 2147483648) (h3 : -2147483648 ≤ b) (h4 : b < 2147483648) : (zo a ≤ zo b) = (a ≤ b) := by
  rw [Int32.le_iff_toInt_le, zo_toInt h1 h2, zo_toInt h3 h4]
theorem zo_eq {a b : Int} (h1 : -2147483648 ≤ a) (h2 : a < 2147483648) (h3 : -2147483648 ≤ b) (h4 : b < 2147483648) : (zo a = zo b) = (a = b) := by
  rw [← Int32.toInt_inj, zo_toInt h1 h2, zo_toInt h3 h4]
theorem zo_nn {a : Int} (h1 : 0 ≤ a) (h2 : a < 2147483648) : (zo a).toNatClampNeg = a.toNat := by
  show (zo a).toInt.toNat = _
  rw [zo_toInt (by omega) h2]
theorem zo_div {a b : Int} (h1 : 0 ≤ a) (h2 : a < 2147483648) (h3 : 0 < b) (h4 : b < 2147483648) : zo a / zo b = zo (a / b) := by
  have hq : a / b ≤ a := Int.ediv_le_self _ h1
  have hq0 : 0 ≤ a / b := Int.ediv_nonneg h1 (by omega)
  apply Int32.toInt_inj.mp
  rw [Int32.toInt_div, zo_toInt (by omega) h2, zo_toInt (by omega) h4, Int.tdiv_eq_ediv_of_nonneg h1, zo_toInt (by omega) (by omega)]
  exact Int.bmod_eq_of_le (by omega) (by omega)
theorem zo_mod {a b : Int} (h1 : 0 ≤ a) (h2 : a < 2147483648) (h3 : 0 < b) (h4 : b < 2147483648) : zo a - zo a / zo b * zo b = zo (a % b) := by
  rw [zo_div h1 h2 h3 h4, zo_mul, zo_sub]
  congr 1
  have := Int.emod_add_mul_ediv a b
  rw [Int.mul_comm (a / b) b]
  omega
/-- division of a number that may be below 0 -/
theorem zo_tdiv {a b : Int} (h1 : -2147483647 ≤ a) (h2 : a < 2147483648) (h3 : 0 < b) (h4 : b < 2147483648) : zo a / zo b = zo (a.tdiv b) := by
  have e1 : (a.tdiv b).natAbs = a.natAbs / b.natAbs := Int.natAbs_tdiv a b
  have e2 : a.natAbs / b.natAbs ≤ a.natAbs := Nat.div_le_self _ _
  apply Int32.toInt_inj.mp
  rw [Int32.toInt_div, zo_toInt (by omega) h2, zo_toInt (by omega) h4, zo_toInt (by omega) (by omega)]
  exact Int.bmod_eq_of_le (by omega) (by omega)
theorem zmin_o {a b : Int} (h1 : -2147483648 ≤ a) (h2 : a < 2147483648) (h3 : -2147483648 ≤ b) (h4 : b < 2147483648) : zmin (zo a) (zo b) = zo (if b < a then b else a) := by
  unfold zmin; simp only [zo_lt h3 h4 h1 h2]; split <;> rfl
theorem zmax_o {a b : Int} (h1 : -2147483648 ≤ a) (h2 : a < 2147483648) (h3 : -2147483648 ≤ b) (h4 : b < 2147483648) : zmax (zo a) (zo b) = zo (if a < b then b else a) := by
  unfold zmax; simp only [zo_lt h1 h2 h3 h4]; split <;> rfl
def iab (a : Int) : Int := if 0 ≤ a then a else 0 - a
theorem zabs_o {a : Int} (h1 : -2147483648 ≤ a) (h2 : a < 2147483648) : zabs (zo a) = zo (iab a) := by
  unfold zabs iab
  have h := zo_le (a := 0) (b := a) (by omega) (by omega) h1 h2
  have h0 : zo 0 = (0 : Int32) := rfl
  rw [h0] at h
  simp only [h]
  split
  · rfl
  · rw [← h0, zo_sub]
theorem zin_ok {i n : Int} {x : Option zO} (h1 : 0 ≤ i) (h2 : i < n) (h3 : n < 2147483648) : za_in (zo i) (zo n) x = x := by
  unfold za_in
  have h := zo_lt (a := i) (b := 0) (by omega) (by omega) (by omega) (by omega)
  have h0 : zo 0 = (0 : Int32) := rfl
  rw [h0] at h
  rw [if_neg (by rw [h]; omega), if_neg (by rw [zo_le (by omega) (by omega) (by omega) (by omega)]; omega)]
theorem zlt_eq (S : zS) (f : zS → Option zO) : zlt S f = f S := rfl
theorem zs_at (S : zS) (k n o j : Nat) (v : Int32) (k' n' o' j' : Nat) : (zs_set S k n o j v).1 k' n' o' j' = if k' = k ∧ n' = n ∧ o' = o ∧ j' = j then v else S.1 k' n' o' j' := rfl
/-! THE ROW: the spec's state, as the model numbers it -/
abbrev Rw : Type := Nat → Int
def up (a : Rw) (j : Nat) (v : Int) : Rw := fun i => if i = j then v else a i
theorem up_self (a : Rw) (j : Nat) (v : Int) : up a j v j = v := if_pos rfl
theorem up_ne (a : Rw) {j i : Nat} (v : Int) (h : i ≠ j) : up a j v i = a i := if_neg h
/-- the first of m numbers from k with a property; -1 -/
def zfst (p : Nat → Bool) : Nat → Nat → Int
  | 0, _ => -1
  | m + 1, k => if p k = true then (k : Int) else zfst p m (k + 1)
def zsum (f : Nat → Int) : Nat → Int
  | 0 => 0
  | k + 1 => zsum f k + f k
def zfold (f : Rw → Nat → Rw) : Nat → Rw → Rw
  | 0, a => a
  | k + 1, a => f (zfold f k a) k
def occ (a : Rw) (c but : Int) : Int := zfst (fun k => decide ((k : Int) ≠ but) && (decide (a (40 + 10 * k + 6) = 0) && decide (a (40 + 10 * k) = c))) (a 9).toNat 0
def drIn (a : Rw) (c : Int) : Int := zfst (fun k => decide (a (10 + 4 * k) = c)) (a 7).toNat 0
def tpIn (a : Rw) (c : Int) : Int := zfst (fun k => decide (a (30 + 2 * k) = c)) (a 8).toNat 0
def wks (a : Rw) (k : Nat) : Bool := if a (10 + 4 * k + 2) = 0 then false else if occ a (a (10 + 4 * k)) (-1) = -1 then true else decide (a (40 + 10 * (occ a (a (10 + 4 * k)) (-1)).toNat + 1) ≤ a (10 + 4 * k + 1))
def cnt (a : Rw) (st : Int) : Int := zsum (fun k => if a (40 + 10 * k + 6) = st then 1 else 0) (a 9).toNat
def wkn (a : Rw) : Int := zsum (fun k => if wks a k = true then 1 else 0) (a 7).toNat
def ncl (a : Rw) : Nat := (a 0 * a 1).toNat
def spm (a : Rw) : Int := zsum (fun k => a (160 + k)) (ncl a)
/-- what holds of every row: T bounds the time -/
def WF (T : Int) (a : Rw) : Prop :=
  ((3 ≤ a 0 ∧ a 0 ≤ 10) ∧ (3 ≤ a 1 ∧ a 1 ≤ 10) ∧ (0 ≤ a 2 ∧ a 2 ≤ 1000) ∧ (0 ≤ a 3 ∧ a 3 ≤ 9) ∧ (-99 ≤ a 4 ∧ a 4 ≤ 99) ∧ (-99 ≤ a 5 ∧ a 5 ≤ 99) ∧ (0 ≤ a 6 ∧ a 6 ≤ T ∧ T ≤ 1000000) ∧ (0 ≤ a 7 ∧ a 7 ≤ 5) ∧ (0 ≤ a 8 ∧ a 8 ≤ 5) ∧ (0 ≤ a 9 ∧ a 9 ≤ 12)) ∧
  (∀ k : Nat, (k : Int) < a 7 → (0 ≤ a (10 + 4 * k) ∧ a (10 + 4 * k) < a 0 * a 1) ∧ (1 ≤ a (10 + 4 * k + 1) ∧ a (10 + 4 * k + 1) ≤ 99) ∧ (0 ≤ a (10 + 4 * k + 2) ∧ a (10 + 4 * k + 2) ≤ 99)) ∧
  (∀ k : Nat, (k : Int) < a 8 → (0 ≤ a (30 + 2 * k) ∧ a (30 + 2 * k) < a 0 * a 1) ∧ (0 ≤ a (30 + 2 * k + 1) ∧ a (30 + 2 * k + 1) ≤ 99)) ∧
  (∀ k : Nat, (k : Int) < a 9 → (0 ≤ a (40 + 10 * k) ∧ a (40 + 10 * k) < a 0 * a 1) ∧ (1 ≤ a (40 + 10 * k + 1) ∧ a (40 + 10 * k + 1) ≤ 99) ∧ (1 ≤ a (40 + 10 * k + 2) ∧ a (40 + 10 * k + 2) ≤ 999) ∧ (0 ≤ a (40 + 10 * k + 3) ∧ a (40 + 10 * k + 3) ≤ 1100) ∧ (-300 ≤ a (40 + 10 * k + 4) ∧ a (40 + 10 * k + 4) ≤ 300) ∧ (-300 ≤ a (40 + 10 * k + 5) ∧ a (40 + 10 * k + 5) ≤ 300) ∧ (0 ≤ a (40 + 10 * k + 6) ∧ a (40 + 10 * k + 6) ≤ 2) ∧ (-1 ≤ a (40 + 10 * k + 7) ∧ a (40 + 10 * k + 7) ≤ a 6) ∧ (0 ≤ a (40 + 10 * k + 8) ∧ a (40 + 10 * k + 8) ≤ 2 * a 6) ∧ (0 ≤ a (40 + 10 * k + 9) ∧ a (40 + 10 * k + 9) ≤ 2 * a 6) ∧ (a (40 + 10 * k + 6) = 0 → a (40 + 10 * k + 3) ≤ a (40 + 10 * k + 2))) ∧
  (∀ c : Nat, (c : Int) < a 0 * a 1 → 0 ≤ a (160 + c) ∧ a (160 + c) ≤ 99) ∧
  (∀ k l : Nat, (k : Int) < a 9 → (l : Int) < a 9 → a (40 + 10 * k + 6) = 0 → a (40 + 10 * l + 6) = 0 → a (40 + 10 * k) = a (40 + 10 * l) → k = l)
/-- how many boats ended ahead of one -/
def rnk (a : Rw) (b : Nat) : Int := zsum (fun k => if a (40 + 10 * k + 6) = 0 then 0 else if a (40 + 10 * k + 7) < a (40 + 10 * b + 7) then 1 else if a (40 + 10 * k + 7) = a (40 + 10 * b + 7) ∧ k < b then 1 else 0) (a 9).toNat
def nen (a : Rw) : Int := zsum (fun k => if a (40 + 10 * k + 6) = 0 then 0 else 1) (a 9).toNat
/-- the class's bath B shows a -/
def CbF (B : Nat → Nat → Int32) : Prop := B 1 1 = zo 11 ∧ B 3 1 = zo 6 ∧ B 5 1 = zo 3 ∧ B 7 1 = zo 0 ∧ B 9 1 = zo (-1) ∧ B 11 1 = zo (-1)
def CbN (B : Nat → Nat → Int32) (a : Rw) : Prop := B 0 6 = zo (a 0) ∧ B 0 7 = zo (a 1) ∧ B 0 8 = zo (a 2) ∧ B 0 9 = zo (a 3) ∧ B 0 10 = zo (a 4) ∧ B 0 11 = zo (a 5) ∧ B 0 12 = zo (a 6) ∧ B 0 13 = zo (a 9) ∧ B 0 14 = zo (a 7) ∧ B 0 15 = zo (a 8)
def CbD (B : Nat → Nat → Int32) (a : Rw) : Prop := ∀ k : Nat, (k : Int) < a 7 → B 4 (6 * k) = zo (a (10 + 4 * k) % a 0) ∧ B 4 (6 * k + 1) = zo (a (10 + 4 * k) / a 0) ∧ B 4 (6 * k + 2) = zo (a (10 + 4 * k + 1)) ∧ B 4 (6 * k + 3) = zo (a (10 + 4 * k + 2)) ∧ B 4 (6 * k + 5) = zo (a (10 + 4 * k + 3))
def CbT (B : Nat → Nat → Int32) (a : Rw) : Prop := ∀ k : Nat, (k : Int) < a 8 → B 6 (3 * k) = zo (a (30 + 2 * k) % a 0) ∧ B 6 (3 * k + 1) = zo (a (30 + 2 * k) / a 0) ∧ B 6 (3 * k + 2) = zo (a (30 + 2 * k + 1))
def CbB (B : Nat → Nat → Int32) (a : Rw) : Prop := ∀ k : Nat, (k : Int) < a 9 → B 2 (11 * k) = zo (a (40 + 10 * k) % a 0) ∧ B 2 (11 * k + 1) = zo (a (40 + 10 * k) / a 0) ∧ B 2 (11 * k + 2) = zo (a (40 + 10 * k + 1)) ∧ B 2 (11 * k + 3) = zo (a (40 + 10 * k + 2)) ∧ B 2 (11 * k + 4) = zo (a (40 + 10 * k + 3)) ∧ B 2 (11 * k + 5) = zo (a (40 + 10 * k + 4)) ∧ B 2 (11 * k + 6) = zo (a (40 + 10 * k + 5)) ∧ B 2 (11 * k + 7) = zo (a (40 + 10 * k + 6)) ∧ B 2 (11 * k + 8) = zo (a (40 + 10 * k + 7)) ∧ B 2 (11 * k + 9) = zo (a (40 + 10 * k + 8)) ∧ B 2 (11 * k + 10) = zo (a (40 + 10 * k + 9))
def CbS (B : Nat → Nat → Int32) (a : Rw) : Prop := ∀ c : Nat, (c : Int) < a 0 * a 1 → B 8 c = zo (a (160 + c))
def CbO (B : Nat → Nat → Int32) (a : Rw) : Prop := ∀ c : Nat, (c : Int) < a 0 * a 1 → B 10 c = zo (occ a c (-1))
def CbE (B : Nat → Nat → Int32) (a : Rw) : Prop := B 0 16 = zo (nen a) ∧ (∀ i : Nat, (i : Int) < nen a → ∃ b : Nat, (b : Int) < a 9 ∧ a (40 + 10 * b + 6) ≠ 0 ∧ rnk a b = i ∧ B 12 i = zo b)
def Cb (B : Nat → Nat → Int32) (a : Rw) : Prop := CbF B ∧ CbN B a ∧ CbD B a ∧ CbT B a ∧ CbB B a ∧ CbS B a ∧ CbO B a ∧ CbE B a


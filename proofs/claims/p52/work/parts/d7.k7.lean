/-! THE CONSTRUCTION 10: the first world, computed once by the kernel -/
def k_eqv : zV → zV → Bool
  | .inl x, .inl y => decide (x = y)
  | .inr (.inl a), .inr (.inl b) => decide (a = b)
  | .inr (.inr (.inl x)), .inr (.inr (.inl y)) => decide (x = y)
  | _, _ => false
theorem k_eqv_ok {a b : zV} (h : k_eqv a b = true) : a = b := by
  unfold k_eqv at h
  split at h
  · rw [of_decide_eq_true h]
  · rw [of_decide_eq_true h]
  · rw [of_decide_eq_true h]
  · cases h
def k_all2 {α : Type} (f : α → α → Bool) : List α → List α → Bool
  | [], [] => true
  | x :: xs, y :: ys => f x y && k_all2 f xs ys
  | _, _ => false
theorem k_all2_ok {α : Type} {f : α → α → Bool} (hf : ∀ a b, f a b = true → a = b) : ∀ xs ys : List α, k_all2 f xs ys = true → xs = ys := by
  intro xs
  induction xs with
  | nil =>
    intro ys h
    cases ys with
    | nil => rfl
    | cons y ys => cases h
  | cons x xs ih =>
    intro ys h
    cases ys with
    | nil => cases h
    | cons y ys =>
      unfold k_all2 at h
      rw [Bool.and_eq_true] at h
      rw [hf _ _ h.1, ih ys h.2]
def k_eqc : nC → nC → Bool
  | .inl (c, fs), .inl (d, gs) => decide (c = d) && k_all2 k_eqv fs gs
  | .inr (.inl xs), .inr (.inl ys) => k_all2 (fun x y => decide (x = y)) xs ys
  | .inr (.inr (s, l)), .inr (.inr (t, m)) => decide (s = t) && k_all2 (fun x y => decide (x = y)) l m
  | _, _ => false
theorem k_eqc_ok {a b : nC} (h : k_eqc a b = true) : a = b := by
  unfold k_eqc at h
  split at h
  · rw [Bool.and_eq_true] at h
    rw [of_decide_eq_true h.1, k_all2_ok (fun _ _ => k_eqv_ok) _ _ h.2]
  · rw [k_all2_ok (fun _ _ e => of_decide_eq_true e) _ _ h]
  · rw [Bool.and_eq_true] at h
    rw [of_decide_eq_true h.1, k_all2_ok (fun _ _ e => of_decide_eq_true e) _ _ h.2]
  · cases h
def kW_0 : nS := [.inl (10, [za 8 1 0, za 8 14 0, za 8 27 0, za 8 40 0, za 8 172 0, za 8 178 0, za 8 183 0, za 8 186 0, za 8 200 0, za 8 201 0, zi 0, zi (-1), zi 0]),
  .inl (0, [za 8 2 0, za 8 4 0, za 8 6 0, za 8 8 0, za 8 10 0, za 8 12 0, zi 5, zi 5, zi 500, zi 1, zi 0, zi 0, zi 0, zi 0, zi 0, zi 0, zi 0]),
  .inl (7, [za 8 3 0, zi 11]),
  .inr (.inl (List.replicate 132 0)),
  .inl (7, [za 8 5 0, zi 6]),
  .inr (.inl (List.replicate 30 0)),
  .inl (7, [za 8 7 0, zi 3]),
  .inr (.inl (List.replicate 15 0)),
  .inl (6, [za 8 9 0, zi 0]),
  .inr (.inl (List.replicate 100 0)),
  .inl (6, [za 8 11 0, zi (-1)]),
  .inr (.inl (List.replicate 100 (-1))),
  .inl (6, [za 8 13 0, zi (-1)]),
  .inr (.inl (List.replicate 12 0)),
  .inl (0, [za 8 15 0, za 8 17 0, za 8 19 0, za 8 21 0, za 8 23 0, za 8 25 0, zi 0, zi 0, zi 0, zi 0, zi 0, zi 0, zi 0, zi 0, zi 0, zi 0, zi 0]),
  .inl (7, [za 8 16 0, zi 11]),
  .inr (.inl (List.replicate 132 0)),
  .inl (7, [za 8 18 0, zi 6]),
  .inr (.inl (List.replicate 30 0)),
  .inl (7, [za 8 20 0, zi 3]),
  .inr (.inl (List.replicate 15 0)),
  .inl (6, [za 8 22 0, zi 0]),
  .inr (.inl (List.replicate 100 0)),
  .inl (6, [za 8 24 0, zi (-1)]),
  .inr (.inl (List.replicate 100 0)),
  .inl (6, [za 8 26 0, zi (-1)]),
  .inr (.inl (List.replicate 12 0)),
  .inl (0, [za 8 28 0, za 8 30 0, za 8 32 0, za 8 34 0, za 8 36 0, za 8 38 0, zi 0, zi 0, zi 0, zi 0, zi 0, zi 0, zi 0, zi 0, zi 0, zi 0, zi 0]),
  .inl (7, [za 8 29 0, zi 11]),
  .inr (.inl (List.replicate 132 0)),
  .inl (7, [za 8 31 0, zi 6]),
  .inr (.inl (List.replicate 30 0)),
  .inl (7, [za 8 33 0, zi 3]),
  .inr (.inl (List.replicate 15 0)),
  .inl (6, [za 8 35 0, zi 0]),
  .inr (.inl (List.replicate 100 0)),
  .inl (6, [za 8 37 0, zi (-1)]),
  .inr (.inl (List.replicate 100 0)),
  .inl (6, [za 8 39 0, zi (-1)]),
  .inr (.inl (List.replicate 12 0))]
def kW_1 : nS := [.inl (3, [za 8 41 0, zi 0, zi 0]),
  .inr (.inr (1, [some (8, 42, 0), some (8, 55, 0), some (8, 68, 0), some (8, 81, 0), some (8, 94, 0), some (8, 107, 0), some (8, 120, 0), some (8, 133, 0), some (8, 146, 0), some (8, 159, 0)])),
  .inl (0, [za 8 43 0, za 8 45 0, za 8 47 0, za 8 49 0, za 8 51 0, za 8 53 0, zi 0, zi 0, zi 0, zi 0, zi 0, zi 0, zi 0, zi 0, zi 0, zi 0, zi 0]),
  .inl (7, [za 8 44 0, zi 11]),
  .inr (.inl (List.replicate 132 0)),
  .inl (7, [za 8 46 0, zi 6]),
  .inr (.inl (List.replicate 30 0)),
  .inl (7, [za 8 48 0, zi 3]),
  .inr (.inl (List.replicate 15 0)),
  .inl (6, [za 8 50 0, zi 0]),
  .inr (.inl (List.replicate 100 0)),
  .inl (6, [za 8 52 0, zi (-1)]),
  .inr (.inl (List.replicate 100 0)),
  .inl (6, [za 8 54 0, zi (-1)]),
  .inr (.inl (List.replicate 12 0)),
  .inl (0, [za 8 56 0, za 8 58 0, za 8 60 0, za 8 62 0, za 8 64 0, za 8 66 0, zi 0, zi 0, zi 0, zi 0, zi 0, zi 0, zi 0, zi 0, zi 0, zi 0, zi 0]),
  .inl (7, [za 8 57 0, zi 11]),
  .inr (.inl (List.replicate 132 0)),
  .inl (7, [za 8 59 0, zi 6]),
  .inr (.inl (List.replicate 30 0)),
  .inl (7, [za 8 61 0, zi 3]),
  .inr (.inl (List.replicate 15 0)),
  .inl (6, [za 8 63 0, zi 0]),
  .inr (.inl (List.replicate 100 0)),
  .inl (6, [za 8 65 0, zi (-1)]),
  .inr (.inl (List.replicate 100 0)),
  .inl (6, [za 8 67 0, zi (-1)]),
  .inr (.inl (List.replicate 12 0)),
  .inl (0, [za 8 69 0, za 8 71 0, za 8 73 0, za 8 75 0, za 8 77 0, za 8 79 0, zi 0, zi 0, zi 0, zi 0, zi 0, zi 0, zi 0, zi 0, zi 0, zi 0, zi 0]),
  .inl (7, [za 8 70 0, zi 11]),
  .inr (.inl (List.replicate 132 0)),
  .inl (7, [za 8 72 0, zi 6]),
  .inr (.inl (List.replicate 30 0)),
  .inl (7, [za 8 74 0, zi 3]),
  .inr (.inl (List.replicate 15 0)),
  .inl (6, [za 8 76 0, zi 0]),
  .inr (.inl (List.replicate 100 0)),
  .inl (6, [za 8 78 0, zi (-1)]),
  .inr (.inl (List.replicate 100 0)),
  .inl (6, [za 8 80 0, zi (-1)])]
def kW_2 : nS := [.inr (.inl (List.replicate 12 0)),
  .inl (0, [za 8 82 0, za 8 84 0, za 8 86 0, za 8 88 0, za 8 90 0, za 8 92 0, zi 0, zi 0, zi 0, zi 0, zi 0, zi 0, zi 0, zi 0, zi 0, zi 0, zi 0]),
  .inl (7, [za 8 83 0, zi 11]),
  .inr (.inl (List.replicate 132 0)),
  .inl (7, [za 8 85 0, zi 6]),
  .inr (.inl (List.replicate 30 0)),
  .inl (7, [za 8 87 0, zi 3]),
  .inr (.inl (List.replicate 15 0)),
  .inl (6, [za 8 89 0, zi 0]),
  .inr (.inl (List.replicate 100 0)),
  .inl (6, [za 8 91 0, zi (-1)]),
  .inr (.inl (List.replicate 100 0)),
  .inl (6, [za 8 93 0, zi (-1)]),
  .inr (.inl (List.replicate 12 0)),
  .inl (0, [za 8 95 0, za 8 97 0, za 8 99 0, za 8 101 0, za 8 103 0, za 8 105 0, zi 0, zi 0, zi 0, zi 0, zi 0, zi 0, zi 0, zi 0, zi 0, zi 0, zi 0]),
  .inl (7, [za 8 96 0, zi 11]),
  .inr (.inl (List.replicate 132 0)),
  .inl (7, [za 8 98 0, zi 6]),
  .inr (.inl (List.replicate 30 0)),
  .inl (7, [za 8 100 0, zi 3]),
  .inr (.inl (List.replicate 15 0)),
  .inl (6, [za 8 102 0, zi 0]),
  .inr (.inl (List.replicate 100 0)),
  .inl (6, [za 8 104 0, zi (-1)]),
  .inr (.inl (List.replicate 100 0)),
  .inl (6, [za 8 106 0, zi (-1)]),
  .inr (.inl (List.replicate 12 0)),
  .inl (0, [za 8 108 0, za 8 110 0, za 8 112 0, za 8 114 0, za 8 116 0, za 8 118 0, zi 0, zi 0, zi 0, zi 0, zi 0, zi 0, zi 0, zi 0, zi 0, zi 0, zi 0]),
  .inl (7, [za 8 109 0, zi 11]),
  .inr (.inl (List.replicate 132 0)),
  .inl (7, [za 8 111 0, zi 6]),
  .inr (.inl (List.replicate 30 0)),
  .inl (7, [za 8 113 0, zi 3]),
  .inr (.inl (List.replicate 15 0)),
  .inl (6, [za 8 115 0, zi 0]),
  .inr (.inl (List.replicate 100 0)),
  .inl (6, [za 8 117 0, zi (-1)]),
  .inr (.inl (List.replicate 100 0)),
  .inl (6, [za 8 119 0, zi (-1)]),
  .inr (.inl (List.replicate 12 0))]
def kW_3 : nS := [.inl (0, [za 8 121 0, za 8 123 0, za 8 125 0, za 8 127 0, za 8 129 0, za 8 131 0, zi 0, zi 0, zi 0, zi 0, zi 0, zi 0, zi 0, zi 0, zi 0, zi 0, zi 0]),
  .inl (7, [za 8 122 0, zi 11]),
  .inr (.inl (List.replicate 132 0)),
  .inl (7, [za 8 124 0, zi 6]),
  .inr (.inl (List.replicate 30 0)),
  .inl (7, [za 8 126 0, zi 3]),
  .inr (.inl (List.replicate 15 0)),
  .inl (6, [za 8 128 0, zi 0]),
  .inr (.inl (List.replicate 100 0)),
  .inl (6, [za 8 130 0, zi (-1)]),
  .inr (.inl (List.replicate 100 0)),
  .inl (6, [za 8 132 0, zi (-1)]),
  .inr (.inl (List.replicate 12 0)),
  .inl (0, [za 8 134 0, za 8 136 0, za 8 138 0, za 8 140 0, za 8 142 0, za 8 144 0, zi 0, zi 0, zi 0, zi 0, zi 0, zi 0, zi 0, zi 0, zi 0, zi 0, zi 0]),
  .inl (7, [za 8 135 0, zi 11]),
  .inr (.inl (List.replicate 132 0)),
  .inl (7, [za 8 137 0, zi 6]),
  .inr (.inl (List.replicate 30 0)),
  .inl (7, [za 8 139 0, zi 3]),
  .inr (.inl (List.replicate 15 0)),
  .inl (6, [za 8 141 0, zi 0]),
  .inr (.inl (List.replicate 100 0)),
  .inl (6, [za 8 143 0, zi (-1)]),
  .inr (.inl (List.replicate 100 0)),
  .inl (6, [za 8 145 0, zi (-1)]),
  .inr (.inl (List.replicate 12 0)),
  .inl (0, [za 8 147 0, za 8 149 0, za 8 151 0, za 8 153 0, za 8 155 0, za 8 157 0, zi 0, zi 0, zi 0, zi 0, zi 0, zi 0, zi 0, zi 0, zi 0, zi 0, zi 0]),
  .inl (7, [za 8 148 0, zi 11]),
  .inr (.inl (List.replicate 132 0)),
  .inl (7, [za 8 150 0, zi 6]),
  .inr (.inl (List.replicate 30 0)),
  .inl (7, [za 8 152 0, zi 3]),
  .inr (.inl (List.replicate 15 0)),
  .inl (6, [za 8 154 0, zi 0]),
  .inr (.inl (List.replicate 100 0)),
  .inl (6, [za 8 156 0, zi (-1)]),
  .inr (.inl (List.replicate 100 0)),
  .inl (6, [za 8 158 0, zi (-1)]),
  .inr (.inl (List.replicate 12 0)),
  .inl (0, [za 8 160 0, za 8 162 0, za 8 164 0, za 8 166 0, za 8 168 0, za 8 170 0, zi 0, zi 0, zi 0, zi 0, zi 0, zi 0, zi 0, zi 0, zi 0, zi 0, zi 0])]
def kW_4 : nS := [.inl (7, [za 8 161 0, zi 11]),
  .inr (.inl (List.replicate 132 0)),
  .inl (7, [za 8 163 0, zi 6]),
  .inr (.inl (List.replicate 30 0)),
  .inl (7, [za 8 165 0, zi 3]),
  .inr (.inl (List.replicate 15 0)),
  .inl (6, [za 8 167 0, zi 0]),
  .inr (.inl (List.replicate 100 0)),
  .inl (6, [za 8 169 0, zi (-1)]),
  .inr (.inl (List.replicate 100 0)),
  .inl (6, [za 8 171 0, zi (-1)]),
  .inr (.inl (List.replicate 12 0)),
  .inl (4, [za 8 173 0, za 8 176 0]),
  .inl (2, [za 8 174 0, zf 0, zf 0]),
  .inl (6, [za 8 175 0, zi 0]),
  .inr (.inl (List.replicate 100 0)),
  .inl (6, [za 8 177 0, zi 0]),
  .inr (.inl (List.replicate 100 0)),
  .inl (9, [za 8 179 0, za 8 181 0]),
  .inl (6, [za 8 180 0, zi 1000000]),
  .inr (.inl (List.replicate 100 0)),
  .inl (6, [za 8 182 0, zi 1000000]),
  .inr (.inl (List.replicate 100 0)),
  .inl (8, [za 8 184 0, zi 0, zi 0, zi 0, zi 0, zi 0, zi 0, zi 0, zi 0]),
  .inl (6, [za 8 185 0, zi (-1)]),
  .inr (.inl (List.replicate 700 0)),
  .inl (1, [za 8 183 0, za 8 187 0]),
  .inl (0, [za 8 188 0, za 8 190 0, za 8 192 0, za 8 194 0, za 8 196 0, za 8 198 0, zi 0, zi 0, zi 0, zi 0, zi 0, zi 0, zi 0, zi 0, zi 0, zi 0, zi 0]),
  .inl (7, [za 8 189 0, zi 11]),
  .inr (.inl (List.replicate 132 0)),
  .inl (7, [za 8 191 0, zi 6]),
  .inr (.inl (List.replicate 30 0)),
  .inl (7, [za 8 193 0, zi 3]),
  .inr (.inl (List.replicate 15 0)),
  .inl (6, [za 8 195 0, zi 0]),
  .inr (.inl (List.replicate 100 0)),
  .inl (6, [za 8 197 0, zi (-1)]),
  .inr (.inl (List.replicate 100 0)),
  .inl (6, [za 8 199 0, zi (-1)]),
  .inr (.inl (List.replicate 12 0))]
def kW_5 : nS := [.inl (5, [za 8 183 0, za 8 1 0]),
  .inl (6, [za 8 202 0, zi (-1)]),
  .inr (.inl (List.replicate 10 0))]
/-- the first world, in the order in which its cells are made -/
def kW : nS := kW_0 ++ (kW_1 ++ (kW_2 ++ (kW_3 ++ (kW_4 ++ (kW_5)))))
theorem kn_law_b : (match kn_law 3000 5 with
    | some w => k_all2 k_eqc w kW
    | none => false) = true := by decide +kernel
theorem kn_law_eq : kn_law 3000 5 = some kW := by
  have h := kn_law_b
  split at h
  · rename_i w e
    rw [e, k_all2_ok (fun _ _ => k_eqc_ok) _ _ h]
  · cases h

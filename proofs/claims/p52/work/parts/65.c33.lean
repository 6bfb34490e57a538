/-! THE PURE SIDE 33: towing: the questions; the law of the way -/
section CY
variable {S : zS} {d n : Nat} {a : Rw} {T t p r x : Int} {b : Nat} {w w2 D D2 g : Int → Int}
theorem c86 (hw : WF T a) (hT : Tc S a w g) (hG : Gok a g) {c : Int} (hc : inN a c) : zr_sem zF (d + 2) 86 [za 1 0 9, zi (zo c)] S = some (.inl (some (zi (zo (if g c < 1000000 then g c else -1)))), S) := by
  have e1 := hc.1
  have e2 := hc.2
  have gc := hG c hc
  obtain ⟨i, rfl⟩ : ∃ i : Nat, c = i := ⟨c.toNat, by omega⟩
  rw [ze_86, c63d hw hT e2, zr1]
  by_cases c : g i < 1000000
  · rw [if_neg (show ¬ zo 1000000 ≤ zo (g i) by rw [zo_le (by omega) (by omega) (by omega) (by omega)]; omega), if_pos c, c63d hw hT e2, zr1]
  · rw [if_pos (show zo 1000000 ≤ zo (g i) by rw [zo_le (by omega) (by omega) (by omega) (by omega)]; omega), if_neg c]
theorem Sol_Gok (hS : Sol a w t D) {g : Int → Int} (h : ∀ c, inN a c → g c = D c) : Gok a g := fun c hc => by
  rw [h c hc]; exact (hS.2 c hc).1
theorem thr_cg {g : Int → Int} (h : ∀ c, inN a c → g c = D c) {c : Int} (hc : c = -1 ∨ inN a c) : thr w g c = thr w D c := by
  unfold thr
  rcases hc with e | e
  · rw [if_pos e, if_pos e]
  · rw [h c e]
theorem nea_cg {g : Int → Int} (h : ∀ c, inN a c → g c = D c) {p q : Int} (hp : p = -1 ∨ inN a p) (hq : q = -1 ∨ inN a q) : nea w g p q = nea w D p q := by
  unfold nea
  rw [thr_cg h hp, thr_cg h hq]
theorem stp_cg {g : Int → Int} (h : ∀ c, inN a c → g c = D c) (c : Int) : stp a w g c = stp a w D c := by
  have r0 := nb4_rng a c 0
  have r1 := nb4_rng a c 1
  have r2 := nb4_rng a c 2
  have r3 := nb4_rng a c 3
  have n1 := nea_rng (w := w) (g := D) r0 r1
  have n2 := nea_rng (w := w) (g := D) n1 r2
  have n3 := nea_rng (w := w) (g := D) n2 r3
  have e : bst a w g c = bst a w D c := by
    unfold bst
    rw [nea_cg h r0 r1, nea_cg h n1 r2, nea_cg h n2 r3]
  have e2 : thr w g (bst a w D c) = thr w D (bst a w D c) := thr_cg h n3
  unfold stp
  rw [e, e2]
theorem cel_inN (h : vC a p r) : inN a (a 0 * r + p) := cel_lt h
end CY

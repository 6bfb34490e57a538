/-! THE PURE SIDE 24: forecasts: class -/
def soaR (a : Rw) (k : Nat) (v : Int) : Rw := up a (160 + k) (if 99 < a (160 + k) + v then 99 else a (160 + k) + v)
def putR (a : Rw) (b : Nat) (c : Int) : Rw := up (up (up a (40 + 10 * b) c) (40 + 10 * b + 4) 0) (40 + 10 * b + 5) 0
section CP
variable {S : zS} {n d : Nat} {a : Rw} {T p r : Int}
theorem WF_soaR (hw : WF T a) {k : Nat} (hk : (k : Int) < a 0 * a 1) {v : Int} (hv : 1 ≤ v ∧ v ≤ 99) : WF T (soaR a k v) := by
  have gS := hw.2.2.2.2.1 k hk
  unfold soaR
  refine WF_soapF hw (fun i hi => up_ne _ _ (by omega)) (fun c hc => ?_)
  by_cases e : c = k
  · subst e; rw [up_self]; split <;> omega
  · rw [up_ne _ _ (by omega)]; exact hw.2.2.2.2.1 c hc
theorem WF_putR (hw : WF T a) {b : Nat} (hb : (b : Int) < a 9) {c : Int} (hc : 0 ≤ c ∧ c < a 0 * a 1) (hf : occ a c b = -1) : WF T (putR a b c) := by
  have u9 := hw.1.2.2.2.2.2.2.2.2.2
  have w1 := WF_cell hw hb hc (fun k hk hkb => occ_free hf k hk (by omega))
  have w2 := WF_b4 (v := 0) (b := b) w1 (by simp (maxSteps := 10000000) (disch := omega) only [up_ne, up_self]; exact hb) (by omega)
  exact WF_b5 (v := 0) (b := b) w2 (by simp (maxSteps := 10000000) (disch := omega) only [up_ne, up_self]; exact hb) (by omega)
end CP

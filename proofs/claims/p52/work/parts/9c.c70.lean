/-! THE PURE SIDE 70: rows after operations hold their bounds -/
section DV
variable {a : Rw} {T p r x q t2 : Int} {D : Int → Int} {t : Nat}
theorem WF_spSetD (hw : WF T a) : WF T (spSetD a p r).2.2.2 := by
  unfold spSetD
  split
  · rename_i c
    split
    · rename_i c2
      exact WF_d2 hw (by have := c.1; have := c.2; omega) c2
    · exact hw
  · exact hw
theorem WF_spSetT (hw : WF T a) : WF T (spSetT a p r).2.2.2 := by
  unfold spSetT
  split
  · rename_i c
    split
    · rename_i c2
      exact WF_t1 hw (by have := c.1; have := c.2; omega) c2
    · exact hw
  · exact hw
theorem WF_spDrop (hw : WF T a) : WF T (spDrop a p r x).2.2.2 := by
  unfold spDrop
  split
  · rename_i c
    have l := cel_lt c
    split
    · rename_i c2
      exact WF_soaR hw (by omega) c2
    · exact hw
  · exact hw
theorem WF_spWipe (hw : WF T a) : WF T (spWipe a p r).2.2.2 := by
  unfold spWipe
  split
  · rename_i c
    refine WF_soapF hw (fun i hi => up_ne a 0 (by omega)) (fun c hc => ?_)
    have g := hw.2.2.2.2.1 c hc
    show 0 ≤ up a _ 0 (160 + c) ∧ up a _ 0 (160 + c) ≤ 99
    unfold up
    split <;> omega
  · exact hw
theorem WF_spLev (hw : WF T a) : WF T (spLev t a p).2.2.2 := by
  unfold spLev
  split
  · exact WF_h2 hw (by assumption)
  · exact hw
theorem WF_spTurn (hw : WF T a) (hT : T + 400 ≤ 1000000) : WF (T + 200) (spTurn t a p).2.2.2 := by
  unfold spTurn
  split
  · rename_i c
    exact WF_mono (pasN_ok hw p.toNat (by omega)).1 (by omega) (by omega)
  · exact WF_mono hw (by omega) (by omega)
theorem WF_spCarry (hw : WF T a) : WF T (spCarry a p r x).2.2.2 := by
  unfold spCarry
  split
  · rename_i c
    have l := cel_lt c.2
    have v := c.1
    have e : p = ((p.toNat : Nat) : Int) := by have := v.1; omega
    split
    · split
      · rename_i c3
        rw [e] at c3
        exact WF_putR hw (by have := v.1; have := v.2; omega) l c3
      · exact hw
    · exact hw
  · exact hw
theorem WF_spBlow (hw : WF T a) : WF T (spBlow a p r x).2.2.2 := by
  unfold spBlow
  split
  · rename_i c
    have hb : ((p.toNat : Nat) : Int) < a 9 := by have := c.1; have := c.2; omega
    split
    · split
      · unfold bloR
        refine WF_b5 (WF_b4 hw hb (limI_b _)) ?_ (limI_b _)
        rw [up_ne _ _ (by omega)]; exact hb
      · exact hw
    · exact hw
  · exact hw
theorem WF_spAdd (hw : WF T a) : WF T (spAdd a p r x q).2.2.2 := by
  have u9 := hw.1.2.2.2.2.2.2.2.2.2
  unfold spAdd
  split
  · rename_i c
    have l := cel_lt c
    split
    · rename_i c2
      split
      · exact hw
      · rename_i c3
        split
        · rename_i c4
          exact WF_nb hw (by omega) l c4 c2.1 c2.2 (by omega)
        · exact hw
    · exact hw
  · exact hw
end DV

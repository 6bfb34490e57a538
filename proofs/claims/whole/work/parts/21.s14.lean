/-! THE LAW'S MAIN -/
theorem zt_nstep {k : Nat} (h : ((zm_333.drop k).take 60).all zk_main = true) (h2 : (zm_333.drop (k + 60)).all zk_main = true) : (zm_333.drop k).all zk_main = true := by
  rw [← List.take_append_drop 60 (zm_333.drop k), List.all_append, h, List.drop_drop, h2]
  rfl
theorem zt_nend : (zm_333.drop 1860).all zk_main = true := by decide +kernel
theorem zt_nall : zm_333.all zk_main = true := by
  have h := zt_nend
  have h := zt_nstep zt_n1800 h
  have h := zt_nstep zt_n1740 h
  have h := zt_nstep zt_n1680 h
  have h := zt_nstep zt_n1620 h
  have h := zt_nstep zt_n1560 h
  have h := zt_nstep zt_n1500 h
  have h := zt_nstep zt_n1440 h
  have h := zt_nstep zt_n1380 h
  have h := zt_nstep zt_n1320 h
  have h := zt_nstep zt_n1260 h
  have h := zt_nstep zt_n1200 h
  have h := zt_nstep zt_n1140 h
  have h := zt_nstep zt_n1080 h
  have h := zt_nstep zt_n1020 h
  have h := zt_nstep zt_n960 h
  have h := zt_nstep zt_n900 h
  have h := zt_nstep zt_n840 h
  have h := zt_nstep zt_n780 h
  have h := zt_nstep zt_n720 h
  have h := zt_nstep zt_n660 h
  have h := zt_nstep zt_n600 h
  have h := zt_nstep zt_n540 h
  have h := zt_nstep zt_n480 h
  have h := zt_nstep zt_n420 h
  have h := zt_nstep zt_n360 h
  have h := zt_nstep zt_n300 h
  have h := zt_nstep zt_n240 h
  have h := zt_nstep zt_n180 h
  have h := zt_nstep zt_n120 h
  have h := zt_nstep zt_n60 h
  have h := zt_nstep zt_n0 h
  exact h
theorem zt_nseq : zk_seq zm_333 = true := by decide +kernel
theorem zt_nret : zm_333.all (fun x => match x.2.2.1 with
    | .freturn => false
    | .dreturn => false
    | .areturn => false
    | .return_ => false
    | _ => true) = true := by decide +kernel
section ZP
variable {p : Program} {l : Launch} {e : Env} {R : Room} {s : State} {m : MethodId} {args : Array Value} {below : List Frame} {meth : Method} {c : Code} {Q : State → Prop} {G : zG} {S0 S S' : zS} {lv : zL} {d F N n : Nat}
/-- the law's loop: where the interpreter answers 1, the machine comes to the law's end with 1 -/
theorem zr_main (X : zX p l s m meth c G S0 "BathBoatsLaw" code 10 ret []) (hl0 : l.stackTraces = false) (hR : zRm R S0 S'.2.2.2) (hd0 : d + 7 ≤ R.frames ∧ 64 * d + 264 ≤ R.locals) (h : zx_run (fun mi av S => zr_sem F d mi av S) zm_333 2 N n 28 lv [] S = some (.inl (some (zi 1)), S'))
    (kret : ∀ (pc : Nat) (lv : zL), decode code pc = .ok (.ireturn, 1) → zJ p l e R s m args below meth c Q G S0 10 S' pc lv [zi 1]) : zJ p l e R s m args below meth c Q G S0 10 S 28 lv [] := by
  refine (zx_run_ok (out := (.inl (some (zi 1)), S')) (gm := S'.2.2.2) X hl0 hR hd0 (zr_sem_ok hl0 F d) rfl (fun x S9 hx => nomatch (congrArg Prod.fst hx)) (List.all_eq_true.mp zt_nall) zt_nseq (fun x hx hi nx jp lv st S h => ?_) N n 28 lv [] S h).2
  have hz := List.all_eq_true.mp zt_nall x hx
  have hr := List.all_eq_true.mp zt_nret x hx
  have hz : zk_e "BathBoatsLaw" code 10 ret [] 2 x = true := hz
  unfold zk_e at hz
  rw [Bool.and_eq_true] at hz
  have hd := of_decide_eq_true hz.1
  have hk := hz.2
  obtain ⟨x1, pc, i, len, ⟨a, b, c9, p9, rt⟩, k, tb⟩ := x
  have hi : zt_isret i = true := hi
  have hd : decode code pc = .ok (i, len) := hd
  have hk : zk_i "BathBoatsLaw" code 10 ret [] 2 pc i len a b c9 p9 rt k tb = true := hk
  have h : zx_step (fun mi av S => zr_sem F d mi av S) 2 nx jp i a b c9 rt k tb lv st S = some (.inl (some (zi 1)), S') := h
  cases i with
  | ireturn =>
    have hk : (decide (len = 1) && decide (ret = some .boolean)) = true := hk
    rw [Bool.and_eq_true] at hk
    have e1 : len = 1 := of_decide_eq_true hk.1
    subst e1
    have h : (match (generalizing := false) st with
      | .inl x :: [] => if x &&& 1 = x then some (.inl (some (zi x)), S) else none
      | _ => none : Option zO) = some (.inl (some (zi 1)), S') := h
    split at h
    · split at h
      · have h := Option.some.inj h
        simp only [Prod.mk.injEq, Sum.inl.injEq, Option.some.injEq] at h
        obtain ⟨h1, h2⟩ := h
        subst h1
        have h2 : S = S' := h2
        subst h2
        exact ⟨Nat.le_refl _, kret pc lv hd⟩
      · exact nomatch h
    · exact nomatch h
  | freturn => exact nomatch (show false = true from hr)
  | dreturn => exact nomatch (show false = true from hr)
  | areturn => exact nomatch (show false = true from hr)
  | return_ => exact nomatch (show false = true from hr)
  | _ => exact nomatch (show false = true from hi)
end ZP

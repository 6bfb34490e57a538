/-! THE PURE SIDE 75: the law's loop answers 1 (written by tools/gen75.py) -/
section EA
variable {S S' : zS} {n len k tn : Nat} {a s : Rw} {T fl ep : Int} {u : Nat → Rw} {f : Bool} {fb tx : Nat → Int}
theorem sw_ex {x : Int32} {jp : Nat → Option zO} : ∀ (l : List (Int × Nat)) (d : Nat), ∃ t, (t = d ∨ t ∈ l.map Prod.snd) ∧ zx_sw x jp l d = jp t := by
  intro l
  induction l with
  | nil => exact fun d => ⟨d, Or.inl rfl, rfl⟩
  | cons y l ih =>
    intro d
    obtain ⟨v, t⟩ := y
    by_cases c : x.toInt = v
    · exact ⟨t, Or.inr (List.mem_cons_self ..), if_pos c⟩
    · obtain ⟨t2, h1, h2⟩ := ih d
      refine ⟨t2, ?_, (if_neg c).trans h2⟩
      rcases h1 with h1 | h1
      · exact Or.inl h1
      · exact Or.inr (List.mem_cons_of_mem _ h1)
theorem st_3031 (hI : Iv T S a k u f s fl fb tn tx ep) : Stz n T S 3031 := Stz_d (fun q => zMj_3031) hI rfl (Nat.le_succ _)

theorem st_all (hI : Iv T S a k u f s fl fb tn tx ep) (hT : T + 400 ≤ 1000000) (hl : S.1 5 0 1 0 = zo (len : Nat)) (hn : n + 6 ≤ len) (hb : len ≤ 3072) (t : Nat) (ht : t = 3031 ∨ t ∈ zTB.map Prod.snd) : Stz n (T + 200) S t := by
  have m : ∀ {t}, Stz n T S t → Stz n (T + 200) S t := fun h => Stz_mono h (by omega) (by omega)
  rcases ht with e | ht
  · subst e; exact m (st_3031 hI)
  rcases List.mem_cons.mp ht with e | ht
  · subst e; exact m (st_256 hI hT hl hn hb)
  rcases List.mem_cons.mp ht with e | ht
  · subst e; exact m (st_329 hI hT hl hn hb)
  rcases List.mem_cons.mp ht with e | ht
  · subst e; exact m (st_385 hI hT hl hn hb)
  rcases List.mem_cons.mp ht with e | ht
  · subst e; exact m (st_398 hI hT hl hn hb)
  rcases List.mem_cons.mp ht with e | ht
  · subst e; exact m (st_454 hI hT hl hn hb)
  rcases List.mem_cons.mp ht with e | ht
  · subst e; exact m (st_522 hI hT hl hn hb)
  rcases List.mem_cons.mp ht with e | ht
  · subst e; exact m (st_590 hI hT hl hn hb)
  rcases List.mem_cons.mp ht with e | ht
  · subst e; exact m (st_658 hI hT hl hn hb)
  rcases List.mem_cons.mp ht with e | ht
  · subst e; exact m (st_726 hI hT hl hn hb)
  rcases List.mem_cons.mp ht with e | ht
  · subst e; exact m (st_794 hI hT hl hn hb)
  rcases List.mem_cons.mp ht with e | ht
  · subst e; exact m (st_850 hI hT hl hn hb)
  rcases List.mem_cons.mp ht with e | ht
  · subst e; exact m (st_918 hI hT hl hn hb)
  rcases List.mem_cons.mp ht with e | ht
  · subst e; exact m (st_1036 hI hT hl hn hb)
  rcases List.mem_cons.mp ht with e | ht
  · subst e; exact m (st_1120 hI hT hl hn hb)
  rcases List.mem_cons.mp ht with e | ht
  · subst e; exact m (st_1133 hI hT hl hn hb)
  rcases List.mem_cons.mp ht with e | ht
  · subst e; exact m (st_1213 hI hT hl hn hb)
  rcases List.mem_cons.mp ht with e | ht
  · subst e; exact m (st_1269 hI hT hl hn hb)
  rcases List.mem_cons.mp ht with e | ht
  · subst e; exact m (st_1282 hI hT hl hn hb)
  rcases List.mem_cons.mp ht with e | ht
  · subst e; exact m (st_1338 hI hT hl hn hb)
  rcases List.mem_cons.mp ht with e | ht
  · subst e; exact m (st_1418 hI hT hl hn hb)
  rcases List.mem_cons.mp ht with e | ht
  · subst e; exact m (st_1498 hI hT hl hn hb)
  rcases List.mem_cons.mp ht with e | ht
  · subst e; exact m (st_1554 hI hT hl hn hb)
  rcases List.mem_cons.mp ht with e | ht
  · subst e; exact m (st_1567 hI hT hl hn hb)
  rcases List.mem_cons.mp ht with e | ht
  · subst e; exact m (st_1647 hI hT hl hn hb)
  rcases List.mem_cons.mp ht with e | ht
  · subst e; exact m (st_1703 hI hT hl hn hb)
  rcases List.mem_cons.mp ht with e | ht
  · subst e; exact m (st_1771 hI hT hl hn hb)
  rcases List.mem_cons.mp ht with e | ht
  · subst e; exact m (st_1827 hI hT hl hn hb)
  rcases List.mem_cons.mp ht with e | ht
  · subst e; exact m (st_1840 hI hT hl hn hb)
  rcases List.mem_cons.mp ht with e | ht
  · subst e; exact m (st_1881 hI hT hl hn hb)
  rcases List.mem_cons.mp ht with e | ht
  · subst e; exact m (st_1924 hI hT hl hn hb)
  rcases List.mem_cons.mp ht with e | ht
  · subst e; exact m (st_2016 hI hT hl hn hb)
  rcases List.mem_cons.mp ht with e | ht
  · subst e; exact m (st_2096 hI hT hl hn hb)
  rcases List.mem_cons.mp ht with e | ht
  · subst e; exact m (st_2188 hI hT hl hn hb)
  rcases List.mem_cons.mp ht with e | ht
  · subst e; exact m (st_2268 hI hT hl hn hb)
  rcases List.mem_cons.mp ht with e | ht
  · subst e; exact m (st_2324 hI hT hl hn hb)
  rcases List.mem_cons.mp ht with e | ht
  · subst e; exact m (st_2392 hI hT hl hn hb)
  rcases List.mem_cons.mp ht with e | ht
  · subst e; exact m (st_2460 hI hT hl hn hb)
  rcases List.mem_cons.mp ht with e | ht
  · subst e; exact m (st_2540 hI hT hl hn hb)
  rcases List.mem_cons.mp ht with e | ht
  · subst e; exact m (st_2608 hI hT hl hn hb)
  rcases List.mem_cons.mp ht with e | ht
  · subst e; exact m (st_2664 hI hT hl hn hb)
  rcases List.mem_cons.mp ht with e | ht
  · subst e; exact m (st_2732 hI hT hl hn hb)
  rcases List.mem_cons.mp ht with e | ht
  · subst e; exact st_2788 hI hT hl hn hb
  rcases List.mem_cons.mp ht with e | ht
  · subst e; exact m (st_2844 hI hT hl hn hb)
  rcases List.mem_cons.mp ht with e | ht
  · subst e; exact m (st_2900 hI hT hl hn hb)
  rcases List.mem_cons.mp ht with e | ht
  · subst e; exact m (st_2925 hI hT hl hn hb)
  rcases List.mem_cons.mp ht with e | ht
  · subst e; exact m (st_2938 hI hT hl hn hb)
  rcases List.mem_cons.mp ht with e | ht
  · subst e; exact m (st_2951 hI hT hl hn hb)
  rcases List.mem_cons.mp ht with e | ht
  · subst e; exact m (st_2962 hI hT hl hn hb)
  rcases List.mem_cons.mp ht with e | ht
  · subst e; exact m (st_2975 hI hT hl hn hb)
  exact nomatch ht
/-- the law's loop -/
theorem zL_all : ∀ (m n k : Nat) (S : zS) (T : Int) (a : Rw) (q : Nat) (u : Nat → Rw) (f : Bool) (s : Rw) (fl : Int) (fb : Nat → Int) (tn : Nat) (tx : Nat → Int) (ep : Int), Iv T S a q u f s fl fb tn tx ep → T + 200 * m + 400 ≤ 1000000 → S.1 5 0 1 0 = zo (len : Nat) → len < n + 6 * m + 6 → n ≤ 3100 → len ≤ 3072 → 20 * m + 20 ≤ k → ∃ S', zMn 41 k 28 (zLV (zo (n : Nat))) S = some (.inl (some (zi (zo 1))), S') ∧ S'.2.2.2 ≤ S.2.2.2 + m := by
  intro m
  induction m with
  | zero =>
    intro n k S T a q u f s fl fb tn tx ep hI hT hl hm hn hb hk
    obtain ⟨k, rfl⟩ : ∃ k', k = k' + 1 := ⟨k - 1, by omega⟩
    refine ⟨S, ?_, Nat.le_refl _⟩
    rw [zM_28, hl, zo_sub, if_pos (by rw [zo_lt (by omega) (by omega) (by omega) (by omega)]; omega)]
  | succ m ih =>
    intro n k S T a q u f s fl fb tn tx ep hI hT hl hm hn hb hk
    obtain ⟨k, rfl⟩ : ∃ k', k = k' + 1 := ⟨k - 1, by omega⟩
    rw [zM_28, hl, zo_sub]
    by_cases c : n + 6 ≤ len
    · rw [if_neg (by rw [zo_lt (by omega) (by omega) (by omega) (by omega)]; omega), zin_ok (by omega) (by omega) (by omega)]
      obtain ⟨t, h1, h2⟩ := sw_ex (x := S.1 5 0 0 (zo (n : Nat)).toNatClampNeg &&& zo 63) (jp := fun t => zMj 41 k t (zLV (zo (n : Nat))) S) zTB 3031
      obtain ⟨S1, a1, q1, u1, f1, s1, fl1, fb1, tn1, tx1, ep1, kk, x1, x2, x3, x4, x5⟩ := st_all hI (by omega) hl c hb t h1 k (by omega)
      obtain ⟨kk, rfl⟩ : ∃ k', kk = k' + 1 := ⟨kk - 1, by omega⟩
      obtain ⟨S2, y1, y2⟩ := ih (n + 6) kk S1 (T + 200) a1 q1 u1 f1 s1 fl1 fb1 tn1 tx1 ep1 x3 (by omega) (by rw [x4]; exact hl) (by omega) (by omega) hb (by omega)
      refine ⟨S2, ?_, by omega⟩
      have e : zo (n : Int) + zo 6 = zo ((n + 6 : Nat) : Int) := by rw [zo_add]; rfl
      have x2' : zMj 41 k t (zLV (zo (n : Nat))) S = zMn 41 (kk + 1) 3031 (zLV (zo (n : Nat))) S1 := x2
      rw [h2, x2', zM_3031, e]
      exact y1
    · rw [if_pos (by rw [zo_lt (by omega) (by omega) (by omega) (by omega)]; omega)]
      exact ⟨S, rfl, by omega⟩
end EA

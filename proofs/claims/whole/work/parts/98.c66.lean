/-! THE PURE SIDE 66: the law's helpers (written by tools/gen66.py) -/
def qN (e : Nat) : Option Nat := if e = 1 then some 1 else none
def qI (e : Nat) : Option Nat := if e = 2 then some 1 else none
def qB (e : Nat) : Option Nat := if e = 1 then some 1 else if e = 2 then some 2 else none
/-- a helper of the law: what it answers, by what the class's method answers -/
def Wr (d W C : Nat) (av : List zV) (S : zS) (q : Nat → Option Nat) : Prop := (∀ x S1, zr_sem zF d C (za 1 0 0 :: av) S = some (.inl (some (zi x)), S1) → zr_sem zF (d + 1) W (za 1 0 0 :: (av ++ [za 4 0 0])) S = some (.inl (some (zi (zo 0))), zsl S1 x.toInt64)) ∧ ∀ e v S1, q e = some v → zr_sem zF d C (za 1 0 0 :: av) S = some (.inr e, S1) → zr_sem zF (d + 1) W (za 1 0 0 :: (av ++ [za 4 0 0])) S = some (.inl (some (zi (zo (v : Nat)))), S1)
set_option maxRecDepth 100000 in
theorem we_297 {d : Nat} {S : zS} {xa : Int32} : ∃ H : Nat → zS → Option zO, zr_sem zF (d + 1) 297 [za 1 0 0, zi xa, za 4 0 0] S = zx_ret1 (zr_sem zF d 90 [za 1 0 0, zi xa] S) (fun x S1 => some (.inl (some (zi (zo 0))), zsl S1 x.toInt64)) H ∧ (∀ S1, H 2 S1 = some (.inl (some (zi (zo 1))), S1)) := ⟨_, (zr_y (lv := [some (za 1 0 0), some (zi xa), some (za 4 0 0), none]) rfl rfl).trans rfl, fun _ => rfl⟩
theorem wr_297 {d : Nat} {S : zS} {xa : Int32} : Wr d 297 90 [zi xa] S qI := by
  obtain ⟨H, e1, h2⟩ := we_297 (d := d) (S := S) (xa := xa)
  refine ⟨fun x S1 h => ?_, fun e v S1 hq h => ?_⟩
  · have h : zr_sem zF d 90 [za 1 0 0, zi xa] S = _ := h
    rw [h] at e1
    exact e1
  · have h : zr_sem zF d 90 [za 1 0 0, zi xa] S = _ := h
    rw [h] at e1
    unfold qI at hq
    split at hq
    · rename_i c
      subst c
      have hv : 1 = v := by injection hq
      subst hv
      exact e1.trans (h2 S1)
    · cases hq
set_option maxRecDepth 100000 in
theorem we_298 {d : Nat} {S : zS} {xa : Int32} : ∃ H : Nat → zS → Option zO, zr_sem zF (d + 1) 298 [za 1 0 0, zi xa, za 4 0 0] S = zx_ret1 (zr_sem zF d 93 [za 1 0 0, zi xa] S) (fun x S1 => some (.inl (some (zi (zo 0))), zsl S1 x.toInt64)) H ∧ (∀ S1, H 1 S1 = some (.inl (some (zi (zo 1))), S1)) := ⟨_, (zr_y (lv := [some (za 1 0 0), some (zi xa), some (za 4 0 0), none]) rfl rfl).trans rfl, fun _ => rfl⟩
theorem wr_298 {d : Nat} {S : zS} {xa : Int32} : Wr d 298 93 [zi xa] S qN := by
  obtain ⟨H, e1, h1⟩ := we_298 (d := d) (S := S) (xa := xa)
  refine ⟨fun x S1 h => ?_, fun e v S1 hq h => ?_⟩
  · have h : zr_sem zF d 93 [za 1 0 0, zi xa] S = _ := h
    rw [h] at e1
    exact e1
  · have h : zr_sem zF d 93 [za 1 0 0, zi xa] S = _ := h
    rw [h] at e1
    unfold qN at hq
    split at hq
    · rename_i c
      subst c
      have hv : 1 = v := by injection hq
      subst hv
      exact e1.trans (h1 S1)
    · cases hq
set_option maxRecDepth 100000 in
theorem we_299 {d : Nat} {S : zS} {xa xb : Int32} : ∃ H : Nat → zS → Option zO, zr_sem zF (d + 1) 299 [za 1 0 0, zi xa, zi xb, za 4 0 0] S = zx_ret1 (zr_sem zF d 94 [za 1 0 0, zi xa, zi xb] S) (fun x S1 => some (.inl (some (zi (zo 0))), zsl S1 x.toInt64)) H ∧ (∀ S1, H 1 S1 = some (.inl (some (zi (zo 1))), S1)) := ⟨_, (zr_y (lv := [some (za 1 0 0), some (zi xa), some (zi xb), some (za 4 0 0), none]) rfl rfl).trans rfl, fun _ => rfl⟩
theorem wr_299 {d : Nat} {S : zS} {xa xb : Int32} : Wr d 299 94 [zi xa, zi xb] S qN := by
  obtain ⟨H, e1, h1⟩ := we_299 (d := d) (S := S) (xa := xa) (xb := xb)
  refine ⟨fun x S1 h => ?_, fun e v S1 hq h => ?_⟩
  · have h : zr_sem zF d 94 [za 1 0 0, zi xa, zi xb] S = _ := h
    rw [h] at e1
    exact e1
  · have h : zr_sem zF d 94 [za 1 0 0, zi xa, zi xb] S = _ := h
    rw [h] at e1
    unfold qN at hq
    split at hq
    · rename_i c
      subst c
      have hv : 1 = v := by injection hq
      subst hv
      exact e1.trans (h1 S1)
    · cases hq
set_option maxRecDepth 100000 in
theorem we_300 {d : Nat} {S : zS} {xa xb : Int32} : ∃ H : Nat → zS → Option zO, zr_sem zF (d + 1) 300 [za 1 0 0, zi xa, zi xb, za 4 0 0] S = zx_ret1 (zr_sem zF d 95 [za 1 0 0, zi xa, zi xb] S) (fun x S1 => some (.inl (some (zi (zo 0))), zsl S1 x.toInt64)) H ∧ (∀ S1, H 1 S1 = some (.inl (some (zi (zo 1))), S1)) := ⟨_, (zr_y (lv := [some (za 1 0 0), some (zi xa), some (zi xb), some (za 4 0 0), none]) rfl rfl).trans rfl, fun _ => rfl⟩
theorem wr_300 {d : Nat} {S : zS} {xa xb : Int32} : Wr d 300 95 [zi xa, zi xb] S qN := by
  obtain ⟨H, e1, h1⟩ := we_300 (d := d) (S := S) (xa := xa) (xb := xb)
  refine ⟨fun x S1 h => ?_, fun e v S1 hq h => ?_⟩
  · have h : zr_sem zF d 95 [za 1 0 0, zi xa, zi xb] S = _ := h
    rw [h] at e1
    exact e1
  · have h : zr_sem zF d 95 [za 1 0 0, zi xa, zi xb] S = _ := h
    rw [h] at e1
    unfold qN at hq
    split at hq
    · rename_i c
      subst c
      have hv : 1 = v := by injection hq
      subst hv
      exact e1.trans (h1 S1)
    · cases hq
set_option maxRecDepth 100000 in
theorem we_301 {d : Nat} {S : zS} {xa xb : Int32} : ∃ H : Nat → zS → Option zO, zr_sem zF (d + 1) 301 [za 1 0 0, zi xa, zi xb, za 4 0 0] S = zx_ret1 (zr_sem zF d 96 [za 1 0 0, zi xa, zi xb] S) (fun x S1 => some (.inl (some (zi (zo 0))), zsl S1 x.toInt64)) H ∧ (∀ S1, H 1 S1 = some (.inl (some (zi (zo 1))), S1)) := ⟨_, (zr_y (lv := [some (za 1 0 0), some (zi xa), some (zi xb), some (za 4 0 0), none]) rfl rfl).trans rfl, fun _ => rfl⟩
theorem wr_301 {d : Nat} {S : zS} {xa xb : Int32} : Wr d 301 96 [zi xa, zi xb] S qN := by
  obtain ⟨H, e1, h1⟩ := we_301 (d := d) (S := S) (xa := xa) (xb := xb)
  refine ⟨fun x S1 h => ?_, fun e v S1 hq h => ?_⟩
  · have h : zr_sem zF d 96 [za 1 0 0, zi xa, zi xb] S = _ := h
    rw [h] at e1
    exact e1
  · have h : zr_sem zF d 96 [za 1 0 0, zi xa, zi xb] S = _ := h
    rw [h] at e1
    unfold qN at hq
    split at hq
    · rename_i c
      subst c
      have hv : 1 = v := by injection hq
      subst hv
      exact e1.trans (h1 S1)
    · cases hq
set_option maxRecDepth 100000 in
theorem we_302 {d : Nat} {S : zS} {xa xb : Int32} : ∃ H : Nat → zS → Option zO, zr_sem zF (d + 1) 302 [za 1 0 0, zi xa, zi xb, za 4 0 0] S = zx_ret1 (zr_sem zF d 97 [za 1 0 0, zi xa, zi xb] S) (fun x S1 => some (.inl (some (zi (zo 0))), zsl S1 x.toInt64)) H ∧ (∀ S1, H 1 S1 = some (.inl (some (zi (zo 1))), S1)) := ⟨_, (zr_y (lv := [some (za 1 0 0), some (zi xa), some (zi xb), some (za 4 0 0), none]) rfl rfl).trans rfl, fun _ => rfl⟩
theorem wr_302 {d : Nat} {S : zS} {xa xb : Int32} : Wr d 302 97 [zi xa, zi xb] S qN := by
  obtain ⟨H, e1, h1⟩ := we_302 (d := d) (S := S) (xa := xa) (xb := xb)
  refine ⟨fun x S1 h => ?_, fun e v S1 hq h => ?_⟩
  · have h : zr_sem zF d 97 [za 1 0 0, zi xa, zi xb] S = _ := h
    rw [h] at e1
    exact e1
  · have h : zr_sem zF d 97 [za 1 0 0, zi xa, zi xb] S = _ := h
    rw [h] at e1
    unfold qN at hq
    split at hq
    · rename_i c
      subst c
      have hv : 1 = v := by injection hq
      subst hv
      exact e1.trans (h1 S1)
    · cases hq
set_option maxRecDepth 100000 in
theorem we_303 {d : Nat} {S : zS} {xa xb : Int32} : ∃ H : Nat → zS → Option zO, zr_sem zF (d + 1) 303 [za 1 0 0, zi xa, zi xb, za 4 0 0] S = zx_ret1 (zr_sem zF d 98 [za 1 0 0, zi xa, zi xb] S) (fun x S1 => some (.inl (some (zi (zo 0))), zsl S1 x.toInt64)) H ∧ (∀ S1, H 1 S1 = some (.inl (some (zi (zo 1))), S1)) := ⟨_, (zr_y (lv := [some (za 1 0 0), some (zi xa), some (zi xb), some (za 4 0 0), none]) rfl rfl).trans rfl, fun _ => rfl⟩
theorem wr_303 {d : Nat} {S : zS} {xa xb : Int32} : Wr d 303 98 [zi xa, zi xb] S qN := by
  obtain ⟨H, e1, h1⟩ := we_303 (d := d) (S := S) (xa := xa) (xb := xb)
  refine ⟨fun x S1 h => ?_, fun e v S1 hq h => ?_⟩
  · have h : zr_sem zF d 98 [za 1 0 0, zi xa, zi xb] S = _ := h
    rw [h] at e1
    exact e1
  · have h : zr_sem zF d 98 [za 1 0 0, zi xa, zi xb] S = _ := h
    rw [h] at e1
    unfold qN at hq
    split at hq
    · rename_i c
      subst c
      have hv : 1 = v := by injection hq
      subst hv
      exact e1.trans (h1 S1)
    · cases hq
set_option maxRecDepth 100000 in
theorem we_304 {d : Nat} {S : zS} {xa : Int32} : ∃ H : Nat → zS → Option zO, zr_sem zF (d + 1) 304 [za 1 0 0, zi xa, za 4 0 0] S = zx_ret1 (zr_sem zF d 99 [za 1 0 0, zi xa] S) (fun x S1 => some (.inl (some (zi (zo 0))), zsl S1 x.toInt64)) H ∧ (∀ S1, H 1 S1 = some (.inl (some (zi (zo 1))), S1)) := ⟨_, (zr_y (lv := [some (za 1 0 0), some (zi xa), some (za 4 0 0), none]) rfl rfl).trans rfl, fun _ => rfl⟩
theorem wr_304 {d : Nat} {S : zS} {xa : Int32} : Wr d 304 99 [zi xa] S qN := by
  obtain ⟨H, e1, h1⟩ := we_304 (d := d) (S := S) (xa := xa)
  refine ⟨fun x S1 h => ?_, fun e v S1 hq h => ?_⟩
  · have h : zr_sem zF d 99 [za 1 0 0, zi xa] S = _ := h
    rw [h] at e1
    exact e1
  · have h : zr_sem zF d 99 [za 1 0 0, zi xa] S = _ := h
    rw [h] at e1
    unfold qN at hq
    split at hq
    · rename_i c
      subst c
      have hv : 1 = v := by injection hq
      subst hv
      exact e1.trans (h1 S1)
    · cases hq
set_option maxRecDepth 100000 in
theorem we_305 {d : Nat} {S : zS} {xa xb : Int32} : ∃ H : Nat → zS → Option zO, zr_sem zF (d + 1) 305 [za 1 0 0, zi xa, zi xb, za 4 0 0] S = zx_ret1 (zr_sem zF d 100 [za 1 0 0, zi xa, zi xb] S) (fun x S1 => some (.inl (some (zi (zo 0))), zsl S1 x.toInt64)) H ∧ (∀ S1, H 1 S1 = some (.inl (some (zi (zo 1))), S1)) := ⟨_, (zr_y (lv := [some (za 1 0 0), some (zi xa), some (zi xb), some (za 4 0 0), none]) rfl rfl).trans rfl, fun _ => rfl⟩
theorem wr_305 {d : Nat} {S : zS} {xa xb : Int32} : Wr d 305 100 [zi xa, zi xb] S qN := by
  obtain ⟨H, e1, h1⟩ := we_305 (d := d) (S := S) (xa := xa) (xb := xb)
  refine ⟨fun x S1 h => ?_, fun e v S1 hq h => ?_⟩
  · have h : zr_sem zF d 100 [za 1 0 0, zi xa, zi xb] S = _ := h
    rw [h] at e1
    exact e1
  · have h : zr_sem zF d 100 [za 1 0 0, zi xa, zi xb] S = _ := h
    rw [h] at e1
    unfold qN at hq
    split at hq
    · rename_i c
      subst c
      have hv : 1 = v := by injection hq
      subst hv
      exact e1.trans (h1 S1)
    · cases hq
set_option maxRecDepth 100000 in
theorem we_307 {d : Nat} {S : zS} {xa xb : Int32} : ∃ H : Nat → zS → Option zO, zr_sem zF (d + 1) 307 [za 1 0 0, zi xa, zi xb, za 4 0 0] S = zx_ret1 (zr_sem zF d 102 [za 1 0 0, zi xa, zi xb] S) (fun x S1 => some (.inl (some (zi (zo 0))), zsl S1 x.toInt64)) H ∧ (∀ S1, H 1 S1 = some (.inl (some (zi (zo 1))), S1)) := ⟨_, (zr_y (lv := [some (za 1 0 0), some (zi xa), some (zi xb), some (za 4 0 0), none]) rfl rfl).trans rfl, fun _ => rfl⟩
theorem wr_307 {d : Nat} {S : zS} {xa xb : Int32} : Wr d 307 102 [zi xa, zi xb] S qN := by
  obtain ⟨H, e1, h1⟩ := we_307 (d := d) (S := S) (xa := xa) (xb := xb)
  refine ⟨fun x S1 h => ?_, fun e v S1 hq h => ?_⟩
  · have h : zr_sem zF d 102 [za 1 0 0, zi xa, zi xb] S = _ := h
    rw [h] at e1
    exact e1
  · have h : zr_sem zF d 102 [za 1 0 0, zi xa, zi xb] S = _ := h
    rw [h] at e1
    unfold qN at hq
    split at hq
    · rename_i c
      subst c
      have hv : 1 = v := by injection hq
      subst hv
      exact e1.trans (h1 S1)
    · cases hq
set_option maxRecDepth 100000 in
theorem we_308 {d : Nat} {S : zS} {xa xb xc : Int32} : ∃ H : Nat → zS → Option zO, zr_sem zF (d + 1) 308 [za 1 0 0, zi xa, zi xb, zi xc, za 4 0 0] S = zx_ret1 (zr_sem zF d 104 [za 1 0 0, zi xa, zi xb, zi xc] S) (fun x S1 => some (.inl (some (zi (zo 0))), zsl S1 x.toInt64)) H ∧ (∀ S1, H 1 S1 = some (.inl (some (zi (zo 1))), S1)) ∧ (∀ S1, H 2 S1 = some (.inl (some (zi (zo 2))), S1)) := ⟨_, (zr_y (lv := [some (za 1 0 0), some (zi xa), some (zi xb), some (zi xc), some (za 4 0 0), none]) rfl rfl).trans rfl, fun _ => rfl, fun _ => rfl⟩
theorem wr_308 {d : Nat} {S : zS} {xa xb xc : Int32} : Wr d 308 104 [zi xa, zi xb, zi xc] S qB := by
  obtain ⟨H, e1, h1, h2⟩ := we_308 (d := d) (S := S) (xa := xa) (xb := xb) (xc := xc)
  refine ⟨fun x S1 h => ?_, fun e v S1 hq h => ?_⟩
  · have h : zr_sem zF d 104 [za 1 0 0, zi xa, zi xb, zi xc] S = _ := h
    rw [h] at e1
    exact e1
  · have h : zr_sem zF d 104 [za 1 0 0, zi xa, zi xb, zi xc] S = _ := h
    rw [h] at e1
    unfold qB at hq
    split at hq
    · rename_i c
      subst c
      have hv : 1 = v := by injection hq
      subst hv
      exact e1.trans (h1 S1)
    · split at hq
      · rename_i c
        subst c
        have hv : 2 = v := by injection hq
        subst hv
        exact e1.trans (h2 S1)
      · cases hq
set_option maxRecDepth 100000 in
theorem we_309 {d : Nat} {S : zS} {xa : Int32} : ∃ H : Nat → zS → Option zO, zr_sem zF (d + 1) 309 [za 1 0 0, zi xa, za 4 0 0] S = zx_ret1 (zr_sem zF d 105 [za 1 0 0, zi xa] S) (fun x S1 => some (.inl (some (zi (zo 0))), zsl S1 x.toInt64)) H ∧ (∀ S1, H 1 S1 = some (.inl (some (zi (zo 1))), S1)) := ⟨_, (zr_y (lv := [some (za 1 0 0), some (zi xa), some (za 4 0 0), none]) rfl rfl).trans rfl, fun _ => rfl⟩
theorem wr_309 {d : Nat} {S : zS} {xa : Int32} : Wr d 309 105 [zi xa] S qN := by
  obtain ⟨H, e1, h1⟩ := we_309 (d := d) (S := S) (xa := xa)
  refine ⟨fun x S1 h => ?_, fun e v S1 hq h => ?_⟩
  · have h : zr_sem zF d 105 [za 1 0 0, zi xa] S = _ := h
    rw [h] at e1
    exact e1
  · have h : zr_sem zF d 105 [za 1 0 0, zi xa] S = _ := h
    rw [h] at e1
    unfold qN at hq
    split at hq
    · rename_i c
      subst c
      have hv : 1 = v := by injection hq
      subst hv
      exact e1.trans (h1 S1)
    · cases hq
set_option maxRecDepth 100000 in
theorem we_310 {d : Nat} {S : zS} {xa : Int32} : ∃ H : Nat → zS → Option zO, zr_sem zF (d + 1) 310 [za 1 0 0, zi xa, za 4 0 0] S = zx_ret1 (zr_sem zF d 107 [za 1 0 0, zi xa] S) (fun x S1 => some (.inl (some (zi (zo 0))), zsl S1 x.toInt64)) H ∧ (∀ S1, H 1 S1 = some (.inl (some (zi (zo 1))), S1)) := ⟨_, (zr_y (lv := [some (za 1 0 0), some (zi xa), some (za 4 0 0), none]) rfl rfl).trans rfl, fun _ => rfl⟩
theorem wr_310 {d : Nat} {S : zS} {xa : Int32} : Wr d 310 107 [zi xa] S qN := by
  obtain ⟨H, e1, h1⟩ := we_310 (d := d) (S := S) (xa := xa)
  refine ⟨fun x S1 h => ?_, fun e v S1 hq h => ?_⟩
  · have h : zr_sem zF d 107 [za 1 0 0, zi xa] S = _ := h
    rw [h] at e1
    exact e1
  · have h : zr_sem zF d 107 [za 1 0 0, zi xa] S = _ := h
    rw [h] at e1
    unfold qN at hq
    split at hq
    · rename_i c
      subst c
      have hv : 1 = v := by injection hq
      subst hv
      exact e1.trans (h1 S1)
    · cases hq
set_option maxRecDepth 100000 in
theorem we_311 {d : Nat} {S : zS} {xa xb xc : Int32} : ∃ H : Nat → zS → Option zO, zr_sem zF (d + 1) 311 [za 1 0 0, zi xa, zi xb, zi xc, za 4 0 0] S = zx_ret1 (zr_sem zF d 112 [za 1 0 0, zi xa, zi xb, zi xc] S) (fun x S1 => some (.inl (some (zi (zo 0))), zsl S1 x.toInt64)) H ∧ (∀ S1, H 1 S1 = some (.inl (some (zi (zo 1))), S1)) := ⟨_, (zr_y (lv := [some (za 1 0 0), some (zi xa), some (zi xb), some (zi xc), some (za 4 0 0), none]) rfl rfl).trans rfl, fun _ => rfl⟩
theorem wr_311 {d : Nat} {S : zS} {xa xb xc : Int32} : Wr d 311 112 [zi xa, zi xb, zi xc] S qN := by
  obtain ⟨H, e1, h1⟩ := we_311 (d := d) (S := S) (xa := xa) (xb := xb) (xc := xc)
  refine ⟨fun x S1 h => ?_, fun e v S1 hq h => ?_⟩
  · have h : zr_sem zF d 112 [za 1 0 0, zi xa, zi xb, zi xc] S = _ := h
    rw [h] at e1
    exact e1
  · have h : zr_sem zF d 112 [za 1 0 0, zi xa, zi xb, zi xc] S = _ := h
    rw [h] at e1
    unfold qN at hq
    split at hq
    · rename_i c
      subst c
      have hv : 1 = v := by injection hq
      subst hv
      exact e1.trans (h1 S1)
    · cases hq
set_option maxRecDepth 100000 in
theorem we_312 {d : Nat} {S : zS} {xa xb xc : Int32} : ∃ H : Nat → zS → Option zO, zr_sem zF (d + 1) 312 [za 1 0 0, zi xa, zi xb, zi xc, za 4 0 0] S = zx_ret1 (zr_sem zF d 113 [za 1 0 0, zi xa, zi xb, zi xc] S) (fun x S1 => some (.inl (some (zi (zo 0))), zsl S1 x.toInt64)) H ∧ (∀ S1, H 1 S1 = some (.inl (some (zi (zo 1))), S1)) := ⟨_, (zr_y (lv := [some (za 1 0 0), some (zi xa), some (zi xb), some (zi xc), some (za 4 0 0), none]) rfl rfl).trans rfl, fun _ => rfl⟩
theorem wr_312 {d : Nat} {S : zS} {xa xb xc : Int32} : Wr d 312 113 [zi xa, zi xb, zi xc] S qN := by
  obtain ⟨H, e1, h1⟩ := we_312 (d := d) (S := S) (xa := xa) (xb := xb) (xc := xc)
  refine ⟨fun x S1 h => ?_, fun e v S1 hq h => ?_⟩
  · have h : zr_sem zF d 113 [za 1 0 0, zi xa, zi xb, zi xc] S = _ := h
    rw [h] at e1
    exact e1
  · have h : zr_sem zF d 113 [za 1 0 0, zi xa, zi xb, zi xc] S = _ := h
    rw [h] at e1
    unfold qN at hq
    split at hq
    · rename_i c
      subst c
      have hv : 1 = v := by injection hq
      subst hv
      exact e1.trans (h1 S1)
    · cases hq
set_option maxRecDepth 100000 in
theorem we_313 {d : Nat} {S : zS} {xa : Int32} : ∃ H : Nat → zS → Option zO, zr_sem zF (d + 1) 313 [za 1 0 0, zi xa, za 4 0 0] S = zx_ret1 (zr_sem zF d 115 [za 1 0 0, zi xa] S) (fun x S1 => some (.inl (some (zi (zo 0))), zsl S1 x.toInt64)) H ∧ (∀ S1, H 1 S1 = some (.inl (some (zi (zo 1))), S1)) := ⟨_, (zr_y (lv := [some (za 1 0 0), some (zi xa), some (za 4 0 0), none]) rfl rfl).trans rfl, fun _ => rfl⟩
theorem wr_313 {d : Nat} {S : zS} {xa : Int32} : Wr d 313 115 [zi xa] S qN := by
  obtain ⟨H, e1, h1⟩ := we_313 (d := d) (S := S) (xa := xa)
  refine ⟨fun x S1 h => ?_, fun e v S1 hq h => ?_⟩
  · have h : zr_sem zF d 115 [za 1 0 0, zi xa] S = _ := h
    rw [h] at e1
    exact e1
  · have h : zr_sem zF d 115 [za 1 0 0, zi xa] S = _ := h
    rw [h] at e1
    unfold qN at hq
    split at hq
    · rename_i c
      subst c
      have hv : 1 = v := by injection hq
      subst hv
      exact e1.trans (h1 S1)
    · cases hq
set_option maxRecDepth 100000 in
theorem we_314 {d : Nat} {S : zS} {xa xb xc : Int32} : ∃ H : Nat → zS → Option zO, zr_sem zF (d + 1) 314 [za 1 0 0, zi xa, zi xb, zi xc, za 4 0 0] S = zx_ret1 (zr_sem zF d 117 [za 1 0 0, zi xa, zi xb, zi xc] S) (fun x S1 => some (.inl (some (zi (zo 0))), zsl S1 x.toInt64)) H ∧ (∀ S1, H 1 S1 = some (.inl (some (zi (zo 1))), S1)) ∧ (∀ S1, H 2 S1 = some (.inl (some (zi (zo 2))), S1)) := ⟨_, (zr_y (lv := [some (za 1 0 0), some (zi xa), some (zi xb), some (zi xc), some (za 4 0 0), none]) rfl rfl).trans rfl, fun _ => rfl, fun _ => rfl⟩
theorem wr_314 {d : Nat} {S : zS} {xa xb xc : Int32} : Wr d 314 117 [zi xa, zi xb, zi xc] S qB := by
  obtain ⟨H, e1, h1, h2⟩ := we_314 (d := d) (S := S) (xa := xa) (xb := xb) (xc := xc)
  refine ⟨fun x S1 h => ?_, fun e v S1 hq h => ?_⟩
  · have h : zr_sem zF d 117 [za 1 0 0, zi xa, zi xb, zi xc] S = _ := h
    rw [h] at e1
    exact e1
  · have h : zr_sem zF d 117 [za 1 0 0, zi xa, zi xb, zi xc] S = _ := h
    rw [h] at e1
    unfold qB at hq
    split at hq
    · rename_i c
      subst c
      have hv : 1 = v := by injection hq
      subst hv
      exact e1.trans (h1 S1)
    · split at hq
      · rename_i c
        subst c
        have hv : 2 = v := by injection hq
        subst hv
        exact e1.trans (h2 S1)
      · cases hq
set_option maxRecDepth 100000 in
theorem we_315 {d : Nat} {S : zS} {xa : Int32} : ∃ H : Nat → zS → Option zO, zr_sem zF (d + 1) 315 [za 1 0 0, zi xa, za 4 0 0] S = zx_ret1 (zr_sem zF d 118 [za 1 0 0, zi xa] S) (fun x S1 => some (.inl (some (zi (zo 0))), zsl S1 x.toInt64)) H ∧ (∀ S1, H 2 S1 = some (.inl (some (zi (zo 1))), S1)) := ⟨_, (zr_y (lv := [some (za 1 0 0), some (zi xa), some (za 4 0 0), none]) rfl rfl).trans rfl, fun _ => rfl⟩
theorem wr_315 {d : Nat} {S : zS} {xa : Int32} : Wr d 315 118 [zi xa] S qI := by
  obtain ⟨H, e1, h2⟩ := we_315 (d := d) (S := S) (xa := xa)
  refine ⟨fun x S1 h => ?_, fun e v S1 hq h => ?_⟩
  · have h : zr_sem zF d 118 [za 1 0 0, zi xa] S = _ := h
    rw [h] at e1
    exact e1
  · have h : zr_sem zF d 118 [za 1 0 0, zi xa] S = _ := h
    rw [h] at e1
    unfold qI at hq
    split at hq
    · rename_i c
      subst c
      have hv : 1 = v := by injection hq
      subst hv
      exact e1.trans (h2 S1)
    · cases hq
set_option maxRecDepth 100000 in
theorem we_316 {d : Nat} {S : zS} {xa xb : Int32} : ∃ H : Nat → zS → Option zO, zr_sem zF (d + 1) 316 [za 1 0 0, zi xa, zi xb, za 4 0 0] S = zx_ret1 (zr_sem zF d 119 [za 1 0 0, zi xa, zi xb] S) (fun x S1 => some (.inl (some (zi (zo 0))), zsl S1 x.toInt64)) H ∧ (∀ S1, H 1 S1 = some (.inl (some (zi (zo 1))), S1)) ∧ (∀ S1, H 2 S1 = some (.inl (some (zi (zo 2))), S1)) := ⟨_, (zr_y (lv := [some (za 1 0 0), some (zi xa), some (zi xb), some (za 4 0 0), none]) rfl rfl).trans rfl, fun _ => rfl, fun _ => rfl⟩
theorem wr_316 {d : Nat} {S : zS} {xa xb : Int32} : Wr d 316 119 [zi xa, zi xb] S qB := by
  obtain ⟨H, e1, h1, h2⟩ := we_316 (d := d) (S := S) (xa := xa) (xb := xb)
  refine ⟨fun x S1 h => ?_, fun e v S1 hq h => ?_⟩
  · have h : zr_sem zF d 119 [za 1 0 0, zi xa, zi xb] S = _ := h
    rw [h] at e1
    exact e1
  · have h : zr_sem zF d 119 [za 1 0 0, zi xa, zi xb] S = _ := h
    rw [h] at e1
    unfold qB at hq
    split at hq
    · rename_i c
      subst c
      have hv : 1 = v := by injection hq
      subst hv
      exact e1.trans (h1 S1)
    · split at hq
      · rename_i c
        subst c
        have hv : 2 = v := by injection hq
        subst hv
        exact e1.trans (h2 S1)
      · cases hq
set_option maxRecDepth 100000 in
theorem we_317 {d : Nat} {S : zS} {xa : Int32} : ∃ H : Nat → zS → Option zO, zr_sem zF (d + 1) 317 [za 1 0 0, zi xa, za 4 0 0] S = zx_ret1 (zr_sem zF d 120 [za 1 0 0, zi xa] S) (fun x S1 => some (.inl (some (zi (zo 0))), zsl S1 x.toInt64)) H ∧ (∀ S1, H 1 S1 = some (.inl (some (zi (zo 1))), S1)) := ⟨_, (zr_y (lv := [some (za 1 0 0), some (zi xa), some (za 4 0 0), none]) rfl rfl).trans rfl, fun _ => rfl⟩
theorem wr_317 {d : Nat} {S : zS} {xa : Int32} : Wr d 317 120 [zi xa] S qN := by
  obtain ⟨H, e1, h1⟩ := we_317 (d := d) (S := S) (xa := xa)
  refine ⟨fun x S1 h => ?_, fun e v S1 hq h => ?_⟩
  · have h : zr_sem zF d 120 [za 1 0 0, zi xa] S = _ := h
    rw [h] at e1
    exact e1
  · have h : zr_sem zF d 120 [za 1 0 0, zi xa] S = _ := h
    rw [h] at e1
    unfold qN at hq
    split at hq
    · rename_i c
      subst c
      have hv : 1 = v := by injection hq
      subst hv
      exact e1.trans (h1 S1)
    · cases hq
set_option maxRecDepth 100000 in
theorem we_318 {d : Nat} {S : zS} {xa xb xc xd : Int32} : ∃ H : Nat → zS → Option zO, zr_sem zF (d + 1) 318 [za 1 0 0, zi xa, zi xb, zi xc, zi xd, za 4 0 0] S = zx_ret1 (zr_sem zF d 122 [za 1 0 0, zi xa, zi xb, zi xc, zi xd] S) (fun x S1 => some (.inl (some (zi (zo 0))), zsl S1 x.toInt64)) H ∧ (∀ S1, H 1 S1 = some (.inl (some (zi (zo 1))), S1)) ∧ (∀ S1, H 2 S1 = some (.inl (some (zi (zo 2))), S1)) := ⟨_, (zr_y (lv := [some (za 1 0 0), some (zi xa), some (zi xb), some (zi xc), some (zi xd), some (za 4 0 0), none]) rfl rfl).trans rfl, fun _ => rfl, fun _ => rfl⟩
theorem wr_318 {d : Nat} {S : zS} {xa xb xc xd : Int32} : Wr d 318 122 [zi xa, zi xb, zi xc, zi xd] S qB := by
  obtain ⟨H, e1, h1, h2⟩ := we_318 (d := d) (S := S) (xa := xa) (xb := xb) (xc := xc) (xd := xd)
  refine ⟨fun x S1 h => ?_, fun e v S1 hq h => ?_⟩
  · have h : zr_sem zF d 122 [za 1 0 0, zi xa, zi xb, zi xc, zi xd] S = _ := h
    rw [h] at e1
    exact e1
  · have h : zr_sem zF d 122 [za 1 0 0, zi xa, zi xb, zi xc, zi xd] S = _ := h
    rw [h] at e1
    unfold qB at hq
    split at hq
    · rename_i c
      subst c
      have hv : 1 = v := by injection hq
      subst hv
      exact e1.trans (h1 S1)
    · split at hq
      · rename_i c
        subst c
        have hv : 2 = v := by injection hq
        subst hv
        exact e1.trans (h2 S1)
      · cases hq
set_option maxRecDepth 100000 in
theorem we_319 {d : Nat} {S : zS} {xa xb xc : Int32} : ∃ H : Nat → zS → Option zO, zr_sem zF (d + 1) 319 [za 1 0 0, zi xa, zi xb, zi xc, za 4 0 0] S = zx_ret1 (zr_sem zF d 123 [za 1 0 0, zi xa, zi xb, zi xc] S) (fun x S1 => some (.inl (some (zi (zo 0))), zsl S1 x.toInt64)) H ∧ (∀ S1, H 1 S1 = some (.inl (some (zi (zo 1))), S1)) := ⟨_, (zr_y (lv := [some (za 1 0 0), some (zi xa), some (zi xb), some (zi xc), some (za 4 0 0), none]) rfl rfl).trans rfl, fun _ => rfl⟩
theorem wr_319 {d : Nat} {S : zS} {xa xb xc : Int32} : Wr d 319 123 [zi xa, zi xb, zi xc] S qN := by
  obtain ⟨H, e1, h1⟩ := we_319 (d := d) (S := S) (xa := xa) (xb := xb) (xc := xc)
  refine ⟨fun x S1 h => ?_, fun e v S1 hq h => ?_⟩
  · have h : zr_sem zF d 123 [za 1 0 0, zi xa, zi xb, zi xc] S = _ := h
    rw [h] at e1
    exact e1
  · have h : zr_sem zF d 123 [za 1 0 0, zi xa, zi xb, zi xc] S = _ := h
    rw [h] at e1
    unfold qN at hq
    split at hq
    · rename_i c
      subst c
      have hv : 1 = v := by injection hq
      subst hv
      exact e1.trans (h1 S1)
    · cases hq
set_option maxRecDepth 100000 in
theorem we_320 {d : Nat} {S : zS} {xa xb xc xd : Int32} : ∃ H : Nat → zS → Option zO, zr_sem zF (d + 1) 320 [za 1 0 0, zi xa, zi xb, zi xc, zi xd, za 4 0 0] S = zx_ret1 (zr_sem zF d 114 [za 1 0 0, zi xa, zi xb, zi xc, zi xd] S) (fun x S1 => some (.inl (some (zi (zo 0))), zsl S1 x.toInt64)) H ∧ (∀ S1, H 1 S1 = some (.inl (some (zi (zo 1))), S1)) ∧ (∀ S1, H 2 S1 = some (.inl (some (zi (zo 2))), S1)) := ⟨_, (zr_y (lv := [some (za 1 0 0), some (zi xa), some (zi xb), some (zi xc), some (zi xd), some (za 4 0 0), none]) rfl rfl).trans rfl, fun _ => rfl, fun _ => rfl⟩
theorem wr_320 {d : Nat} {S : zS} {xa xb xc xd : Int32} : Wr d 320 114 [zi xa, zi xb, zi xc, zi xd] S qB := by
  obtain ⟨H, e1, h1, h2⟩ := we_320 (d := d) (S := S) (xa := xa) (xb := xb) (xc := xc) (xd := xd)
  refine ⟨fun x S1 h => ?_, fun e v S1 hq h => ?_⟩
  · have h : zr_sem zF d 114 [za 1 0 0, zi xa, zi xb, zi xc, zi xd] S = _ := h
    rw [h] at e1
    exact e1
  · have h : zr_sem zF d 114 [za 1 0 0, zi xa, zi xb, zi xc, zi xd] S = _ := h
    rw [h] at e1
    unfold qB at hq
    split at hq
    · rename_i c
      subst c
      have hv : 1 = v := by injection hq
      subst hv
      exact e1.trans (h1 S1)
    · split at hq
      · rename_i c
        subst c
        have hv : 2 = v := by injection hq
        subst hv
        exact e1.trans (h2 S1)
      · cases hq
set_option maxRecDepth 100000 in
theorem we_321 {d : Nat} {S : zS} {xa xb xc : Int32} : ∃ H : Nat → zS → Option zO, zr_sem zF (d + 1) 321 [za 1 0 0, zi xa, zi xb, zi xc, za 4 0 0] S = zx_ret1 (zr_sem zF d 124 [za 1 0 0, zi xa, zi xb, zi xc] S) (fun x S1 => some (.inl (some (zi (zo 0))), zsl S1 x.toInt64)) H ∧ (∀ S1, H 1 S1 = some (.inl (some (zi (zo 1))), S1)) ∧ (∀ S1, H 2 S1 = some (.inl (some (zi (zo 2))), S1)) := ⟨_, (zr_y (lv := [some (za 1 0 0), some (zi xa), some (zi xb), some (zi xc), some (za 4 0 0), none]) rfl rfl).trans rfl, fun _ => rfl, fun _ => rfl⟩
theorem wr_321 {d : Nat} {S : zS} {xa xb xc : Int32} : Wr d 321 124 [zi xa, zi xb, zi xc] S qB := by
  obtain ⟨H, e1, h1, h2⟩ := we_321 (d := d) (S := S) (xa := xa) (xb := xb) (xc := xc)
  refine ⟨fun x S1 h => ?_, fun e v S1 hq h => ?_⟩
  · have h : zr_sem zF d 124 [za 1 0 0, zi xa, zi xb, zi xc] S = _ := h
    rw [h] at e1
    exact e1
  · have h : zr_sem zF d 124 [za 1 0 0, zi xa, zi xb, zi xc] S = _ := h
    rw [h] at e1
    unfold qB at hq
    split at hq
    · rename_i c
      subst c
      have hv : 1 = v := by injection hq
      subst hv
      exact e1.trans (h1 S1)
    · split at hq
      · rename_i c
        subst c
        have hv : 2 = v := by injection hq
        subst hv
        exact e1.trans (h2 S1)
      · cases hq
set_option maxRecDepth 100000 in
theorem we_322 {d : Nat} {S : zS} {xa : Int32} : ∃ H : Nat → zS → Option zO, zr_sem zF (d + 1) 322 [za 1 0 0, zi xa, za 4 0 0] S = zx_ret1 (zr_sem zF d 125 [za 1 0 0, zi xa] S) (fun x S1 => some (.inl (some (zi (zo 0))), zsl S1 x.toInt64)) H ∧ (∀ S1, H 1 S1 = some (.inl (some (zi (zo 1))), S1)) := ⟨_, (zr_y (lv := [some (za 1 0 0), some (zi xa), some (za 4 0 0), none]) rfl rfl).trans rfl, fun _ => rfl⟩
theorem wr_322 {d : Nat} {S : zS} {xa : Int32} : Wr d 322 125 [zi xa] S qN := by
  obtain ⟨H, e1, h1⟩ := we_322 (d := d) (S := S) (xa := xa)
  refine ⟨fun x S1 h => ?_, fun e v S1 hq h => ?_⟩
  · have h : zr_sem zF d 125 [za 1 0 0, zi xa] S = _ := h
    rw [h] at e1
    exact e1
  · have h : zr_sem zF d 125 [za 1 0 0, zi xa] S = _ := h
    rw [h] at e1
    unfold qN at hq
    split at hq
    · rename_i c
      subst c
      have hv : 1 = v := by injection hq
      subst hv
      exact e1.trans (h1 S1)
    · cases hq
set_option maxRecDepth 100000 in
theorem we_323 {d : Nat} {S : zS} {xa xb : Int32} : ∃ H : Nat → zS → Option zO, zr_sem zF (d + 1) 323 [za 1 0 0, zi xa, zi xb, za 4 0 0] S = zx_ret1 (zr_sem zF d 126 [za 1 0 0, zi xa, zi xb] S) (fun x S1 => some (.inl (some (zi (zo 0))), zsl S1 x.toInt64)) H ∧ (∀ S1, H 1 S1 = some (.inl (some (zi (zo 1))), S1)) ∧ (∀ S1, H 2 S1 = some (.inl (some (zi (zo 2))), S1)) := ⟨_, (zr_y (lv := [some (za 1 0 0), some (zi xa), some (zi xb), some (za 4 0 0), none]) rfl rfl).trans rfl, fun _ => rfl, fun _ => rfl⟩
theorem wr_323 {d : Nat} {S : zS} {xa xb : Int32} : Wr d 323 126 [zi xa, zi xb] S qB := by
  obtain ⟨H, e1, h1, h2⟩ := we_323 (d := d) (S := S) (xa := xa) (xb := xb)
  refine ⟨fun x S1 h => ?_, fun e v S1 hq h => ?_⟩
  · have h : zr_sem zF d 126 [za 1 0 0, zi xa, zi xb] S = _ := h
    rw [h] at e1
    exact e1
  · have h : zr_sem zF d 126 [za 1 0 0, zi xa, zi xb] S = _ := h
    rw [h] at e1
    unfold qB at hq
    split at hq
    · rename_i c
      subst c
      have hv : 1 = v := by injection hq
      subst hv
      exact e1.trans (h1 S1)
    · split at hq
      · rename_i c
        subst c
        have hv : 2 = v := by injection hq
        subst hv
        exact e1.trans (h2 S1)
      · cases hq
set_option maxRecDepth 100000 in
theorem we_324 {d : Nat} {S : zS} {xa xb : Int32} : ∃ H : Nat → zS → Option zO, zr_sem zF (d + 1) 324 [za 1 0 0, zi xa, zi xb, za 4 0 0] S = zx_ret1 (zr_sem zF d 127 [za 1 0 0, zi xa, zi xb] S) (fun x S1 => some (.inl (some (zi (zo 0))), zsl S1 x.toInt64)) H ∧ (∀ S1, H 1 S1 = some (.inl (some (zi (zo 1))), S1)) ∧ (∀ S1, H 2 S1 = some (.inl (some (zi (zo 2))), S1)) := ⟨_, (zr_y (lv := [some (za 1 0 0), some (zi xa), some (zi xb), some (za 4 0 0), none]) rfl rfl).trans rfl, fun _ => rfl, fun _ => rfl⟩
theorem wr_324 {d : Nat} {S : zS} {xa xb : Int32} : Wr d 324 127 [zi xa, zi xb] S qB := by
  obtain ⟨H, e1, h1, h2⟩ := we_324 (d := d) (S := S) (xa := xa) (xb := xb)
  refine ⟨fun x S1 h => ?_, fun e v S1 hq h => ?_⟩
  · have h : zr_sem zF d 127 [za 1 0 0, zi xa, zi xb] S = _ := h
    rw [h] at e1
    exact e1
  · have h : zr_sem zF d 127 [za 1 0 0, zi xa, zi xb] S = _ := h
    rw [h] at e1
    unfold qB at hq
    split at hq
    · rename_i c
      subst c
      have hv : 1 = v := by injection hq
      subst hv
      exact e1.trans (h1 S1)
    · split at hq
      · rename_i c
        subst c
        have hv : 2 = v := by injection hq
        subst hv
        exact e1.trans (h2 S1)
      · cases hq
set_option maxRecDepth 100000 in
theorem we_325 {d : Nat} {S : zS} {xa xb xc : Int32} : ∃ H : Nat → zS → Option zO, zr_sem zF (d + 1) 325 [za 1 0 0, zi xa, zi xb, zi xc, za 4 0 0] S = zx_ret1 (zr_sem zF d 128 [za 1 0 0, zi xa, zi xb, zi xc] S) (fun x S1 => some (.inl (some (zi (zo 0))), zsl S1 x.toInt64)) H ∧ (∀ S1, H 1 S1 = some (.inl (some (zi (zo 1))), S1)) ∧ (∀ S1, H 2 S1 = some (.inl (some (zi (zo 2))), S1)) := ⟨_, (zr_y (lv := [some (za 1 0 0), some (zi xa), some (zi xb), some (zi xc), some (za 4 0 0), none]) rfl rfl).trans rfl, fun _ => rfl, fun _ => rfl⟩
theorem wr_325 {d : Nat} {S : zS} {xa xb xc : Int32} : Wr d 325 128 [zi xa, zi xb, zi xc] S qB := by
  obtain ⟨H, e1, h1, h2⟩ := we_325 (d := d) (S := S) (xa := xa) (xb := xb) (xc := xc)
  refine ⟨fun x S1 h => ?_, fun e v S1 hq h => ?_⟩
  · have h : zr_sem zF d 128 [za 1 0 0, zi xa, zi xb, zi xc] S = _ := h
    rw [h] at e1
    exact e1
  · have h : zr_sem zF d 128 [za 1 0 0, zi xa, zi xb, zi xc] S = _ := h
    rw [h] at e1
    unfold qB at hq
    split at hq
    · rename_i c
      subst c
      have hv : 1 = v := by injection hq
      subst hv
      exact e1.trans (h1 S1)
    · split at hq
      · rename_i c
        subst c
        have hv : 2 = v := by injection hq
        subst hv
        exact e1.trans (h2 S1)
      · cases hq
set_option maxRecDepth 100000 in
theorem we_326 {d : Nat} {S : zS} {xa xb : Int32} : ∃ H : Nat → zS → Option zO, zr_sem zF (d + 1) 326 [za 1 0 0, zi xa, zi xb, za 4 0 0] S = zx_ret1 (zr_sem zF d 129 [za 1 0 0, zi xa, zi xb] S) (fun x S1 => some (.inl (some (zi (zo 0))), zsl S1 x.toInt64)) H ∧ (∀ S1, H 1 S1 = some (.inl (some (zi (zo 1))), S1)) := ⟨_, (zr_y (lv := [some (za 1 0 0), some (zi xa), some (zi xb), some (za 4 0 0), none]) rfl rfl).trans rfl, fun _ => rfl⟩
theorem wr_326 {d : Nat} {S : zS} {xa xb : Int32} : Wr d 326 129 [zi xa, zi xb] S qN := by
  obtain ⟨H, e1, h1⟩ := we_326 (d := d) (S := S) (xa := xa) (xb := xb)
  refine ⟨fun x S1 h => ?_, fun e v S1 hq h => ?_⟩
  · have h : zr_sem zF d 129 [za 1 0 0, zi xa, zi xb] S = _ := h
    rw [h] at e1
    exact e1
  · have h : zr_sem zF d 129 [za 1 0 0, zi xa, zi xb] S = _ := h
    rw [h] at e1
    unfold qN at hq
    split at hq
    · rename_i c
      subst c
      have hv : 1 = v := by injection hq
      subst hv
      exact e1.trans (h1 S1)
    · cases hq
set_option maxRecDepth 100000 in
theorem we_327 {d : Nat} {S : zS} {xa : Int32} : ∃ H : Nat → zS → Option zO, zr_sem zF (d + 1) 327 [za 1 0 0, zi xa, za 4 0 0] S = zx_ret1 (zr_sem zF d 130 [za 1 0 0, zi xa] S) (fun x S1 => some (.inl (some (zi (zo 0))), zsl S1 x.toInt64)) H ∧ (∀ S1, H 2 S1 = some (.inl (some (zi (zo 1))), S1)) := ⟨_, (zr_y (lv := [some (za 1 0 0), some (zi xa), some (za 4 0 0), none]) rfl rfl).trans rfl, fun _ => rfl⟩
theorem wr_327 {d : Nat} {S : zS} {xa : Int32} : Wr d 327 130 [zi xa] S qI := by
  obtain ⟨H, e1, h2⟩ := we_327 (d := d) (S := S) (xa := xa)
  refine ⟨fun x S1 h => ?_, fun e v S1 hq h => ?_⟩
  · have h : zr_sem zF d 130 [za 1 0 0, zi xa] S = _ := h
    rw [h] at e1
    exact e1
  · have h : zr_sem zF d 130 [za 1 0 0, zi xa] S = _ := h
    rw [h] at e1
    unfold qI at hq
    split at hq
    · rename_i c
      subst c
      have hv : 1 = v := by injection hq
      subst hv
      exact e1.trans (h2 S1)
    · cases hq
set_option maxRecDepth 100000 in
theorem we_328 {d : Nat} {S : zS} {xa xb : Int32} : ∃ H : Nat → zS → Option zO, zr_sem zF (d + 1) 328 [za 1 0 0, zi xa, zi xb, za 4 0 0] S = zx_ret1 (zr_sem zF d 131 [za 1 0 0, zi xa, zi xb] S) (fun x S1 => some (.inl (some (zi (zo 0))), zsl S1 x.toInt64)) H ∧ (∀ S1, H 2 S1 = some (.inl (some (zi (zo 1))), S1)) := ⟨_, (zr_y (lv := [some (za 1 0 0), some (zi xa), some (zi xb), some (za 4 0 0), none]) rfl rfl).trans rfl, fun _ => rfl⟩
theorem wr_328 {d : Nat} {S : zS} {xa xb : Int32} : Wr d 328 131 [zi xa, zi xb] S qI := by
  obtain ⟨H, e1, h2⟩ := we_328 (d := d) (S := S) (xa := xa) (xb := xb)
  refine ⟨fun x S1 h => ?_, fun e v S1 hq h => ?_⟩
  · have h : zr_sem zF d 131 [za 1 0 0, zi xa, zi xb] S = _ := h
    rw [h] at e1
    exact e1
  · have h : zr_sem zF d 131 [za 1 0 0, zi xa, zi xb] S = _ := h
    rw [h] at e1
    unfold qI at hq
    split at hq
    · rename_i c
      subst c
      have hv : 1 = v := by injection hq
      subst hv
      exact e1.trans (h2 S1)
    · cases hq
set_option maxRecDepth 100000 in
theorem we_329 {d : Nat} {S : zS} {xa : Int32} : ∃ H : Nat → zS → Option zO, zr_sem zF (d + 1) 329 [za 1 0 0, zi xa, za 4 0 0] S = zx_ret1 (zr_sem zF d 132 [za 1 0 0, zi xa] S) (fun x S1 => some (.inl (some (zi (zo 0))), zsl S1 x.toInt64)) H ∧ (∀ S1, H 2 S1 = some (.inl (some (zi (zo 1))), S1)) := ⟨_, (zr_y (lv := [some (za 1 0 0), some (zi xa), some (za 4 0 0), none]) rfl rfl).trans rfl, fun _ => rfl⟩
theorem wr_329 {d : Nat} {S : zS} {xa : Int32} : Wr d 329 132 [zi xa] S qI := by
  obtain ⟨H, e1, h2⟩ := we_329 (d := d) (S := S) (xa := xa)
  refine ⟨fun x S1 h => ?_, fun e v S1 hq h => ?_⟩
  · have h : zr_sem zF d 132 [za 1 0 0, zi xa] S = _ := h
    rw [h] at e1
    exact e1
  · have h : zr_sem zF d 132 [za 1 0 0, zi xa] S = _ := h
    rw [h] at e1
    unfold qI at hq
    split at hq
    · rename_i c
      subst c
      have hv : 1 = v := by injection hq
      subst hv
      exact e1.trans (h2 S1)
    · cases hq
set_option maxRecDepth 100000 in
theorem we_330 {d : Nat} {S : zS} {xa : Int32} : ∃ H : Nat → zS → Option zO, zr_sem zF (d + 1) 330 [za 1 0 0, zi xa, za 4 0 0] S = zx_ret1 (zr_sem zF d 133 [za 1 0 0, zi xa] S) (fun x S1 => some (.inl (some (zi (zo 0))), zsl S1 x.toInt64)) H ∧ (∀ S1, H 2 S1 = some (.inl (some (zi (zo 1))), S1)) := ⟨_, (zr_y (lv := [some (za 1 0 0), some (zi xa), some (za 4 0 0), none]) rfl rfl).trans rfl, fun _ => rfl⟩
theorem wr_330 {d : Nat} {S : zS} {xa : Int32} : Wr d 330 133 [zi xa] S qI := by
  obtain ⟨H, e1, h2⟩ := we_330 (d := d) (S := S) (xa := xa)
  refine ⟨fun x S1 h => ?_, fun e v S1 hq h => ?_⟩
  · have h : zr_sem zF d 133 [za 1 0 0, zi xa] S = _ := h
    rw [h] at e1
    exact e1
  · have h : zr_sem zF d 133 [za 1 0 0, zi xa] S = _ := h
    rw [h] at e1
    unfold qI at hq
    split at hq
    · rename_i c
      subst c
      have hv : 1 = v := by injection hq
      subst hv
      exact e1.trans (h2 S1)
    · cases hq
set_option maxRecDepth 100000 in
theorem we_331 {d : Nat} {S : zS} {xa : Int32} : ∃ H : Nat → zS → Option zO, zr_sem zF (d + 1) 331 [za 1 0 0, zi xa, za 4 0 0] S = zx_ret1 (zr_sem zF d 110 [za 1 0 0, zi xa] S) (fun x S1 => some (.inl (some (zi (zo 0))), zsl S1 x.toInt64)) H ∧ (∀ S1, H 1 S1 = some (.inl (some (zi (zo 1))), S1)) := ⟨_, (zr_y (lv := [some (za 1 0 0), some (zi xa), some (za 4 0 0), none]) rfl rfl).trans rfl, fun _ => rfl⟩
theorem wr_331 {d : Nat} {S : zS} {xa : Int32} : Wr d 331 110 [zi xa] S qN := by
  obtain ⟨H, e1, h1⟩ := we_331 (d := d) (S := S) (xa := xa)
  refine ⟨fun x S1 h => ?_, fun e v S1 hq h => ?_⟩
  · have h : zr_sem zF d 110 [za 1 0 0, zi xa] S = _ := h
    rw [h] at e1
    exact e1
  · have h : zr_sem zF d 110 [za 1 0 0, zi xa] S = _ := h
    rw [h] at e1
    unfold qN at hq
    split at hq
    · rename_i c
      subst c
      have hv : 1 = v := by injection hq
      subst hv
      exact e1.trans (h1 S1)
    · cases hq
set_option maxRecDepth 100000 in
theorem we_332 {d : Nat} {S : zS} {xa : Int32} : ∃ H : Nat → zS → Option zO, zr_sem zF (d + 1) 332 [za 1 0 0, zi xa, za 4 0 0] S = zx_ret1 (zr_sem zF d 92 [za 1 0 0, zi xa] S) (fun x S1 => some (.inl (some (zi (zo 0))), zsl S1 x.toInt64)) H ∧ (∀ S1, H 2 S1 = some (.inl (some (zi (zo 1))), S1)) := ⟨_, (zr_y (lv := [some (za 1 0 0), some (zi xa), some (za 4 0 0), none]) rfl rfl).trans rfl, fun _ => rfl⟩
theorem wr_332 {d : Nat} {S : zS} {xa : Int32} : Wr d 332 92 [zi xa] S qI := by
  obtain ⟨H, e1, h2⟩ := we_332 (d := d) (S := S) (xa := xa)
  refine ⟨fun x S1 h => ?_, fun e v S1 hq h => ?_⟩
  · have h : zr_sem zF d 92 [za 1 0 0, zi xa] S = _ := h
    rw [h] at e1
    exact e1
  · have h : zr_sem zF d 92 [za 1 0 0, zi xa] S = _ := h
    rw [h] at e1
    unfold qI at hq
    split at hq
    · rename_i c
      subst c
      have hv : 1 = v := by injection hq
      subst hv
      exact e1.trans (h2 S1)
    · cases hq

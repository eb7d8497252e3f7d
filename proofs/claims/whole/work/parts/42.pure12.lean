def gdX (x y z w h : Int) : Bool := inR x (-1000000) 1000000 && (inR y (-1000000) 1000000 && (inR z (-1000000) 1000000 && (inR w 1 1000000 && inR h 1 1000000)))
theorem gdX_s {x y z w h : Int} (g : gdX x y z w h = true) : (-1000000 ≤ x ∧ x ≤ 1000000) ∧ (-1000000 ≤ y ∧ y ≤ 1000000) ∧ (-1000000 ≤ z ∧ z ≤ 1000000) ∧ (1 ≤ w ∧ w ≤ 1000000) ∧ (1 ≤ h ∧ h ≤ 1000000) := by
  simp only [gdX, inR, Bool.and_eq_true, decide_eq_true_eq] at g
  omega
def boxC (bn : Int) (g : Bool) : Int := if bn = 24 then 1 else if g = true then 0 else 2
theorem boxC_1 {bn : Int} {g : Bool} (h : bn = 24) : 1 = boxC bn g := by unfold boxC; rw [if_pos h]
theorem boxC_0 {bn : Int} {g : Bool} (h : bn ≠ 24) (h2 : bz g ≠ 0) : 0 = boxC bn g := by unfold boxC; rw [if_neg h, if_pos ((bz_eq1 g).mpr h2)]
theorem boxC_2 {bn : Int} {g : Bool} (h : bn ≠ 24) (h2 : bz g = 0) : 2 = boxC bn g := by unfold boxC; rw [if_neg h, if_neg (by rw [(bz_eq0 g).mpr h2]; decide)]
def numM (Ups Pla Beg Ens Hid : Int → Int) (k i : Int) : Int := if i = 0 then Ups k else if i = 1 then Pla k else if i = 2 then Beg k else if i = 3 then Ens k else Hid k
def lnM_ (Ups Pla : Int → Int) (ub ac pl k : Int) : Bool := if ub = 0 then decide (Ups k = 0 ∧ Pla k = pl) else decide (Ups k = 1 ∧ Pla k = ac)
def onF (Ups Pla Beg Ens Hid : Int → Int) (ub ac pl k x : Int) : Int := if lnM_ Ups Pla ub ac pl k = true ∧ Beg k ≤ (if ub = 0 then ac else pl) ∧ (if ub = 0 then ac else pl) ≤ Ens k then (if Hid k < x then Hid k else x) else x
def inkF (Beg Ens Hid : Int → Int) (hd k : Int) : Int := if (if Hid k = 1 then 1 else 0) = hd then Ens k - Beg k else 0
theorem noB_0 {bn b : Int} (h : noB bn b = 0) : 0 ≤ b ∧ b < bn := by
  unfold noB at h
  split at h
  · assumption
  · omega
theorem noB_in (bn b : Int) : noB bn b = 0 ∨ noB bn b = 1 := by unfold noB; split <;> omega
def deC (bn b : Int) (g : Bool) : Int := if noB bn b = 0 then (if g = true then 0 else 2) else 1
theorem deC_1 {bn b : Int} {g : Bool} (h : noB bn b ≠ 0) : noB bn b = deC bn b g := by
  unfold deC; rw [if_neg h]; have := noB_in bn b; omega
theorem noB_t {bn b : Int} (h : 0 ≤ b ∧ b < bn) : noB bn b = 0 := by unfold noB; rw [if_pos h]
theorem deC_0 {bn b : Int} {g : Bool} (h : 0 ≤ b ∧ b < bn) (h2 : bz g ≠ 0) : 0 = deC bn b g := by unfold deC; rw [if_pos (noB_t h), if_pos ((bz_eq1 g).mpr h2)]
theorem deC_2 {bn b : Int} {g : Bool} (h : 0 ≤ b ∧ b < bn) (h2 : bz g = 0) : 2 = deC bn b g := by unfold deC; rw [if_pos (noB_t h), if_neg (by rw [(bz_eq0 g).mpr h2]; decide)]

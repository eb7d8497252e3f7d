/-! THE FACE OF THE CLASS: what its tests say -/
theorem inR_1 {v a b : Int} (h : a ≤ v ∧ v ≤ b) : bz (inR v a b) = 1 := by
  unfold inR
  rw [decide_eq_true h]
  rfl
theorem inR_0 {v a b : Int} (h : ¬ (a ≤ v ∧ v ≤ b)) : bz (inR v a b) = 0 := by
  unfold inR
  rw [decide_eq_false h]
  rfl
theorem gdX_n {x y z w h : Int} (hg : gdX x y z w h = false) (h1 : bz (inR x (-1000000) 1000000) ≠ 0) (h2 : bz (inR y (-1000000) 1000000) ≠ 0) (h3 : bz (inR z (-1000000) 1000000) ≠ 0) (h4 : bz (inR w 1 1000000) ≠ 0) (h5 : bz (inR h 1 1000000) ≠ 0) : False := by
  rw [gdX, (bz_eq1 _).mpr h1, (bz_eq1 _).mpr h2, (bz_eq1 _).mpr h3, (bz_eq1 _).mpr h4, (bz_eq1 _).mpr h5] at hg
  cases hg
theorem goB_0 {P0 P1 P2 : Int → Int} {wa j : Int} : bz (goB P0 P1 P2 0 wa j) = if -1000000 - P0 j ≤ wa ∧ wa ≤ 1000000 - P0 j then 1 else 0 := by
  unfold goB sel3 bz
  simp only [if_true, decide_eq_true_eq]
theorem goB_1 {P0 P1 P2 : Int → Int} {wa j : Int} : bz (goB P0 P1 P2 1 wa j) = if -1000000 - P1 j ≤ wa ∧ wa ≤ 1000000 - P1 j then 1 else 0 := by
  have z : ((1 : Int) = 0) = False := by simp
  unfold goB sel3 bz
  simp only [z, if_true, if_false, decide_eq_true_eq]
theorem goB_2 {P0 P1 P2 : Int → Int} {wa j : Int} : bz (goB P0 P1 P2 2 wa j) = if -1000000 - P2 j ≤ wa ∧ wa ≤ 1000000 - P2 j then 1 else 0 := by
  have z : ((2 : Int) = 0) = False := by simp
  have z2 : ((2 : Int) = 1) = False := by simp
  unfold goB sel3 bz
  simp only [z, z2, if_false, decide_eq_true_eq]
abbrev goA (p w : Int) : Prop := -1000000 - p ≤ w ∧ w ≤ 1000000 - p
theorem sel3_0 {α : Type} {f g h : α} : sel3 0 f g h = f := rfl
theorem by_contra_if {P : Prop} [Decidable P] {v : Int} (h : v = if P then 1 else 0) (h2 : v ≠ 0) : P := by
  by_cases g : P
  · exact g
  · rw [if_neg g] at h; exact absurd h h2

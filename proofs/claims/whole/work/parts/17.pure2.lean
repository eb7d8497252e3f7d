/-- views: the axis of the depth, across, up; a box's near and far side, its front -/
def dax (v : Int) : Int := if v < 2 then 2 else if v < 4 then 0 else 1
def acx (d : Int) : Int := if d = 0 then 1 else 0
def upx (d : Int) : Int := if d = 2 then 1 else 2
theorem dax_in (v : Int) : dax v = 0 ∨ dax v = 1 ∨ dax v = 2 := by unfold dax; split; omega; split <;> omega
theorem acx_in (d : Int) : acx d = 0 ∨ acx d = 1 ∨ acx d = 2 := by unfold acx; split <;> omega
theorem upx_in (d : Int) : upx d = 0 ∨ upx d = 1 ∨ upx d = 2 := by unfold upx; split <;> omega
def bNr (P0 P1 P2 : Int → Int) (ax j : Int) : Int := sel3 ax P0 P1 P2 j
def bFr (P0 P1 P2 S0 S1 S2 : Int → Int) (ax j : Int) : Int := sel3 ax P0 P1 P2 j + sel3 ax S0 S1 S2 j
def bFt (P0 P1 P2 S0 S1 S2 : Int → Int) (v j : Int) : Int := if v.tmod 2 = 0 then bNr P0 P1 P2 (dax v) j else -(bFr P0 P1 P2 S0 S1 S2 (dax v) j)
def boxB (n : Int) (P0 P1 P2 S0 S1 S2 : Int → Int) : Prop := ∀ j : Int, 0 ≤ j → j < n → ((-1000000 ≤ P0 j ∧ P0 j ≤ 1000000) ∧ (-1000000 ≤ P1 j ∧ P1 j ≤ 1000000) ∧ (-1000000 ≤ P2 j ∧ P2 j ≤ 1000000)) ∧ (1 ≤ S0 j ∧ S0 j ≤ 1000000) ∧ (1 ≤ S1 j ∧ S1 j ≤ 1000000) ∧ (1 ≤ S2 j ∧ S2 j ≤ 1000000)
theorem boxB_s {n : Int} {P0 P1 P2 S0 S1 S2 : Int → Int} (h : boxB n P0 P1 P2 S0 S1 S2) (ax : Int) {j : Int} (h0 : 0 ≤ j) (h1 : j < n) : (-1000000 ≤ sel3 ax P0 P1 P2 j ∧ sel3 ax P0 P1 P2 j ≤ 1000000) ∧ (1 ≤ sel3 ax S0 S1 S2 j ∧ sel3 ax S0 S1 S2 j ≤ 1000000) := by
  have := h j h0 h1
  unfold sel3
  by_cases h2 : ax = 0
  · rw [if_pos h2, if_pos h2]; exact ⟨this.1.1, this.2.1⟩
  · rw [if_neg h2, if_neg h2]
    by_cases h3 : ax = 1
    · rw [if_pos h3, if_pos h3]; exact ⟨this.1.2.1, this.2.2.1⟩
    · rw [if_neg h3, if_neg h3]; exact ⟨this.1.2.2, this.2.2.2⟩
theorem tmod2 {v : Int} (h0 : 0 ≤ v) : 0 ≤ v.tmod 2 ∧ v.tmod 2 ≤ 1 := by
  rw [Int.tmod_eq_emod_of_nonneg h0]; omega

/-- a rectangle's numbers, of box j in view v -/
def rcAt (P0 P1 P2 S0 S1 S2 : Int → Int) (v a b c d z j : Int) : Prop := a = bNr P0 P1 P2 (acx (dax v)) j ∧ b = bNr P0 P1 P2 (upx (dax v)) j ∧ c = bFr P0 P1 P2 S0 S1 S2 (acx (dax v)) j ∧ d = bFr P0 P1 P2 S0 S1 S2 (upx (dax v)) j ∧ z = bFt P0 P1 P2 S0 S1 S2 v j
theorem rc_b {n : Int} {P0 P1 P2 S0 S1 S2 : Int → Int} (h : boxB n P0 P1 P2 S0 S1 S2) {j : Int} (h0 : 0 ≤ j) (h1 : j < n) (v : Int) : I32 (bNr P0 P1 P2 (acx (dax v)) j) ∧ I32 (bNr P0 P1 P2 (upx (dax v)) j) ∧ I32 (bFr P0 P1 P2 S0 S1 S2 (acx (dax v)) j) ∧ I32 (bFr P0 P1 P2 S0 S1 S2 (upx (dax v)) j) ∧ I32 (bFt P0 P1 P2 S0 S1 S2 v j) := by
  have a := boxB_s h (acx (dax v)) h0 h1
  have b := boxB_s h (upx (dax v)) h0 h1
  have c := boxB_s h (dax v) h0 h1
  unfold bFt bNr bFr
  refine ⟨by omega, by omega, by omega, by omega, ?_⟩
  split <;> omega
theorem rcAt_up {P0 P1 P2 S0 S1 S2 xa xb ya yb zc : Int → Int} {v i : Int} (h : ∀ j : Int, 0 ≤ j → j < i → rcAt P0 P1 P2 S0 S1 S2 v (xa j) (xb j) (ya j) (yb j) (zc j) j) : ∀ j : Int, 0 ≤ j → j < i + 1 → rcAt P0 P1 P2 S0 S1 S2 v (upz xa i (bNr P0 P1 P2 (acx (dax v)) i) j) (upz xb i (bNr P0 P1 P2 (upx (dax v)) i) j) (upz ya i (bFr P0 P1 P2 S0 S1 S2 (acx (dax v)) i) j) (upz yb i (bFr P0 P1 P2 S0 S1 S2 (upx (dax v)) i) j) (upz zc i (bFt P0 P1 P2 S0 S1 S2 v i) j) j := by
  intro j h0 h1
  by_cases e : j = i
  · subst e
    rw [upz_s, upz_s, upz_s, upz_s, upz_s]
    exact ⟨rfl, rfl, rfl, rfl, rfl⟩
  · rw [upz_n e, upz_n e, upz_n e, upz_n e, upz_n e]
    exact h j h0 (by omega)

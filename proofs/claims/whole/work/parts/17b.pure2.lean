def insB (P0 P1 P2 S0 S1 S2 : Int → Int) (ax q j : Int) : Bool := decide (bNr P0 P1 P2 ax j < q ∧ q < bFr P0 P1 P2 S0 S1 S2 ax j)
def goB (P0 P1 P2 : Int → Int) (ax wa j : Int) : Bool := decide (-1000000 - sel3 ax P0 P1 P2 j ≤ wa ∧ wa ≤ 1000000 - sel3 ax P0 P1 P2 j)
theorem bzd {P : Prop} {i : Decidable P} {z : Int} (h1 : P → z = 1) (h2 : ¬ P → z = 0) : z = bz (@decide P i) := by
  by_cases h : P
  · rw [h1 h, decide_eq_true h]; rfl
  · rw [h2 h, decide_eq_false h]; rfl

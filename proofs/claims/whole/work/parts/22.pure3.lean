/-- the boxes that a place cuts, in their order -/
def cutL (P0 P1 P2 S0 S1 S2 : Int → Int) (ax q n : Int) : List Int := foldZ (fun i L => if insB P0 P1 P2 S0 S1 S2 ax q i = true then L ++ [i] else L) [] n
theorem cutL_t {P0 P1 P2 S0 S1 S2 : Int → Int} {ax q i : Int} (h0 : 0 ≤ i) (h : insB P0 P1 P2 S0 S1 S2 ax q i = true) : cutL P0 P1 P2 S0 S1 S2 ax q (i + 1) = cutL P0 P1 P2 S0 S1 S2 ax q i ++ [i] := by
  unfold cutL; rw [foldZ_s _ _ h0, if_pos h]
theorem cutL_f {P0 P1 P2 S0 S1 S2 : Int → Int} {ax q i : Int} (h0 : 0 ≤ i) (h : insB P0 P1 P2 S0 S1 S2 ax q i = false) : cutL P0 P1 P2 S0 S1 S2 ax q (i + 1) = cutL P0 P1 P2 S0 S1 S2 ax q i := by
  unfold cutL; rw [foldZ_s _ _ h0, if_neg (by rw [h]; decide)]
theorem arrL_app {G : Int → Int} {n v : Int} {L : List Int} (h : arrL G n L) : arrL (upz G n v) (n + 1) (L ++ [v]) := by
  obtain ⟨hn, hG⟩ := h
  refine ⟨by rw [hn]; simp, fun k hk => ?_⟩
  simp only [List.length_append, List.length_cons, List.length_nil] at hk
  by_cases e : k = L.length
  · subst e
    rw [hn, upz_s, List.getD_eq_getElem?_getD]
    simp
  · rw [upz_n (by omega), hG k (by omega), List.getD_eq_getElem?_getD, List.getD_eq_getElem?_getD, List.getElem?_append_left (by omega)]
theorem rcAt_app {P0 P1 P2 S0 S1 S2 xa xb ya yb zc IX : Int → Int} {v k i : Int} (h : ∀ j : Int, 0 ≤ j → j < k → rcAt P0 P1 P2 S0 S1 S2 v (xa j) (xb j) (ya j) (yb j) (zc j) (IX j)) : ∀ j : Int, 0 ≤ j → j < k + 1 → rcAt P0 P1 P2 S0 S1 S2 v (upz xa k (bNr P0 P1 P2 (acx (dax v)) i) j) (upz xb k (bNr P0 P1 P2 (upx (dax v)) i) j) (upz ya k (bFr P0 P1 P2 S0 S1 S2 (acx (dax v)) i) j) (upz yb k (bFr P0 P1 P2 S0 S1 S2 (upx (dax v)) i) j) (upz zc k (bFt P0 P1 P2 S0 S1 S2 v i) j) (upz IX k i j) := by
  intro j h0 h1
  by_cases e : j = k
  · subst e
    rw [upz_s, upz_s, upz_s, upz_s, upz_s, upz_s]
    exact ⟨rfl, rfl, rfl, rfl, rfl⟩
  · rw [upz_n e, upz_n e, upz_n e, upz_n e, upz_n e, upz_n e]
    exact h j h0 (by omega)
/-- tracing: covered all along; the state of a line's piece; the edges of a line -/
def owy (w : Int) : Int := if w = 0 then 1 else 0
def covP (F T Fb Tb Z : Int → Int) (z y be en i : Int) : Bool := decide (Z i < z ∧ Fb i < y ∧ y < Tb i) && spZ F T i be en
def stE (F T Fb Tb Z : Int → Int) (rn y be en : Int) : List Int → Int
  | [] => 2
  | i :: t => if spZ F T i be en = true then (if anyZ (covP F T Fb Tb Z (Z i) y be en) rn = true then (if stE F T Fb Tb Z rn y be en t = 0 then 0 else 1) else 0) else stE F T Fb Tb Z rn y be en t
def edgP (Fb Tb : Int → Int) (y i : Int) : Bool := decide (Fb i = y ∨ Tb i = y)
def edgL (Fb Tb : Int → Int) (y k : Int) : List Int := foldZ (fun i L => if edgP Fb Tb y i = true then L ++ [i] else L) [] k
theorem edgL_t {Fb Tb : Int → Int} {y i : Int} (h0 : 0 ≤ i) (h : edgP Fb Tb y i = true) : edgL Fb Tb y (i + 1) = edgL Fb Tb y i ++ [i] := by unfold edgL; rw [foldZ_s _ _ h0, if_pos h]
theorem edgL_f {Fb Tb : Int → Int} {y i : Int} (h0 : 0 ≤ i) (h : edgP Fb Tb y i = false) : edgL Fb Tb y (i + 1) = edgL Fb Tb y i := by unfold edgL; rw [foldZ_s _ _ h0, if_neg (by rw [h]; decide)]

theorem edgL_len {Fb Tb : Int → Int} {y : Int} (k : Int) : (edgL Fb Tb y k).length ≤ k.toNat := by
  unfold edgL foldZ
  generalize k.toNat = n
  induction n with
  | zero => exact Nat.le_refl _
  | succ n ih =>
    show List.length (if edgP Fb Tb y (n : Int) = true then _ else _) ≤ _
    split
    · simp only [List.length_append, List.length_cons, List.length_nil]; omega
    · omega
theorem owy_in (w : Int) : owy w = 0 ∨ owy w = 1 := by unfold owy; split <;> omega
theorem wayL_c (F T Fb Tb Z : Int → Int) (rn : Int) (GK : Int → Int) (nk y : Int) (t : List Int) : wayL F T Fb Tb Z rn GK nk (y :: t) = onLine y (runZ (linS F T Fb Tb Z rn y GK (edgL Fb Tb y rn)) GK nk 0 2 0) ++ wayL F T Fb Tb Z rn GK nk t := List.flatMap_cons
theorem onLine_len (y : Int) (r : List (Int × Int × Int)) : (onLine y r).length = r.length := List.length_map _
theorem arrL_get {G : Int → Int} {n : Int} {L : List Int} (h : arrL G n L) {i : Nat} (hi : i < L.length) : L.drop i = G (i : Int) :: L.drop (i + 1) := by
  rw [drop_c hi, h.2 i hi]

def linS (F T Fb Tb Z : Int → Int) (rn y : Int) (GK : Int → Int) (L : List Int) (i : Int) : Int := stE F T Fb Tb Z rn y (GK i) (GK (i + 1)) L
theorem linS_in {F T Fb Tb Z GK : Int → Int} {rn y : Int} {L : List Int} (i : Int) : linS F T Fb Tb Z rn y GK L i = 0 ∨ linS F T Fb Tb Z rn y GK L i = 1 ∨ linS F T Fb Tb Z rn y GK L i = 2 := stE_in L
theorem onLine_c (y a b d : Int) (r : List (Int × Int × Int)) : onLine y ([(a, b, d)] ++ r) = (y, a, b, d) :: onLine y r := rfl
theorem app_c {α : Type} (L : List α) (a : α) (r : List α) : L ++ a :: r = (L ++ [a]) ++ r := by simp
/-- all strokes of a way: a line after the other -/
def wayL (F T Fb Tb Z : Int → Int) (rn : Int) (GK : Int → Int) (nk : Int) (ys : List Int) : List (Int × Int × Int × Int) := ys.flatMap fun y => onLine y (runZ (linS F T Fb Tb Z rn y GK (edgL Fb Tb y rn)) GK nk 0 2 0)

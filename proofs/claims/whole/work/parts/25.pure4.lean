theorem edgL_all {Fb Tb : Int → Int} {y : Int} (k : Int) : ∀ z ∈ edgL Fb Tb y k, 0 ≤ z ∧ z < k := by
  have key : ∀ n : Nat, ∀ z ∈ foldN (fun i L => if edgP Fb Tb y i = true then L ++ [i] else L) [] n, 0 ≤ z ∧ z < (n : Int) := by
    intro n
    induction n with
    | zero => intro z hz; cases hz
    | succ n ih =>
      intro z hz
      have hz : z ∈ (if edgP Fb Tb y (n : Int) = true then foldN (fun i L => if edgP Fb Tb y i = true then L ++ [i] else L) [] n ++ [(n : Int)] else foldN (fun i L => if edgP Fb Tb y i = true then L ++ [i] else L) [] n) := hz
      split at hz
      · rcases List.mem_append.mp hz with h | h
        · have := ih z h; omega
        · have : z = (n : Int) := by simpa using h
          omega
      · have := ih z hz; omega
  intro z hz
  have := key k.toNat z hz
  omega
theorem drop_c {L : List Int} {i : Nat} (h : i < L.length) : L.drop i = L.getD i 0 :: L.drop (i + 1) := by
  rw [List.getD_eq_getElem?_getD, List.getElem?_eq_getElem h]
  exact List.drop_eq_getElem_cons h
def cmbS (q r : Int) : Int := if q = 1 then (if r = 0 then 0 else 1) else r
theorem stE_in {F T Fb Tb Z : Int → Int} {rn y be en : Int} : ∀ L : List Int, stE F T Fb Tb Z rn y be en L = 0 ∨ stE F T Fb Tb Z rn y be en L = 1 ∨ stE F T Fb Tb Z rn y be en L = 2
  | [] => by unfold stE; omega
  | i :: t => by
    have := stE_in (F := F) (T := T) (Fb := Fb) (Tb := Tb) (Z := Z) (rn := rn) (y := y) (be := be) (en := en) t
    unfold stE
    split
    · split
      · split <;> omega
      · omega
    · exact this
theorem stE_n {F T Fb Tb Z : Int → Int} {rn y be en i : Int} {t : List Int} (h : spZ F T i be en = false) : stE F T Fb Tb Z rn y be en (i :: t) = stE F T Fb Tb Z rn y be en t := by
  show (if _ then _ else _) = _
  rw [if_neg (by rw [h]; decide)]
theorem stE_s {F T Fb Tb Z : Int → Int} {rn y be en i : Int} {t : List Int} (h : spZ F T i be en = true) (h2 : anyZ (covP F T Fb Tb Z (Z i) y be en) rn = false) : stE F T Fb Tb Z rn y be en (i :: t) = 0 := by
  show (if _ then _ else _) = _
  rw [if_pos h, if_neg (by rw [h2]; decide)]
theorem stE_h {F T Fb Tb Z : Int → Int} {rn y be en i q : Int} {t : List Int} (h : spZ F T i be en = true) (h2 : anyZ (covP F T Fb Tb Z (Z i) y be en) rn = true) : cmbS q (stE F T Fb Tb Z rn y be en (i :: t)) = cmbS 1 (stE F T Fb Tb Z rn y be en t) := by
  have e : stE F T Fb Tb Z rn y be en (i :: t) = (if stE F T Fb Tb Z rn y be en t = 0 then 0 else 1) := by
    show (if _ then _ else _) = _
    rw [if_pos h, if_pos h2]
  rw [e]
  unfold cmbS
  by_cases h0 : stE F T Fb Tb Z rn y be en t = 0 <;> simp [h0]
/-- the runs of equal states along the cuts, from the cut that is k before the last: begin, end, state -/
def runN (S G : Int → Int) (nk : Int) : Nat → Int → Int → List (Int × Int × Int)
  | 0, _, _ => []
  | k + 1, st, be => if (if nk - ((k + 1 : Nat) : Int) + 1 < nk then S (nk - ((k + 1 : Nat) : Int)) else 2) = st then runN S G nk k st be else (if st = 2 then [] else [(be, G (nk - ((k + 1 : Nat) : Int)), st)]) ++ runN S G nk k (if nk - ((k + 1 : Nat) : Int) + 1 < nk then S (nk - ((k + 1 : Nat) : Int)) else 2) (G (nk - ((k + 1 : Nat) : Int)))
def runZ (S G : Int → Int) (nk i st be : Int) : List (Int × Int × Int) := runN S G nk (nk - i).toNat st be
theorem runZ_e (S G : Int → Int) {nk i st be : Int} (h : nk ≤ i) : runZ S G nk i st be = [] := by
  unfold runZ; rw [show (nk - i).toNat = 0 by omega]; rfl
theorem runZ_s (S G : Int → Int) {nk i st be nx : Int} (h : i < nk) (hn : nx = if i + 1 < nk then S i else 2) : runZ S G nk i st be = if nx = st then runZ S G nk (i + 1) st be else (if st = 2 then [] else [(be, G i, st)]) ++ runZ S G nk (i + 1) nx (G i) := by
  unfold runZ
  have e : (nk - i).toNat = (nk - (i + 1)).toNat + 1 := by omega
  have e2 : nk - (((nk - (i + 1)).toNat + 1 : Nat) : Int) = i := by omega
  rw [e]
  show (if (if nk - (((nk - (i + 1)).toNat + 1 : Nat) : Int) + 1 < nk then S (nk - (((nk - (i + 1)).toNat + 1 : Nat) : Int)) else 2) = st then _ else _) = _
  rw [e2, ← hn]
/-- strokes in four arrays hold a list: line, begin, end, state -/
def arrS (n : Int) (Li Be En St : Int → Int) (L : List (Int × Int × Int × Int)) : Prop := n = (L.length : Int) ∧ ∀ k : Nat, k < L.length → (Li (k : Int), Be (k : Int), En (k : Int), St (k : Int)) = L.getD k (0, 0, 0, 0)
theorem arrS_app {n : Int} {Li Be En St : Int → Int} {L : List (Int × Int × Int × Int)} {a b c d : Int} (h : arrS n Li Be En St L) : arrS (n + 1) (upz Li n a) (upz Be n b) (upz En n c) (upz St n d) (L ++ [(a, b, c, d)]) := by
  obtain ⟨hn, hG⟩ := h
  refine ⟨by rw [hn]; simp, fun k hk => ?_⟩
  simp only [List.length_append, List.length_cons, List.length_nil] at hk
  by_cases e : k = L.length
  · subst e
    rw [hn, upz_s, upz_s, upz_s, upz_s, List.getD_eq_getElem?_getD]
    simp
  · rw [upz_n (by omega), upz_n (by omega), upz_n (by omega), upz_n (by omega), hG k (by omega), List.getD_eq_getElem?_getD, List.getD_eq_getElem?_getD, List.getElem?_append_left (by omega)]
def onLine (y : Int) (r : List (Int × Int × Int)) : List (Int × Int × Int × Int) := r.map fun q => (y, q.1, q.2.1, q.2.2)

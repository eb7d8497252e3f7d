/-! LABELS -/
def p10 : Nat → Int
  | 0 => 1
  | k + 1 => 10 * p10 k
theorem p10_pos : ∀ k : Nat, 1 ≤ p10 k
  | 0 => by unfold p10; omega
  | k + 1 => by unfold p10; have := p10_pos k; omega
def dgF : Nat → Int → List Int
  | 0, _ => []
  | f + 1, v => if v ≤ 0 then [] else dgF f (v.tdiv 10) ++ [48 + v.tmod 10]
theorem dgF_f : ∀ (f : Nat) (v : Int), v < p10 f → dgF (f + 1) v = dgF f v
  | 0, v, h => by
    unfold p10 at h
    unfold dgF
    rw [if_pos (by omega)]
  | f + 1, v, h => by
    by_cases hv : v ≤ 0
    · unfold dgF; rw [if_pos hv, if_pos hv]
    · have h2 : v.tdiv 10 < p10 f := by
        unfold p10 at h
        rw [Int.tdiv_eq_ediv_of_nonneg (by omega)]
        omega
      have e := dgF_f f (v.tdiv 10) h2
      show (if v ≤ 0 then [] else dgF (f + 1) (v.tdiv 10) ++ [48 + v.tmod 10]) = (if v ≤ 0 then [] else dgF f (v.tdiv 10) ++ [48 + v.tmod 10])
      rw [e]
/-- the digits of a number, none of 0 -/
def dgx (v : Int) : List Int := dgF 10 v
theorem dgx_0 : dgx 0 = [] := rfl
theorem dgx_s {v : Int} (h0 : 0 < v) (h1 : v < 1000000000) : dgx v = dgx (v.tdiv 10) ++ [48 + v.tmod 10] := by
  have h2 : v.tdiv 10 < p10 9 := by
    rw [Int.tdiv_eq_ediv_of_nonneg (by omega)]
    have : p10 9 = 1000000000 := by decide
    omega
  show (if v ≤ 0 then [] else dgF 9 (v.tdiv 10) ++ [48 + v.tmod 10]) = dgF 10 (v.tdiv 10) ++ [48 + v.tmod 10]
  rw [if_neg (by omega), dgF_f 9 _ h2]
theorem dgF_len : ∀ (f k : Nat) (v : Int), v < p10 k → (dgF f v).length ≤ k
  | 0, k, v, _ => Nat.zero_le _
  | f + 1, 0, v, h => by
    unfold p10 at h
    unfold dgF
    rw [if_pos (by omega)]
    exact Nat.le_refl _
  | f + 1, k + 1, v, h => by
    unfold dgF
    split
    · exact Nat.zero_le _
    · unfold p10 at h
      have := dgF_len f k (v.tdiv 10) (by rw [Int.tdiv_eq_ediv_of_nonneg (by omega)]; omega)
      simp only [List.length_append, List.length_cons, List.length_nil]
      omega
theorem p10_7 : p10 7 = 10000000 := by decide
theorem dgx_len {v : Int} (h : v ≤ 2000000) : (dgx v).length ≤ 7 := dgF_len 10 7 v (by rw [p10_7]; omega)
theorem dgF_in : ∀ (f : Nat) (v x : Int), x ∈ dgF f v → 48 ≤ x ∧ x ≤ 57
  | 0, _, _, h => absurd h List.not_mem_nil
  | f + 1, v, x, h => by
    unfold dgF at h
    split at h
    · exact absurd h List.not_mem_nil
    · rcases List.mem_append.mp h with g | g
      · exact dgF_in f _ x g
      · have e : x = 48 + v.tmod 10 := by simpa using g
        have h1 := Int.tmod_nonneg 10 (show 0 ≤ v by omega)
        have h2 := Int.tmod_lt_of_pos v (show (0 : Int) < 10 by decide)
        omega
/-- a power's step: the digits down to it -/
theorem dgx_p {v d : Int} (h0 : 0 < v) (h1 : v < 1000000000) (hd : 0 < d) (hdv : d ≤ v) : dgx (v.tdiv d) = dgx (v.tdiv (10 * d)) ++ [48 + (v.tdiv d).tmod 10] := by
  have e0 : v.tdiv d = v / d := Int.tdiv_eq_ediv_of_nonneg (by omega)
  have p1 : 0 < v / d := by
    have := Int.ediv_le_ediv hd hdv
    rw [Int.ediv_self (by omega)] at this
    omega
  have p2 : v / d ≤ v := Int.ediv_le_self _ (by omega)
  have e1 : v.tdiv (10 * d) = (v.tdiv d).tdiv 10 := by
    rw [e0, Int.tdiv_eq_ediv_of_nonneg (by omega), Int.tdiv_eq_ediv_of_nonneg (by omega), Int.ediv_ediv, if_neg (by omega), Int.sub_zero, Int.mul_comm]
  rw [e1, e0]
  exact dgx_s p1 (by omega)
theorem tdiv_0 {v d : Int} (h0 : 0 ≤ v) (hd : v < d) : v.tdiv d = 0 := by
  rw [Int.tdiv_eq_ediv_of_nonneg h0]; exact Int.ediv_eq_zero_of_lt h0 hd
/-- one letter more -/
theorem arrL_a {G : Int → Int} {n v : Int} {L : List Int} (h : arrL G n L) : arrL (upz G n v) (n + 1) (L ++ [v]) := arrL_app h
def ckF (G : Int → Int) (k : Int) : Int := if 48 ≤ G k ∧ G k ≤ 57 then (G k - 48) * (k + 1) else 0
def lisG (L : List Int) (k : Int) : Int := L.getD k.toNat 0
def labL (w h d : Int) : List Int := [87] ++ dgx w ++ [72] ++ dgx h ++ [68] ++ dgx d
def ckS (L : List Int) : Int := sumZ (ckF (lisG L)) (L.length : Int)
def labF (w h d : Int) : List Int := labL w h d ++ [35] ++ [48 + (ckS (labL w h d)).tmod 10]
def chrL (w h d i : Int) : Int := if i < ((labF w h d).length : Int) then lisG (labF w h d) i else -1
theorem sumZ_e {f g : Int → Int} {n : Int} (hn : 0 ≤ n) (h : ∀ i : Int, 0 ≤ i → i < n → f i = g i) : sumZ f n = sumZ g n := by
  have key : ∀ k : Nat, (k : Int) ≤ n → sumZ f (k : Int) = sumZ g (k : Int) := by
    intro k
    induction k with
    | zero => intro _; rfl
    | succ k ih =>
      intro hk
      rw [show ((k + 1 : Nat) : Int) = (k : Int) + 1 by omega, sumZ_s _ (by omega), sumZ_s _ (by omega), ih (by omega), h (k : Int) (by omega) (by omega)]
  have := key n.toNat (by omega)
  rw [Int.toNat_of_nonneg hn] at this
  exact this
theorem arrL_i {G : Int → Int} {n : Int} {L : List Int} (h : arrL G n L) {j : Int} (h0 : 0 ≤ j) (h1 : j < n) : G j = lisG L j := by
  have := h.2 j.toNat (by have := h.1; omega)
  rw [Int.toNat_of_nonneg h0] at this
  exact this
theorem ckS_a {G : Int → Int} {n : Int} {L : List Int} (h : arrL G n L) : sumZ (ckF G) n = ckS L := by
  unfold ckS
  rw [← h.1]
  refine sumZ_e (by have := h.1; omega) (fun i h0 h1 => ?_)
  unfold ckF
  rw [arrL_i h h0 h1]
theorem labL_len {w h d : Int} (hw : w ≤ 2000000) (hh : h ≤ 2000000) (hd : d ≤ 2000000) : (labL w h d).length ≤ 24 := by
  have h1 := dgx_len hw; have h2 := dgx_len hh; have h3 := dgx_len hd
  unfold labL
  simp only [List.length_append, List.length_cons, List.length_nil]
  omega
theorem adn_d {k : Nat} {d v : Int} (h : d = 0 ∨ (d = p10 k ∧ 1 ≤ d ∧ d ≤ v)) (h1 : 1 ≤ d) : d.tdiv 10 = 0 ∨ (d.tdiv 10 = p10 (k - 1) ∧ 1 ≤ d.tdiv 10 ∧ d.tdiv 10 ≤ v) := by
  rcases h with h | ⟨h2, h3, h4⟩
  · omega
  · rw [Int.tdiv_eq_ediv_of_nonneg (by omega)]
    cases k with
    | zero =>
      have : p10 0 = 1 := rfl
      left
      omega
    | succ k =>
      have e : p10 (k + 1) = 10 * p10 k := rfl
      have e2 : k + 1 - 1 = k := by omega
      have := p10_pos k
      rw [e2]
      right
      omega
theorem adn_s {k : Nat} {G : Int → Int} {n d v : Int} {A : List Int} (h9 : arrL G n (A ++ dgx (v.tdiv d))) (h : d = 0 ∨ (d = p10 k ∧ 1 ≤ d ∧ d ≤ v)) (h1 : 1 ≤ d) : arrL G n (A ++ (if d.tdiv 10 = 0 then dgx v else dgx (v.tdiv (10 * d.tdiv 10)))) := by
  rcases h with h | ⟨h2, h3, h4⟩
  · omega
  · have e0 : d.tdiv 10 = d / 10 := Int.tdiv_eq_ediv_of_nonneg (by omega)
    cases k with
    | zero =>
      have e1 : p10 0 = 1 := rfl
      have e2 : d = 1 := by omega
      subst e2
      rw [if_pos (by decide)]
      rw [Int.tdiv_one] at h9
      exact h9
    | succ k =>
      have e : p10 (k + 1) = 10 * p10 k := rfl
      have := p10_pos k
      rw [e0, if_neg (by omega), show 10 * (d / 10) = d by omega]
      exact h9
theorem cod_1 {G : Int → Int} {n j s w h d i : Int} (hT : arrL G n (labL w h d)) (hj : j = n) (hs : s = sumZ (ckF G) j) (h0 : 0 ≤ i) (h1 : i < n + 2) : upz (upz G n 35) (n + 1) (48 + s.tmod 10) i = chrL w h d i := by
  have e : s = ckS (labL w h d) := by rw [hs, hj, ckS_a hT]
  have h2 := arrL_a (v := 48 + s.tmod 10) (arrL_a (v := 35) hT)
  rw [e] at h2 ⊢
  have h3 := arrL_i h2 h0 (by omega)
  rw [h3]
  unfold chrL
  have h4 := h2.1
  have h5 : i < ((labF w h d).length : Int) := by
    show i < ((labL w h d ++ [35] ++ [48 + (ckS (labL w h d)).tmod 10]).length : Int)
    omega
  rw [if_pos h5]
  rfl
theorem cod_2 {G : Int → Int} {n w h d i : Int} (hT : arrL G n (labL w h d)) (h1 : n + 2 ≤ i) : -1 = chrL w h d i := by
  have h2 := (arrL_a (v := 48 + (ckS (labL w h d)).tmod 10) (arrL_a (v := 35) hT)).1
  unfold chrL
  rw [if_neg]
  show ¬ i < ((labL w h d ++ [35] ++ [48 + (ckS (labL w h d)).tmod 10]).length : Int)
  omega

/-! DIGITS: what Integer.stringSize and Integer.getChars answer -/
def dgz (v : Int) : List Int := if v = 0 then [48] else dgx v
theorem dgz_x {v : Int} (h : 1 ≤ v) : dgz v = dgx v := if_neg (by omega)
theorem dgx_e {v : Int} (h0 : 0 < v) (h1 : v < 1000000000) : dgx v = dgx (v / 10) ++ [48 + v % 10] := by
  rw [dgx_s h0 h1, Int.tdiv_eq_ediv_of_nonneg (by omega), Int.tmod_eq_emod_of_nonneg (by omega)]
theorem dgx_1 {v : Int} (h0 : 1 ≤ v) (h9 : v ≤ 9) : dgx v = [48 + v] := by
  rw [dgx_e (by omega) (by omega), show v / 10 = 0 by omega, show v % 10 = v by omega, dgx_0]; rfl
theorem dgz_1 {v : Int} (h0 : 0 ≤ v) (h9 : v ≤ 9) : dgz v = [48 + v] := by
  unfold dgz
  by_cases h : v = 0
  · rw [if_pos h, h]; rfl
  · rw [if_neg h, dgx_1 (by omega) h9]
theorem dgz_s2 {v : Int} (h0 : 10 ≤ v) (h9 : v ≤ 99) : dgz v = [48 + v / 10, 48 + v % 10] := by
  rw [dgz_x (by omega), dgx_e (by omega) (by omega), dgx_1 (by omega) (by omega)]; rfl
theorem dgz_s {v : Int} (h0 : 100 ≤ v) (h1 : v < 1000000000) : dgz v = dgz (v / 100) ++ [48 + v % 100 / 10, 48 + v % 100 % 10] := by
  rw [dgz_x (by omega), dgz_x (by omega), dgx_e (by omega) h1, dgx_e (v := v / 10) (by omega) (by omega), show v / 10 / 10 = v / 100 by omega, show v % 100 / 10 = v / 10 % 10 by omega, show v % 100 % 10 = v % 10 by omega, List.append_assoc]; rfl
theorem dgx_ge : ∀ (k : Nat) (v : Int), p10 k ≤ v → v < 1000000000 → k + 1 ≤ (dgx v).length
  | 0, v, h, h1 => by
    have h2 : (1 : Int) ≤ v := h
    rw [dgx_e (by omega) h1, List.length_append]
    simp
  | k + 1, v, h, h1 => by
    have h2 : 10 * p10 k ≤ v := h
    have h3 := p10_pos k
    rw [dgx_e (by omega) h1, List.length_append]
    have := dgx_ge k (v / 10) (by omega) (by omega)
    simp only [List.length_cons, List.length_nil]
    omega
theorem dgz_len {k : Nat} {v : Int} (h0 : 0 ≤ v) (h1 : v < 1000000000) (ha : k = 0 ∨ p10 k ≤ v) (hb : v < p10 (k + 1)) : ((dgz v).length : Int) = k + 1 := by
  by_cases h : v = 0
  · have hk : k = 0 := by
      rcases ha with ha | ha
      · exact ha
      · have := p10_pos k; omega
    rw [h, hk]; rfl
  · rw [dgz_x (by omega)]
    have h2 : k + 1 ≤ (dgx v).length := by
      rcases ha with ha | ha
      · rw [ha]; exact dgx_ge 0 v (show (1 : Int) ≤ v by omega) h1
      · exact dgx_ge k v ha h1
    have h3 : (dgx v).length ≤ k + 1 := dgF_len 10 (k + 1) v hb
    omega
theorem dgz_b {v : Int} (h : v ≤ 1000000) : 1 ≤ (dgz v).length ∨ v < 0 := by
  by_cases h0 : 0 ≤ v
  · left
    by_cases hz : v = 0
    · rw [hz]; decide
    · rw [dgz_x (by omega)]; exact dgx_ge 0 v (show (1 : Int) ≤ v by omega) (by omega)
  · right; omega
theorem dgz_le {v : Int} (h : v ≤ 1000000) : (dgz v).length ≤ 7 := by
  unfold dgz
  split
  · simp
  · exact dgx_len (by omega)
/-- S stands in B from place p on -/
def segA (B : Int → Int) (p : Int) (S : List Int) : Prop := ∀ k : Nat, k < S.length → B (p + k) = S.getD k 0
theorem segA_c {B : Int → Int} {p d : Int} {S : List Int} (h : segA B p S) : segA (upz B (p - 1) d) (p - 1) (d :: S) := by
  intro k hk
  cases k with
  | zero =>
    show upz B (p - 1) d (p - 1 + ((0 : Nat) : Int)) = d
    unfold upz
    rw [if_pos (by omega)]
  | succ k =>
    show upz B (p - 1) d (p - 1 + ((k + 1 : Nat) : Int)) = S.getD k 0
    unfold upz
    rw [if_neg (by omega), show p - 1 + ((k + 1 : Nat) : Int) = p + k by omega]
    exact h k (by simp only [List.length_cons] at hk; omega)
theorem segA_end {V B : Int → Int} {n0 : Int} {L T : List Int} (hk : ∀ j : Int, 0 ≤ j → j < n0 → B j = V j) (hs : segA B n0 T) (hL : arrL V n0 L) : arrL B (n0 + T.length) (L ++ T) := by
  have h1 := hL.1
  refine ⟨by rw [List.length_append]; omega, fun k hk2 => ?_⟩
  by_cases h : k < L.length
  · rw [hk k (by omega) (by omega), hL.2 k h, List.getD_eq_getElem?_getD, List.getD_eq_getElem?_getD, List.getElem?_append_left h]
  · have h3 := hs (k - L.length) (by rw [List.length_append] at hk2; omega)
    rw [show n0 + ((k - L.length : Nat) : Int) = k by omega] at h3
    rw [h3, List.getD_eq_getElem?_getD, List.getD_eq_getElem?_getD, List.getElem?_append_right (by omega)]
theorem arrL_k {V B : Int → Int} {n m : Int} {L : List Int} (hL : arrL V n L) (h : ∀ j : Int, 0 ≤ j → j < m → B j = V j) (hm : n ≤ m) : arrL B n L := by
  have h1 := hL.1
  exact ⟨h1, fun k hk => by rw [h k (by omega) (by omega)]; exact hL.2 k hk⟩
theorem upz_k {B V : Int → Int} {p i d : Int} (h : ∀ j : Int, 0 ≤ j → j < p → B j = V j) (hi : p - 1 ≤ i) : ∀ j : Int, 0 ≤ j → j < p - 1 → upz B i d j = V j := fun j h0 h1 => by
  unfold upz
  rw [if_neg (by omega)]
  exact h j h0 (by omega)
theorem arrL_8 {G : Int → Int} {n : Int} {L : List Int} (h : arrL G n L) {j : Int} (h0 : 0 ≤ j) (h1 : j < n) : G j = lisG L j := arrL_i h h0 h1
theorem p10_b : ∀ {k : Nat}, k ≤ 6 → 1 ≤ p10 (k + 1) ∧ p10 (k + 1) ≤ 10000000
  | 0, _ => by decide
  | 1, _ => by decide
  | 2, _ => by decide
  | 3, _ => by decide
  | 4, _ => by decide
  | 5, _ => by decide
  | 6, _ => by decide
  | n + 7, h => absurd h (by omega)
theorem segA_d {B : Int → Int} {p d : Int} {S : List Int} (h : segA B p S) : segA (upz B (p + (-1)) d) (p + (-1)) (d :: S) := segA_c h
theorem gc_1 {V B : Int → Int} {n0 pos ix q xi v : Int} {S L : List Int} (hsg : segA B pos S) (hkp : ∀ j : Int, 0 ≤ j → j < pos → B j = V j) (hS : dgz q ++ S = dgz v) (hpos : pos = n0 + (dgz q).length) (hix : ix = n0 + (dgz v).length) (h0 : 0 ≤ q) (h1 : q ≤ 9) (hxq : xi = -q) (hL : arrL V n0 L) : arrL (upz B (pos + (-1)) (48 + (-xi) % 10)) ix (L ++ dgz v) := by
  have e0 := dgz_1 h0 h1
  have e1 : (48 + (-xi) % 10 : Int) = 48 + q := by omega
  have e2 : pos = n0 + 1 := by rw [hpos, e0]; rfl
  have h2 := segA_end (V := V) (n0 := n0) (B := upz B (pos + (-1)) (48 + (-xi) % 10)) (T := dgz v) (fun j a b => by rw [upz_n (by omega)]; exact hkp j a (by omega)) (by
    have h3 := segA_d (d := 48 + (-xi) % 10) hsg
    rw [← hS, e0, ← e1, show n0 = pos + (-1) by omega]
    exact h3) hL
  rw [hix]
  exact h2
theorem gc_2 {V B : Int → Int} {n0 pos ix q xi v : Int} {S L : List Int} (hsg : segA B pos S) (hkp : ∀ j : Int, 0 ≤ j → j < pos → B j = V j) (hS : dgz q ++ S = dgz v) (hpos : pos = n0 + (dgz q).length) (hix : ix = n0 + (dgz v).length) (h0 : 10 ≤ q) (h1 : q ≤ 99) (hxq : xi = -q) (hL : arrL V n0 L) : arrL (upz (upz B (pos + (-1)) (48 + (-xi) % 10)) (pos + (-1) + (-1)) (48 + (-xi) / 10)) ix (L ++ dgz v) := by
  have e0 := dgz_s2 h0 h1
  have e1 : (48 + (-xi) % 10 : Int) = 48 + q % 10 := by omega
  have e3 : (48 + (-xi) / 10 : Int) = 48 + q / 10 := by omega
  have e2 : pos = n0 + 2 := by rw [hpos, e0]; rfl
  have h2 := segA_end (V := V) (n0 := n0) (B := upz (upz B (pos + (-1)) (48 + (-xi) % 10)) (pos + (-1) + (-1)) (48 + (-xi) / 10)) (T := dgz v) (fun j a b => by rw [upz_n (by omega), upz_n (by omega)]; exact hkp j a (by omega)) (by
    have h3 := segA_d (d := 48 + (-xi) / 10) (segA_d (d := 48 + (-xi) % 10) hsg)
    rw [← hS, e0, ← e1, ← e3, show n0 = pos + (-1) + (-1) by omega]
    exact h3) hL
  rw [hix]
  exact h2
theorem gc_s {B : Int → Int} {pos q xi d : Int} {S : List Int} (hsg : segA B pos S) (hd : d = q % 100) : segA (upz (upz B (pos + (-1)) (48 + d % 10)) (pos + (-1) + (-1)) (48 + d / 10)) (pos + (-1) + (-1)) ((48 + q % 100 / 10) :: (48 + q % 100 % 10) :: S) := by
  subst hd
  exact segA_d (segA_d hsg)
theorem zI_nc {v : Int} (h : B8 v) : narrow .char (.int (zI v)) = .int (zI v) := congrArg Value.int (n8_x (P := fun v => ((zI v).toUInt32 % 65536).toInt32 = zI v) n8_c h)

/-! answers fit -/
theorem on_b {ac : Int} {Li Be En St : Int → Int} (hS : ∀ j : Int, I32 (St j)) (wy y q n : Int) : I32 (foldZ (stF ac Li Be En St wy y q) 2 n) := by
  unfold foldZ
  generalize n.toNat = k
  induction k with
  | zero => show I32 2; unfold I32; omega
  | succ k ih =>
    show I32 (stF ac Li Be En St wy y q (k : Int) (foldN (stF ac Li Be En St wy y q) 2 k))
    have := hS (k : Int)
    generalize foldN (stF ac Li Be En St wy y q) 2 k = z at ih ⊢
    unfold stF
    split
    · omega
    · exact ih
theorem kth_b (P : Int → Bool) (k : Int) {n : Int} (hn : 0 ≤ n) : -1 ≤ kthZ P k n ∧ kthZ P k n ≤ n := by
  unfold kthZ
  have := leastZ_in (P := fun i => P i && decide (cntZ P i = k)) hn
  split <;> omega
theorem num_b {ac : Int} {Li Be En St : Int → Int} (h1 : ∀ j : Int, I32 (Li j)) (h2 : ∀ j : Int, I32 (Be j)) (h3 : ∀ j : Int, I32 (En j)) (h4 : ∀ j : Int, I32 (St j)) (k i : Int) : I32 (numS ac Li Be En St k i) := by
  have a1 := h1 k
  have a2 := h2 k
  have a3 := h3 k
  have a4 := h4 k
  have a5 := wayZ_01 ac k
  unfold numS
  split
  · unfold I32; omega
  · split
    · exact a1
    · split
      · exact a2
      · split
        · exact a3
        · exact a4
theorem sum_b {f : Int → Int} {B n : Int} (hn : 0 ≤ n) (h : ∀ i : Int, 0 ≤ i → i < n → -B ≤ f i ∧ f i ≤ B) : -(B * n) ≤ sumZ f n ∧ sumZ f n ≤ B * n := by
  have key : ∀ k : Nat, (k : Int) ≤ n → -(B * (k : Int)) ≤ sumZ f (k : Int) ∧ sumZ f (k : Int) ≤ B * (k : Int) := by
    intro k
    induction k with
    | zero => intro _; exact ⟨by show -(B * 0) ≤ 0; omega, by show (0 : Int) ≤ B * 0; omega⟩
    | succ k ih =>
      intro hk
      have i1 := ih (by omega)
      have i2 := h (k : Int) (by omega) (by omega)
      rw [show ((k + 1 : Nat) : Int) = (k : Int) + 1 by omega, sumZ_s _ (by omega), Int.mul_add, Int.mul_one]
      omega
  have := key n.toNat (by omega)
  rw [Int.toNat_of_nonneg hn] at this
  exact this
theorem page_b {ac n wd hg co ro oa ou : Int} {Li : Int → Int} (hl : layP ac n Li wd hg co ro oa ou) (hL : ∀ j : Int, 0 ≤ j → j < n → -2000000 ≤ Li j ∧ Li j ≤ 2000000) (hw : 1 ≤ wd ∧ wd ≤ 65536) (hg1 : 1 ≤ hg ∧ hg ≤ 65536) : I32 (min (co * ro) 2147483647) := by
  have h := lay_in hl hL hw hg1
  have := mul_in (a := co) (b := ro) (A := 20000000) (B := 20000000) (by omega) (by omega) (by omega) (by omega)
  unfold I32
  omega
theorem cnt_I (P : Int → Bool) (n : Int) (h0 : 0 ≤ n) (h1 : n ≤ 2147483647) : I32 (cntZ P n) := by
  have := cntZ_le P n h0
  unfold I32
  omega

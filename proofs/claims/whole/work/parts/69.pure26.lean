/-! THE CLASS'S BOXES AND THE MODEL'S -/
def bmR (bn : Int) (P0 P1 P2 S0 S1 S2 From To : Int → Int) : Prop := ∀ c : Int, 0 ≤ c → c < bn → (From (3 * c) = P0 c ∧ To (3 * c) = P0 c + S0 c) ∧ (From (3 * c + 1) = P1 c ∧ To (3 * c + 1) = P1 c + S1 c) ∧ (From (3 * c + 2) = P2 c ∧ To (3 * c + 2) = P2 c + S2 c)
section BM
variable {bn : Int} {P0 P1 P2 S0 S1 S2 From To : Int → Int}
theorem bm_s (h : bmR bn P0 P1 P2 S0 S1 S2 From To) {ax c : Int} (ha : ax = 0 ∨ ax = 1 ∨ ax = 2) (h0 : 0 ≤ c) (h1 : c < bn) : bNr P0 P1 P2 ax c = From (3 * c + ax) ∧ bFr P0 P1 P2 S0 S1 S2 ax c = To (3 * c + ax) := by
  obtain ⟨⟨a1, a2⟩, ⟨b1, b2⟩, ⟨d1, d2⟩⟩ := h c h0 h1
  unfold bNr bFr sel3
  rcases ha with e | e | e
  · subst e
    rw [if_pos rfl, if_pos rfl, show 3 * c + 0 = 3 * c by omega]
    omega
  · subst e
    rw [if_neg (by decide), if_pos rfl, if_neg (by decide), if_pos rfl]
    omega
  · subst e
    rw [if_neg (by decide), if_neg (by decide), if_neg (by decide), if_neg (by decide)]
    omega
theorem bm_t (h : bmR bn P0 P1 P2 S0 S1 S2 From To) {vw c : Int} (h0 : 0 ≤ c) (h1 : c < bn) : bFt P0 P1 P2 S0 S1 S2 vw c = mFt From To vw c := by
  obtain ⟨a, b⟩ := bm_s h (dax_in vw) h0 h1
  unfold bFt mFt
  rw [a, b]
theorem bm_cut (h : bmR bn P0 P1 P2 S0 S1 S2 From To) {vw q c : Int} (h0 : 0 ≤ c) (h1 : c < bn) : insB P0 P1 P2 S0 S1 S2 (dax vw) q c = mCut From To vw q c := by
  obtain ⟨a, b⟩ := bm_s h (dax_in vw) h0 h1
  unfold insB mCut
  rw [a, b]
theorem bm_M (h : bmR bn P0 P1 P2 S0 S1 S2 From To) (hB : boxB bn P0 P1 P2 S0 S1 S2) : moB bn From To := by
  intro j h0 h1
  have hc : 0 ≤ j / 3 ∧ j / 3 < bn := by omega
  have h2 := h (j / 3) hc.1 hc.2
  have h3 := hB (j / 3) hc.1 hc.2
  have e : j = 3 * (j / 3) ∨ j = 3 * (j / 3) + 1 ∨ j = 3 * (j / 3) + 2 := by omega
  rcases e with e | e | e <;> (rw [e]; omega)
/-- the rectangles of a view, both ways -/
theorem bm_r (h : bmR bn P0 P1 P2 S0 S1 S2 From To) {vw : Int} {Fa Fb Ta Tb Z : Int → Int} (hr : ∀ j : Int, 0 ≤ j → j < bn → rcAt P0 P1 P2 S0 S1 S2 vw (Fa j) (Fb j) (Ta j) (Tb j) (Z j) j) (u : Int) : recM From To vw (alW vw u) (beW vw u) bn (sel2 u Fa Fb) (sel2 u Ta Tb) (sel2 (owy u) Fa Fb) (sel2 (owy u) Ta Tb) Z := by
  intro c c0 c1
  obtain ⟨r1, r2, r3, r4, r5⟩ := hr c c0 c1
  obtain ⟨a1, a2⟩ := bm_s h (acx_in (dax vw)) c0 c1
  obtain ⟨b1, b2⟩ := bm_s h (upx_in (dax vw)) c0 c1
  have e5 := bm_t h (vw := vw) c0 c1
  unfold sel2 owy alW beW
  by_cases e : u = 0
  · rw [if_pos e, if_pos e, if_pos e, if_pos e, if_pos e, if_neg (by decide), if_neg (by decide), r1, r2, r3, r4, r5, a1, a2, b1, b2, e5]
    exact ⟨rfl, rfl, rfl, rfl, rfl⟩
  · rw [if_neg e, if_neg e, if_neg e, if_neg e, if_neg e, if_pos rfl, if_pos rfl, r1, r2, r3, r4, r5, a1, a2, b1, b2, e5]
    exact ⟨rfl, rfl, rfl, rfl, rfl⟩
theorem cutL_mem {ax q n z : Int} (hn : 0 ≤ n) : z ∈ cutL P0 P1 P2 S0 S1 S2 ax q n ↔ 0 ≤ z ∧ z < n ∧ insB P0 P1 P2 S0 S1 S2 ax q z = true := by
  have key : ∀ k : Nat, z ∈ cutL P0 P1 P2 S0 S1 S2 ax q (k : Int) ↔ 0 ≤ z ∧ z < (k : Int) ∧ insB P0 P1 P2 S0 S1 S2 ax q z = true := by
    intro k
    induction k with
    | zero => exact ⟨fun h => absurd h List.not_mem_nil, fun h => by omega⟩
    | succ k ih =>
      rw [show ((k + 1 : Nat) : Int) = (k : Int) + 1 by omega]
      cases e : insB P0 P1 P2 S0 S1 S2 ax q (k : Int) with
      | true =>
        rw [cutL_t (by omega) e, List.mem_append, ih]
        constructor
        · rintro (⟨h1, h2, h3⟩ | h)
          · exact ⟨h1, by omega, h3⟩
          · have : z = (k : Int) := by simpa using h
            subst this; exact ⟨by omega, by omega, e⟩
        · rintro ⟨h1, h2, h3⟩
          by_cases g : z = (k : Int)
          · right; rw [g]; simp
          · exact Or.inl ⟨h1, by omega, h3⟩
      | false =>
        rw [cutL_f (by omega) e, ih]
        constructor
        · rintro ⟨h1, h2, h3⟩; exact ⟨h1, by omega, h3⟩
        · rintro ⟨h1, h2, h3⟩
          refine ⟨h1, ?_, h3⟩
          by_cases g : z = (k : Int)
          · subst g; rw [e] at h3; cases h3
          · omega
  have := key n.toNat
  rw [Int.toNat_of_nonneg hn] at this
  exact this
theorem cutL_len {ax q n : Int} (hn : 0 ≤ n) : ((cutL P0 P1 P2 S0 S1 S2 ax q n).length : Int) = cntZ (insB P0 P1 P2 S0 S1 S2 ax q) n := by
  have key : ∀ k : Nat, ((cutL P0 P1 P2 S0 S1 S2 ax q (k : Int)).length : Int) = cntZ (insB P0 P1 P2 S0 S1 S2 ax q) (k : Int) := by
    intro k
    induction k with
    | zero => rfl
    | succ k ih =>
      rw [show ((k + 1 : Nat) : Int) = (k : Int) + 1 by omega, cntZ_s _ (by omega), ← ih]
      cases e : insB P0 P1 P2 S0 S1 S2 ax q (k : Int) with
      | true =>
        rw [cutL_t (by omega) e, List.length_append]
        show ((_ + 1 : Nat) : Int) = _ + 1
        omega
      | false =>
        rw [cutL_f (by omega) e]
        show _ = _ + 0
        omega
  have := key n.toNat
  rw [Int.toNat_of_nonneg hn] at this
  exact this
end BM
theorem cntZ_e {P Q : Int → Bool} {n : Int} (hn : 0 ≤ n) (h : ∀ i : Int, 0 ≤ i → i < n → P i = Q i) : cntZ P n = cntZ Q n := sumZ_e hn (fun i a b => by rw [h i a b])
/-- sums over steps -/
theorem stp_sum {f v G : Int → Int} {n lo hi : Int} (hs : ∀ j : Int, 0 ≤ j → j + 1 < n → G j < G (j + 1)) (hf : ∀ j t : Int, 0 ≤ j → j + 1 < n → G j ≤ t → t < G (j + 1) → f t = v j) (hlo : 0 < n → ∀ t : Int, t < G 0 → f t = 0) (hhi : 0 < n → ∀ t : Int, G (n - 1) ≤ t → f t = 0) (hB : 0 < n → lo ≤ G 0 ∧ G (n - 1) ≤ hi) (hz : n ≤ 0 → ∀ t : Int, f t = 0) (hlh : lo ≤ hi) : sumZ (fun i => (G (i + 1) - G i) * v i) (n - 1) = sumR f lo hi := by
  by_cases h : 0 < n
  · have key : ∀ k : Nat, (k : Int) < n → sumZ (fun i => (G (i + 1) - G i) * v i) (k : Int) = sumR f (G 0) (G (k : Int)) ∧ G 0 ≤ G (k : Int) := by
      intro k
      induction k with
      | zero => intro _; exact ⟨(sumR_0 f _).symm, Int.le_refl _⟩
      | succ k ih =>
        intro hk
        obtain ⟨i1, i2⟩ := ih (by omega)
        have hg := hs (k : Int) (by omega) (by omega)
        rw [show ((k + 1 : Nat) : Int) = (k : Int) + 1 by omega, sumZ_s _ (by omega), i1, sumR_cat f (b := G (k : Int)) (d := G ((k : Int) + 1)) i2 (by omega), sumR_k (a := G (k : Int)) (b := G ((k : Int) + 1)) (v := v (k : Int)) (by omega) (fun t a b => hf (k : Int) t (by omega) (by omega) a b)]
        exact ⟨rfl, by omega⟩
    obtain ⟨k1, k2⟩ := key (n - 1).toNat (by omega)
    rw [show (((n - 1).toNat : Nat) : Int) = n - 1 by omega] at k1 k2
    obtain ⟨b1, b2⟩ := hB h
    rw [k1, sumR_cat f (b := G 0) b1 (by omega), sumR_cat f (a := G 0) (b := G (n - 1)) k2 b2, sumR_k (a := lo) (v := 0) b1 (fun t _ b => hlo h t b), sumR_k (a := G (n - 1)) (v := 0) b2 (fun t a _ => hhi h t a), Int.mul_zero, Int.mul_zero, Int.zero_add, Int.add_zero]
  · have e : sumZ (fun i => (G (i + 1) - G i) * v i) (n - 1) = 0 := by
      unfold sumZ foldZ
      rw [show (n - 1).toNat = 0 by omega]
      rfl
    rw [e, sumR_k (v := 0) hlh (fun t _ _ => hz (by omega) t), Int.mul_zero]

/-! BOXES, MEASURES, PAGES: steps of the class and of the model -/
section BS
variable {bn : Int} {P0 P1 P2 S0 S1 S2 From To : Int → Int}
theorem bm_box (h : bmR bn P0 P1 P2 S0 S1 S2 From To) {x y z w v : Int} : bmR (bn + 1) (upz P0 bn x) (upz P1 bn y) (upz P2 bn z) (upz S0 bn w) (upz S1 bn v) (upz S2 bn 1) (upz (upz (upz From (3 * bn) x) (3 * bn + 1) y) (3 * bn + 2) z) (upz (upz (upz To (3 * bn) (x + w)) (3 * bn + 1) (y + v)) (3 * bn + 2) (z + 1)) := by
  intro c c0 c1
  by_cases e : c = bn
  · subst e
    simp only [upz_s]
    refine ⟨⟨?_, ?_⟩, ⟨?_, ?_⟩, trivial, trivial⟩
    · rw [upz_n (by omega), upz_n (by omega), upz_s]
    · rw [upz_n (by omega), upz_n (by omega), upz_s]
    · rw [upz_n (by omega), upz_s]
    · rw [upz_n (by omega), upz_s]
  · have := h c c0 (by omega)
    rw [upz_n e, upz_n e, upz_n e, upz_n e, upz_n e, upz_n e, upz_n (by omega), upz_n (by omega), upz_n (by omega), upz_n (by omega), upz_n (by omega), upz_n (by omega), upz_n (by omega), upz_n (by omega), upz_n (by omega), upz_n (by omega), upz_n (by omega), upz_n (by omega), upz_n (by omega), upz_n (by omega), upz_n (by omega), upz_n (by omega), upz_n (by omega), upz_n (by omega)]
    exact this
theorem bB_box (h : boxB bn P0 P1 P2 S0 S1 S2) {x y z w v : Int} (hg : gdX x y z w v = true) : boxB (bn + 1) (upz P0 bn x) (upz P1 bn y) (upz P2 bn z) (upz S0 bn w) (upz S1 bn v) (upz S2 bn 1) := by
  intro c c0 c1
  have g := gdX_s hg
  by_cases e : c = bn
  · subst e
    simp only [upz_s]
    omega
  · rw [upz_n e, upz_n e, upz_n e, upz_n e, upz_n e, upz_n e]
    exact h c c0 (by omega)
theorem bm_deep (h : bmR bn P0 P1 P2 S0 S1 S2 From To) {b d : Int} (b0 : 0 ≤ b) (b1 : b < bn) : bmR bn P0 P1 P2 S0 S1 (upz S2 b d) From (upz To (3 * b + 2) (From (3 * b + 2) + d)) := by
  intro c c0 c1
  have := h c c0 c1
  by_cases e : c = b
  · subst e
    rw [upz_n (by omega), upz_n (by omega), upz_s, upz_s, this.2.2.1]
    exact ⟨this.1, this.2.1, rfl, rfl⟩
  · rw [upz_n (by omega), upz_n (by omega), upz_n (by omega), upz_n e]
    exact this
theorem bB_deep (h : boxB bn P0 P1 P2 S0 S1 S2) {b d : Int} (hd : 1 ≤ d ∧ d ≤ 1000000) : boxB bn P0 P1 P2 S0 S1 (upz S2 b d) := by
  intro c c0 c1
  have := h c c0 c1
  by_cases e : c = b
  · subst e; rw [upz_s]; omega
  · rw [upz_n e]; exact this
theorem bm_dp (h : bmR bn P0 P1 P2 S0 S1 S2 From To) {b d : Int} (b0 : 0 ≤ b) (b1 : b < bn) : To (3 * b + 2) = From (3 * b + 2) + d ↔ S2 b = d := by
  have := h b b0 b1
  omega
theorem bm_exp (h : bmR bn P0 P1 P2 S0 S1 S2 From To) {b x y z : Int} (b0 : 0 ≤ b) (b1 : b < bn) {From2 To2 : Int → Int}
    (hF : From2 (3 * b) = From (3 * b) + x ∧ From2 (3 * b + 1) = From (3 * b + 1) + y ∧ From2 (3 * b + 2) = From (3 * b + 2) + z ∧ (∀ j : Int, j ≠ 3 * b → j ≠ 3 * b + 1 → j ≠ 3 * b + 2 → From2 j = From j))
    (hT : To2 (3 * b) = To (3 * b) + x ∧ To2 (3 * b + 1) = To (3 * b + 1) + y ∧ To2 (3 * b + 2) = To (3 * b + 2) + z ∧ (∀ j : Int, j ≠ 3 * b → j ≠ 3 * b + 1 → j ≠ 3 * b + 2 → To2 j = To j)) : bmR bn (upz P0 b (P0 b + x)) (upz P1 b (P1 b + y)) (upz P2 b (P2 b + z)) S0 S1 S2 From2 To2 := by
  intro c c0 c1
  have := h c c0 c1
  obtain ⟨f0, f1, f2, f3⟩ := hF
  obtain ⟨t0, t1, t2, t3⟩ := hT
  by_cases e : c = b
  · subst e
    rw [upz_s, upz_s, upz_s, f0, f1, f2, t0, t1, t2]
    omega
  · rw [upz_n e, upz_n e, upz_n e, f3 (3 * c) (by omega) (by omega) (by omega), f3 (3 * c + 1) (by omega) (by omega) (by omega), f3 (3 * c + 2) (by omega) (by omega) (by omega), t3 (3 * c) (by omega) (by omega) (by omega), t3 (3 * c + 1) (by omega) (by omega) (by omega), t3 (3 * c + 2) (by omega) (by omega) (by omega)]
    exact this
theorem bB_exp (h : boxB bn P0 P1 P2 S0 S1 S2) {b x y z : Int} (hx : -1000000 ≤ P0 b + x ∧ P0 b + x ≤ 1000000) (hy : -1000000 ≤ P1 b + y ∧ P1 b + y ≤ 1000000) (hz : -1000000 ≤ P2 b + z ∧ P2 b + z ≤ 1000000) : boxB bn (upz P0 b (P0 b + x)) (upz P1 b (P1 b + y)) (upz P2 b (P2 b + z)) S0 S1 S2 := by
  intro c c0 c1
  have := h c c0 c1
  by_cases e : c = b
  · subst e; rw [upz_s, upz_s, upz_s]; omega
  · rw [upz_n e, upz_n e, upz_n e]; exact this
theorem bm_go (h : bmR bn P0 P1 P2 S0 S1 S2 From To) (hB : boxB bn P0 P1 P2 S0 S1 S2) {b x y z : Int} (b0 : 0 ≤ b) (b1 : b < bn) : (mGo From (3 * b) x && (mGo From (3 * b + 1) y && mGo From (3 * b + 2) z)) = true ↔ ((-1000000 - P0 b ≤ x ∧ x ≤ 1000000 - P0 b) ∧ (-1000000 - P1 b ≤ y ∧ y ≤ 1000000 - P1 b) ∧ (-1000000 - P2 b ≤ z ∧ z ≤ 1000000 - P2 b)) := by
  have h1 := h b b0 b1
  have h2 := hB b b0 b1
  simp only [mGo, inR, Bool.and_eq_true, decide_eq_true_eq]
  omega
end BS
/-! measures -/
def meR (n : Int) (Ax Ro Fr To Axs Rws MFr MTo : Int → Int) : Prop := ∀ k : Int, 0 ≤ k → k < n → Axs k = Ax k ∧ Rws k = Ro k ∧ MFr k = Fr k ∧ MTo k = To k
def meB (n : Int) (Ro Fr To : Int → Int) : Prop := ∀ k : Int, 0 ≤ k → k < n → (0 ≤ Ro k ∧ Ro k ≤ k) ∧ (-1000000 ≤ Fr k ∧ Fr k ≤ 1000000) ∧ (-1000000 ≤ To k ∧ To k ≤ 1000000)
section MS
variable {n : Int} {Ax Ro Fr To Axs Rws MFr MTo : Int → Int}
theorem me_fr (h : meR n Ax Ro Fr To Axs Rws MFr MTo) (hn : 0 ≤ n) {ax f t : Int} : frM Ax Ro Fr To n ax f t = frM Axs Rws MFr MTo n ax f t := by
  unfold frM
  refine leastZ_e (fun r r0 r1 => ?_)
  show (!(anyZ (ovM Ax Ro Fr To ax r f t) n)) = (!(anyZ (ovM Axs Rws MFr MTo ax r f t) n))
  rw [anyZ_e hn (P := ovM Ax Ro Fr To ax r f t) (Q := ovM Axs Rws MFr MTo ax r f t) (fun k k0 k1 => by
    obtain ⟨a, b, c, d⟩ := h k k0 k1
    unfold ovM inM
    rw [a, b, c, d])]
theorem me_tot (h : meR n Ax Ro Fr To Axs Rws MFr MTo) (hn : 0 ≤ n) {ax ro : Int} : sumZ (lnM Ax Ro Fr To ax ro) n = sumZ (lnT Axs Rws MFr MTo ax ro) n := by
  refine sumZ_e hn (fun k k0 k1 => ?_)
  obtain ⟨a, b, c, d⟩ := h k k0 k1
  unfold lnM lnT inM
  rw [a, b, c, d]
  simp only [decide_eq_true_eq]
theorem me_add (h : meR n Ax Ro Fr To Axs Rws MFr MTo) {a r f t : Int} : meR (n + 1) (upz Ax n a) (upz Ro n r) (upz Fr n f) (upz To n t) (upz Axs n a) (upz Rws n r) (upz MFr n f) (upz MTo n t) := by
  intro k k0 k1
  by_cases e : k = n
  · subst e; simp only [upz_s]; exact ⟨trivial, trivial, trivial, trivial⟩
  · simp only [upz_n e]; exact h k k0 (by omega)
theorem meB_add (h : meB n Ro Fr To) {r f t : Int} (hr : 0 ≤ r ∧ r ≤ n) (hf : -1000000 ≤ f ∧ f ≤ 1000000) (ht : -1000000 ≤ t ∧ t ≤ 1000000) : meB (n + 1) (upz Ro n r) (upz Fr n f) (upz To n t) := by
  intro k k0 k1
  by_cases e : k = n
  · subst e; simp only [upz_s]; exact ⟨hr, hf, ht⟩
  · simp only [upz_n e]; exact h k k0 (by omega)
end MS
/-! pages -/
theorem pg_k (k co : Int) : k - k.tdiv co * co = k.tmod co := by
  rw [Int.tmod_def, Int.mul_comm]
theorem pg_la (k co ro : Int) : bz (decide (k.tdiv co + 1 = ro)) = bz (decide (k.tdiv co = ro - 1)) := by
  congr 1
  exact decide_eq_decide.mpr (by omega)

/-! THE MODEL'S SEARCHES: the next one beyond a place; how far what is laid together reaches -/
def nxS (q v x : Int) : Int := if q < v ∧ v < x then v else x
def nxZ (G : Int → Int) (n q cap : Int) : Int := foldZ (fun k x => nxS q (G k) x) cap n
theorem nxZ_s (G : Int → Int) (q cap : Int) {i : Int} (h : 0 ≤ i) : nxZ G (i + 1) q cap = nxS q (G i) (nxZ G i q cap) := foldZ_s _ _ h
def nxL (F T : Int → Int) (ax n q : Int) : Int := foldZ (fun b x => nxS q (T (3 * b + ax)) (nxS q (F (3 * b + ax)) x)) 10000000 n
theorem nxL_s (F T : Int → Int) (ax q : Int) {i : Int} (h : 0 ≤ i) : nxL F T ax (i + 1) q = nxS q (T (3 * i + ax)) (nxS q (F (3 * i + ax)) (nxL F T ax i q)) := foldZ_s _ _ h
theorem nxS_i {q v x : Int} (hq : I64 v) (hx : I64 x) : I64 (nxS q v x) := by unfold nxS; split <;> assumption
/-- laid together from q they reach r, and no farther -/
def untP (G T : Int → Int) (n q r : Int) : Prop := q ≤ r ∧ (∀ t : Int, q ≤ t → t < r → ∃ k : Int, 0 ≤ k ∧ k < n ∧ G k ≤ t ∧ t < T k) ∧ (∀ k : Int, 0 ≤ k → k < n → G k ≤ r → T k ≤ r)
theorem unt_x {G T : Int → Int} {n q r : Int} {j : Int} (h : ∀ t : Int, q ≤ t → t < r → ∃ k : Int, 0 ≤ k ∧ k < n ∧ G k ≤ t ∧ t < T k) (h0 : 0 ≤ j) (h1 : j < n) (h2 : G j ≤ r) : ∀ t : Int, q ≤ t → t < T j → ∃ k : Int, 0 ≤ k ∧ k < n ∧ G k ≤ t ∧ t < T k := by
  intro t ht1 ht2
  by_cases h3 : t < r
  · exact h t ht1 h3
  · exact ⟨j, h0, h1, by omega, ht2⟩
theorem cl_s {G T : Int → Int} {j r : Int} (h : ∀ k : Int, 0 ≤ k → k < j → G k ≤ r → T k ≤ r) (h2 : G j ≤ r → T j ≤ r) : ∀ k : Int, 0 ≤ k → k < j + 1 → G k ≤ r → T k ≤ r := by
  intro k h0 h1 h3
  by_cases e : k = j
  · subst e; exact h2 h3
  · exact h k h0 (by omega) h3
theorem cpz_0 (f g : Int → Int) : cpz f g 0 = g := by
  funext j; unfold cpz; rw [if_neg (by omega)]
theorem cpz_s (f g : Int → Int) {n : Int} (h : 0 ≤ n) : upz (cpz f g n) n (f n) = cpz f g (n + 1) := by
  funext j; unfold upz cpz
  by_cases h1 : j = n
  · subst h1; rw [if_pos rfl, if_pos (by omega)]
  · rw [if_neg h1]
    by_cases h2 : 0 ≤ j ∧ j < n
    · rw [if_pos h2, if_pos (by omega)]
    · rw [if_neg h2, if_neg (by omega)]
theorem cpz_bL {f g : Int → Int} (n : Int) (hf : ∀ j : Int, I64 (f j)) (hg : ∀ j : Int, I64 (g j)) : ∀ j : Int, I64 (cpz f g n j) := fun j => by
  unfold cpz
  split
  · exact hf j
  · exact hg j
/-- the model's test of a row: one measure in it overlaps -/
def ovR (Ax Ro Fr To : Int → Int) (ax ro f t i : Int) : Bool := decide (Ax i = ax ∧ Ro i = ro ∧ Fr i < t ∧ f < To i)
theorem ovR_M (Ax Ro Fr To : Int → Int) (ax ro f t i : Int) : ovM Ax Ro Fr To ax ro f t i = ovR Ax Ro Fr To ax ro f t i := by
  unfold ovM ovR inM
  by_cases h1 : Ax i = ax ∧ Ro i = ro <;> by_cases h2 : Fr i < t <;> by_cases h3 : f < To i <;> simp [h1, h2, h3] <;> omega
/-- above all rows that are used nothing overlaps -/
theorem ov_top {Ax Ro Fr To : Int → Int} {n ax f t : Int} (h : ∀ k : Int, 0 ≤ k → k < n → Ro k ≤ k) : anyZ (ovM Ax Ro Fr To ax n f t) n = false := by
  cases e : anyZ (ovM Ax Ro Fr To ax n f t) n with
  | false => rfl
  | true =>
    obtain ⟨k, h0, h1, h2⟩ := (anyZ_iff _ _).mp e
    rw [ovR_M] at h2
    have h3 := of_decide_eq_true h2
    have := h k h0 h1
    omega
theorem frM_u {Ax Ro Fr To : Int → Int} {n ax f t r : Int} (hr0 : 0 ≤ r) (hr1 : r ≤ n) (h1 : ∀ j : Int, 0 ≤ j → j < r → anyZ (ovM Ax Ro Fr To ax j f t) n = true) (h2 : r < n → anyZ (ovM Ax Ro Fr To ax r f t) n = false) : frM Ax Ro Fr To n ax f t = r := by
  have h3 : anyZ (fun ro => !(anyZ (ovM Ax Ro Fr To ax ro f t) n)) r = false := by
    cases e : anyZ (fun ro => !(anyZ (ovM Ax Ro Fr To ax ro f t) n)) r with
    | false => rfl
    | true =>
      obtain ⟨k, a, b, d⟩ := (anyZ_iff _ _).mp e
      rw [h1 k a b] at d
      cases d
  by_cases h : r < n
  · exact frM_at hr0 h h3 (by rw [h2 h]; rfl)
  · rw [show r = n by omega] at h3
    rw [frM_no (by omega) h3]; omega
def meC (bn mes a b ax : Int) : Int := if 0 ≤ a ∧ a < bn ∧ 0 ≤ b ∧ b < bn then (if mes = 30 then 2 else if 0 ≤ ax ∧ ax ≤ 2 then 0 else 3) else 1
theorem meC_0 {bn mes a b ax : Int} (h : meC bn mes a b ax = 0) : (0 ≤ a ∧ a < bn ∧ 0 ≤ b ∧ b < bn) ∧ mes ≠ 30 ∧ 0 ≤ ax ∧ ax ≤ 2 := by
  unfold meC at h
  split at h
  · split at h
    · omega
    · split at h <;> omega
  · omega
theorem ov_lt {Ax Ro Fr To : Int → Int} {n ax f t r : Int} (h : ∀ k : Int, 0 ≤ k → k < n → 0 ≤ Ro k ∧ Ro k ≤ k) (hr : r ≤ n) (h2 : bz (anyZ (ovM Ax Ro Fr To ax r f t) n) ≠ 0) : r < n := by
  by_cases e : r = n
  · subst e
    rw [ov_top (fun k a b => (h k a b).2)] at h2
    exact absurd rfl h2
  · omega
theorem mNew_f {Ups Pla Beg Ens Hid KUp KPl KBe KEn KHi : Int → Int} {ks q : Int} (h : bz (anyZ (mSame Ups Pla Beg Ens Hid KUp KPl KBe KEn KHi q) ks) ≠ 0) : mNew Ups Pla Beg Ens Hid KUp KPl KBe KEn KHi ks q = false := by
  unfold mNew; rw [(bz_eq1 _).mpr h]; rfl
theorem mNew_t {Ups Pla Beg Ens Hid KUp KPl KBe KEn KHi : Int → Int} {ks q : Int} (h : bz (anyZ (mSame Ups Pla Beg Ens Hid KUp KPl KBe KEn KHi q) ks) = 0) : mNew Ups Pla Beg Ens Hid KUp KPl KBe KEn KHi ks q = true := by
  unfold mNew; rw [(bz_eq0 _).mpr h]; rfl

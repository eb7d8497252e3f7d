/-! AT MOST 1200 STROKES -/
theorem nd_len : ∀ (L K : List Int), L.Pairwise (fun a b => a ≠ b) → (∀ x ∈ L, x ∈ K) → L.length ≤ K.length
  | [], _, _, _ => Nat.zero_le _
  | x :: L, K, h, hs => by
    obtain ⟨h1, h2⟩ := List.pairwise_cons.mp h
    have hx := hs x (by simp)
    have := nd_len L (K.erase x) h2 (fun y hy => (List.mem_erase_of_ne (fun e => h1 y hy e.symm)).mpr (hs y (List.mem_cons_of_mem _ hy)))
    have h3 := List.length_erase_of_mem hx
    have h4 := List.length_pos_of_mem hx
    simp only [List.length_cons]
    omega
def tri : Nat → Nat
  | 0 => 0
  | n + 1 => tri n + n
theorem tri_le : ∀ {a b : Nat}, a ≤ b → tri a ≤ tri b
  | a, 0, h => by rw [show a = 0 by omega]; exact Nat.le_refl _
  | a, b + 1, h => by
    by_cases e : a = b + 1
    · subst e; exact Nat.le_refl _
    · have := tri_le (a := a) (b := b) (by omega)
      show tri a ≤ tri b + b
      omega
theorem tri_lt {i c d : Nat} (h : i < c) (h2 : c < d) : tri c + i < tri d := by
  have h3 := tri_le (a := c + 1) (b := d) (by omega)
  have : tri (c + 1) = tri c + c := rfl
  omega
theorem tri_in {i c j d : Nat} (h : i < c) (h2 : j < d) (e : tri c + i = tri d + j) : c = d ∧ i = j := by
  rcases Nat.lt_trichotomy c d with g | g | g
  · have := tri_lt h g; omega
  · subst g; omega
  · have := tri_lt h2 g; omega
section Charge
variable {From To : Int → Int} {vw : Int}
/-- a side of i crosses one of c; j ends within a side of i -/
def xB1 (From To : Int → Int) (vw al be y b i c : Int) : Prop := edC From To be y i ∧ From (3 * i + al) < b ∧ b < To (3 * i + al) ∧ (From (3 * c + al) = b ∨ To (3 * c + al) = b) ∧ From (3 * c + be) < y ∧ y < To (3 * c + be) ∧ mFt From To vw c < mFt From To vw i
def xB2 (From To : Int → Int) (al be y b i j : Int) : Prop := edC From To be y i ∧ From (3 * i + al) < b ∧ b < To (3 * i + al) ∧ edC From To be y j ∧ To (3 * j + al) = b
def xA (From To : Int → Int) (al be y b bn : Int) : Prop := ∃ c : Int, 0 ≤ c ∧ c < bn ∧ edC From To be y c ∧ From (3 * c + al) = b
/-- where a run begins -/
theorem charge {al be y bn b e h : Int} (r : isRun (stB From To vw al be y bn) b e h) : xA From To al be y b bn ∨ (∃ i c : Int, 0 ≤ i ∧ i < bn ∧ 0 ≤ c ∧ c < bn ∧ (xB1 From To vw al be y b i c ∨ xB2 From To al be y b i c)) := by
  have e1 := r.al b (Int.le_refl _) r.lt
  have e2 := r.le
  have hne := r.ne
  by_cases g1 : seB From To vw al be y bn bn b
  · rw [stB_0 g1] at e1
    obtain ⟨i, i0, i1, i2, ⟨i3, i4⟩, i5⟩ := g1
    by_cases f : From (3 * i + al) = b
    · exact Or.inl ⟨i, i0, i1, i2, f⟩
    · right
      have hc : covB From To vw al be y (mFt From To vw i) bn (b - 1) := by
        apply Classical.byContradiction
        intro z
        have : seB From To vw al be y bn bn (b - 1) := ⟨i, i0, i1, i2, ⟨by omega, by omega⟩, z⟩
        rw [stB_0 this, ← e1] at e2
        exact e2 rfl
      obtain ⟨c, c0, c1, c2, c3, c4⟩ := hc
      have ht : To (3 * c + al) = b := by
        apply Classical.byContradiction
        intro z
        exact i5 ⟨c, c0, c1, c2, by omega, by omega⟩
      exact ⟨i, c, i0, i1, c0, c1, Or.inl ⟨i2, by omega, i4, Or.inr ht, c2.1, c2.2.1, c2.2.2⟩⟩
  · by_cases g2 : egB From To al be y bn b
    · rw [stB_1 g1 g2] at e1
      obtain ⟨i, i0, i1, i2, i3, i4⟩ := g2
      by_cases f : From (3 * i + al) = b
      · exact Or.inl ⟨i, i0, i1, i2, f⟩
      · right
        have hE : egB From To al be y bn (b - 1) := ⟨i, i0, i1, i2, by omega, by omega⟩
        have hS : seB From To vw al be y bn bn (b - 1) := by
          apply Classical.byContradiction
          intro z
          rw [stB_1 z hE, ← e1] at e2
          exact e2 rfl
        obtain ⟨j, j0, j1, j2, ⟨j3, j4⟩, j5⟩ := hS
        by_cases f2 : To (3 * j + al) = b
        · exact ⟨i, j, i0, i1, j0, j1, Or.inr ⟨i2, by omega, i4, j2, f2⟩⟩
        · have hc : covB From To vw al be y (mFt From To vw j) bn b := by
            apply Classical.byContradiction
            intro z
            exact g1 ⟨j, j0, j1, j2, ⟨by omega, by omega⟩, z⟩
          obtain ⟨c, c0, c1, c2, c3, c4⟩ := hc
          have ht : From (3 * c + al) = b := by
            apply Classical.byContradiction
            intro z
            exact j5 ⟨c, c0, c1, c2, by omega, by omega⟩
          exact ⟨j, c, j0, j1, c0, c1, Or.inl ⟨j2, by omega, by omega, Or.inl ht, c2.1, c2.2.1, c2.2.2⟩⟩
    · rw [stB_x g1 g2] at e1
      exact absurd e1.symm hne
/-- the corners of what two boxes have in common -/
def crn (From To : Int → Int) (ax i c p : Int) : Int := if p = 0 then max (From (3 * i + ax)) (From (3 * c + ax)) else min (To (3 * i + ax)) (To (3 * c + ax))
def xB (From To : Int → Int) (vw al be y b i c : Int) : Prop := (xB1 From To vw al be y b i c ∨ xB2 From To al be y b i c) ∨ (xB1 From To vw al be y b c i ∨ xB2 From To al be y b c i)
theorem crn_s (ax i c p : Int) : crn From To ax i c p = crn From To ax c i p := by unfold crn; split <;> omega
theorem xB_c {al be y b i c : Int} (hM : ∀ k : Int, (k = i ∨ k = c) → From (3 * k + al) < To (3 * k + al) ∧ From (3 * k + be) < To (3 * k + be)) (h : xB1 From To vw al be y b i c ∨ xB2 From To al be y b i c) : (∃ p : Int, (p = 0 ∨ p = 1) ∧ crn From To al i c p = b) ∧ (∃ r : Int, (r = 0 ∨ r = 1) ∧ crn From To be i c r = y) := by
  have m1 := hM i (Or.inl rfl)
  have m2 := hM c (Or.inr rfl)
  have two : ∀ ax v : Int, (max (From (3 * i + ax)) (From (3 * c + ax)) = v ∨ min (To (3 * i + ax)) (To (3 * c + ax)) = v) → ∃ p : Int, (p = 0 ∨ p = 1) ∧ crn From To ax i c p = v := by
    intro ax v g
    rcases g with g | g
    · exact ⟨0, Or.inl rfl, by unfold crn; rw [if_pos rfl]; exact g⟩
    · exact ⟨1, Or.inr rfl, by unfold crn; rw [if_neg (by decide)]; exact g⟩
  rcases h with ⟨h1, h2, h3, h4, h5, h6, -⟩ | ⟨h1, h2, h3, h4, h5⟩
  · unfold edC at h1
    exact ⟨two al b (by omega), two be y (by omega)⟩
  · unfold edC at h1 h4
    exact ⟨two al b (by omega), two be y (by omega)⟩
theorem xB_n {al be y b i c : Int} (h : xB1 From To vw al be y b i c ∨ xB2 From To al be y b i c) : i ≠ c := by
  intro e
  subst e
  rcases h with ⟨-, -, -, -, -, -, h⟩ | ⟨-, h2, h3, -, h5⟩ <;> omega
/-- one place, one pair: not both ways -/
theorem xB_w {al be y b i c : Int} (h : xB From To vw al be y b i c) (k : xB From To vw be al b y i c) : False := by
  unfold xB xB1 xB2 edC at h k
  rcases h with (h | h) | (h | h) <;> rcases k with (k | k) | (k | k) <;> omega
/-- a number for each begin -/
def cdA (From To : Int → Int) (al be y b bn u k : Int) : Prop := ∃ c s : Int, 0 ≤ c ∧ c < bn ∧ (s = 0 ∨ s = 1) ∧ (s = 0 → From (3 * c + be) = y) ∧ (s = 1 → To (3 * c + be) = y) ∧ From (3 * c + al) = b ∧ k = 48 * u + 24 * s + c
def cdB (From To : Int → Int) (vw A U x z al be y b bn k : Int) : Prop := ∃ (i c : Nat) (p r : Int), i < c ∧ (c : Int) < bn ∧ (p = 0 ∨ p = 1) ∧ (r = 0 ∨ r = 1) ∧ crn From To A (i : Int) (c : Int) p = x ∧ crn From To U (i : Int) (c : Int) r = z ∧ xB From To vw al be y b (i : Int) (c : Int) ∧ k = 96 + 4 * ((tri c + i : Nat) : Int) + 2 * p + r
theorem cdB_of {A U x z al be y b bn : Int} (hAU : (al = A ∧ be = U ∧ x = b ∧ z = y) ∨ (al = U ∧ be = A ∧ x = y ∧ z = b)) (hM : ∀ k : Int, 0 ≤ k → k < bn → From (3 * k + al) < To (3 * k + al) ∧ From (3 * k + be) < To (3 * k + be)) (h : ∃ i c : Int, 0 ≤ i ∧ i < bn ∧ 0 ≤ c ∧ c < bn ∧ (xB1 From To vw al be y b i c ∨ xB2 From To al be y b i c)) : ∃ k : Int, cdB From To vw A U x z al be y b bn k := by
  obtain ⟨i, c, i0, i1, c0, c1, h⟩ := h
  have hn := xB_n h
  obtain ⟨⟨p, hp, ep⟩, ⟨r, hr, er⟩⟩ := xB_c (fun k hk => by
    rcases hk with e | e
    · subst e; exact hM k i0 i1
    · subst e; exact hM k c0 c1) h
  have key : ∀ (i c : Int), 0 ≤ i → i < c → c < bn → crn From To al i c p = b → crn From To be i c r = y → xB From To vw al be y b i c → ∃ k : Int, cdB From To vw A U x z al be y b bn k := by
    intro i c i0 hic c1 ep er hx
    have ei : ((i.toNat : Nat) : Int) = i := Int.toNat_of_nonneg i0
    have ec : ((c.toNat : Nat) : Int) = c := Int.toNat_of_nonneg (by omega)
    rcases hAU with ⟨a1, a2, a3, a4⟩ | ⟨a1, a2, a3, a4⟩
    · exact ⟨_, i.toNat, c.toNat, p, r, by omega, by omega, hp, hr, by rw [ei, ec, ← a1, a3]; exact ep, by rw [ei, ec, ← a2, a4]; exact er, by rw [ei, ec]; exact hx, rfl⟩
    · exact ⟨_, i.toNat, c.toNat, r, p, by omega, by omega, hr, hp, by rw [ei, ec, ← a2, a3]; exact er, by rw [ei, ec, ← a1, a4]; exact ep, by rw [ei, ec]; exact hx, rfl⟩
  rcases Int.lt_or_gt_of_ne hn with g | g
  · exact key i c i0 g c1 ep er (Or.inl h)
  · exact key c i c0 g i1 (by rw [crn_s]; exact ep) (by rw [crn_s]; exact er) (Or.inr h)
theorem cdB_in {A U x z al be y b bn k : Int} (hb : bn ≤ 24) (h : cdB From To vw A U x z al be y b bn k) : 96 ≤ k ∧ k < 1200 := by
  obtain ⟨i, c, p, r, h1, h2, h3, h4, -, -, -, e⟩ := h
  have := tri_lt h1 (show c < 24 by omega)
  have e2 : tri 24 = 276 := by decide
  omega
theorem cdA_in {al be y b bn u k : Int} (hb : bn ≤ 24) (hu : u = 0 ∨ u = 1) (h : cdA From To al be y b bn u k) : 0 ≤ k ∧ k < 96 := by
  obtain ⟨c, s, h1, h2, h3, -, -, -, e⟩ := h
  omega
end Charge

/-! SUMS OVER PLACES -/
def sumR (f : Int → Int) (a b : Int) : Int := sumZ (fun i => f (a + i)) (b - a)
theorem sumR_0 (f : Int → Int) (a : Int) : sumR f a a = 0 := by
  unfold sumR
  rw [Int.sub_self]; rfl
theorem sumR_s (f : Int → Int) {a b : Int} (h : a ≤ b) : sumR f a (b + 1) = sumR f a b + f b := by
  unfold sumR
  rw [show b + 1 - a = (b - a) + 1 by omega, sumZ_s _ (by omega), show a + (b - a) = b by omega]
theorem sumR_add (f : Int → Int) {a b : Int} (h : a ≤ b) : ∀ (k : Nat), sumR f a (b + (k : Int)) = sumR f a b + sumR f b (b + (k : Int))
  | 0 => by rw [Int.natCast_zero, Int.add_zero, sumR_0, Int.add_zero]
  | k + 1 => by
    rw [show b + ((k + 1 : Nat) : Int) = (b + (k : Int)) + 1 by omega, sumR_s f (by omega), sumR_s f (by omega), sumR_add f h k]
    omega
theorem sumR_cat (f : Int → Int) {a b d : Int} (h : a ≤ b) (h2 : b ≤ d) : sumR f a d = sumR f a b + sumR f b d := by
  have := sumR_add f h (d - b).toNat
  rw [show b + ((d - b).toNat : Int) = d by omega] at this
  exact this
theorem sumR_c (f : Int → Int) {a v : Int} : ∀ (k : Nat), (∀ t : Int, a ≤ t → t < a + (k : Int) → f t = v) → sumR f a (a + (k : Int)) = (k : Int) * v
  | 0, _ => by rw [Int.natCast_zero, Int.add_zero, sumR_0, Int.zero_mul]
  | k + 1, h => by
    rw [show a + ((k + 1 : Nat) : Int) = (a + (k : Int)) + 1 by omega, sumR_s f (by omega), sumR_c f k (fun t h0 h1 => h t h0 (by omega)), h (a + (k : Int)) (by omega) (by omega), show ((k + 1 : Nat) : Int) = (k : Int) + 1 by omega, Int.add_mul, Int.one_mul]
theorem sumR_k {f : Int → Int} {a b v : Int} (h : a ≤ b) (hf : ∀ t : Int, a ≤ t → t < b → f t = v) : sumR f a b = (b - a) * v := by
  have := sumR_c f (a := a) (v := v) (b - a).toNat (fun t h0 h1 => hf t h0 (by omega))
  rw [show a + ((b - a).toNat : Int) = b by omega, show ((b - a).toNat : Int) = b - a by omega] at this
  exact this
theorem sumR_e {f g : Int → Int} (h : ∀ t : Int, f t = g t) (a b : Int) : sumR f a b = sumR g a b := by
  rw [show f = g from funext h]
noncomputable def ind (P : Int → Prop) (t : Int) : Int := by
  classical
  exact if P t then 1 else 0
theorem ind_1 {P : Int → Prop} {t : Int} (h : P t) : ind P t = 1 := by unfold ind; rw [if_pos h]
theorem ind_0 {P : Int → Prop} {t : Int} (h : ¬ P t) : ind P t = 0 := by unfold ind; rw [if_neg h]
theorem ind_e {P Q : Int → Prop} {t u : Int} (h : P t ↔ Q u) : ind P t = ind Q u := by
  by_cases g : P t
  · rw [ind_1 g, ind_1 (h.mp g)]
  · rw [ind_0 g, ind_0 (fun q => g (h.mpr q))]
/-- a field of the section that a box fills -/
def cvU (From To : Int → Int) (vw q sp n t : Int) : Prop := ∃ c : Int, 0 ≤ c ∧ c < n ∧ (mCut From To vw q c = true ∧ From (3 * c + acx (dax vw)) ≤ sp ∧ sp < To (3 * c + acx (dax vw))) ∧ From (3 * c + upx (dax vw)) ≤ t ∧ t < To (3 * c + upx (dax vw))
theorem cvU_z {From To : Int → Int} {vw q sp t : Int} : ¬ cvU From To vw q sp 0 t := by
  rintro ⟨c, c0, c1, -⟩; omega
theorem cvU_n {From To : Int → Int} {vw q sp n t : Int} (h : ¬ (mCut From To vw q n = true ∧ From (3 * n + acx (dax vw)) ≤ sp ∧ sp < To (3 * n + acx (dax vw)))) : cvU From To vw q sp (n + 1) t ↔ cvU From To vw q sp n t := by
  constructor
  · rintro ⟨c, c0, c1, c2, c3⟩
    by_cases e : c = n
    · subst e; exact absurd c2 h
    · exact ⟨c, c0, by omega, c2, c3⟩
  · rintro ⟨c, c0, c1, c2⟩
    exact ⟨c, c0, by omega, c2⟩
theorem cvU_c {From To : Int → Int} {vw q sp n t : Int} (hn : 0 ≤ n) (h : mCut From To vw q n = true ∧ From (3 * n + acx (dax vw)) ≤ sp ∧ sp < To (3 * n + acx (dax vw))) : cvU From To vw q sp (n + 1) t ↔ cvU From To vw q sp n t ∨ (From (3 * n + upx (dax vw)) ≤ t ∧ t < To (3 * n + upx (dax vw))) := by
  constructor
  · rintro ⟨c, c0, c1, c2, c3⟩
    by_cases e : c = n
    · subst e; exact Or.inr c3
    · exact Or.inl ⟨c, c0, by omega, c2, c3⟩
  · rintro (⟨c, c0, c1, c2⟩ | h1)
    · exact ⟨c, c0, by omega, c2⟩
    · exact ⟨n, hn, by omega, h, h1⟩
noncomputable def colU (From To : Int → Int) (vw q bn sp : Int) : Int := sumR (ind (cvU From To vw q sp bn)) (-10000000) 10000000
/-- sums along edges -/
theorem suA {Ef Et : Int → Int} {ne r : Int} (hne : 0 ≤ ne) (hneE : neS Ef Et ne) (hiB : inB Ef Et ne) (hr : r = nxZ Ef ne (-10000000) 10000000) : -10000000 < r ∧ r ≤ 10000000 ∧ sumR (ind (LC Ef Et ne)) (-10000000) r = 0 := by
  obtain ⟨i1, i2, i3, i4, i5⟩ := nxE hne hr hneE (fun k k0 k1 k2 => by have := hiB k k0 k1; omega) (fun k k0 k1 => by have := hiB k k0 k1; omega) (by decide)
  refine ⟨i1, i2, ?_⟩
  rw [sumR_k (v := 0) (by omega) (fun t h0 h1 => ind_0 (i3 t h0 h1)), Int.mul_zero]
theorem suB {Ef Et : Int → Int} {ne q fa r s : Int} (hne : 0 ≤ ne) (hneE : neS Ef Et ne) (hiB : inB Ef Et ne) (hq0 : -10000000 ≤ q) (hq : q < 10000000) (hu : untP Ef Et ne q fa) (hr : r = nxZ Ef ne fa 10000000) (hs : s = sumR (ind (LC Ef Et ne)) (-10000000) q) : fa < r ∧ q < r ∧ fa < 10000000 ∧ r ≤ 10000000 ∧ s + (fa - q) = sumR (ind (LC Ef Et ne)) (-10000000) r := by
  have hf := unt_b hu hiB
  have hf1 := hu.1
  obtain ⟨i1, i2, i3, i4, i5⟩ := nxE hne hr hneE hu.2.2 (fun k k0 k1 => by have := hiB k k0 k1; omega) (show fa < 10000000 by omega)
  refine ⟨i1, by omega, by omega, i2, ?_⟩
  rw [sumR_cat _ (b := q) (by omega) (by omega), sumR_cat _ (a := q) (b := fa) (by omega) (by omega), ← hs, sumR_k (a := q) (v := 1) (by omega) (fun t h0 h1 => ind_1 (hu.2.1 t h0 h1)), sumR_k (a := fa) (v := 0) (by omega) (fun t h0 h1 => ind_0 (i3 t h0 h1)), Int.mul_one, Int.mul_zero, Int.add_zero]
/-- the stripes -/
theorem colU_k {From To : Int → Int} {vw q bn s1 s2 : Int} (h : ∀ c : Int, 0 ≤ c → c < bn → ((From (3 * c + acx (dax vw)) ≤ s1 ∧ s1 < To (3 * c + acx (dax vw))) ↔ (From (3 * c + acx (dax vw)) ≤ s2 ∧ s2 < To (3 * c + acx (dax vw))))) : colU From To vw q bn s1 = colU From To vw q bn s2 := by
  unfold colU
  refine sumR_e (fun t => ind_e ?_) _ _
  exact ⟨fun ⟨c, c0, c1, ⟨c2, c3⟩, c4⟩ => ⟨c, c0, c1, ⟨c2, (h c c0 c1).mp c3⟩, c4⟩, fun ⟨c, c0, c1, ⟨c2, c3⟩, c4⟩ => ⟨c, c0, c1, ⟨c2, (h c c0 c1).mpr c3⟩, c4⟩⟩
theorem colU_0 {From To : Int → Int} {vw q bn s : Int} (h : ∀ c : Int, 0 ≤ c → c < bn → ¬ (From (3 * c + acx (dax vw)) ≤ s ∧ s < To (3 * c + acx (dax vw)))) : colU From To vw q bn s = 0 := by
  unfold colU
  rw [sumR_k (v := 0) (by decide) (fun t _ _ => ind_0 (fun ⟨c, c0, c1, ⟨c2, c3⟩, c4⟩ => h c c0 c1 c3)), Int.mul_zero]
theorem arA {From To : Int → Int} {vw q bn r : Int} (hn : 0 ≤ bn) (hM : moB bn From To) (hr : r = nxL From To (acx (dax vw)) bn (-10000000)) : -10000000 < r ∧ r ≤ 10000000 ∧ sumR (colU From To vw q bn) (-10000000) r = 0 := by
  have ha := acx_in (dax vw)
  obtain ⟨i1, i2, i3⟩ := nxL_in From To (acx (dax vw)) (-10000000) bn hn
  rw [← hr] at i1 i2 i3
  have h1 : -10000000 < r := by rcases i2 with i | ⟨i, -⟩ <;> omega
  clear i2
  refine ⟨h1, i1, ?_⟩
  have hz : ∀ t : Int, -10000000 ≤ t → t < r → colU From To vw q bn t = 0 := fun t h0 h1 => colU_0 (fun c c0 c1 => by
    have := i3 c c0 c1
    have := hM (3 * c + acx (dax vw)) (by omega) (by omega)
    omega)
  rw [sumR_k (v := 0) (by omega) hz, Int.mul_zero]
theorem arB {From To : Int → Int} {vw q bn sp r ar : Int} (hn : 0 ≤ bn) (hM : moB bn From To) (hs0 : -10000000 ≤ sp) (hsp : sp < 10000000) (hr : r = nxL From To (acx (dax vw)) bn sp) (ha : ar = sumR (colU From To vw q bn) (-10000000) sp) : sp < r ∧ r ≤ 10000000 ∧ (r < 10000000 → ar + (r - sp) * colU From To vw q bn sp = sumR (colU From To vw q bn) (-10000000) r) ∧ (¬ r < 10000000 → ar = sumR (colU From To vw q bn) (-10000000) r) := by
  have hx := acx_in (dax vw)
  obtain ⟨i1, i2, i3⟩ := nxL_in From To (acx (dax vw)) sp bn hn
  rw [← hr] at i1 i2 i3
  have h1 : sp < r := by rcases i2 with i | ⟨i, -⟩ <;> omega
  clear i2
  refine ⟨h1, i1, fun _ => ?_, fun hh => ?_⟩
  · have hz : ∀ t : Int, sp ≤ t → t < r → colU From To vw q bn t = colU From To vw q bn sp := fun t h0 h1 => colU_k (fun c c0 c1 => by
      have := i3 c c0 c1
      omega)
    rw [sumR_cat _ (b := sp) (by omega) (by omega), ← ha, sumR_k (a := sp) (by omega) hz]
  · have hz : ∀ t : Int, sp ≤ t → t < r → colU From To vw q bn t = 0 := fun t h0 h1 => colU_0 (fun c c0 c1 => by
      have := i3 c c0 c1
      have := hM (3 * c + acx (dax vw)) (by omega) (by omega)
      omega)
    rw [sumR_cat _ (b := sp) (by omega) (by omega), ← ha, sumR_k (a := sp) (by omega) hz, Int.mul_zero, Int.add_zero]

/-! THE SAME DRAWING IN THE CLASS AND IN THE MODEL: the same answers -/
def eqA (n ac : Int) (Li Be En St Ups Pla Beg Ens Hid : Int → Int) : Prop := ∀ k : Int, 0 ≤ k → k < n → Ups k = wayZ ac k ∧ Pla k = Li k ∧ Beg k = Be k ∧ Ens k = En k ∧ Hid k = St k
theorem foldZ_e {α : Type} {f g : Int → α → α} {a : α} {n : Int} (hn : 0 ≤ n) (h : ∀ (i : Int) (x : α), 0 ≤ i → i < n → f i x = g i x) : foldZ f a n = foldZ g a n := by
  have key : ∀ k : Nat, (k : Int) ≤ n → foldN f a k = foldN g a k := by
    intro k
    induction k with
    | zero => intro _; rfl
    | succ k ih =>
      intro hk
      show f (k : Int) (foldN f a k) = g (k : Int) (foldN g a k)
      rw [ih (by omega), h _ _ (by omega) (by omega)]
  exact key n.toNat (by omega)
theorem foldZ_2 {f g : Int → Int → Int} {n : Int} (hn : 0 ≤ n) (h : ∀ i x : Int, 0 ≤ i → i < n → 0 ≤ x → x ≤ 2 → f i x = g i x ∧ 0 ≤ f i x ∧ f i x ≤ 2) : foldZ f 2 n = foldZ g 2 n := by
  have key : ∀ k : Nat, (k : Int) ≤ n → foldN f 2 k = foldN g 2 k ∧ 0 ≤ foldN f 2 k ∧ foldN f 2 k ≤ 2 := by
    intro k
    induction k with
    | zero => intro _; exact ⟨rfl, (by show (0 : Int) ≤ 2; decide), (by show (2 : Int) ≤ 2; decide)⟩
    | succ k ih =>
      intro hk
      obtain ⟨i1, i2, i3⟩ := ih (by omega)
      show f (k : Int) (foldN f 2 k) = g (k : Int) (foldN g 2 k) ∧ 0 ≤ f (k : Int) (foldN f 2 k) ∧ f (k : Int) (foldN f 2 k) ≤ 2
      have := h (k : Int) (foldN f 2 k) (by omega) (by omega) i2 i3
      rw [← i1]
      exact this
  exact (key n.toNat (by omega)).1
theorem anyZ_e {P Q : Int → Bool} {n : Int} (hn : 0 ≤ n) (h : ∀ i : Int, 0 ≤ i → i < n → P i = Q i) : anyZ P n = anyZ Q n := foldZ_e hn (fun i x a b => by rw [h i a b])
theorem leastN_e {P Q : Int → Bool} (n : Int) : ∀ k : Nat, (∀ j : Int, n - (k : Int) ≤ j → j < n → P j = Q j) → leastN P n k = leastN Q n k
  | 0, _ => rfl
  | k + 1, h => by
    unfold leastN
    rw [h _ (Int.le_refl _) (by omega), leastN_e n k (fun j a b => h j (by omega) b)]
theorem leastZ_e {P Q : Int → Bool} {n : Int} (h : ∀ i : Int, 0 ≤ i → i < n → P i = Q i) : leastZ P n = leastZ Q n := leastN_e n n.toNat (fun j a b => h j (by omega) b)
theorem kthZ_e {P Q : Int → Bool} {k n : Int} (h : ∀ i : Int, 0 ≤ i → i < n → P i = Q i) : kthZ P k n = kthZ Q k n := by
  have e : leastZ (fun i => P i && decide (cntZ P i = k)) n = leastZ (fun i => Q i && decide (cntZ Q i = k)) n :=
    leastZ_e (fun i a b => by
      show (P i && decide (cntZ P i = k)) = (Q i && decide (cntZ Q i = k))
      rw [h i a b, cntZ_e a (fun j c d => h j c (by omega))])
  unfold kthZ
  rw [e]
section EA
variable {n ac : Int} {Li Be En St Ups Pla Beg Ens Hid : Int → Int}
theorem ea_num (h : eqA n ac Li Be En St Ups Pla Beg Ens Hid) {k i : Int} (h0 : 0 ≤ k) (h1 : k < n) : numS ac Li Be En St k i = numM Ups Pla Beg Ens Hid k i := by
  obtain ⟨a, b, c, d, e⟩ := h k h0 h1
  unfold numS numM
  rw [a, b, c, d, e]
theorem ea_on (h : eqA n ac Li Be En St Ups Pla Beg Ens Hid) (hd : bdA n Li Be En St) (hn : 0 ≤ n) {ub x y : Int} (hu : ub = 0 ∨ ub = 1) : foldZ (stF ac Li Be En St ub (if ub = 0 then y else x) (if ub = 0 then x else y)) 2 n = foldZ (onF Ups Pla Beg Ens Hid ub x y) 2 n := by
  refine foldZ_2 hn (fun k v k0 k1 v0 v1 => ?_)
  obtain ⟨a, b, c, d, e⟩ := h k k0 k1
  obtain ⟨-, -, -, -, s⟩ := hd k k0 k1
  unfold stF onF lnM_
  rw [a, b, c, d, e]
  rcases hu with e | e
  · subst e
    simp only [if_true, decide_eq_true_eq]
    by_cases g : wayZ ac k = 0 ∧ Li k = y ∧ Be k ≤ x ∧ x ≤ En k
    · rw [if_pos g, if_pos (by omega)]
      split <;> omega
    · rw [if_neg g, if_neg (by omega)]
      omega
  · subst e
    have z : ((1 : Int) = 0) = False := by simp
    simp only [z, if_false, decide_eq_true_eq]
    by_cases g : wayZ ac k = 1 ∧ Li k = x ∧ Be k ≤ y ∧ y ≤ En k
    · rw [if_pos g, if_pos (by omega)]
      split <;> omega
    · rw [if_neg g, if_neg (by omega)]
      omega
theorem ea_ink (h : eqA n ac Li Be En St Ups Pla Beg Ens Hid) (hd : bdA n Li Be En St) (hn : 0 ≤ n) {w : Int} : sumZ (lnS St Be En w) n = sumZ (inkF Beg Ens Hid w) n := by
  refine sumZ_e hn (fun k k0 k1 => ?_)
  obtain ⟨a, b, c, d, e⟩ := h k k0 k1
  obtain ⟨-, -, -, -, s⟩ := hd k k0 k1
  unfold lnS inkF
  rw [c, d, e]
  have z : (if St k = 1 then (1 : Int) else 0) = St k := by split <;> omega
  rw [z]
theorem ea_new {kn kac : Int} {kLi kBe kEn kSt KUp KPl KBe KEn KHi : Int → Int} (h : eqA n ac Li Be En St Ups Pla Beg Ens Hid) (hk : eqA kn kac kLi kBe kEn kSt KUp KPl KBe KEn KHi) (hkn : 0 ≤ kn) {k : Int} : kthZ (newP kn kac kLi kBe kEn kSt ac Li Be En St) k n = kthZ (mNew Ups Pla Beg Ens Hid KUp KPl KBe KEn KHi kn) k n := by
  refine kthZ_e (fun i i0 i1 => ?_)
  obtain ⟨a, b, c, d, e⟩ := h i i0 i1
  unfold newP mNew
  rw [anyZ_e hkn (P := fun j => sameS kac kLi kBe kEn kSt ac Li Be En St j i) (Q := mSame Ups Pla Beg Ens Hid KUp KPl KBe KEn KHi i) (fun j j0 j1 => by
    obtain ⟨a2, b2, c2, d2, e2⟩ := hk j j0 j1
    unfold sameS mSame
    rw [a, b, c, d, e, a2, b2, c2, d2, e2])]
theorem ea_mo (h : eqA n ac Li Be En St Ups Pla Beg Ens Hid) (hd : bdA n Li Be En St) : moS n Ups Pla Beg Ens Hid := by
  intro k k0 k1
  obtain ⟨a, b, c, d, e⟩ := h k k0 k1
  obtain ⟨s1, s2, s3, -, s⟩ := hd k k0 k1
  have := wayZ_01 ac k
  rw [a, b, c, d, e]
  exact ⟨s1, s2, s3, by omega, s⟩
theorem ea_of {sz : Int} {L0 L1 : List T4} (hA : arrS n Li Be En St (L0 ++ L1)) (hac : ac = (L0.length : Int)) (hM : arrS sz Pla Beg Ens Hid (L0 ++ L1)) (hU : upP Ups sz L0) : sz = n ∧ eqA n ac Li Be En St Ups Pla Beg Ens Hid := by
  have e : sz = n := by rw [hM.1, hA.1]
  refine ⟨e, fun k k0 k1 => ?_⟩
  have hk : k.toNat < (L0 ++ L1).length := by have := hA.1; omega
  obtain ⟨a1, a2, a3, a4⟩ := arrS_at hA hk
  obtain ⟨b1, b2, b3, b4⟩ := arrS_at hM hk
  rw [Int.toNat_of_nonneg k0] at a1 a2 a3 a4 b1 b2 b3 b4
  refine ⟨?_, by rw [a1, b1], by rw [a2, b2], by rw [a3, b3], by rw [a4, b4]⟩
  rw [hU k k0 (by omega), hac]
  rfl
theorem ea_cp {oLi oBe oEn oSt oU oP oB oE oH : Int → Int} (h : eqA n ac Li Be En St Ups Pla Beg Ens Hid) : eqA n ac (cpz Li oLi n) (cpz Be oBe n) (cpz En oEn n) (cpz St oSt n) (cpz Ups oU n) (cpz Pla oP n) (cpz Beg oB n) (cpz Ens oE n) (cpz Hid oH n) := by
  intro k k0 k1
  have z : ∀ f g : Int → Int, cpz f g n k = f k := fun f g => by unfold cpz; rw [if_pos ⟨k0, k1⟩]
  rw [z, z, z, z, z, z, z, z, z]
  exact h k k0 k1
theorem dw_cp {oLi oBe oEn oSt : Int → Int} (h : dwA n ac Li Be En St) : dwA n ac (cpz Li oLi n) (cpz Be oBe n) (cpz En oEn n) (cpz St oSt n) := by
  obtain ⟨⟨h0, h1, h2⟩, h3, h4, h5, h6⟩ := h
  have z : ∀ (f g : Int → Int) (k : Int), 0 ≤ k → k < n → cpz f g n k = f k := fun f g k k0 k1 => by unfold cpz; rw [if_pos ⟨k0, k1⟩]
  refine ⟨⟨h0, h1, h2⟩, fun k k0 k1 => ?_, fun j k j0 jk k1 => ?_, fun k k0 k1 => ?_, fun k k0 k1 => ?_⟩
  · rw [z _ _ k k0 k1, z _ _ k k0 k1, z _ _ k k0 k1, z _ _ k k0 k1]
    exact h3 k k0 k1
  · rw [z _ _ k (by omega) k1, z _ _ k (by omega) k1, z _ _ j j0 (by omega), z _ _ j j0 (by omega)]
    exact h4 j k j0 jk k1
  · obtain ⟨⟨j1, a1, b1, c1⟩, ⟨j2, a2, b2, c2⟩⟩ := h5 k k0 k1
    rw [z _ _ k k0 (by omega), z _ _ k k0 (by omega)]
    exact ⟨⟨j1, a1, b1, by rw [z _ _ j1 (by omega) b1]; exact c1⟩, ⟨j2, a2, b2, by rw [z _ _ j2 (by omega) b2]; exact c2⟩⟩
  · obtain ⟨⟨j1, a1, b1, c1⟩, ⟨j2, a2, b2, c2⟩⟩ := h6 k k0 k1
    rw [z _ _ k (by omega) k1, z _ _ k (by omega) k1]
    exact ⟨⟨j1, a1, b1, by rw [z _ _ j1 a1 (by omega)]; exact c1⟩, ⟨j2, a2, b2, by rw [z _ _ j2 a2 (by omega)]; exact c2⟩⟩
/-- the outermost places -/
theorem edM_lo (up : Int) {m : Int} (hm : 0 ≤ m) : (∀ k : Int, 0 ≤ k → k < m → edM Ups Pla Beg Ens up 0 m ≤ edA Ups Pla Beg Ens up 0 k) ∧ (0 < m → ∃ k : Int, 0 ≤ k ∧ k < m ∧ edM Ups Pla Beg Ens up 0 m = edA Ups Pla Beg Ens up 0 k) ∧ (m = 0 → edM Ups Pla Beg Ens up 0 m = 0) := by
  have key : ∀ q : Nat, (∀ k : Int, 0 ≤ k → k < (q : Int) → edM Ups Pla Beg Ens up 0 (q : Int) ≤ edA Ups Pla Beg Ens up 0 k) ∧ (0 < (q : Int) → ∃ k : Int, 0 ≤ k ∧ k < (q : Int) ∧ edM Ups Pla Beg Ens up 0 (q : Int) = edA Ups Pla Beg Ens up 0 k) := by
    intro q
    induction q with
    | zero => exact ⟨fun k k0 k1 => absurd k1 (by omega), fun h => absurd h (by omega)⟩
    | succ q ih =>
      obtain ⟨i1, i2⟩ := ih
      rw [show ((q + 1 : Nat) : Int) = (q : Int) + 1 by omega, edM_s _ _ _ _ _ _ (by omega)]
      have eb : ∀ a v : Int, edB 0 a v = 1 ↔ a < v := fun a v => by unfold edB; rw [if_pos rfl]; split <;> omega
      split
      · next g =>
        rw [eb] at g
        refine ⟨fun k k0 k1 => ?_, fun _ => ⟨(q : Int), by omega, by omega, rfl⟩⟩
        by_cases e : k = (q : Int)
        · subst e; exact Int.le_refl _
        · have := i1 k k0 (by omega); omega
      · next g =>
        rw [eb] at g
        refine ⟨fun k k0 k1 => ?_, fun _ => ?_⟩
        · by_cases e : k = (q : Int)
          · subst e; omega
          · exact i1 k k0 (by omega)
        · obtain ⟨k, k0, k1, k2⟩ := i2 (by omega)
          exact ⟨k, k0, by omega, k2⟩
  have := key m.toNat
  rw [Int.toNat_of_nonneg hm] at this
  exact ⟨this.1, this.2, fun e => by rw [e]; rfl⟩
theorem edM_hi (up : Int) {m : Int} (hm : 0 ≤ m) : (∀ k : Int, 0 ≤ k → k < m → edA Ups Pla Beg Ens up 1 k ≤ edM Ups Pla Beg Ens up 1 m) ∧ (0 < m → ∃ k : Int, 0 ≤ k ∧ k < m ∧ edM Ups Pla Beg Ens up 1 m = edA Ups Pla Beg Ens up 1 k) ∧ (m = 0 → edM Ups Pla Beg Ens up 1 m = 0) := by
  have key : ∀ q : Nat, (∀ k : Int, 0 ≤ k → k < (q : Int) → edA Ups Pla Beg Ens up 1 k ≤ edM Ups Pla Beg Ens up 1 (q : Int)) ∧ (0 < (q : Int) → ∃ k : Int, 0 ≤ k ∧ k < (q : Int) ∧ edM Ups Pla Beg Ens up 1 (q : Int) = edA Ups Pla Beg Ens up 1 k) := by
    intro q
    induction q with
    | zero => exact ⟨fun k k0 k1 => absurd k1 (by omega), fun h => absurd h (by omega)⟩
    | succ q ih =>
      obtain ⟨i1, i2⟩ := ih
      rw [show ((q + 1 : Nat) : Int) = (q : Int) + 1 by omega, edM_s _ _ _ _ _ _ (by omega)]
      have eb : ∀ a v : Int, edB 1 a v = 1 ↔ v < a := fun a v => by unfold edB; rw [if_neg (by decide)]; split <;> omega
      split
      · next g =>
        rw [eb] at g
        refine ⟨fun k k0 k1 => ?_, fun _ => ⟨(q : Int), by omega, by omega, rfl⟩⟩
        by_cases e : k = (q : Int)
        · subst e; exact Int.le_refl _
        · have := i1 k k0 (by omega); omega
      · next g =>
        rw [eb] at g
        refine ⟨fun k k0 k1 => ?_, fun _ => ?_⟩
        · by_cases e : k = (q : Int)
          · subst e; omega
          · exact i1 k k0 (by omega)
        · obtain ⟨k, k0, k1, k2⟩ := i2 (by omega)
          exact ⟨k, k0, by omega, k2⟩
  have := key m.toNat
  rw [Int.toNat_of_nonneg hm] at this
  exact ⟨this.1, this.2, fun e => by rw [e]; rfl⟩
theorem lx_l (hl : lxA n ac Li Be) {j k : Int} (h0 : 0 ≤ j) (h1 : j ≤ k) (h2 : k < n) (hw : wayZ ac j = wayZ ac k) : Li j ≤ Li k := by
  by_cases e : j = k
  · subst e; exact Int.le_refl _
  · have := hl j k h0 (by omega) h2
    omega
theorem way_l {k : Int} (h : k < ac) : wayZ ac k = 0 := by unfold wayZ; rw [if_pos h]
theorem way_r {k : Int} (h : ac ≤ k) : wayZ ac k = 1 := by unfold wayZ; rw [if_neg (by omega)]
/-- least and greatest places are the outermost lines -/
theorem ed_lo0 (h : eqA n ac Li Be En St Ups Pla Beg Ens Hid) (hd : dwA n ac Li Be En St) (h1 : 0 < ac) (h2 : ac < n) : edM Ups Pla Beg Ens 0 0 n = Li ac ∧ edM Ups Pla Beg Ens 0 1 n = Li (n - 1) ∧ edM Ups Pla Beg Ens 1 0 n = Li 0 ∧ edM Ups Pla Beg Ens 1 1 n = Li (ac - 1) := by
  obtain ⟨⟨c0, c1, c2⟩, hb, hl, ho1, ho2⟩ := hd
  have A0 : ∀ (up gr k : Int), 0 ≤ k → k < n → edA Ups Pla Beg Ens up gr k = if wayZ ac k = up then (if gr = 0 then Be k else En k) else Li k := by
    intro up gr k k0 k1
    obtain ⟨a, b, c, d, e⟩ := h k k0 k1
    unfold edA
    rw [a, b, c, d]
  have lo : ∀ (up r s : Int), 0 ≤ r → r < n → wayZ ac r ≠ up → (∀ k : Int, 0 ≤ k → k < n → Li r ≤ edA Ups Pla Beg Ens up 0 k) → edM Ups Pla Beg Ens up 0 n = Li r := by
    intro up r s r0 r1 hw hmin
    obtain ⟨e1, e2, -⟩ := edM_lo (Ups := Ups) (Pla := Pla) (Beg := Beg) (Ens := Ens) up (m := n) (by omega)
    obtain ⟨k, k0, k1, k2⟩ := e2 (by omega)
    have g1 := e1 r r0 r1
    rw [A0 up 0 r r0 r1, if_neg hw] at g1
    have g2 := hmin k k0 k1
    omega
  have hi : ∀ (up r s : Int), 0 ≤ r → r < n → wayZ ac r ≠ up → (∀ k : Int, 0 ≤ k → k < n → edA Ups Pla Beg Ens up 1 k ≤ Li r) → edM Ups Pla Beg Ens up 1 n = Li r := by
    intro up r s r0 r1 hw hmin
    obtain ⟨e1, e2, -⟩ := edM_hi (Ups := Ups) (Pla := Pla) (Beg := Beg) (Ens := Ens) up (m := n) (by omega)
    obtain ⟨k, k0, k1, k2⟩ := e2 (by omega)
    have g1 := e1 r r0 r1
    rw [A0 up 1 r r0 r1, if_neg hw] at g1
    have g2 := hmin k k0 k1
    omega
  refine ⟨lo 0 ac 0 (by omega) h2 (by rw [way_r (Int.le_refl _)]; decide) (fun k k0 k1 => ?_), hi 0 (n - 1) 0 (by omega) (by omega) (by rw [way_r (by omega)]; decide) (fun k k0 k1 => ?_), lo 1 0 0 (by omega) (by omega) (by rw [way_l h1]; decide) (fun k k0 k1 => ?_), hi 1 (ac - 1) 0 (by omega) (by omega) (by rw [way_l (by omega)]; decide) (fun k k0 k1 => ?_)⟩
  · rw [A0 0 0 k k0 k1]
    by_cases g : k < ac
    · rw [way_l g, if_pos rfl, if_pos rfl]
      obtain ⟨⟨j, j0, j1, j2⟩, -⟩ := ho1 k k0 g
      have := lx_l hl (j := ac) (k := j) (by omega) j0 j1 (by rw [way_r (Int.le_refl _), way_r j0])
      omega
    · rw [way_r (by omega), if_neg (by decide)]
      exact lx_l hl (by omega) (by omega) k1 (by rw [way_r (Int.le_refl _), way_r (by omega)])
  · rw [A0 0 1 k k0 k1]
    by_cases g : k < ac
    · rw [way_l g, if_pos rfl, if_neg (by decide)]
      obtain ⟨-, ⟨j, j0, j1, j2⟩⟩ := ho1 k k0 g
      have := lx_l hl (j := j) (k := n - 1) (by omega) (by omega) (by omega) (by rw [way_r j0, way_r (by omega)])
      omega
    · rw [way_r (by omega), if_neg (by decide)]
      exact lx_l hl (by omega) (by omega) (by omega) (by rw [way_r (by omega), way_r (by omega)])
  · rw [A0 1 0 k k0 k1]
    by_cases g : k < ac
    · rw [way_l g, if_neg (by decide)]
      exact lx_l hl (by omega) (by omega) k1 (by rw [way_l (by omega), way_l g])
    · rw [way_r (by omega), if_pos rfl, if_pos rfl]
      obtain ⟨⟨j, j0, j1, j2⟩, -⟩ := ho2 k (by omega) k1
      have := lx_l hl (j := 0) (k := j) (by omega) j0 (by omega) (by rw [way_l (by omega), way_l j1])
      omega
  · rw [A0 1 1 k k0 k1]
    by_cases g : k < ac
    · rw [way_l g, if_neg (by decide)]
      exact lx_l hl (by omega) (by omega) (by omega) (by rw [way_l g, way_l (by omega)])
    · rw [way_r (by omega), if_pos rfl, if_neg (by decide)]
      obtain ⟨-, ⟨j, j0, j1, j2⟩⟩ := ho2 k (by omega) k1
      have := lx_l hl (j := j) (k := ac - 1) (by omega) (by omega) (by omega) (by rw [way_l j1, way_l (by omega)])
      omega
theorem dw_both (hd : dwA n ac Li Be En St) (h : ¬ (0 < ac ∧ ac < n)) : n = 0 := by
  obtain ⟨⟨c0, c1, c2⟩, hb, hl, ho1, ho2⟩ := hd
  by_cases e : n = 0
  · exact e
  · by_cases g : 0 < ac
    · obtain ⟨⟨j, j0, j1, -⟩, -⟩ := ho1 0 (by omega) g
      omega
    · obtain ⟨⟨j, j0, j1, -⟩, -⟩ := ho2 0 (by omega) (by omega)
      omega
theorem pgF_0 {ea : Int} (h : 1 ≤ ea) : pgF 0 ea = 1 := by
  unfold pgF
  have : (0 + ea - 1).tdiv ea = 0 := Int.tdiv_eq_zero_of_lt (by omega) (by omega)
  rw [this]
  decide
theorem pg_lay (h : eqA n ac Li Be En St Ups Pla Beg Ens Hid) (hd : dwA n ac Li Be En St) {wd hg co ro oa ou : Int} (hw : 1 ≤ wd) (hg1 : 1 ≤ hg) (hl : layP ac n Li wd hg co ro oa ou) : co = pgF (edM Ups Pla Beg Ens 0 1 n - edM Ups Pla Beg Ens 0 0 n) wd ∧ ro = pgF (edM Ups Pla Beg Ens 1 1 n - edM Ups Pla Beg Ens 1 0 n) hg ∧ oa = edM Ups Pla Beg Ens 0 0 n ∧ ou = edM Ups Pla Beg Ens 1 0 n := by
  by_cases g : 0 < ac ∧ ac < n
  · obtain ⟨e1, e2, e3, e4⟩ := ed_lo0 h hd g.1 g.2
    rw [e1, e2, e3, e4]
    exact hl.1 g
  · have e := dw_both hd g
    obtain ⟨l1, l2, l3, l4⟩ := hl.2 g
    subst e
    have z : ∀ up gr : Int, edM Ups Pla Beg Ens up gr 0 = 0 := fun up gr => rfl
    rw [z, z, z, z, Int.sub_self, pgF_0 hw, pgF_0 hg1]
    exact ⟨l1, l2, l3, l4⟩
theorem pg_on (h : eqA n ac Li Be En St Ups Pla Beg Ens Hid) (hn : 0 ≤ n) {wd hg lf lw la : Int} : cntZ (onPg ac Li Be En lf (lf + wd) lw (lw + hg)) n = cntZ (pgP Ups Pla Beg Ens wd hg lf lw la 0) n := by
  refine cntZ_e hn (fun k k0 k1 => ?_)
  obtain ⟨a, b, c, d, e⟩ := h k k0 k1
  unfold onPg pgP onM tchP rnsP
  rw [if_pos rfl, a, b, c, d]
  split
  · rw [← Bool.decide_and]; exact decide_eq_decide.mpr (by omega)
  · rw [← Bool.decide_and]; exact decide_eq_decide.mpr (by omega)
theorem cnt_cut {P Q : Int → Bool} {a m : Int} (h0 : 0 ≤ a) (h1 : a ≤ m) (h : ∀ k : Int, 0 ≤ k → k < a → P k = Q k) (h2 : ∀ k : Int, a ≤ k → k < m → Q k = false) : cntZ P a = cntZ Q m := by
  have key : ∀ q : Nat, a + (q : Int) ≤ m → cntZ Q (a + (q : Int)) = cntZ Q a := by
    intro q
    induction q with
    | zero => intro _; rw [show a + ((0 : Nat) : Int) = a by omega]
    | succ q ih =>
      intro hq
      rw [show a + ((q + 1 : Nat) : Int) = (a + (q : Int)) + 1 by omega, cntZ_s _ (by omega), ih (by omega), h2 _ (by omega) (by omega)]
      show _ + (0 : Int) = _
      omega
  have := key (m - a).toNat (by omega)
  rw [show a + ((m - a).toNat : Int) = m by omega] at this
  rw [this]
  exact cntZ_e h0 h
theorem pg_mk (h : eqA n ac Li Be En St Ups Pla Beg Ens Hid) (h0 : 0 ≤ ac) (h1 : ac ≤ n) {wd hg lf lw la : Int} : cntZ (mkPg Li Be En (lf + wd) lw (lw + hg) la) ac = cntZ (pgP Ups Pla Beg Ens wd hg lf lw la 1) n := by
  refine cnt_cut h0 h1 (fun k k0 k1 => ?_) (fun k k0 k1 => ?_)
  · obtain ⟨a, b, c, d, e⟩ := h k k0 (by omega)
    unfold mkPg pgP mkM mkAt irM
    rw [if_neg (by decide), a, b, c, d, way_l k1, ← Bool.decide_and]
    refine decide_eq_decide.mpr ?_
    rw [decide_eq_true_eq]
    omega
  · obtain ⟨a, b, c, d, e⟩ := h k (by omega) k1
    unfold pgP mkM
    rw [if_neg (by decide), a, way_r k0]
    exact decide_eq_false (fun q => absurd q.1 (by decide))
end EA

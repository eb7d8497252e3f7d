/-! A DRAWING IN ARRAYS -/
def bdA (n : Int) (Li Be En St : Int → Int) : Prop := ∀ k : Int, 0 ≤ k → k < n → B2 (Li k) ∧ B2 (Be k) ∧ B2 (En k) ∧ Be k < En k ∧ (St k = 0 ∨ St k = 1)
def lxA (n ac : Int) (Li Be : Int → Int) : Prop := ∀ j k : Int, 0 ≤ j → j < k → k < n → lexL (wayZ ac j) (Li j) (Be j) (wayZ ac k) (Li k) (Be k)
/-- each stroke lies between lines of the other way -/
def otA (a b c d : Int) (Li Be En : Int → Int) : Prop := ∀ k : Int, a ≤ k → k < b → (∃ j : Int, c ≤ j ∧ j < d ∧ Li j ≤ Be k) ∧ (∃ j : Int, c ≤ j ∧ j < d ∧ En k ≤ Li j)
def dwA (n ac : Int) (Li Be En St : Int → Int) : Prop := (0 ≤ ac ∧ ac ≤ n ∧ n ≤ 1200) ∧ bdA n Li Be En St ∧ lxA n ac Li Be ∧ otA 0 ac ac n Li Be En ∧ otA ac n 0 ac Li Be En
theorem gD_l {L K : List T4} {k : Nat} (h : k < L.length) : gD (L ++ K) k = gD L k := by
  unfold gD
  rw [List.getD_eq_getElem?_getD, List.getD_eq_getElem?_getD, List.getElem?_append_left h]
theorem gD_r {L K : List T4} (k : Nat) : gD (L ++ K) (L.length + k) = gD K k := by
  unfold gD
  rw [List.getD_eq_getElem?_getD, List.getD_eq_getElem?_getD, List.getElem?_append_right (by omega), show L.length + k - L.length = k by omega]
theorem gD_pw {R : T4 → T4 → Prop} : ∀ {L : List T4}, L.Pairwise R → ∀ {j k : Nat}, j < k → k < L.length → R (gD L j) (gD L k)
  | [], _, j, k, _, h => absurd h (by simp)
  | q :: t, hs, 0, 0, h, _ => absurd h (by omega)
  | q :: t, hs, 0, k + 1, _, h2 => by
    obtain ⟨s1, s2⟩ := List.pairwise_cons.mp hs
    have e : gD (q :: t) (k + 1) = gD t k := by simp [gD]
    rw [e]
    exact s1 _ (gD_mem (by simpa using h2))
  | q :: t, hs, j + 1, 0, h, _ => absurd h (by omega)
  | q :: t, hs, j + 1, k + 1, h, h2 => by
    obtain ⟨s1, s2⟩ := List.pairwise_cons.mp hs
    have e : gD (q :: t) (k + 1) = gD t k := by simp [gD]
    have e2 : gD (q :: t) (j + 1) = gD t j := by simp [gD]
    rw [e, e2]
    exact gD_pw s2 (by omega) (by simpa using h2)
theorem stB_e {From To : Int → Int} {vw al be pl bn t : Int} (h : stB From To vw al be pl bn t ≠ 2) : egB From To al be pl bn t := Classical.byContradiction (fun g => h (stB_2 g))
theorem stB_ne {From To : Int → Int} {vw al be pl bn t : Int} (h : egB From To al be pl bn t) : stB From To vw al be pl bn t ≠ 2 := by
  by_cases g : seB From To vw al be pl bn bn t
  · rw [stB_0 g]; decide
  · rw [stB_1 g h]; decide
theorem stB_v (From To : Int → Int) (vw al be pl bn t : Int) : stB From To vw al be pl bn t = 0 ∨ stB From To vw al be pl bn t = 1 ∨ stB From To vw al be pl bn t = 2 := by
  by_cases g : seB From To vw al be pl bn bn t
  · exact Or.inl (stB_0 g)
  · by_cases h : egB From To al be pl bn t
    · exact Or.inr (Or.inl (stB_1 g h))
    · exact Or.inr (Or.inr (stB_2 h))
section DW
variable {From To : Int → Int} {vw bn : Int}
theorem run_bd {u y b e h : Int} (hM : moB bn From To) (r : isRun (stW From To vw bn u y) b e h) : B2 y ∧ B2 b ∧ B2 e ∧ b < e ∧ (h = 0 ∨ h = 1) := by
  have ha := alW_in vw u
  have hb := beW_in vw u
  have r1 := r.lt
  have r2 := r.ne
  have e1 := r.al b (by omega) (by omega)
  have e2 := r.al (e - 1) (by omega) (by omega)
  have v := stB_v From To vw (alW vw u) (beW vw u) y bn b
  unfold stW at e1 e2
  obtain ⟨c, c0, c1, c2, c3, c4⟩ := stB_e (From := From) (To := To) (vw := vw) (al := alW vw u) (be := beW vw u) (pl := y) (bn := bn) (t := b) (by omega)
  obtain ⟨d, d0, d1, d2, d3, d4⟩ := stB_e (From := From) (To := To) (vw := vw) (al := alW vw u) (be := beW vw u) (pl := y) (bn := bn) (t := e - 1) (by omega)
  have m1 := hM (3 * c + alW vw u) (by omega) (by omega)
  have m2 := hM (3 * d + alW vw u) (by omega) (by omega)
  have m3 := hM (3 * c + beW vw u) (by omega) (by omega)
  unfold edC at c2
  refine ⟨by omega, by omega, by omega, r1, by omega⟩
theorem way_o {u w : Int} (h : u = 0 ∧ w = 1 ∨ u = 1 ∧ w = 0) (vw : Int) : alW vw w = beW vw u ∧ beW vw w = alW vw u := by
  unfold alW beW
  rcases h with ⟨e1, e2⟩ | ⟨e1, e2⟩ <;> subst e1 <;> subst e2 <;> exact ⟨rfl, rfl⟩
theorem run_ot {u w y b e h : Int} (hM : moB bn From To) (hu : u = 0 ∧ w = 1 ∨ u = 1 ∧ w = 0) (r : isRun (stW From To vw bn u y) b e h) {K : List T4} (hK : enY (stW From To vw bn w) 10000000 K) : (∃ q ∈ K, q.1 ≤ b) ∧ (∃ q ∈ K, e ≤ q.1) := by
  have ha := alW_in vw u
  have hb := beW_in vw u
  have r1 := r.lt
  have r2 := r.ne
  have e1 := r.al b (by omega) (by omega)
  have e2 := r.al (e - 1) (by omega) (by omega)
  unfold stW at e1 e2
  obtain ⟨c, c0, c1, c2, c3, c4⟩ := stB_e (From := From) (To := To) (vw := vw) (al := alW vw u) (be := beW vw u) (pl := y) (bn := bn) (t := b) (by omega)
  obtain ⟨d, d0, d1, d2, d3, d4⟩ := stB_e (From := From) (To := To) (vw := vw) (al := alW vw u) (be := beW vw u) (pl := y) (bn := bn) (t := e - 1) (by omega)
  obtain ⟨o1, o2⟩ := way_o hu vw
  have m1 := hM (3 * c + alW vw u) (by omega) (by omega)
  have m2 := hM (3 * d + alW vw u) (by omega) (by omega)
  have m3 := hM (3 * c + beW vw u) (by omega) (by omega)
  have m4 := hM (3 * d + beW vw u) (by omega) (by omega)
  have n1 : stW From To vw bn w (From (3 * c + alW vw u)) (From (3 * c + beW vw u)) ≠ 2 := by
    unfold stW
    rw [o1, o2]
    exact stB_ne ⟨c, c0, c1, Or.inl rfl, by omega, by omega⟩
  have n2 : stW From To vw bn w (To (3 * d + alW vw u)) (From (3 * d + beW vw u)) ≠ 2 := by
    unfold stW
    rw [o1, o2]
    exact stB_ne ⟨d, d0, d1, Or.inr rfl, by omega, by omega⟩
  obtain ⟨q1, k1, k2, -⟩ := hK.2.2 _ _ (by omega) n1
  obtain ⟨q2, k3, k4, -⟩ := hK.2.2 _ _ (by omega) n2
  exact ⟨⟨q1, k1, by omega⟩, ⟨q2, k3, by omega⟩⟩
theorem dw_of {L0 L1 : List T4} {n ac : Int} {Li Be En St : Int → Int} (hM : moB bn From To) (hb : bn ≤ 24) (h0 : enY (stW From To vw bn 0) 10000000 L0) (h1 : enY (stW From To vw bn 1) 10000000 L1) (hA : arrS n Li Be En St (L0 ++ L1)) (hac : ac = (L0.length : Int)) : dwA n ac Li Be En St := by
  have hlen := hA.1
  have hcap := cap1200 hb hM h0 h1
  rw [List.length_append] at hlen
  have at0 : ∀ k : Int, 0 ≤ k → k < ac → k.toNat < L0.length ∧ Li k = (gD L0 k.toNat).1 ∧ Be k = (gD L0 k.toNat).2.1 ∧ En k = (gD L0 k.toNat).2.2.1 ∧ St k = (gD L0 k.toNat).2.2.2 := by
    intro k k0 k1
    have hk : k.toNat < L0.length := by omega
    have := arrS_at hA (k := k.toNat) (by rw [List.length_append]; omega)
    rw [gD_l hk, Int.toNat_of_nonneg k0] at this
    exact ⟨hk, this⟩
  have at1 : ∀ k : Int, ac ≤ k → k < n → (k - ac).toNat < L1.length ∧ Li k = (gD L1 (k - ac).toNat).1 ∧ Be k = (gD L1 (k - ac).toNat).2.1 ∧ En k = (gD L1 (k - ac).toNat).2.2.1 ∧ St k = (gD L1 (k - ac).toNat).2.2.2 := by
    intro k k0 k1
    have hk : (k - ac).toNat < L1.length := by omega
    have := arrS_at hA (k := L0.length + (k - ac).toNat) (by rw [List.length_append]; omega)
    rw [gD_r, show ((L0.length + (k - ac).toNat : Nat) : Int) = k by omega] at this
    exact ⟨hk, this⟩
  have bk1 : ∀ q ∈ L1, ∃ j : Int, ac ≤ j ∧ j < n ∧ Li j = q.1 := by
    intro q hq
    obtain ⟨k, k1, k2⟩ := gD_ex hq
    refine ⟨ac + (k : Int), by omega, by omega, ?_⟩
    have := (at1 (ac + (k : Int)) (by omega) (by omega)).2.1
    rw [this, show (ac + (k : Int) - ac).toNat = k by omega, k2]
  have bk0 : ∀ q ∈ L0, ∃ j : Int, 0 ≤ j ∧ j < ac ∧ Li j = q.1 := by
    intro q hq
    obtain ⟨k, k1, k2⟩ := gD_ex hq
    refine ⟨(k : Int), by omega, by omega, ?_⟩
    have := (at0 (k : Int) (by omega) (by omega)).2.1
    rw [this, show (k : Int).toNat = k by omega, k2]
  refine ⟨⟨by omega, by omega, by omega⟩, fun k k0 k1 => ?_, fun j k j0 jk k1 => ?_, fun k k0 k1 => ?_, fun k k0 k1 => ?_⟩
  · by_cases g : k < ac
    · obtain ⟨a0, a1, a2, a3, a4⟩ := at0 k k0 g
      rw [a1, a2, a3, a4]
      exact run_bd hM (h0.1 _ (gD_mem a0)).1
    · obtain ⟨a0, a1, a2, a3, a4⟩ := at1 k (by omega) k1
      rw [a1, a2, a3, a4]
      exact run_bd hM (h1.1 _ (gD_mem a0)).1
  · by_cases g : k < ac
    · obtain ⟨a0, a1, a2, -⟩ := at0 k (by omega) g
      obtain ⟨b0, b1, b2, b3, -⟩ := at0 j j0 (by omega)
      have hp := gD_pw h0.2.1 (j := j.toNat) (k := k.toNat) (by omega) a0
      have hr := (h0.1 _ (gD_mem b0)).1.lt
      unfold wayZ
      rw [if_pos g, if_pos (by omega), a1, a2, b1, b2]
      omega
    · by_cases g2 : j < ac
      · unfold wayZ
        rw [if_neg g, if_pos g2]
        omega
      · obtain ⟨a0, a1, a2, -⟩ := at1 k (by omega) k1
        obtain ⟨b0, b1, b2, b3, -⟩ := at1 j (by omega) (by omega)
        have hp := gD_pw h1.2.1 (j := (j - ac).toNat) (k := (k - ac).toNat) (by omega) a0
        have hr := (h1.1 _ (gD_mem b0)).1.lt
        unfold wayZ
        rw [if_neg g, if_neg g2, a1, a2, b1, b2]
        omega
  · obtain ⟨a0, a1, a2, a3, a4⟩ := at0 k k0 k1
    obtain ⟨⟨q1, e1, f1⟩, ⟨q2, e2, f2⟩⟩ := run_ot hM (Or.inl ⟨rfl, rfl⟩) (h0.1 _ (gD_mem a0)).1 h1
    obtain ⟨j1, x1, y1, z1⟩ := bk1 q1 e1
    obtain ⟨j2, x2, y2, z2⟩ := bk1 q2 e2
    exact ⟨⟨j1, x1, y1, by omega⟩, ⟨j2, x2, y2, by omega⟩⟩
  · obtain ⟨a0, a1, a2, a3, a4⟩ := at1 k k0 k1
    obtain ⟨⟨q1, e1, f1⟩, ⟨q2, e2, f2⟩⟩ := run_ot hM (Or.inr ⟨rfl, rfl⟩) (h1.1 _ (gD_mem a0)).1 h0
    obtain ⟨j1, x1, y1, z1⟩ := bk0 q1 e1
    obtain ⟨j2, x2, y2, z2⟩ := bk0 q2 e2
    exact ⟨⟨j1, x1, y1, by omega⟩, ⟨j2, x2, y2, by omega⟩⟩
end DW

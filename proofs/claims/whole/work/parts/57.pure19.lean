/-! ALL LINES OF A WAY -/
noncomputable def stW (From To : Int → Int) (vw bn u y t : Int) : Int := stB From To vw (alW vw u) (beW vw u) y bn t
def enY (st : Int → Int → Int) (a : Int) (L : List (Int × Int × Int × Int)) : Prop := (∀ q ∈ L, isRun (st q.1) q.2.1 q.2.2.1 q.2.2.2 ∧ q.1 < a) ∧ (L.Pairwise (fun p q => p.1 < q.1 ∨ (p.1 = q.1 ∧ p.2.2.1 ≤ q.2.1))) ∧ (∀ y t : Int, y < a → st y t ≠ 2 → ∃ q ∈ L, q.1 = y ∧ q.2.1 ≤ t ∧ t < q.2.2.1)
theorem enY_0 {st : Int → Int → Int} {a : Int} (h : ∀ y t : Int, y < a → st y t = 2) : enY st a [] :=
  ⟨fun q hq => absurd hq List.not_mem_nil, List.Pairwise.nil, fun y t h1 h2 => absurd (h y t h1) h2⟩
theorem onLine_mem {y : Int} {R : List (Int × Int × Int)} {q : Int × Int × Int × Int} : q ∈ onLine y R ↔ q.1 = y ∧ q.2 ∈ R := by
  unfold onLine
  rw [List.mem_map]
  constructor
  · rintro ⟨r, hr, rfl⟩; exact ⟨rfl, hr⟩
  · rintro ⟨h1, h2⟩; exact ⟨q.2, h2, by rw [← h1]⟩
theorem enY_l {st : Int → Int → Int} {a b : Int} {L : List (Int × Int × Int × Int)} {R : List (Int × Int × Int)} (h : enY st a L) (hR : enT (st a) 10000000 R) (hfar : ∀ t : Int, 10000000 ≤ t → st a t = 2) (hab : a < b) (hb : ∀ y t : Int, a < y → y < b → st y t = 2) : enY st b (L ++ onLine a R) := by
  obtain ⟨h1, h2, h3⟩ := h
  refine ⟨fun q hq => ?_, List.pairwise_append.mpr ⟨h2, ?_, fun p hp q hq => ?_⟩, fun y t hy ht => ?_⟩
  · rcases List.mem_append.mp hq with g | g
    · exact ⟨(h1 q g).1, by have := (h1 q g).2; omega⟩
    · obtain ⟨g1, g2⟩ := onLine_mem.mp g
      exact ⟨by rw [g1]; exact (hR.rn q.2 g2).1, by omega⟩
  · unfold onLine
    rw [List.pairwise_map]
    exact hR.so.imp (fun g => Or.inr ⟨rfl, g⟩)
  · left
    have := (h1 p hp).2
    have := (onLine_mem.mp hq).1
    omega
  · rcases Int.lt_trichotomy y a with g | g | g
    · obtain ⟨q, q1, q2⟩ := h3 y t g ht
      exact ⟨q, List.mem_append_left _ q1, q2⟩
    · subst g
      have ht2 : t < 10000000 := by
        by_cases z : t < 10000000
        · exact z
        · exact absurd (hfar t (by omega)) ht
      obtain ⟨r, r1, r2, r3⟩ := hR.cv t ht2 ht
      exact ⟨(y, r), List.mem_append_right _ (onLine_mem.mpr ⟨rfl, r1⟩), rfl, r2, r3⟩
    · exact absurd (hb y t g hy) ht
theorem nxL_in (F T : Int → Int) (ax q n : Int) (hn : 0 ≤ n) : nxL F T ax n q ≤ 10000000 ∧ (nxL F T ax n q = 10000000 ∨ (q < nxL F T ax n q ∧ ∃ k : Int, 0 ≤ k ∧ k < n ∧ (F (3 * k + ax) = nxL F T ax n q ∨ T (3 * k + ax) = nxL F T ax n q))) ∧ ∀ k : Int, 0 ≤ k → k < n → (q < F (3 * k + ax) → nxL F T ax n q ≤ F (3 * k + ax)) ∧ (q < T (3 * k + ax) → nxL F T ax n q ≤ T (3 * k + ax)) := by
  have one : ∀ v x : Int, nxS q v x ≤ x ∧ (nxS q v x = x ∨ (nxS q v x = v ∧ q < v)) ∧ (q < v → nxS q v x ≤ v) := by
    intro v x
    unfold nxS
    split <;> omega
  have key : ∀ m : Nat, nxL F T ax (m : Int) q ≤ 10000000 ∧ (nxL F T ax (m : Int) q = 10000000 ∨ (q < nxL F T ax (m : Int) q ∧ ∃ k : Int, 0 ≤ k ∧ k < (m : Int) ∧ (F (3 * k + ax) = nxL F T ax (m : Int) q ∨ T (3 * k + ax) = nxL F T ax (m : Int) q))) ∧ ∀ k : Int, 0 ≤ k → k < (m : Int) → (q < F (3 * k + ax) → nxL F T ax (m : Int) q ≤ F (3 * k + ax)) ∧ (q < T (3 * k + ax) → nxL F T ax (m : Int) q ≤ T (3 * k + ax)) := by
    intro m
    induction m with
    | zero => exact ⟨Int.le_refl _, Or.inl rfl, fun k h0 h1 => absurd h1 (by omega)⟩
    | succ m ih =>
      obtain ⟨i1, i2, i3⟩ := ih
      have e : nxL F T ax ((m + 1 : Nat) : Int) q = nxS q (T (3 * (m : Int) + ax)) (nxS q (F (3 * (m : Int) + ax)) (nxL F T ax (m : Int) q)) := by
        rw [show ((m + 1 : Nat) : Int) = (m : Int) + 1 by omega]; exact nxL_s _ _ _ _ (by omega)
      have o1 := one (F (3 * (m : Int) + ax)) (nxL F T ax (m : Int) q)
      have o2 := one (T (3 * (m : Int) + ax)) (nxS q (F (3 * (m : Int) + ax)) (nxL F T ax (m : Int) q))
      rw [← e] at o2
      refine ⟨by omega, ?_, fun k h0 h1 => ?_⟩
      · rcases o2.2.1 with g | g
        · rcases o1.2.1 with g2 | g2
          · rw [g, g2]
            rcases i2 with i | ⟨i, k, k0, k1, k2⟩
            · exact Or.inl i
            · exact Or.inr ⟨i, k, k0, by omega, k2⟩
          · right
            exact ⟨by omega, (m : Int), by omega, by omega, Or.inl (by omega)⟩
        · right
          exact ⟨by omega, (m : Int), by omega, by omega, Or.inr (by omega)⟩
      · by_cases z : k = (m : Int)
        · subst z
          exact ⟨fun g => by have := o1.2.2 g; omega, fun g => by have := o2.2.2 g; omega⟩
        · have i4 := i3 k h0 (by omega)
          exact ⟨fun g => by have := i4.1 g; omega, fun g => by have := i4.2 g; omega⟩
  have := key n.toNat
  rw [Int.toNat_of_nonneg hn] at this
  exact this
theorem stB_2 {From To : Int → Int} {vw al be pl bn t : Int} (h : ¬ egB From To al be pl bn t) : stB From To vw al be pl bn t = 2 := by
  unfold stB
  rw [if_neg (fun g => h (seB_ed g)), if_neg h]
theorem stB_fa {From To : Int → Int} {vw al be pl bn t : Int} (hM : moB bn From To) (hal : 0 ≤ al ∧ al ≤ 2) (ht : 10000000 ≤ t) : stB From To vw al be pl bn t = 2 := by
  refine stB_2 ?_
  rintro ⟨c, c0, c1, c2, c3, c4⟩
  have := hM (3 * c + al) (by omega) (by omega)
  omega
theorem stB_no {From To : Int → Int} {vw al be pl bn t : Int} (h : ∀ c : Int, 0 ≤ c → c < bn → From (3 * c + be) ≠ pl ∧ To (3 * c + be) ≠ pl) : stB From To vw al be pl bn t = 2 := by
  refine stB_2 ?_
  rintro ⟨c, c0, c1, c2, -⟩
  have := h c c0 c1
  rcases c2 with e | e
  · exact this.1 e
  · exact this.2 e
abbrev linK (From To : Int → Int) (be bn : Int) : List Int := gathL (fun c => From (3 * c + be)) (fun c => To (3 * c + be)) bn
/-- the first line -/
theorem drA {From To : Int → Int} {vw bn u : Int} (hn : 0 ≤ bn) (hM : moB bn From To) {r : Int} (hr : r = nxL From To (beW vw u) bn (-10000000)) : -10000000 < r ∧ r ≤ 10000000 ∧ enY (stW From To vw bn u) r [] ∧ (r < 10000000 → r ∈ linK From To (beW vw u) bn) := by
  have hb := beW_in vw u
  obtain ⟨i1, i2, i3⟩ := nxL_in From To (beW vw u) (-10000000) bn hn
  rw [← hr] at i1 i2 i3
  refine ⟨by rcases i2 with i | ⟨i, -⟩ <;> omega, i1, enY_0 (fun y t hy => stB_no (fun c c0 c1 => ?_)), fun h => ?_⟩
  · have := i3 c c0 c1
    have := hM (3 * c + beW vw u) (by omega) (by omega)
    omega
  · rcases i2 with i | ⟨-, k, k0, k1, k2⟩
    · omega
    · have hm := gathL_mem (F := fun c => From (3 * c + beW vw u)) (T := fun c => To (3 * c + beW vw u)) k0 k1
      rcases k2 with k2 | k2
      · rw [← k2]; exact hm.1
      · rw [← k2]; exact hm.2
/-- the next line -/
theorem drB {From To : Int → Int} {vw bn u a : Int} {L : List (Int × Int × Int × Int)} {R : List (Int × Int × Int)} (hn : 0 ≤ bn) (hM : moB bn From To) {r : Int} (hr : r = nxL From To (beW vw u) bn a) (ha : a < 10000000) (h : enY (stW From To vw bn u) a L) (hR : enT (stB From To vw (alW vw u) (beW vw u) a bn) 10000000 R) : a < r ∧ r ≤ 10000000 ∧ enY (stW From To vw bn u) r (L ++ onLine a R) ∧ (r < 10000000 → r ∈ linK From To (beW vw u) bn) := by
  have hb := beW_in vw u
  obtain ⟨i1, i2, i3⟩ := nxL_in From To (beW vw u) a bn hn
  rw [← hr] at i1 i2 i3
  have hlt : a < r := by rcases i2 with i | ⟨i, -⟩ <;> omega
  refine ⟨hlt, i1, enY_l h hR (fun t ht => stB_fa hM (alW_in vw u) ht) hlt (fun y t h1 h2 => stB_no (fun c c0 c1 => ?_)), fun h => ?_⟩
  · have := i3 c c0 c1
    omega
  · rcases i2 with i | ⟨-, k, k0, k1, k2⟩
    · omega
    · have hm := gathL_mem (F := fun c => From (3 * c + beW vw u)) (T := fun c => To (3 * c + beW vw u)) k0 k1
      rcases k2 with k2 | k2
      · rw [← k2]; exact hm.1
      · rw [← k2]; exact hm.2
/-- the lines that were drawn: no more than sides -/
def linY (K : List Int) (a : Int) (Y : List Int) : Prop := Y.Pairwise (· < ·) ∧ ∀ y ∈ Y, y < a ∧ y ∈ K
theorem linY_s {K : List Int} {a b : Int} {Y : List Int} (h : linY K a Y) (ha : a ∈ K) (hab : a < b) : linY K b (Y ++ [a]) := by
  refine ⟨List.pairwise_append.mpr ⟨h.1, List.pairwise_singleton _ _, fun p hp q hq => ?_⟩, fun y hy => ?_⟩
  · have e : q = a := by simpa using hq
    subst e; exact (h.2 p hp).1
  · rcases List.mem_append.mp hy with g | g
    · exact ⟨by have := (h.2 y g).1; omega, (h.2 y g).2⟩
    · have e : y = a := by simpa using g
      subst e; exact ⟨hab, ha⟩
theorem linY_len {From To : Int → Int} {be bn a : Int} {Y : List Int} (h0 : 0 ≤ bn) (h1 : bn ≤ 24) (h : linY (linK From To be bn) a Y) : (Y.length : Int) ≤ 48 := by
  have h3 : Y.length ≤ (gathL (fun c => From (3 * c + be)) (fun c => To (3 * c + be)) bn).length := sub_len _ _ h.1 (fun y hy => (h.2 y hy).2)
  have h4 := gathL_len (fun c => From (3 * c + be)) (fun c => To (3 * c + be)) bn
  omega
def drP (From To : Int → Int) (vw bn u : Int) (L0 L1 : List (Int × Int × Int × Int)) : Prop := (u = 0 ∧ L0 = [] ∧ L1 = []) ∨ (u = 1 ∧ L1 = [] ∧ enY (stW From To vw bn 0) 10000000 L0) ∨ (u = 2 ∧ enY (stW From To vw bn 0) 10000000 L0 ∧ enY (stW From To vw bn 1) 10000000 L1)
def upP (U : Int → Int) (n : Int) (L0 : List (Int × Int × Int × Int)) : Prop := ∀ j : Int, 0 ≤ j → j < n → U j = if j < (L0.length : Int) then 0 else 1
def upW (U : Int → Int) (n u : Int) (L0 : List (Int × Int × Int × Int)) : Prop := ∀ j : Int, 0 ≤ j → j < n → U j = if u = 0 ∨ j < (L0.length : Int) then 0 else 1
theorem drS {From To U P B E H : Int → Int} {vw bn u n : Int} {L0 L1 M : List (Int × Int × Int × Int)} (h : drP From To vw bn u L0 L1) (hu : u < 2) (hM : enY (stW From To vw bn u) 10000000 M) (hA : arrS n P B E H ((L0 ++ L1) ++ M)) (hU : upW U n u L0) : ∃ K0 K1 : List (Int × Int × Int × Int), drP From To vw bn (u + 1) K0 K1 ∧ arrS n P B E H (K0 ++ K1) ∧ upP U n K0 := by
  rcases h with ⟨e, e0, e1⟩ | ⟨e, e1, h0⟩ | ⟨e, -⟩
  · subst e; subst e0; subst e1
    refine ⟨M, [], Or.inr (Or.inl ⟨by omega, rfl, hM⟩), by rw [List.append_nil]; exact hA, fun j j0 j1 => ?_⟩
    rw [hU j j0 j1, if_pos (Or.inl rfl), if_pos]
    have := hA.1
    simp only [List.nil_append] at this
    omega
  · subst e; subst e1
    refine ⟨L0, M, Or.inr (Or.inr ⟨by omega, h0, hM⟩), by rw [List.append_nil] at hA; exact hA, fun j j0 j1 => ?_⟩
    rw [hU j j0 j1]
    by_cases g : j < (L0.length : Int)
    · rw [if_pos g, if_pos (Or.inr g)]
    · rw [if_neg g, if_neg (by omega)]
  · omega
theorem upW_0 {From To U : Int → Int} {vw bn u n : Int} {L0 L1 : List (Int × Int × Int × Int)} (h : drP From To vw bn u L0 L1) (hn : n = ((L0 ++ L1).length : Int)) (hU : upP U n L0) : upW U n u L0 := by
  intro j j0 j1
  rw [hU j j0 j1]
  rcases h with ⟨e, e0, e1⟩ | ⟨e, -⟩ | ⟨e, -⟩
  · subst e0; subst e1
    simp only [List.append_nil, List.length_nil] at hn
    omega
  · subst e
    by_cases g : j < (L0.length : Int)
    · rw [if_pos g, if_pos (Or.inr g)]
    · rw [if_neg g, if_neg (by omega)]
  · subst e
    by_cases g : j < (L0.length : Int)
    · rw [if_pos g, if_pos (Or.inr g)]
    · rw [if_neg g, if_neg (by omega)]
theorem upW_s {U V : Int → Int} {s n u : Int} {L0 : List (Int × Int × Int × Int)} (h : upW U s u L0) (hu : u = 0 ∨ u = 1) (hs : u = 1 → (L0.length : Int) ≤ s) (hV : ∀ j : Int, (j < s → V j = U j) ∧ (s ≤ j → j < n → V j = u)) : upW V n u L0 := by
  intro j j0 j1
  by_cases g : j < s
  · rw [(hV j).1 g]; exact h j j0 g
  · rw [(hV j).2 (by omega) j1]
    rcases hu with e | e
    · rw [if_pos (Or.inl e)]; exact e
    · rw [if_neg (by have := hs e; omega)]; exact e

/-! STRETCHES IN ARRAYS, RUNS OF A STATE -/
/-- a place lies in one of the first n stretches -/
def LC (F T : Int → Int) (n t : Int) : Prop := ∃ k : Int, 0 ≤ k ∧ k < n ∧ F k ≤ t ∧ t < T k
def dsj (F T : Int → Int) (n : Int) : Prop := ∀ j k t : Int, 0 ≤ j → j < n → 0 ≤ k → k < n → F j ≤ t → t < T j → F k ≤ t → t < T k → j = k
def inB (F T : Int → Int) (n : Int) : Prop := ∀ k : Int, 0 ≤ k → k < n → B2 (F k) ∧ B2 (T k)
/-- what is left while a .. b is taken off: k looked at, of n; d is 1 if a piece was put behind -/
def tko (F T : Int → Int) (n a b : Int) (Fx Tx : Int → Int) (k d : Int) : Prop := (∀ j : Int, 0 ≤ j → j < n → Fx j = F j) ∧ (∀ j : Int, 0 ≤ j → j < k → Tx j = if a < T j ∧ F j < b then max a (F j) else T j) ∧ (∀ j : Int, k ≤ j → j < n → Tx j = T j) ∧ (d = 0 → ∀ j : Int, 0 ≤ j → j < k → ¬ (a < T j ∧ F j < b ∧ b < T j)) ∧ (d = 1 → ∃ j : Int, 0 ≤ j ∧ j < k ∧ a < T j ∧ F j < b ∧ b < T j ∧ Fx n = b ∧ Tx n = T j)
theorem tko.fr {F T : Int → Int} {n a b : Int} {Fx Tx : Int → Int} {k d : Int} (h : tko F T n a b Fx Tx k d) : ∀ j : Int, 0 ≤ j → j < n → Fx j = F j := h.1
theorem tko.to1 {F T : Int → Int} {n a b : Int} {Fx Tx : Int → Int} {k d : Int} (h : tko F T n a b Fx Tx k d) : ∀ j : Int, 0 ≤ j → j < k → Tx j = if a < T j ∧ F j < b then max a (F j) else T j := h.2.1
theorem tko.to2 {F T : Int → Int} {n a b : Int} {Fx Tx : Int → Int} {k d : Int} (h : tko F T n a b Fx Tx k d) : ∀ j : Int, k ≤ j → j < n → Tx j = T j := h.2.2.1
theorem tko.d0 {F T : Int → Int} {n a b : Int} {Fx Tx : Int → Int} {k d : Int} (h : tko F T n a b Fx Tx k d) : d = 0 → ∀ j : Int, 0 ≤ j → j < k → ¬ (a < T j ∧ F j < b ∧ b < T j) := h.2.2.2.1
theorem tko.d1 {F T : Int → Int} {n a b : Int} {Fx Tx : Int → Int} {k d : Int} (h : tko F T n a b Fx Tx k d) : d = 1 → ∃ j : Int, 0 ≤ j ∧ j < k ∧ a < T j ∧ F j < b ∧ b < T j ∧ Fx n = b ∧ Tx n = T j := h.2.2.2.2
theorem tko_0 (F T : Int → Int) (n a b : Int) : tko F T n a b F T 0 0 :=
  ⟨fun _ _ _ => rfl, fun _ h0 h1 => absurd h1 (by omega), fun _ _ _ => rfl, fun _ _ h0 h1 => absurd h1 (by omega), fun h => absurd h (by decide)⟩
theorem tko_n {F T Fx Tx : Int → Int} {n a b k d : Int} (h : tko F T n a b Fx Tx k d) (hk0 : 0 ≤ k) (hk : k < n) (g : ¬ (a < T k ∧ F k < b)) : tko F T n a b Fx Tx (k + 1) d := by
  refine ⟨h.fr, fun j h0 h1 => ?_, fun j h0 h1 => h.to2 j (by omega) h1, fun e j h0 h1 => ?_, fun e => ?_⟩
  · by_cases q : j = k
    · subst q; rw [if_neg g]; exact h.to2 j (Int.le_refl _) hk
    · exact h.to1 j h0 (by omega)
  · by_cases q : j = k
    · subst q; omega
    · exact h.d0 e j h0 (by omega)
  · obtain ⟨j, g0, g1, g2⟩ := h.d1 e
    exact ⟨j, g0, by omega, g2⟩
theorem tko_c {F T Fx Tx : Int → Int} {n a b k d v : Int} (h : tko F T n a b Fx Tx k d) (hk0 : 0 ≤ k) (hk : k < n) (g1 : a < T k) (g2 : F k < b) (g3 : T k ≤ b) (hv : v = max a (F k)) : tko F T n a b Fx (upz Tx k v) (k + 1) d := by
  refine ⟨h.fr, fun j h0 h1 => ?_, fun j h0 h1 => by rw [upz_n (by omega)]; exact h.to2 j (by omega) h1, fun e j h0 h1 => ?_, fun e => ?_⟩
  · by_cases q : j = k
    · subst q; rw [if_pos ⟨g1, g2⟩, upz_s, hv]
    · rw [upz_n q]; exact h.to1 j h0 (by omega)
  · by_cases q : j = k
    · subst q; omega
    · exact h.d0 e j h0 (by omega)
  · obtain ⟨j, q0, q1, q2, q3, q4, q5, q6⟩ := h.d1 e
    exact ⟨j, q0, by omega, q2, q3, q4, q5, by rw [upz_n (by omega)]; exact q6⟩
theorem tko_d {F T Fx Tx : Int → Int} {n a b k d : Int} (h : tko F T n a b Fx Tx k d) (hd : d = 0 ∨ d = 1) (hD : dsj F T n) (hk0 : 0 ≤ k) (hk : k < n) (g2 : F k < b) (g3 : b < T k) : d = 0 := by
  rcases hd with e | e
  · exact e
  · obtain ⟨j, q0, q1, q2, q3, q4, -⟩ := h.d1 e
    have := hD j k (b - 1) q0 (by omega) hk0 hk (by omega) (by omega) (by omega) (by omega)
    omega
theorem tko_a {F T Fx Tx : Int → Int} {n a b k d v : Int} (h : tko F T n a b Fx Tx k d) (hd : d = 0) (hk0 : 0 ≤ k) (hk : k < n) (g1 : a < T k) (g2 : F k < b) (g3 : b < T k) (hv : v = max a (F k)) : tko F T n a b (upz Fx n b) (upz (upz Tx k v) n (T k)) (k + 1) 1 := by
  refine ⟨fun j h0 h1 => by rw [upz_n (by omega)]; exact h.fr j h0 h1, fun j h0 h1 => ?_, fun j h0 h1 => by rw [upz_n (by omega), upz_n (by omega)]; exact h.to2 j (by omega) h1, fun e => absurd e (by decide), fun _ => ⟨k, hk0, by omega, g1, g2, g3, upz_s .., upz_s ..⟩⟩
  by_cases q : j = k
  · subst q; rw [upz_n (by omega), if_pos ⟨g1, g2⟩, upz_s, hv]
  · rw [upz_n (by omega), upz_n q]; exact h.to1 j h0 (by omega)
/-- what is left behind it -/
theorem tko_at {F T Fx Tx : Int → Int} {n a b d : Int} (h : tko F T n a b Fx Tx n d) (hd : d = 0 ∨ d = 1) (hab : a < b) {j t : Int} (h0 : 0 ≤ j) (h1 : j < n + d) (h2 : Fx j ≤ t) (h3 : t < Tx j) :
    ∃ k : Int, 0 ≤ k ∧ k < n ∧ F k ≤ t ∧ t < T k ∧ ¬ (a ≤ t ∧ t < b) ∧ (j < n ∧ k = j ∧ (t < a ∨ b ≤ t ∧ T k ≤ a ∨ b ≤ F k) ∨ j = n ∧ b ≤ t ∧ a < T k ∧ F k < b ∧ b < T k) := by
  by_cases q : j < n
  · have e1 := h.fr j h0 q
    have e2 := h.to1 j h0 q
    refine ⟨j, h0, q, by omega, ?_⟩
    split at e2 <;> omega
  · have hd1 : d = 1 := by omega
    obtain ⟨k, q0, q1, q2, q3, q4, q5, q6⟩ := h.d1 hd1
    have e : j = n := by omega
    subst e
    exact ⟨k, q0, q1, by omega, by omega, by omega, Or.inr ⟨rfl, by omega, q2, q3, q4⟩⟩
theorem tko_LC {F T Fx Tx : Int → Int} {n a b d : Int} (h : tko F T n a b Fx Tx n d) (hd : d = 0 ∨ d = 1) (hD : dsj F T n) (hab : a < b) (hn : 0 ≤ n) (t : Int) : LC Fx Tx (n + d) t ↔ LC F T n t ∧ ¬ (a ≤ t ∧ t < b) := by
  constructor
  · rintro ⟨j, h0, h1, h2, h3⟩
    obtain ⟨k, q0, q1, q2, q3, q4, -⟩ := tko_at h hd hab h0 h1 h2 h3
    exact ⟨⟨k, q0, q1, q2, q3⟩, q4⟩
  · rintro ⟨⟨k, q0, q1, q2, q3⟩, q4⟩
    by_cases g : a < T k ∧ F k < b
    · by_cases g2 : t < a
      · refine ⟨k, q0, by omega, by rw [h.fr k q0 q1]; exact q2, ?_⟩
        rw [h.to1 k q0 q1, if_pos g]; omega
      · rcases hd with e | e
        · exact absurd ⟨g.1, g.2, by omega⟩ (h.d0 e k q0 q1)
        · by_cases g5 : b < T k
          · obtain ⟨j, p0, p1, p2, p3, p4, p5, p6⟩ := h.d1 e
            by_cases g6 : j = k
            · subst g6
              exact ⟨n, hn, by omega, by omega, by omega⟩
            · exfalso
              exact g6 (hD j k (b - 1) p0 p1 q0 q1 (by omega) (by omega) (by omega) (by omega))
          · omega
    · refine ⟨k, q0, by omega, by rw [h.fr k q0 q1]; exact q2, ?_⟩
      rw [h.to1 k q0 q1, if_neg g]; exact q3
theorem tko_dsj {F T Fx Tx : Int → Int} {n a b d : Int} (h : tko F T n a b Fx Tx n d) (hd : d = 0 ∨ d = 1) (hD : dsj F T n) (hab : a < b) : dsj Fx Tx (n + d) := by
  intro j k t h0 h1 h2 h3 h4 h5 h6 h7
  obtain ⟨u, u0, u1, u2, u3, u4, u5⟩ := tko_at h hd hab h0 h1 h4 h5
  obtain ⟨v, v0, v1, v2, v3, v4, v5⟩ := tko_at h hd hab h2 h3 h6 h7
  have e := hD u v t u0 u1 v0 v1 u2 u3 v2 v3
  subst e
  omega
theorem tko_inB {F T Fx Tx : Int → Int} {n a b d : Int} (h : tko F T n a b Fx Tx n d) (hd : d = 0 ∨ d = 1) (hB : inB F T n) (ha : B2 a) (hb : B2 b) : inB Fx Tx (n + d) := by
  intro j h0 h1
  by_cases q : j < n
  · have e1 := h.fr j h0 q
    have e2 := h.to1 j h0 q
    have e3 := hB j h0 q
    split at e2 <;> omega
  · obtain ⟨k, q0, q1, q2, q3, q4, q5, q6⟩ := h.d1 (by omega)
    have e : j = n := by omega
    subst e
    have e3 := hB k q0 q1
    omega
/-- a run of a state along a line, as long as can be -/
def isRun (st : Int → Int) (b e h0 : Int) : Prop := (b < e) ∧ (h0 ≠ 2) ∧ (∀ t : Int, b ≤ t → t < e → st t = h0) ∧ (st (b - 1) ≠ h0) ∧ (st e ≠ h0)
theorem isRun.lt {st : Int → Int} {b e h0 : Int} (h : isRun st b e h0) : b < e := h.1
theorem isRun.ne {st : Int → Int} {b e h0 : Int} (h : isRun st b e h0) : h0 ≠ 2 := h.2.1
theorem isRun.al {st : Int → Int} {b e h0 : Int} (h : isRun st b e h0) : ∀ t : Int, b ≤ t → t < e → st t = h0 := h.2.2.1
theorem isRun.le {st : Int → Int} {b e h0 : Int} (h : isRun st b e h0) : st (b - 1) ≠ h0 := h.2.2.2.1
theorem isRun.ri {st : Int → Int} {b e h0 : Int} (h : isRun st b e h0) : st e ≠ h0 := h.2.2.2.2
/-- the runs that end at a at the latest, in their order -/
def enT (st : Int → Int) (a : Int) (R : List (Int × Int × Int)) : Prop := (∀ q ∈ R, isRun st q.1 q.2.1 q.2.2 ∧ q.2.1 ≤ a) ∧ (R.Pairwise (fun p q => p.2.1 ≤ q.1)) ∧ (∀ t : Int, t < a → st t ≠ 2 → ∃ q ∈ R, q.1 ≤ t ∧ t < q.2.1)
theorem enT.rn {st : Int → Int} {a : Int} {R : List (Int × Int × Int)} (h : enT st a R) : ∀ q ∈ R, isRun st q.1 q.2.1 q.2.2 ∧ q.2.1 ≤ a := h.1
theorem enT.so {st : Int → Int} {a : Int} {R : List (Int × Int × Int)} (h : enT st a R) : R.Pairwise (fun p q => p.2.1 ≤ q.1) := h.2.1
theorem enT.cv {st : Int → Int} {a : Int} {R : List (Int × Int × Int)} (h : enT st a R) : ∀ t : Int, t < a → st t ≠ 2 → ∃ q ∈ R, q.1 ≤ t ∧ t < q.2.1 := h.2.2
theorem enT_0 {st : Int → Int} {a : Int} (h : ∀ t : Int, t < a → st t = 2) : enT st a [] :=
  ⟨fun q hq => absurd hq List.not_mem_nil, List.Pairwise.nil, fun t h1 h2 => absurd (h t h1) h2⟩
theorem enT_g {st : Int → Int} {a b : Int} {R : List (Int × Int × Int)} (h : enT st a R) (hab : a ≤ b) (h2 : ∀ t : Int, a ≤ t → t < b → st t = 2) : enT st b R :=
  ⟨fun q hq => ⟨(h.rn q hq).1, by have := (h.rn q hq).2; omega⟩, h.so, fun t h3 h4 => by
    by_cases q : t < a
    · exact h.cv t q h4
    · exact absurd (h2 t (by omega) h3) h4⟩
theorem enT_a {st : Int → Int} {a e s : Int} {R : List (Int × Int × Int)} (h : enT st a R) (hr : isRun st a e s) : enT st e (R ++ [(a, e, s)]) := by
  refine ⟨fun q hq => ?_, List.pairwise_append.mpr ⟨h.so, List.pairwise_singleton _ _, fun p hp q hq => ?_⟩, fun t h3 h4 => ?_⟩
  · rcases List.mem_append.mp hq with g | g
    · exact ⟨(h.rn q g).1, by have := (h.rn q g).2; have := hr.lt; omega⟩
    · have e2 : q = (a, e, s) := by simpa using g
      subst e2
      exact ⟨hr, Int.le_refl _⟩
  · have e2 : q = (a, e, s) := by simpa using hq
    subst e2
    exact (h.rn p hp).2
  · by_cases q : t < a
    · obtain ⟨p, g1, g2⟩ := h.cv t q h4
      exact ⟨p, List.mem_append_left _ g1, g2⟩
    · exact ⟨(a, e, s), List.mem_append_right _ (by simp), by omega, h3⟩
/-- the state of a line: seen, hidden, none -/
noncomputable def stM (Ef Et : Int → Int) (ne : Int) (Sf St_ : Int → Int) (ns t : Int) : Int := by
  classical
  exact if LC Sf St_ ns t then 0 else if LC Ef Et ne t then 1 else 2
theorem stM_0 {Ef Et Sf St_ : Int → Int} {ne ns t : Int} (h : LC Sf St_ ns t) : stM Ef Et ne Sf St_ ns t = 0 := by unfold stM; rw [if_pos h]
theorem stM_1 {Ef Et Sf St_ : Int → Int} {ne ns t : Int} (h : ¬ LC Sf St_ ns t) (h2 : LC Ef Et ne t) : stM Ef Et ne Sf St_ ns t = 1 := by unfold stM; rw [if_neg h, if_pos h2]
theorem stM_2 {Ef Et Sf St_ : Int → Int} {ne ns t : Int} (h : ¬ LC Sf St_ ns t) (h2 : ¬ LC Ef Et ne t) : stM Ef Et ne Sf St_ ns t = 2 := by unfold stM; rw [if_neg h, if_neg h2]
theorem nxZ_in (G : Int → Int) (q cap : Int) (n : Int) (hn : 0 ≤ n) : nxZ G n q cap ≤ cap ∧ (nxZ G n q cap = cap ∨ (q < nxZ G n q cap ∧ ∃ k : Int, 0 ≤ k ∧ k < n ∧ G k = nxZ G n q cap)) ∧ ∀ k : Int, 0 ≤ k → k < n → q < G k → nxZ G n q cap ≤ G k := by
  have key : ∀ m : Nat, nxZ G (m : Int) q cap ≤ cap ∧ (nxZ G (m : Int) q cap = cap ∨ (q < nxZ G (m : Int) q cap ∧ ∃ k : Int, 0 ≤ k ∧ k < (m : Int) ∧ G k = nxZ G (m : Int) q cap)) ∧ ∀ k : Int, 0 ≤ k → k < (m : Int) → q < G k → nxZ G (m : Int) q cap ≤ G k := by
    intro m
    induction m with
    | zero => exact ⟨Int.le_refl _, Or.inl rfl, fun k h0 h1 => absurd h1 (by omega)⟩
    | succ m ih =>
      obtain ⟨i1, i2, i3⟩ := ih
      have e : nxZ G ((m + 1 : Nat) : Int) q cap = nxS q (G (m : Int)) (nxZ G (m : Int) q cap) := by
        rw [show ((m + 1 : Nat) : Int) = (m : Int) + 1 by omega]; exact nxZ_s _ _ _ (by omega)
      rw [e]
      unfold nxS
      split
      · next g =>
        refine ⟨by omega, Or.inr ⟨g.1, (m : Int), by omega, by omega, rfl⟩, fun k h0 h1 h2 => ?_⟩
        by_cases q1 : k = (m : Int)
        · subst q1; exact Int.le_refl _
        · have := i3 k h0 (by omega) h2; omega
      · next g =>
        refine ⟨i1, ?_, fun k h0 h1 h2 => ?_⟩
        · rcases i2 with i | ⟨i, k, k0, k1, k2⟩
          · exact Or.inl i
          · exact Or.inr ⟨i, k, k0, by omega, k2⟩
        · by_cases q1 : k = (m : Int)
          · subst q1; omega
          · exact i3 k h0 (by omega) h2
  have := key n.toNat
  rw [Int.toNat_of_nonneg hn] at this
  exact this
/-- the next edge: nothing lies before it, it begins there -/
theorem nxE {G T : Int → Int} {n q r : Int} (hn : 0 ≤ n) (hr : r = nxZ G n q 10000000) (hne : ∀ k : Int, 0 ≤ k → k < n → G k < T k) (hcl : ∀ k : Int, 0 ≤ k → k < n → G k ≤ q → T k ≤ q) (hB : ∀ k : Int, 0 ≤ k → k < n → G k < 10000000) (hq : q < 10000000) : q < r ∧ r ≤ 10000000 ∧ (∀ t : Int, q ≤ t → t < r → ¬ LC G T n t) ∧ (r < 10000000 → LC G T n r) ∧ (r = 10000000 → ∀ t : Int, q ≤ t → ¬ LC G T n t) := by
  obtain ⟨i1, i2, i3⟩ := nxZ_in G q 10000000 n hn
  rw [← hr] at i1 i2 i3
  have nb : ∀ t : Int, q ≤ t → t < r → ¬ LC G T n t := by
    rintro t h0 h1 ⟨k, k0, k1, k2, k3⟩
    by_cases g : G k ≤ q
    · have := hcl k k0 k1 g; omega
    · have := i3 k k0 k1 (by omega); omega
  refine ⟨?_, i1, nb, fun h => ?_, fun h => ?_⟩
  · rcases i2 with i | ⟨i, -⟩ <;> omega
  · rcases i2 with i | ⟨i, k, k0, k1, k2⟩
    · omega
    · exact ⟨k, k0, k1, by omega, by have := hne k k0 k1; omega⟩
  · rintro t h0 ⟨k, k0, k1, k2, k3⟩
    have h5 := hB k k0 k1
    by_cases g : G k ≤ q
    · have := hcl k k0 k1 g; omega
    · have := i3 k k0 k1 (by omega); omega
/-- the next seen stretch, within far -/
theorem nxN {G T : Int → Int} {n q fa r : Int} (hn : 0 ≤ n) (hr : r = nxZ G n q fa) (hne : ∀ k : Int, 0 ≤ k → k < n → G k < T k) (hcl : ∀ k : Int, 0 ≤ k → k < n → G k ≤ q → T k ≤ q) (hq : q < fa) : q < r ∧ r ≤ fa ∧ (∀ t : Int, q ≤ t → t < r → ¬ LC G T n t) ∧ (r < fa → LC G T n r) := by
  obtain ⟨i1, i2, i3⟩ := nxZ_in G q fa n hn
  rw [← hr] at i1 i2 i3
  refine ⟨?_, i1, ?_, fun h => ?_⟩
  · rcases i2 with i | ⟨i, -⟩ <;> omega
  · rintro t h0 h1 ⟨k, k0, k1, k2, k3⟩
    by_cases g : G k ≤ q
    · have := hcl k k0 k1 g; omega
    · have := i3 k k0 k1 (by omega); omega
  · rcases i2 with i | ⟨i, k, k0, k1, k2⟩
    · omega
    · exact ⟨k, k0, k1, by omega, by have := hne k k0 k1; omega⟩
theorem unt_cl {G T : Int → Int} {n q r : Int} (h : untP G T n q r) : ¬ LC G T n r := by
  rintro ⟨k, k0, k1, k2, k3⟩
  have := h.2.2 k k0 k1 k2
  omega
theorem pgP_z {Ups Pla Beg Ens : Int → Int} {wi hi x1 y1 la wh j z n w : Int} (hz : wh = 0 ∧ z = n + bz (onM Ups Pla Beg Ens wi hi x1 y1 j) ∨ wh ≠ 0 ∧ z = n + w) (hw : w = bz (mkM Ups Pla Beg Ens wi hi x1 y1 la j)) : z = n + bz (pgP Ups Pla Beg Ens wi hi x1 y1 la wh j) := by
  unfold pgP
  rcases hz with ⟨g1, g2⟩ | ⟨g1, g2⟩
  · rw [if_pos g1]; exact g2
  · rw [if_neg g1, ← hw]; exact g2
theorem unt_b {G T : Int → Int} {n q r : Int} (h : untP G T n q r) (hB : inB G T n) : r = q ∨ r ≤ 2000000 := by
  obtain ⟨h1, h2, h3⟩ := h
  by_cases e : r = q
  · exact Or.inl e
  · obtain ⟨k, k0, k1, k2, k3⟩ := h2 (r - 1) (by omega) (by omega)
    have := hB k k0 k1
    omega
theorem LC_app {F T : Int → Int} {n a b t : Int} (hn : 0 ≤ n) : LC (upz F n a) (upz T n b) (n + 1) t ↔ LC F T n t ∨ (a ≤ t ∧ t < b) := by
  constructor
  · rintro ⟨k, k0, k1, k2, k3⟩
    by_cases e : k = n
    · subst e; rw [upz_s] at k2 k3; exact Or.inr ⟨k2, k3⟩
    · rw [upz_n e] at k2 k3; exact Or.inl ⟨k, k0, by omega, k2, k3⟩
  · rintro (⟨k, k0, k1, k2, k3⟩ | ⟨h1, h2⟩)
    · exact ⟨k, k0, by omega, by rw [upz_n (by omega)]; exact k2, by rw [upz_n (by omega)]; exact k3⟩
    · exact ⟨n, hn, by omega, by rw [upz_s]; exact h1, by rw [upz_s]; exact h2⟩
theorem LC_s {F T : Int → Int} {n t : Int} (hn : 0 ≤ n) : LC F T (n + 1) t ↔ LC F T n t ∨ (F n ≤ t ∧ t < T n) := by
  constructor
  · rintro ⟨k, k0, k1, k2, k3⟩
    by_cases e : k = n
    · subst e; exact Or.inr ⟨k2, k3⟩
    · exact Or.inl ⟨k, k0, by omega, k2, k3⟩
  · rintro (⟨k, k0, k1, k2, k3⟩ | ⟨h1, h2⟩)
    · exact ⟨k, k0, by omega, k2, k3⟩
    · exact ⟨n, hn, by omega, h1, h2⟩
theorem LC_z {F T : Int → Int} {t : Int} : ¬ LC F T 0 t := by
  rintro ⟨k, k0, k1, -⟩; omega
def neS (F T : Int → Int) (n : Int) : Prop := ∀ k : Int, 0 ≤ k → k < n → F k < T k
theorem neS_app {F T : Int → Int} {n a b : Int} (h : neS F T n) (hab : a < b) : neS (upz F n a) (upz T n b) (n + 1) := by
  intro k k0 k1
  by_cases e : k = n
  · subst e; rw [upz_s, upz_s]; exact hab
  · rw [upz_n e, upz_n e]; exact h k k0 (by omega)
theorem inB_app {F T : Int → Int} {n a b : Int} (h : inB F T n) (ha : B2 a) (hb : B2 b) : inB (upz F n a) (upz T n b) (n + 1) := by
  intro k k0 k1
  by_cases e : k = n
  · subst e; rw [upz_s, upz_s]; exact ⟨ha, hb⟩
  · rw [upz_n e, upz_n e]; exact h k k0 (by omega)
/-- a place of the line is covered by one of the first n boxes -/
def cvC (From To : Int → Int) (vw be pl dp c : Int) : Prop := From (3 * c + be) < pl ∧ pl < To (3 * c + be) ∧ mFt From To vw c < dp
def covB (From To : Int → Int) (vw al be pl dp n t : Int) : Prop := ∃ c : Int, 0 ≤ c ∧ c < n ∧ cvC From To vw be pl dp c ∧ From (3 * c + al) ≤ t ∧ t < To (3 * c + al)
theorem covB_n {From To : Int → Int} {vw al be pl dp n t : Int} (h : ¬ cvC From To vw be pl dp n) : covB From To vw al be pl dp (n + 1) t ↔ covB From To vw al be pl dp n t := by
  constructor
  · rintro ⟨c, c0, c1, c2, c3⟩
    by_cases e : c = n
    · subst e; exact absurd c2 h
    · exact ⟨c, c0, by omega, c2, c3⟩
  · rintro ⟨c, c0, c1, c2⟩
    exact ⟨c, c0, by omega, c2⟩
theorem covB_c {From To : Int → Int} {vw al be pl dp n t : Int} (hn : 0 ≤ n) (h : cvC From To vw be pl dp n) : covB From To vw al be pl dp (n + 1) t ↔ covB From To vw al be pl dp n t ∨ (From (3 * n + al) ≤ t ∧ t < To (3 * n + al)) := by
  constructor
  · rintro ⟨c, c0, c1, c2, c3⟩
    by_cases e : c = n
    · subst e; exact Or.inr c3
    · exact Or.inl ⟨c, c0, by omega, c2, c3⟩
  · rintro (⟨c, c0, c1, c2⟩ | h1)
    · exact ⟨c, c0, by omega, c2⟩
    · exact ⟨n, hn, by omega, h, h1⟩
theorem covB_z {From To : Int → Int} {vw al be pl dp t : Int} : ¬ covB From To vw al be pl dp 0 t := by
  rintro ⟨c, c0, c1, -⟩; omega
theorem lft_0 {F T : Int → Int} {a b : Int} : dsj (upz F 0 a) (upz T 0 b) 1 ∧ ∀ t : Int, LC (upz F 0 a) (upz T 0 b) 1 t ↔ a ≤ t ∧ t < b := by
  refine ⟨fun j k t h0 h1 h2 h3 _ _ _ _ => by omega, fun t => ?_⟩
  have := LC_app (F := F) (T := T) (n := 0) (a := a) (b := b) (t := t) (by omega)
  rw [show (0 : Int) + 1 = 1 by omega] at this
  rw [this]
  exact ⟨fun h => h.elim (fun g => absurd g LC_z) id, Or.inr⟩

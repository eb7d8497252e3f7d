/-! THE CLASS'S STROKES ARE THE RUNS -/
theorem isRun_u {st : Int → Int} {b e h b2 e2 h2 : Int} (r : isRun st b e h) (r2 : isRun st b2 e2 h2) (h0 : b2 ≤ b) (h1 : b < e2) : b = b2 ∧ e = e2 ∧ h = h2 := by
  have e1 := r.al b (Int.le_refl _) r.lt
  have e3 := r2.al b h0 h1
  have eh : h = h2 := by rw [← e1, e3]
  subst eh
  have eb : b = b2 := by
    by_cases g : b = b2
    · exact g
    · exact absurd (r2.al (b - 1) (by omega) (by omega)) r.le
  subst eb
  have hlt := r.lt
  have hlt2 := r2.lt
  refine ⟨rfl, ?_, rfl⟩
  rcases Int.lt_trichotomy e e2 with g | g | g
  · exact absurd (r2.al e (by omega) g) r.ri
  · exact g
  · exact absurd (r.al e2 (by omega) g) r2.ri
theorem srt_eq {α : Type} (lt : α → α → Prop) (hi : ∀ a, ¬ lt a a) (ha : ∀ a b, lt a b → lt b a → False) : ∀ (L K : List α), L.Pairwise lt → K.Pairwise lt → (∀ q, q ∈ L ↔ q ∈ K) → L = K
  | [], [], _, _, _ => rfl
  | [], y :: K, _, _, h => absurd ((h y).mpr (by simp)) List.not_mem_nil
  | x :: L, [], _, _, h => absurd ((h x).mp (by simp)) List.not_mem_nil
  | x :: L, y :: K, h1, h2, h => by
    obtain ⟨a1, a2⟩ := List.pairwise_cons.mp h1
    obtain ⟨b1, b2⟩ := List.pairwise_cons.mp h2
    have e : x = y := by
      rcases List.mem_cons.mp ((h x).mp (by simp)) with g | g
      · exact g
      · rcases List.mem_cons.mp ((h y).mpr (by simp)) with g2 | g2
        · exact g2.symm
        · exact absurd (a1 y g2) (fun z => ha _ _ z (b1 x g))
    subst e
    have ht : ∀ q, q ∈ L ↔ q ∈ K := by
      intro q
      constructor
      · intro hq
        rcases List.mem_cons.mp ((h q).mp (List.mem_cons_of_mem _ hq)) with g | g
        · subst g; exact absurd (a1 q hq) (hi q)
        · exact g
      · intro hq
        rcases List.mem_cons.mp ((h q).mpr (List.mem_cons_of_mem _ hq)) with g | g
        · subst g; exact absurd (b1 q hq) (hi q)
        · exact g
    rw [srt_eq lt hi ha L K a2 b2 ht]
theorem enY_g {st : Int → Int → Int} {a b : Int} {L : List (Int × Int × Int × Int)} (h : enY st a L) (hab : a ≤ b) (h2 : ∀ y t : Int, a ≤ y → y < b → st y t = 2) : enY st b L := by
  obtain ⟨h1, h3, h4⟩ := h
  refine ⟨fun q hq => ⟨(h1 q hq).1, by have := (h1 q hq).2; omega⟩, h3, fun y t hy ht => ?_⟩
  by_cases g : y < a
  · exact h4 y t g ht
  · exact absurd (h2 y t (by omega) hy) ht
theorem enY_eq {st : Int → Int → Int} {a : Int} {L K : List (Int × Int × Int × Int)} (h : enY st a L) (k : enY st a K) : L = K := by
  have sub : ∀ {L K : List (Int × Int × Int × Int)}, enY st a L → enY st a K → ∀ q ∈ L, q ∈ K := by
    intro L K h k q hq
    obtain ⟨r, hy⟩ := h.1 q hq
    have e1 := r.al q.2.1 (Int.le_refl _) r.lt
    obtain ⟨q2, m2, y2, b2, e2⟩ := k.2.2 q.1 q.2.1 hy (by rw [e1]; exact r.ne)
    obtain ⟨r2, -⟩ := k.1 q2 m2
    rw [y2] at r2
    obtain ⟨g1, g2, g3⟩ := isRun_u r r2 b2 e2
    have e : q = q2 := by
      obtain ⟨x1, x2, x3, x4⟩ := q
      obtain ⟨z1, z2, z3, z4⟩ := q2
      simp only at g1 g2 g3 y2
      rw [g1, g2, g3, y2]
    rw [e]; exact m2
  let lt : (Int × Int × Int × Int) → (Int × Int × Int × Int) → Prop := fun p q => (p.1 < q.1 ∨ (p.1 = q.1 ∧ p.2.2.1 ≤ q.2.1)) ∧ p.2.1 < p.2.2.1 ∧ q.2.1 < q.2.2.1
  have pw : ∀ {L : List (Int × Int × Int × Int)}, enY st a L → L.Pairwise lt := by
    intro L h
    exact h.2.1.imp_of_mem (fun {p q} hp hq g => ⟨g, (h.1 p hp).1.lt, (h.1 q hq).1.lt⟩)
  refine srt_eq lt (fun p g => ?_) (fun p q g1 g2 => ?_) L K (pw h) (pw k) (fun q => ⟨sub h k q, sub k h q⟩)
  · obtain ⟨g, g2, g3⟩ := g; omega
  · obtain ⟨g, g4, g5⟩ := g1
    obtain ⟨g6, g7, g8⟩ := g2
    omega
/-- the runs along the cuts -/
theorem runs_en {st S G : Int → Int} {nk : Int} (hs : ∀ j : Int, 0 ≤ j → j + 1 < nk → G j < G (j + 1)) (hst : ∀ j t : Int, 0 ≤ j → j + 1 < nk → G j ≤ t → t < G (j + 1) → st t = S j) (hhi : ∀ t : Int, G (nk - 1) ≤ t → st t = 2) (hB : ∀ j : Int, 0 ≤ j → j < nk → G j ≤ 10000000) :
    ∀ (k : Nat) (i q bg : Int) (R : List (Int × Int × Int)), i + ((k + 1 : Nat) : Int) = nk → 0 ≤ i → st (G i - 1) = q → (q = 2 → enT st (G i) R) → (q ≠ 2 → bg < G i ∧ (∀ t : Int, bg ≤ t → t < G i → st t = q) ∧ st (bg - 1) ≠ q ∧ enT st bg R) → enT st 10000000 (R ++ runZ S G nk i q bg)
  | 0, i, q, bg, R, hi, h0, h1, h2, h3 => by
    have hlt : i < nk := by omega
    have hn : ¬ i + 1 < nk := by omega
    have hx : ∀ t : Int, G i ≤ t → st t = 2 := fun t ht => hhi t (by rw [show nk - 1 = i by omega]; exact ht)
    have hb := hB i h0 hlt
    rw [runZ_s S G hlt (show (2 : Int) = if i + 1 < nk then S i else 2 by rw [if_neg hn])]
    by_cases e : (2 : Int) = q
    · rw [if_pos e, runZ_e S G (by omega), List.append_nil]
      exact enT_g (h2 e.symm) hb (fun t a _ => hx t a)
    · rw [if_neg e, if_neg (fun g => e g.symm), runZ_e S G (by omega), List.append_nil]
      obtain ⟨g1, g2, g3, g4⟩ := h3 (fun g => e g.symm)
      exact enT_g (enT_a g4 ⟨g1, fun g => e g.symm, g2, g3, by rw [hx _ (Int.le_refl _)]; exact e⟩) hb (fun t a _ => hx t a)
  | k + 1, i, q, bg, R, hi, h0, h1, h2, h3 => by
    have hlt : i < nk := by omega
    have hn : i + 1 < nk := by omega
    have hGi := hs i h0 hn
    have hS : ∀ t : Int, G i ≤ t → t < G (i + 1) → st t = S i := fun t a b => hst i t h0 hn a b
    have h1' : st (G (i + 1) - 1) = S i := hS _ (by omega) (by omega)
    rw [runZ_s S G hlt (show S i = if i + 1 < nk then S i else 2 by rw [if_pos hn])]
    by_cases e : S i = q
    · rw [if_pos e]
      refine runs_en hs hst hhi hB k (i + 1) q bg R (by omega) (by omega) (by rw [h1', e]) (fun g => enT_g (h2 g) (by omega) (fun t a b => by rw [hS t a b, e, g])) (fun g => ?_)
      obtain ⟨g1, g2, g3, g4⟩ := h3 g
      refine ⟨by omega, fun t a b => ?_, g3, g4⟩
      by_cases z : t < G i
      · exact g2 t a z
      · rw [hS t (by omega) b, e]
    · rw [if_neg e]
      by_cases e2 : q = 2
      · rw [if_pos e2, List.nil_append]
        refine runs_en hs hst hhi hB k (i + 1) (S i) (G i) R (by omega) (by omega) h1' (fun g => absurd (g.trans e2.symm) e) (fun g => ⟨hGi, hS, by rw [h1]; exact fun z => e z.symm, h2 e2⟩)
      · rw [if_neg e2, ← List.append_assoc]
        obtain ⟨g1, g2, g3, g4⟩ := h3 e2
        have hr : isRun st bg (G i) q := ⟨g1, e2, g2, g3, by rw [hS _ (Int.le_refl _) hGi]; exact e⟩
        have hE := enT_a g4 hr
        exact runs_en hs hst hhi hB k (i + 1) (S i) (G i) (R ++ [(bg, G i, q)]) (by omega) (by omega) h1' (fun g => enT_g hE (by omega) (fun t a b => by rw [hS t a b, g])) (fun g => ⟨hGi, hS, by rw [h1]; exact fun z => e z.symm, hE⟩)
theorem runs_en0 {st S G : Int → Int} {nk : Int} (hs : ∀ j : Int, 0 ≤ j → j + 1 < nk → G j < G (j + 1)) (hst : ∀ j t : Int, 0 ≤ j → j + 1 < nk → G j ≤ t → t < G (j + 1) → st t = S j) (hlo : 0 < nk → ∀ t : Int, t < G 0 → st t = 2) (hhi : 0 < nk → ∀ t : Int, G (nk - 1) ≤ t → st t = 2) (hB : ∀ j : Int, 0 ≤ j → j < nk → G j ≤ 10000000) (hz : nk ≤ 0 → ∀ t : Int, st t = 2) : enT st 10000000 (runZ S G nk 0 2 0) := by
  by_cases h : 0 < nk
  · have := runs_en hs hst (hhi h) hB (nk - 1).toNat 0 2 0 [] (by omega) (by omega) (hlo h _ (by omega)) (fun _ => enT_0 (fun t ht => hlo h t ht)) (fun g => absurd rfl g)
    rw [List.nil_append] at this
    exact this
  · rw [runZ_e S G (by omega)]
    exact enT_0 (fun t _ => hz (by omega) t)
theorem srt_lt : ∀ {L : List Int} {i j : Nat}, srt L → i < j → j < L.length → L.getD i 0 < L.getD j 0
  | [], _, _, _, _, h => by simp at h
  | q :: t, 0, j + 1, ⟨h1, h2⟩, _, h => by
    have hj : j < t.length := by simpa using h
    simp only [List.getD_cons_zero, List.getD_cons_succ]
    rw [List.getD_eq_getElem?_getD, List.getElem?_eq_getElem hj]
    exact h1 _ (List.getElem_mem hj)
  | q :: t, i + 1, j + 1, ⟨h1, h2⟩, hij, h => by
    simp only [List.getD_cons_succ]
    exact srt_lt h2 (by omega) (by simpa using h)
theorem arrL_lt {G : Int → Int} {n : Int} {L : List Int} (h : arrL G n L) (hs : srt L) {i j : Int} (h0 : 0 ≤ i) (h1 : i < j) (h2 : j < n) : G i < G j := by
  rw [arrL_i h h0 (by omega), arrL_i h (by omega) h2]
  exact srt_lt hs (by omega) (by have := h.1; omega)
theorem arrL_m {G : Int → Int} {n : Int} {L : List Int} (h : arrL G n L) {x : Int} (hx : x ∈ L) : ∃ j : Int, 0 ≤ j ∧ j < n ∧ G j = x := by
  obtain ⟨k, hk, e⟩ := List.getElem_of_mem hx
  refine ⟨(k : Int), by omega, by have := h.1; omega, ?_⟩
  rw [h.2 k hk, List.getD_eq_getElem?_getD, List.getElem?_eq_getElem hk]
  exact e
/-- between cuts that follow one another there is none -/
theorem cut_no {G : Int → Int} {n : Int} {L : List Int} (h : arrL G n L) (hs : srt L) {x j : Int} (hx : x ∈ L) (h0 : 0 ≤ j) (h1 : j + 1 < n) : x ≤ G j ∨ G (j + 1) ≤ x := by
  obtain ⟨k, k0, k1, rfl⟩ := arrL_m h hx
  rcases Int.lt_trichotomy k j with g | g | g
  · have := arrL_lt h hs k0 g (by omega); omega
  · subst g; omega
  · by_cases z : k = j + 1
    · subst z; omega
    · have := arrL_lt h hs (by omega) (show j + 1 < k by omega) k1; omega
theorem cut_lo {G : Int → Int} {n : Int} {L : List Int} (h : arrL G n L) (hs : srt L) {x : Int} (hx : x ∈ L) : G 0 ≤ x ∧ x ≤ G (n - 1) := by
  obtain ⟨k, k0, k1, rfl⟩ := arrL_m h hx
  constructor
  · by_cases z : k = 0
    · subst z; omega
    · have := arrL_lt h hs (Int.le_refl 0) (show 0 < k by omega) k1; omega
  · by_cases z : k = n - 1
    · subst z; omega
    · have := arrL_lt h hs k0 (show k < n - 1 by omega) (by omega); omega

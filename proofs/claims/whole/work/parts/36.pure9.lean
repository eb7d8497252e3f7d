/-- the cut list: one box more -/
def insC (a b d : Int) : List (Int × Int × Int × Int) → List (Int × Int × Int × Int)
  | [] => [(a, b, d, 1)]
  | q :: t => if cmpS q.1 q.2.1 q.2.2.1 a b d = 1 then q :: insC a b d t else if cmpS q.1 q.2.1 q.2.2.1 a b d = 0 then (q.1, q.2.1, q.2.2.1, q.2.2.2 + 1) :: t else (a, b, d, 1) :: q :: t
abbrev gD (L : List (Int × Int × Int × Int)) (k : Nat) : Int × Int × Int × Int := L.getD k (0, 0, 0, 0)
abbrev cmC (q : Int × Int × Int × Int) (a b d : Int) : Int := cmpS q.1 q.2.1 q.2.2.1 a b d
theorem insC_len (a b d : Int) : ∀ L, (insC a b d L).length ≤ L.length + 1
  | [] => by simp [insC]
  | q :: t => by
    unfold insC
    have := insC_len a b d t
    split
    · simp only [List.length_cons]; omega
    · split <;> simp only [List.length_cons] <;> omega
theorem insC_at {a b d : Int} : ∀ {L : List (Int × Int × Int × Int)} {k : Nat}, (∀ j, j < k → cmC (gD L j) a b d = 1) → k ≤ L.length → (k < L.length → cmC (gD L k) a b d = -1) → insC a b d L = L.take k ++ (a, b, d, 1) :: L.drop k
  | [], k, _, h2, _ => by
    have : k = 0 := by simpa using h2
    subst this; rfl
  | q :: t, 0, _, _, h3 => by
    have := h3 (by simp)
    simp only [cmC, gD, List.getD_cons_zero] at this
    unfold insC
    rw [if_neg (by omega), if_neg (by omega)]
    rfl
  | q :: t, k + 1, h1, h2, h3 => by
    have h0 := h1 0 (by omega)
    simp only [cmC, gD, List.getD_cons_zero] at h0
    unfold insC
    rw [if_pos h0, insC_at (L := t) (k := k) (fun j hj => by have := h1 (j + 1) (by omega); simpa using this) (by simpa using h2) (fun hk => by have := h3 (by simpa using hk); simpa using this)]
    rfl
theorem insC_same {a b d : Int} : ∀ {L : List (Int × Int × Int × Int)} {k : Nat}, (∀ j, j < k → cmC (gD L j) a b d = 1) → k < L.length → cmC (gD L k) a b d = 0 → insC a b d L = L.set k ((gD L k).1, (gD L k).2.1, (gD L k).2.2.1, (gD L k).2.2.2 + 1)
  | [], k, _, h2, _ => by simp at h2
  | q :: t, 0, _, _, h3 => by
    simp only [cmC, gD, List.getD_cons_zero] at h3 ⊢
    unfold insC
    rw [if_neg (by omega), if_pos h3]
    rfl
  | q :: t, k + 1, h1, h2, h3 => by
    have h0 := h1 0 (by omega)
    simp only [cmC, gD, List.getD_cons_zero] at h0
    unfold insC
    rw [if_pos h0, insC_same (L := t) (k := k) (fun j hj => by have := h1 (j + 1) (by omega); simpa using this) (by simpa using h2) (by simpa using h3)]
    simp [gD]
theorem arrS_at {n : Int} {p q r t : Int → Int} {L : List (Int × Int × Int × Int)} (h : arrS n p q r t L) {k : Nat} (hk : k < L.length) : p (k : Int) = (gD L k).1 ∧ q (k : Int) = (gD L k).2.1 ∧ r (k : Int) = (gD L k).2.2.1 ∧ t (k : Int) = (gD L k).2.2.2 := by
  have h1 := h.2 k hk
  refine ⟨?_, ?_, ?_, ?_⟩ <;> rw [gD, ← h1]
theorem arrS_set {n : Int} {p q r t t2 : Int → Int} {L : List (Int × Int × Int × Int)} (h : arrS n p q r t L) {k : Nat} (hk : k < L.length) (h1 : t2 (k : Int) = t (k : Int) + 1) (h2 : ∀ j : Int, j ≠ (k : Int) → t2 j = t j) : arrS n p q r t2 (L.set k ((gD L k).1, (gD L k).2.1, (gD L k).2.2.1, (gD L k).2.2.2 + 1)) := by
  obtain ⟨g1, g2, g3, g4⟩ := arrS_at h hk
  refine ⟨by rw [List.length_set]; exact h.1, fun j hj => ?_⟩
  rw [List.length_set] at hj
  by_cases e : j = k
  · subst e
    rw [h1, g1, g2, g3, g4, List.getD_eq_getElem?_getD, List.getElem?_set_self hj]
    rfl
  · rw [h2 _ (by omega), h.2 j hj, List.getD_eq_getElem?_getD, List.getD_eq_getElem?_getD, List.getElem?_set_ne (fun q => e q.symm)]
theorem arrS_ins {n a b d f : Int} {p q r t p2 q2 r2 t2 : Int → Int} {L : List (Int × Int × Int × Int)} {k : Nat} (h : arrS n p q r t L) (ha : k ≤ L.length)
    (h1 : ∀ j : Int, 0 ≤ j → j < (k : Int) → p2 j = p j ∧ q2 j = q j ∧ r2 j = r j ∧ t2 j = t j) (h2 : p2 (k : Int) = a ∧ q2 (k : Int) = b ∧ r2 (k : Int) = d ∧ t2 (k : Int) = f) (h3 : ∀ j : Int, (k : Int) < j → j ≤ n → p2 j = p (j - 1) ∧ q2 j = q (j - 1) ∧ r2 j = r (j - 1) ∧ t2 j = t (j - 1)) : arrS (n + 1) p2 q2 r2 t2 (L.take k ++ (a, b, d, f) :: L.drop k) := by
  obtain ⟨hn, hG⟩ := h
  have hlen : (L.take k ++ (a, b, d, f) :: L.drop k).length = L.length + 1 := by
    simp only [List.length_append, List.length_take, List.length_cons, List.length_drop]; omega
  refine ⟨by rw [hlen, hn]; simp, fun j hj => ?_⟩
  rw [hlen] at hj
  rcases Nat.lt_trichotomy j k with h | h | h
  · obtain ⟨e1, e2, e3, e4⟩ := h1 (j : Int) (by omega) (by omega)
    rw [e1, e2, e3, e4, hG j (by omega)]
    rw [List.getD_eq_getElem?_getD, List.getD_eq_getElem?_getD, List.getElem?_append_left (by simp; omega), List.getElem?_take_of_lt h]
  · subst h
    obtain ⟨e1, e2, e3, e4⟩ := h2
    rw [e1, e2, e3, e4, List.getD_eq_getElem?_getD, List.getElem?_append_right (by simp; omega)]
    simp [Nat.min_eq_left ha]
  · obtain ⟨e1, e2, e3, e4⟩ := h3 (j : Int) (by omega) (by omega)
    have e : ((j : Int) - 1) = ((j - 1 : Nat) : Int) := by omega
    rw [e1, e2, e3, e4, e, hG (j - 1) (by omega), List.getD_eq_getElem?_getD, List.getD_eq_getElem?_getD, List.getElem?_append_right (by simp; omega)]
    have h5 : j - (L.take k).length = (j - k - 1) + 1 := by simp; omega
    rw [h5, List.getElem?_cons_succ, List.getElem?_drop]
    congr 2
    omega
def numC (A1 A2 A3 A4 : Int → Int) (k i : Int) : Int := if i = 0 then A1 k else if i = 1 then A2 k else if i = 2 then A3 k else A4 k
def listC (S0 S1 S2 : Int → Int) (n : Int) : List (Int × Int × Int × Int) := foldZ (fun i L => insC (max (S0 i) (max (S1 i) (S2 i))) (S0 i + S1 i + S2 i - max (S0 i) (max (S1 i) (S2 i)) - min (S0 i) (min (S1 i) (S2 i))) (min (S0 i) (min (S1 i) (S2 i))) L) [] n
theorem listC_s (S0 S1 S2 : Int → Int) {i : Int} (h : 0 ≤ i) : listC S0 S1 S2 (i + 1) = insC (max (S0 i) (max (S1 i) (S2 i))) (S0 i + S1 i + S2 i - max (S0 i) (max (S1 i) (S2 i)) - min (S0 i) (min (S1 i) (S2 i))) (min (S0 i) (min (S1 i) (S2 i))) (listC S0 S1 S2 i) := foldZ_s _ _ h
theorem insC_al {a b d B : Int} : ∀ {L : List (Int × Int × Int × Int)}, (∀ z ∈ L, 1 ≤ z.2.2.2 ∧ z.2.2.2 ≤ B) → 0 ≤ B → ∀ z ∈ insC a b d L, 1 ≤ z.2.2.2 ∧ z.2.2.2 ≤ B + 1
  | [], _, hB, z, hz => by
    have : z = (a, b, d, 1) := by simpa [insC] using hz
    subst this
    show (1 : Int) ≤ 1 ∧ (1 : Int) ≤ B + 1
    omega
  | q :: t, h, hB, z, hz => by
    unfold insC at hz
    have hq := h q (by simp)
    split at hz
    · rcases List.mem_cons.mp hz with e | e
      · subst e; omega
      · exact insC_al (fun z hz => h z (List.mem_cons_of_mem _ hz)) hB z e
    · split at hz
      · rcases List.mem_cons.mp hz with e | e
        · subst e; show 1 ≤ q.2.2.2 + 1 ∧ q.2.2.2 + 1 ≤ B + 1; omega
        · have := h z (List.mem_cons_of_mem _ e); omega
      · rcases List.mem_cons.mp hz with e | e
        · subst e; show (1 : Int) ≤ 1 ∧ (1 : Int) ≤ B + 1; omega
        · have := h z e; omega
theorem listC_al (S0 S1 S2 : Int → Int) (n : Int) (hn : 0 ≤ n) : (∀ z ∈ listC S0 S1 S2 n, 1 ≤ z.2.2.2 ∧ z.2.2.2 ≤ n) ∧ ((listC S0 S1 S2 n).length : Int) ≤ n := by
  have key : ∀ k : Nat, (∀ z ∈ listC S0 S1 S2 (k : Int), 1 ≤ z.2.2.2 ∧ z.2.2.2 ≤ (k : Int)) ∧ (listC S0 S1 S2 (k : Int)).length ≤ k := by
    intro k
    induction k with
    | zero => exact ⟨fun z hz => absurd hz List.not_mem_nil, Nat.le_refl _⟩
    | succ k ih =>
      have e : ((k + 1 : Nat) : Int) = (k : Int) + 1 := by omega
      rw [e, listC_s _ _ _ (by omega)]
      have h2 := insC_len (max (S0 k) (max (S1 k) (S2 k))) (S0 k + S1 k + S2 k - max (S0 k) (max (S1 k) (S2 k)) - min (S0 k) (min (S1 k) (S2 k))) (min (S0 k) (min (S1 k) (S2 k))) (listC S0 S1 S2 k)
      exact ⟨insC_al ih.1 (by omega), by omega⟩
  have h1 := key n.toNat
  rw [Int.toNat_of_nonneg hn] at h1
  exact ⟨h1.1, by omega⟩

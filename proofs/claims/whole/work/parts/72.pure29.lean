theorem gtC_new {a b d x y z : Int} : ∀ {L : List T4}, srC L → (∀ q ∈ L, ¬ eqC a b d q) → gtC x y z (insC a b d L) = gtC x y z L + (if cmpS a b d x y z = 1 then 1 else 0)
  | [], _, _ => by
    unfold insC gtC
    show (if cmpS a b d x y z = 1 then (1 : Int) else 0) + 0 = 0 + _
    omega
  | q :: t, hs, hn => by
    obtain ⟨s1, s2⟩ := List.pairwise_cons.mp hs
    have hx := cmC_in q a b d
    have nq := hn q (by simp)
    unfold insC
    split
    · have ih := gtC_new (x := x) (y := y) (z := z) s2 (fun q hq => hn q (List.mem_cons_of_mem _ hq))
      show (if cmC q x y z = 1 then (1 : Int) else 0) + gtC x y z (insC a b d t) = (if cmC q x y z = 1 then (1 : Int) else 0) + gtC x y z t + _
      rw [ih]
      omega
    · next g =>
      split
      · next g2 =>
        have g' : cmC q a b d = 0 := g2
        omega
      · show (if cmpS a b d x y z = 1 then (1 : Int) else 0) + gtC x y z (q :: t) = gtC x y z (q :: t) + _
        omega
theorem gtC_old {a b d x y z : Int} : ∀ {L : List T4}, srC L → (∃ q ∈ L, eqC a b d q) → gtC x y z (insC a b d L) = gtC x y z L
  | [], _, ⟨q, h, _⟩ => absurd h List.not_mem_nil
  | q :: t, hs, ⟨p, hp, he⟩ => by
    obtain ⟨s1, s2⟩ := List.pairwise_cons.mp hs
    have hx := cmC_in q a b d
    unfold insC
    split
    · next g =>
      have g' : cmC q a b d = 1 := g
      have hp2 : p ∈ t := by
        rcases List.mem_cons.mp hp with e | e
        · subst e; omega
        · exact e
      have ih := gtC_old (x := x) (y := y) (z := z) s2 ⟨p, hp2, he⟩
      show (if cmC q x y z = 1 then (1 : Int) else 0) + gtC x y z (insC a b d t) = (if cmC q x y z = 1 then (1 : Int) else 0) + gtC x y z t
      rw [ih]
    · next g =>
      split
      · rfl
      · next g2 =>
        have g' : ¬ cmC q a b d = 1 := g
        have g'' : ¬ cmC q a b d = 0 := g2
        rcases List.mem_cons.mp hp with e | e
        · subst e; omega
        · have h1 : cmC q p.1 p.2.1 p.2.2.1 = 1 := s1 p e
          have h2 := cmC_in q p.1 p.2.1 p.2.2.1
          omega
def upT (S : Int → Int) (x y z o : Int) : Bool := fsQ S o && decide (0 < cmpS (S (3 * o + 0)) (S (3 * o + 1)) (S (3 * o + 2)) x y z)
def sQ (S : Int → Int) (x y z c : Int) : Bool := decide (S (3 * c + 0) = x ∧ S (3 * c + 1) = y ∧ S (3 * c + 2) = z)
def lstP (S : Int → Int) (n : Int) (L : List T4) : Prop := srC L ∧ (∀ x y z : Int, (∃ q ∈ L, eqC x y z q) ↔ ∃ c : Int, 0 ≤ c ∧ c < n ∧ S (3 * c + 0) = x ∧ S (3 * c + 1) = y ∧ S (3 * c + 2) = z) ∧ (∀ x y z : Int, gtC x y z L = cntZ (upT S x y z) n) ∧ (∀ q ∈ L, q.2.2.2 = cntZ (sQ S q.1 q.2.1 q.2.2.1) n)
theorem cq_0 {S : Int → Int} {a b : Int} : cq S a b = 0 ↔ S (3 * a + 0) = S (3 * b + 0) ∧ S (3 * a + 1) = S (3 * b + 1) ∧ S (3 * a + 2) = S (3 * b + 2) := by
  unfold cq
  have := cmpS_in (S (3 * a + 0)) (S (3 * a + 1)) (S (3 * a + 2)) (S (3 * b + 0)) (S (3 * b + 1)) (S (3 * b + 2))
  omega
theorem fsQ_t {S : Int → Int} {n : Int} : fsQ S n = true ↔ ¬ ∃ c : Int, 0 ≤ c ∧ c < n ∧ S (3 * c + 0) = S (3 * n + 0) ∧ S (3 * c + 1) = S (3 * n + 1) ∧ S (3 * c + 2) = S (3 * n + 2) := by
  unfold fsQ
  rw [Bool.not_eq_true', ← Bool.not_eq_true, anyZ_iff]
  constructor
  · rintro h ⟨c, c0, c1, c2⟩
    exact h ⟨c, c0, c1, decide_eq_true (cq_0.mpr c2)⟩
  · rintro h ⟨c, c0, c1, c2⟩
    exact h ⟨c, c0, c1, cq_0.mp (of_decide_eq_true c2)⟩
theorem lst_s {S : Int → Int} {n : Int} {L : List T4} (hn : 0 ≤ n) (h : lstP S n L) : lstP S (n + 1) (insC (S (3 * n + 0)) (S (3 * n + 1)) (S (3 * n + 2)) L) := by
  obtain ⟨h1, h2, h3, h4⟩ := h
  refine ⟨insC_srt h1, fun x y z => ?_, fun x y z => ?_, fun q hq => ?_⟩
  · constructor
    · rintro ⟨q, hq, he⟩
      rcases (insC_mem h1 q).mp hq with ⟨g1, g2⟩ | ⟨g1, g2⟩ | ⟨w, g1, g2, g3⟩
      · obtain ⟨c, c0, c1, c2⟩ := (h2 x y z).mp ⟨q, g1, he⟩
        exact ⟨c, c0, by omega, c2⟩
      · subst g1; exact ⟨n, hn, by omega, he⟩
      · subst g3
        obtain ⟨e1, e2, e3⟩ := he
        obtain ⟨f1, f2, f3⟩ := g2
        exact ⟨n, hn, by omega, by rw [← f1]; exact e1, by rw [← f2]; exact e2, by rw [← f3]; exact e3⟩
    · rintro ⟨c, c0, c1, c2, c3, c4⟩
      by_cases he : S (3 * n + 0) = x ∧ S (3 * n + 1) = y ∧ S (3 * n + 2) = z
      · obtain ⟨e1, e2, e3⟩ := he
        by_cases hx : ∃ q ∈ L, eqC (S (3 * n + 0)) (S (3 * n + 1)) (S (3 * n + 2)) q
        · obtain ⟨w, w1, w2⟩ := hx
          exact ⟨_, (insC_mem h1 _).mpr (Or.inr (Or.inr ⟨w, w1, w2, rfl⟩)), by rw [← e1]; exact w2.1, by rw [← e2]; exact w2.2.1, by rw [← e3]; exact w2.2.2⟩
        · exact ⟨_, (insC_mem h1 _).mpr (Or.inr (Or.inl ⟨rfl, fun q hq he => hx ⟨q, hq, he⟩⟩)), e1, e2, e3⟩
      · have hc : c < n := by
          by_cases e : c = n
          · subst e; exact absurd ⟨c2, c3, c4⟩ he
          · omega
        obtain ⟨q, hq, e⟩ := (h2 x y z).mpr ⟨c, c0, hc, c2, c3, c4⟩
        refine ⟨q, (insC_mem h1 q).mpr (Or.inl ⟨hq, fun g => he ?_⟩), e⟩
        obtain ⟨f1, f2, f3⟩ := g
        obtain ⟨e1, e2, e3⟩ := e
        exact ⟨by rw [← f1]; exact e1, by rw [← f2]; exact e2, by rw [← f3]; exact e3⟩
  · rw [cntZ_s _ hn, ← h3 x y z]
    have hfs : fsQ S n = true ↔ ∀ q ∈ L, ¬ eqC (S (3 * n + 0)) (S (3 * n + 1)) (S (3 * n + 2)) q := by
      rw [fsQ_t, ← h2]
      exact ⟨fun g q hq he => g ⟨q, hq, he⟩, fun g ⟨q, hq, he⟩ => g q hq he⟩
    unfold upT
    cases e : fsQ S n with
    | true =>
      rw [gtC_new h1 (hfs.mp e), Bool.true_and]
      have hc := cmpS_in (S (3 * n + 0)) (S (3 * n + 1)) (S (3 * n + 2)) x y z
      by_cases g : cmpS (S (3 * n + 0)) (S (3 * n + 1)) (S (3 * n + 2)) x y z = 1
      · rw [if_pos g, decide_eq_true (by omega)]; rfl
      · rw [if_neg g, decide_eq_false (by omega)]; rfl
    | false =>
      have hx : ∃ q ∈ L, eqC (S (3 * n + 0)) (S (3 * n + 1)) (S (3 * n + 2)) q := by
        apply Classical.byContradiction
        intro z
        have := hfs.mpr (fun q hq he => z ⟨q, hq, he⟩)
        rw [e] at this
        cases this
      rw [gtC_old h1 hx, Bool.false_and]
      show _ = _ + (0 : Int)
      omega
  · rw [cntZ_s _ hn]
    rcases (insC_mem h1 q).mp hq with ⟨g1, g2⟩ | ⟨g1, g2⟩ | ⟨w, g1, g2, g3⟩
    · rw [← h4 q g1]
      have : sQ S q.1 q.2.1 q.2.2.1 n = false := decide_eq_false (fun e => g2 ⟨e.1.symm, e.2.1.symm, e.2.2.symm⟩)
      rw [this]
      show _ = _ + (0 : Int)
      omega
    · subst g1
      have hz : cntZ (sQ S (S (3 * n + 0)) (S (3 * n + 1)) (S (3 * n + 2))) n = 0 := by
        have hx : ∀ c : Int, 0 ≤ c → c < n → sQ S (S (3 * n + 0)) (S (3 * n + 1)) (S (3 * n + 2)) c = (fun _ => false) c := fun c c0 c1 => decide_eq_false (fun e => by
          obtain ⟨q, hq, he⟩ := (h2 _ _ _).mpr ⟨c, c0, c1, e⟩
          exact g2 q hq he)
        rw [cntZ_e hn hx]
        have key : ∀ k : Nat, cntZ (fun _ => false) (k : Int) = 0 := by
          intro k
          induction k with
          | zero => rfl
          | succ k ih => rw [show ((k + 1 : Nat) : Int) = (k : Int) + 1 by omega, cntZ_s _ (by omega), ih]; rfl
        have := key n.toNat
        rw [Int.toNat_of_nonneg hn] at this
        exact this
      show (1 : Int) = cntZ (sQ S (S (3 * n + 0)) (S (3 * n + 1)) (S (3 * n + 2))) n + bz (sQ S (S (3 * n + 0)) (S (3 * n + 1)) (S (3 * n + 2)) n)
      have : sQ S (S (3 * n + 0)) (S (3 * n + 1)) (S (3 * n + 2)) n = true := decide_eq_true ⟨rfl, rfl, rfl⟩
      rw [hz, this]
      rfl
    · subst g3
      have e := h4 w g1
      have : sQ S w.1 w.2.1 w.2.2.1 n = true := decide_eq_true ⟨g2.1.symm, g2.2.1.symm, g2.2.2.symm⟩
      show w.2.2.2 + 1 = cntZ (sQ S w.1 w.2.1 w.2.2.1) n + bz (sQ S w.1 w.2.1 w.2.2.1 n)
      rw [this, ← e]
      rfl

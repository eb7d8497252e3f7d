/-! THE CUT LIST -/
abbrev T4 : Type := Int × Int × Int × Int
def gtC (a b d : Int) : List T4 → Int
  | [] => 0
  | q :: t => (if cmC q a b d = 1 then 1 else 0) + gtC a b d t
def srC (L : List T4) : Prop := L.Pairwise (fun p q => cmC p q.1 q.2.1 q.2.2.1 = 1)
abbrev eqC (a b d : Int) (q : T4) : Prop := q.1 = a ∧ q.2.1 = b ∧ q.2.2.1 = d
theorem cmC_in (q : T4) (a b d : Int) : (cmC q a b d = -1 ∧ lexL q.1 q.2.1 q.2.2.1 a b d) ∨ (cmC q a b d = 0 ∧ eqC a b d q) ∨ (cmC q a b d = 1 ∧ lexL a b d q.1 q.2.1 q.2.2.1) := cmpS_in _ _ _ _ _ _
/-- what one box more does -/
theorem insC_mem {a b d : Int} : ∀ {L : List T4}, srC L → ∀ q : T4, q ∈ insC a b d L ↔ (q ∈ L ∧ ¬ eqC a b d q) ∨ (q = (a, b, d, 1) ∧ ∀ z ∈ L, ¬ eqC a b d z) ∨ (∃ z ∈ L, eqC a b d z ∧ q = (z.1, z.2.1, z.2.2.1, z.2.2.2 + 1))
  | [], _, q => by
    unfold insC
    constructor
    · intro h
      have : q = (a, b, d, 1) := by simpa using h
      exact Or.inr (Or.inl ⟨this, fun z hz => absurd hz List.not_mem_nil⟩)
    · rintro (⟨h, -⟩ | ⟨h, -⟩ | ⟨z, h, -⟩)
      · exact absurd h List.not_mem_nil
      · rw [h]; simp
      · exact absurd h List.not_mem_nil
  | x :: t, hs, q => by
    obtain ⟨s1, s2⟩ := List.pairwise_cons.mp hs
    have hx := cmC_in x a b d
    unfold insC
    split
    · next g =>
      have ih := insC_mem (a := a) (b := b) (d := d) s2 q
      have nx : ¬ eqC a b d x := fun e => by
        have g' : cmC x a b d = 1 := g
        omega
      rw [List.mem_cons, ih]
      constructor
      · rintro (e | ⟨h1, h2⟩ | ⟨h1, h2⟩ | ⟨z, h1, h2⟩)
        · subst e; exact Or.inl ⟨by simp, nx⟩
        · exact Or.inl ⟨List.mem_cons_of_mem _ h1, h2⟩
        · exact Or.inr (Or.inl ⟨h1, fun z hz => (List.mem_cons.mp hz).elim (fun e => e ▸ nx) (h2 z)⟩)
        · exact Or.inr (Or.inr ⟨z, List.mem_cons_of_mem _ h1, h2⟩)
      · rintro (⟨h1, h2⟩ | ⟨h1, h2⟩ | ⟨z, h1, h2⟩)
        · rcases List.mem_cons.mp h1 with e | e
          · exact Or.inl e
          · exact Or.inr (Or.inl ⟨e, h2⟩)
        · exact Or.inr (Or.inr (Or.inl ⟨h1, fun z hz => h2 z (List.mem_cons_of_mem _ hz)⟩))
        · rcases List.mem_cons.mp h1 with e | e
          · subst e; exact absurd h2.1 nx
          · exact Or.inr (Or.inr (Or.inr ⟨z, e, h2⟩))
    · next g =>
      have lt : ∀ z ∈ t, cmC x z.1 z.2.1 z.2.2.1 = 1 := s1
      split
      · next g2 =>
        have ex : eqC a b d x := by
          have g' : cmC x a b d = 0 := g2
          omega
        have nt : ∀ z ∈ t, ¬ eqC a b d z := fun z hz e => by
          have h1 := lt z hz
          have h2 := cmC_in x z.1 z.2.1 z.2.2.1
          omega
        rw [List.mem_cons]
        constructor
        · rintro (e | e)
          · exact Or.inr (Or.inr ⟨x, by simp, ex, e⟩)
          · exact Or.inl ⟨List.mem_cons_of_mem _ e, nt q e⟩
        · rintro (⟨h1, h2⟩ | ⟨h1, h2⟩ | ⟨z, h1, h2, h3⟩)
          · rcases List.mem_cons.mp h1 with e | e
            · subst e; exact absurd ex h2
            · exact Or.inr e
          · exact absurd ex (h2 x (by simp))
          · rcases List.mem_cons.mp h1 with e | e
            · subst e; exact Or.inl h3
            · exact absurd h2 (nt z e)
      · next g2 =>
        have lx : lexL x.1 x.2.1 x.2.2.1 a b d := by
          have g' : ¬ cmC x a b d = 1 := g
          have g'' : ¬ cmC x a b d = 0 := g2
          omega
        have nt : ∀ z ∈ x :: t, ¬ eqC a b d z := fun z hz e => by
          rcases List.mem_cons.mp hz with w | w
          · subst w; omega
          · have h1 := lt z w
            have h2 := cmC_in x z.1 z.2.1 z.2.2.1
            omega
        rw [List.mem_cons]
        constructor
        · rintro (e | e)
          · exact Or.inr (Or.inl ⟨e, nt⟩)
          · exact Or.inl ⟨e, nt q e⟩
        · rintro (⟨h1, -⟩ | ⟨h1, -⟩ | ⟨z, h1, h2, -⟩)
          · exact Or.inr h1
          · exact Or.inl h1
          · exact absurd h2 (nt z h1)
theorem insC_srt {a b d : Int} : ∀ {L : List T4}, srC L → srC (insC a b d L)
  | [], _ => List.pairwise_singleton _ _
  | x :: t, hs => by
    obtain ⟨s1, s2⟩ := List.pairwise_cons.mp hs
    have hx := cmC_in x a b d
    unfold insC
    split
    · next g =>
      refine List.pairwise_cons.mpr ⟨fun z hz => ?_, insC_srt s2⟩
      rcases (insC_mem s2 z).mp hz with ⟨h1, -⟩ | ⟨h1, -⟩ | ⟨w, h1, h2, h3⟩
      · exact s1 z h1
      · rw [h1]; exact g
      · rw [h3]; exact s1 w h1
    · next g =>
      split
      · next g2 => exact List.pairwise_cons.mpr ⟨fun z hz => s1 z hz, s2⟩
      · next g2 =>
        have lx : lexL x.1 x.2.1 x.2.2.1 a b d := by
          have g' : ¬ cmC x a b d = 1 := g
          have g'' : ¬ cmC x a b d = 0 := g2
          omega
        refine List.pairwise_cons.mpr ⟨fun z hz => ?_, hs⟩
        have h3 := cmpS_in a b d z.1 z.2.1 z.2.2.1
        show cmpS a b d z.1 z.2.1 z.2.2.1 = 1
        rcases List.mem_cons.mp hz with w | w
        · subst w
          omega
        · have h1 : cmC x z.1 z.2.1 z.2.2.1 = 1 := s1 z w
          have h2 := cmC_in x z.1 z.2.1 z.2.2.1
          omega

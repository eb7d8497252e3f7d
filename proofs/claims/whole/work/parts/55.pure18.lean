/-! A LINE OF A VIEW, BY THE BOXES -/
def alW (vw u : Int) : Int := if u = 0 then acx (dax vw) else upx (dax vw)
def beW (vw u : Int) : Int := if u = 0 then upx (dax vw) else acx (dax vw)
theorem alW_in (vw u : Int) : 0 ≤ alW vw u ∧ alW vw u ≤ 2 := by
  have h1 := acx_in (dax vw); have h2 := upx_in (dax vw)
  unfold alW; split <;> omega
theorem beW_in (vw u : Int) : 0 ≤ beW vw u ∧ beW vw u ≤ 2 := by
  have h1 := acx_in (dax vw); have h2 := upx_in (dax vw)
  unfold beW; split <;> omega
def edC (From To : Int → Int) (be pl c : Int) : Prop := From (3 * c + be) = pl ∨ To (3 * c + be) = pl
def egB (From To : Int → Int) (al be pl n t : Int) : Prop := ∃ c : Int, 0 ≤ c ∧ c < n ∧ edC From To be pl c ∧ From (3 * c + al) ≤ t ∧ t < To (3 * c + al)
def seB (From To : Int → Int) (vw al be pl bn n t : Int) : Prop := ∃ c : Int, 0 ≤ c ∧ c < n ∧ edC From To be pl c ∧ (From (3 * c + al) ≤ t ∧ t < To (3 * c + al)) ∧ ¬ covB From To vw al be pl (mFt From To vw c) bn t
noncomputable def stB (From To : Int → Int) (vw al be pl bn t : Int) : Int := by
  classical
  exact if seB From To vw al be pl bn bn t then 0 else if egB From To al be pl bn t then 1 else 2
theorem stB_0 {From To : Int → Int} {vw al be pl bn t : Int} (h : seB From To vw al be pl bn bn t) : stB From To vw al be pl bn t = 0 := by unfold stB; rw [if_pos h]
theorem stB_1 {From To : Int → Int} {vw al be pl bn t : Int} (h : ¬ seB From To vw al be pl bn bn t) (h2 : egB From To al be pl bn t) : stB From To vw al be pl bn t = 1 := by unfold stB; rw [if_neg h, if_pos h2]
theorem stB_x {From To : Int → Int} {vw al be pl bn t : Int} (h : ¬ seB From To vw al be pl bn bn t) (h2 : ¬ egB From To al be pl bn t) : stB From To vw al be pl bn t = 2 := by unfold stB; rw [if_neg h, if_neg h2]
theorem stM_B {From To Ef Et Sf St_ : Int → Int} {ne ns vw al be pl bn : Int} (hE : ∀ t : Int, LC Ef Et ne t ↔ egB From To al be pl bn t) (hS : ∀ t : Int, LC Sf St_ ns t ↔ seB From To vw al be pl bn bn t) : stM Ef Et ne Sf St_ ns = stB From To vw al be pl bn := by
  funext t
  by_cases h : LC Sf St_ ns t
  · rw [stM_0 h, stB_0 ((hS t).mp h)]
  · by_cases h2 : LC Ef Et ne t
    · rw [stM_1 h h2, stB_1 (fun g => h ((hS t).mpr g)) ((hE t).mp h2)]
    · rw [stM_2 h h2, stB_x (fun g => h ((hS t).mpr g)) (fun g => h2 ((hE t).mpr g))]
theorem covB_m {From To : Int → Int} {vw al be pl d1 d2 n t : Int} (h : d1 ≤ d2) (g : covB From To vw al be pl d1 n t) : covB From To vw al be pl d2 n t := by
  obtain ⟨c, c0, c1, ⟨c2, c3, c4⟩, c5⟩ := g
  exact ⟨c, c0, c1, ⟨c2, c3, by omega⟩, c5⟩
theorem egB_n {From To : Int → Int} {al be pl n t : Int} (h : ¬ edC From To be pl n) : egB From To al be pl (n + 1) t ↔ egB From To al be pl n t := by
  constructor
  · rintro ⟨c, c0, c1, c2, c3⟩
    by_cases e : c = n
    · subst e; exact absurd c2 h
    · exact ⟨c, c0, by omega, c2, c3⟩
  · rintro ⟨c, c0, c1, c2⟩
    exact ⟨c, c0, by omega, c2⟩
theorem egB_c {From To : Int → Int} {al be pl n t : Int} (hn : 0 ≤ n) (h : edC From To be pl n) : egB From To al be pl (n + 1) t ↔ egB From To al be pl n t ∨ (From (3 * n + al) ≤ t ∧ t < To (3 * n + al)) := by
  constructor
  · rintro ⟨c, c0, c1, c2, c3⟩
    by_cases e : c = n
    · subst e; exact Or.inr c3
    · exact Or.inl ⟨c, c0, by omega, c2, c3⟩
  · rintro (⟨c, c0, c1, c2⟩ | h1)
    · exact ⟨c, c0, by omega, c2⟩
    · exact ⟨n, hn, by omega, h, h1⟩
theorem seB_n {From To : Int → Int} {vw al be pl bn n t : Int} (h : ¬ edC From To be pl n) : seB From To vw al be pl bn (n + 1) t ↔ seB From To vw al be pl bn n t := by
  constructor
  · rintro ⟨c, c0, c1, c2, c3⟩
    by_cases e : c = n
    · subst e; exact absurd c2 h
    · exact ⟨c, c0, by omega, c2, c3⟩
  · rintro ⟨c, c0, c1, c2⟩
    exact ⟨c, c0, by omega, c2⟩
theorem seB_c {From To : Int → Int} {vw al be pl bn n t : Int} (hn : 0 ≤ n) (h : edC From To be pl n) : seB From To vw al be pl bn (n + 1) t ↔ seB From To vw al be pl bn n t ∨ ((From (3 * n + al) ≤ t ∧ t < To (3 * n + al)) ∧ ¬ covB From To vw al be pl (mFt From To vw n) bn t) := by
  constructor
  · rintro ⟨c, c0, c1, c2, c3⟩
    by_cases e : c = n
    · subst e; exact Or.inr c3
    · exact Or.inl ⟨c, c0, by omega, c2, c3⟩
  · rintro (⟨c, c0, c1, c2⟩ | h1)
    · exact ⟨c, c0, by omega, c2⟩
    · exact ⟨n, hn, by omega, h, h1⟩
theorem egB_z {From To : Int → Int} {al be pl t : Int} : ¬ egB From To al be pl 0 t := by
  rintro ⟨c, c0, c1, -⟩; omega
theorem seB_z {From To : Int → Int} {vw al be pl bn t : Int} : ¬ seB From To vw al be pl bn 0 t := by
  rintro ⟨c, c0, c1, -⟩; omega
theorem seB_ed {From To : Int → Int} {vw al be pl bn n t : Int} (h : seB From To vw al be pl bn n t) : egB From To al be pl n t := by
  obtain ⟨c, c0, c1, c2, c3, -⟩ := h
  exact ⟨c, c0, c1, c2, c3⟩
/-- both edges of a box laid to the others -/
theorem two_E {F T : Int → Int} {n a b t : Int} (hn : 0 ≤ n) {P Q : Prop} (h : LC F T n t ↔ P) (hq : Q ↔ P ∨ (a ≤ t ∧ t < b)) : LC (upz (upz F n a) (n + 1) a) (upz (upz T n b) (n + 1) b) (n + 1 + 1) t ↔ Q := by
  rw [LC_app (by omega), LC_app hn, h, hq]
  exact ⟨fun g => g.elim id Or.inr, Or.inl⟩
theorem two_S {P Q A B I C1 C2 : Prop} (h1 : A ↔ P ∨ (I ∧ ¬ C1)) (h2 : B ↔ A ∨ (I ∧ ¬ C2)) (hc : C1 → C2) (hq : Q ↔ P ∨ (I ∧ ¬ C1)) : B ↔ Q := by
  rw [h2, h1, hq]
  exact ⟨fun g => g.elim id (fun q => Or.inr ⟨q.1, fun z => q.2 (hc z)⟩), Or.inl⟩
/-- no more in a rising list than in what holds it -/
theorem sub_len : ∀ (L K : List Int), L.Pairwise (· < ·) → (∀ x ∈ L, x ∈ K) → L.length ≤ K.length
  | [], _, _, _ => Nat.zero_le _
  | x :: L, K, h, hs => by
    obtain ⟨h1, h2⟩ := List.pairwise_cons.mp h
    have hx := hs x (by simp)
    have := sub_len L (K.erase x) h2 (fun y hy => (List.mem_erase_of_ne (by have := h1 y hy; omega)).mpr (hs y (List.mem_cons_of_mem _ hy)))
    have h3 := List.length_erase_of_mem hx
    have h4 := List.length_pos_of_mem hx
    simp only [List.length_cons]
    omega
theorem gathL_mem {F T : Int → Int} {c n : Int} (h0 : 0 ≤ c) (h1 : c < n) : F c ∈ gathL F T n ∧ T c ∈ gathL F T n := by
  have key : ∀ k : Nat, c < (k : Int) → F c ∈ gathL F T (k : Int) ∧ T c ∈ gathL F T (k : Int) := by
    intro k
    induction k with
    | zero => intro h; omega
    | succ k ih =>
      intro h
      rw [show ((k + 1 : Nat) : Int) = (k : Int) + 1 by omega, gathL_s _ _ (by omega)]
      by_cases e : c = (k : Int)
      · subst e
        exact ⟨(insZ_mem _ _ _).mpr (Or.inr ((insZ_mem _ _ _).mpr (Or.inl rfl))), (insZ_mem _ _ _).mpr (Or.inl rfl)⟩
      · obtain ⟨i1, i2⟩ := ih (by omega)
        exact ⟨(insZ_mem _ _ _).mpr (Or.inr ((insZ_mem _ _ _).mpr (Or.inr i1))), (insZ_mem _ _ _).mpr (Or.inr ((insZ_mem _ _ _).mpr (Or.inr i2)))⟩
  have := key n.toNat (by omega)
  rw [Int.toNat_of_nonneg (by omega)] at this
  exact this
/-- the state changes at sides of boxes alone -/
theorem stB_k {From To : Int → Int} {vw al be pl bn t : Int} (h : ∀ c : Int, 0 ≤ c → c < bn → From (3 * c + al) ≠ t ∧ To (3 * c + al) ≠ t) : stB From To vw al be pl bn (t - 1) = stB From To vw al be pl bn t := by
  have hI : ∀ c : Int, 0 ≤ c → c < bn → ((From (3 * c + al) ≤ t - 1 ∧ t - 1 < To (3 * c + al)) ↔ (From (3 * c + al) ≤ t ∧ t < To (3 * c + al))) := fun c h0 h1 => by
    have := h c h0 h1
    omega
  have hC : ∀ d : Int, covB From To vw al be pl d bn (t - 1) ↔ covB From To vw al be pl d bn t := fun d =>
    ⟨fun ⟨c, c0, c1, c2, c3⟩ => ⟨c, c0, c1, c2, (hI c c0 c1).mp c3⟩, fun ⟨c, c0, c1, c2, c3⟩ => ⟨c, c0, c1, c2, (hI c c0 c1).mpr c3⟩⟩
  have hS : seB From To vw al be pl bn bn (t - 1) ↔ seB From To vw al be pl bn bn t :=
    ⟨fun ⟨c, c0, c1, c2, c3, c4⟩ => ⟨c, c0, c1, c2, (hI c c0 c1).mp c3, fun g => c4 ((hC _).mpr g)⟩, fun ⟨c, c0, c1, c2, c3, c4⟩ => ⟨c, c0, c1, c2, (hI c c0 c1).mpr c3, fun g => c4 ((hC _).mp g)⟩⟩
  have hE : egB From To al be pl bn (t - 1) ↔ egB From To al be pl bn t :=
    ⟨fun ⟨c, c0, c1, c2, c3⟩ => ⟨c, c0, c1, c2, (hI c c0 c1).mp c3⟩, fun ⟨c, c0, c1, c2, c3⟩ => ⟨c, c0, c1, c2, (hI c c0 c1).mpr c3⟩⟩
  by_cases h1 : seB From To vw al be pl bn bn t
  · rw [stB_0 h1, stB_0 (hS.mpr h1)]
  · by_cases h2 : egB From To al be pl bn t
    · rw [stB_1 h1 h2, stB_1 (fun g => h1 (hS.mp g)) (hE.mpr h2)]
    · rw [stB_x h1 h2, stB_x (fun g => h1 (hS.mp g)) (fun g => h2 (hE.mp g))]
theorem cap48 {From To : Int → Int} {vw al be pl bn a : Int} {R : List (Int × Int × Int)} (h0 : 0 ≤ bn) (h1 : bn ≤ 24) (h : enT (stB From To vw al be pl bn) a R) : (R.length : Int) ≤ 48 := by
  have hp : (R.map (fun q => q.1)).Pairwise (· < ·) := by
    rw [List.pairwise_map]
    exact h.so.imp_of_mem (fun {p q} hp hq g => by have := (h.rn p hp).1.lt; omega)
  have hm : ∀ x ∈ R.map (fun q => q.1), x ∈ gathL (fun c => From (3 * c + al)) (fun c => To (3 * c + al)) bn := by
    intro x hx
    obtain ⟨q, hq, rfl⟩ := List.mem_map.mp hx
    obtain ⟨hr, -⟩ := h.rn q hq
    have e1 := hr.al q.1 (Int.le_refl _) hr.lt
    have e2 := hr.le
    by_cases g : ∀ c : Int, 0 ≤ c → c < bn → From (3 * c + al) ≠ q.1 ∧ To (3 * c + al) ≠ q.1
    · rw [stB_k g, e1] at e2
      exact absurd rfl e2
    · have g2 : ∃ c : Int, 0 ≤ c ∧ c < bn ∧ (From (3 * c + al) = q.1 ∨ To (3 * c + al) = q.1) := by
        apply Classical.byContradiction
        intro z
        exact g (fun c c0 c1 => ⟨fun e => z ⟨c, c0, c1, Or.inl e⟩, fun e => z ⟨c, c0, c1, Or.inr e⟩⟩)
      obtain ⟨c, c0, c1, c2⟩ := g2
      have hmm := gathL_mem (F := fun c => From (3 * c + al)) (T := fun c => To (3 * c + al)) c0 c1
      rcases c2 with c2 | c2
      · rw [← c2]; exact hmm.1
      · rw [← c2]; exact hmm.2
  have h3 := sub_len _ _ hp hm
  have h4 := gathL_len (fun c => From (3 * c + al)) (fun c => To (3 * c + al)) bn
  rw [List.length_map] at h3
  omega

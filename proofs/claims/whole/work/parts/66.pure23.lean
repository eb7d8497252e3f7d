/-! the class's states along a line, by the boxes -/
def recM (From To : Int → Int) (vw al be bn : Int) (F T Fb Tb Z : Int → Int) : Prop := ∀ c : Int, 0 ≤ c → c < bn → F c = From (3 * c + al) ∧ T c = To (3 * c + al) ∧ Fb c = From (3 * c + be) ∧ Tb c = To (3 * c + be) ∧ Z c = mFt From To vw c
theorem edgL_mem {Fb Tb : Int → Int} {y n z : Int} (hn : 0 ≤ n) : z ∈ edgL Fb Tb y n ↔ 0 ≤ z ∧ z < n ∧ (Fb z = y ∨ Tb z = y) := by
  have key : ∀ k : Nat, z ∈ edgL Fb Tb y (k : Int) ↔ 0 ≤ z ∧ z < (k : Int) ∧ (Fb z = y ∨ Tb z = y) := by
    intro k
    induction k with
    | zero => exact ⟨fun h => absurd h List.not_mem_nil, fun h => by omega⟩
    | succ k ih =>
      rw [show ((k + 1 : Nat) : Int) = (k : Int) + 1 by omega]
      cases e : edgP Fb Tb y (k : Int) with
      | true =>
        have e2 := of_decide_eq_true e
        rw [edgL_t (by omega) e, List.mem_append, ih]
        constructor
        · rintro (⟨h1, h2, h3⟩ | h)
          · exact ⟨h1, by omega, h3⟩
          · have : z = (k : Int) := by simpa using h
            subst this; exact ⟨by omega, by omega, e2⟩
        · rintro ⟨h1, h2, h3⟩
          by_cases g : z = (k : Int)
          · right; rw [g]; simp
          · exact Or.inl ⟨h1, by omega, h3⟩
      | false =>
        have e2 := of_decide_eq_false e
        rw [edgL_f (by omega) e, ih]
        constructor
        · rintro ⟨h1, h2, h3⟩; exact ⟨h1, by omega, h3⟩
        · rintro ⟨h1, h2, h3⟩
          refine ⟨h1, ?_, h3⟩
          by_cases g : z = (k : Int)
          · subst g; exact absurd h3 e2
          · omega
  have := key n.toNat
  rw [Int.toNat_of_nonneg hn] at this
  exact this
theorem stE_0i {F T Fb Tb Z : Int → Int} {rn y be en : Int} : ∀ L : List Int, (∃ c ∈ L, spZ F T c be en = true ∧ anyZ (covP F T Fb Tb Z (Z c) y be en) rn = false) → stE F T Fb Tb Z rn y be en L = 0
  | [], ⟨c, h, _⟩ => absurd h List.not_mem_nil
  | i :: t, ⟨c, h, h1, h2⟩ => by
    unfold stE
    rcases List.mem_cons.mp h with e | e
    · subst e; rw [if_pos h1, if_neg (by rw [h2]; decide)]
    · have ih := stE_0i t ⟨c, e, h1, h2⟩
      rw [ih]
      split
      · split
        · rw [if_pos rfl]
        · rfl
      · rfl
theorem stE_1i {F T Fb Tb Z : Int → Int} {rn y be en : Int} : ∀ L : List Int, (∀ c ∈ L, spZ F T c be en = true → anyZ (covP F T Fb Tb Z (Z c) y be en) rn = true) → stE F T Fb Tb Z rn y be en L ≠ 0
  | [], _ => by unfold stE; decide
  | i :: t, h => by
    have ih := stE_1i t (fun c hc => h c (List.mem_cons_of_mem _ hc))
    unfold stE
    split
    · next g => rw [if_pos (h i (by simp) g)]; first | decide | (rw [if_neg ih]; decide)
    · exact ih
theorem stE_2i {F T Fb Tb Z : Int → Int} {rn y be en : Int} : ∀ L : List Int, (∀ c ∈ L, spZ F T c be en = false) → stE F T Fb Tb Z rn y be en L = 2
  | [], _ => rfl
  | i :: t, h => by
    rw [stE_n (h i (by simp))]
    exact stE_2i t (fun c hc => h c (List.mem_cons_of_mem _ hc))
theorem stE_ni {F T Fb Tb Z : Int → Int} {rn y be en : Int} : ∀ L : List Int, (∃ c ∈ L, spZ F T c be en = true) → stE F T Fb Tb Z rn y be en L ≠ 2
  | [], ⟨c, h, _⟩ => absurd h List.not_mem_nil
  | i :: t, ⟨c, h, h1⟩ => by
    unfold stE
    split
    · split
      · split <;> decide
      · decide
    · next g =>
      rcases List.mem_cons.mp h with e | e
      · subst e; exact absurd h1 g
      · exact stE_ni t ⟨c, e, h1⟩
theorem stE_B {From To F T Fb Tb Z : Int → Int} {vw al be bn y b e t : Int} (hn : 0 ≤ bn) (hR : recM From To vw al be bn F T Fb Tb Z) (hI : ∀ c : Int, 0 ≤ c → c < bn → (F c ≤ b ∧ e ≤ T c ↔ F c ≤ t ∧ t < T c)) : stE F T Fb Tb Z bn y b e (edgL Fb Tb y bn) = stB From To vw al be y bn t := by
  have hsp : ∀ c : Int, 0 ≤ c → c < bn → (spZ F T c b e = true ↔ From (3 * c + al) ≤ t ∧ t < To (3 * c + al)) := fun c c0 c1 => by
    have h1 := hR c c0 c1
    unfold spZ
    rw [decide_eq_true_eq, hI c c0 c1, h1.1, h1.2.1]
  have hcv : ∀ d : Int, anyZ (covP F T Fb Tb Z d y b e) bn = true ↔ covB From To vw al be y d bn t := fun d => by
    rw [anyZ_iff]
    constructor
    · rintro ⟨c, c0, c1, c2⟩
      have h1 := hR c c0 c1
      unfold covP at c2
      rw [Bool.and_eq_true, decide_eq_true_eq, hsp c c0 c1] at c2
      rw [h1.2.2.1, h1.2.2.2.1, h1.2.2.2.2] at c2
      exact ⟨c, c0, c1, ⟨c2.1.2.1, c2.1.2.2, c2.1.1⟩, c2.2⟩
    · rintro ⟨c, c0, c1, ⟨c2, c3, c4⟩, c5⟩
      have h1 := hR c c0 c1
      refine ⟨c, c0, c1, ?_⟩
      unfold covP
      rw [Bool.and_eq_true, decide_eq_true_eq, hsp c c0 c1, h1.2.2.1, h1.2.2.2.1, h1.2.2.2.2]
      exact ⟨⟨c4, c2, c3⟩, c5⟩
  have hed : ∀ c : Int, c ∈ edgL Fb Tb y bn ↔ 0 ≤ c ∧ c < bn ∧ edC From To be y c := fun c => by
    rw [edgL_mem hn]
    constructor
    · rintro ⟨c0, c1, c2⟩
      have h1 := hR c c0 c1
      rw [h1.2.2.1, h1.2.2.2.1] at c2
      exact ⟨c0, c1, c2⟩
    · rintro ⟨c0, c1, c2⟩
      have h1 := hR c c0 c1
      refine ⟨c0, c1, ?_⟩
      rw [h1.2.2.1, h1.2.2.2.1]
      exact c2
  have hno : ∀ d : Int, anyZ (covP F T Fb Tb Z d y b e) bn = false ↔ ¬ covB From To vw al be y d bn t := fun d => by
    rw [← hcv d]
    cases anyZ (covP F T Fb Tb Z d y b e) bn <;> simp
  by_cases h1 : seB From To vw al be y bn bn t
  · rw [stB_0 h1]
    obtain ⟨c, c0, c1, c2, c3, c4⟩ := h1
    exact stE_0i _ ⟨c, (hed c).mpr ⟨c0, c1, c2⟩, (hsp c c0 c1).mpr c3, by rw [(hR c c0 c1).2.2.2.2]; exact (hno _).mpr c4⟩
  · have hne : stE F T Fb Tb Z bn y b e (edgL Fb Tb y bn) ≠ 0 := stE_1i _ (fun c hc hs => by
      obtain ⟨c0, c1, c2⟩ := (hed c).mp hc
      rw [(hR c c0 c1).2.2.2.2, hcv]
      apply Classical.byContradiction
      intro g
      exact h1 ⟨c, c0, c1, c2, (hsp c c0 c1).mp hs, g⟩)
    by_cases h2 : egB From To al be y bn t
    · rw [stB_1 h1 h2]
      obtain ⟨c, c0, c1, c2, c3⟩ := h2
      have := stE_ni (F := F) (T := T) (Fb := Fb) (Tb := Tb) (Z := Z) (rn := bn) (y := y) (be := b) (en := e) (edgL Fb Tb y bn) ⟨c, (hed c).mpr ⟨c0, c1, c2⟩, (hsp c c0 c1).mpr c3⟩
      rcases stE_in (F := F) (T := T) (Fb := Fb) (Tb := Tb) (Z := Z) (rn := bn) (y := y) (be := b) (en := e) (edgL Fb Tb y bn) with g | g | g
      · exact absurd g hne
      · exact g
      · exact absurd g this
    · rw [stB_x h1 h2]
      refine stE_2i _ (fun c hc => ?_)
      obtain ⟨c0, c1, c2⟩ := (hed c).mp hc
      cases g : spZ F T c b e with
      | false => rfl
      | true => exact absurd ⟨c, c0, c1, c2, (hsp c c0 c1).mp g⟩ h2
theorem line_en {From To F T Fb Tb Z GK : Int → Int} {vw al be bn y nk : Int} (hn : 0 ≤ bn) (hM : moB bn From To) (hal : 0 ≤ al ∧ al ≤ 2) (hR : recM From To vw al be bn F T Fb Tb Z) (hG : arrL GK nk (gathL F T bn)) : enT (stB From To vw al be y bn) 10000000 (runZ (linS F T Fb Tb Z bn y GK (edgL Fb Tb y bn)) GK nk 0 2 0) := by
  have hs := gathL_srt F T bn
  have hm : ∀ c : Int, 0 ≤ c → c < bn → F c ∈ gathL F T bn ∧ T c ∈ gathL F T bn := fun c c0 c1 => gathL_mem c0 c1
  have hft : ∀ c : Int, 0 ≤ c → c < bn → F c = From (3 * c + al) ∧ T c = To (3 * c + al) ∧ From (3 * c + al) < To (3 * c + al) ∧ To (3 * c + al) ≤ 2000000 := fun c c0 c1 => by
    have h1 := hR c c0 c1
    have h2 := hM (3 * c + al) (by omega) (by omega)
    omega
  refine runs_en0 (fun j h0 h1 => arrL_lt hG hs h0 (by omega) h1) (fun j t h0 h1 h2 h3 => ?_) (fun h t ht => ?_) (fun h t ht => ?_) (fun j h0 h1 => ?_) (fun h t => ?_)
  · exact (stE_B hn hR (fun c c0 c1 => by
      have := cut_no hG hs (hm c c0 c1).1 h0 h1
      have := cut_no hG hs (hm c c0 c1).2 h0 h1
      omega)).symm
  · refine stB_2 ?_
    rintro ⟨c, c0, c1, c2, c3, c4⟩
    have := (cut_lo hG hs (hm c c0 c1).1).1
    have := hft c c0 c1
    omega
  · refine stB_2 ?_
    rintro ⟨c, c0, c1, c2, c3, c4⟩
    have := (cut_lo hG hs (hm c c0 c1).2).2
    have := hft c c0 c1
    omega
  · refine arrL_all hG (P := fun x => x ≤ 10000000) (fun x hx => ?_) j h0 h1
    exact gathL_all F T (P := fun x => x ≤ 10000000) bn (fun c c0 c1 => by have := hft c c0 c1; omega) (fun c c0 c1 => by have := hft c c0 c1; omega) x hx
  · refine stB_2 ?_
    rintro ⟨c, c0, c1, c2, c3, c4⟩
    obtain ⟨j, j0, j1, -⟩ := arrL_m hG (hm c c0 c1).1
    omega
theorem fl_en {st : Int → Int → Int} (f : Int → List (Int × Int × Int)) (hfar : ∀ y t : Int, 10000000 ≤ t → st y t = 2) : ∀ (ys : List Int) (L : List (Int × Int × Int × Int)) (a : Int), srt ys → (∀ y ∈ ys, a ≤ y ∧ y < 10000000) → (∀ y t : Int, a ≤ y → y ∉ ys → st y t = 2) → (∀ y ∈ ys, enT (st y) 10000000 (f y)) → a ≤ 10000000 → enY st a L → enY st 10000000 (L ++ ys.flatMap (fun y => onLine y (f y)))
  | [], L, a, _, _, h3, _, ha, h => by
    rw [List.flatMap_nil, List.append_nil]
    exact enY_g h ha (fun y t g _ => h3 y t g List.not_mem_nil)
  | z :: ys, L, a, ⟨s1, s2⟩, h2, h3, h4, ha, h => by
    rw [List.flatMap_cons, ← List.append_assoc]
    have hz := h2 z (by simp)
    have hE : enY st z L := enY_g h hz.1 (fun y t g1 g2 => h3 y t g1 (fun g => by
      rcases List.mem_cons.mp g with e | e
      · omega
      · have := s1 y e; omega))
    refine fl_en f hfar ys _ (z + 1) s2 (fun y hy => ⟨by have := s1 y hy; omega, (h2 y (List.mem_cons_of_mem _ hy)).2⟩) (fun y t g1 g2 => h3 y t (by omega) (fun g => by
      rcases List.mem_cons.mp g with e | e
      · omega
      · exact g2 e)) (fun y hy => h4 y (List.mem_cons_of_mem _ hy)) (by omega) (enY_l hE (h4 z (by simp)) (hfar z) (by omega) (fun y t g1 g2 => by omega))
/-- the class's strokes of a way -/
theorem wayL_en {From To F T Fb Tb Z GK : Int → Int} {vw u bn nk : Int} (hn : 0 ≤ bn) (hM : moB bn From To) (hR : recM From To vw (alW vw u) (beW vw u) bn F T Fb Tb Z) (hG : arrL GK nk (gathL F T bn)) : enY (stW From To vw bn u) 10000000 (wayL F T Fb Tb Z bn GK nk (gathL Fb Tb bn)) := by
  have hal := alW_in vw u
  have hbe := beW_in vw u
  have hb : ∀ c : Int, 0 ≤ c → c < bn → Fb c = From (3 * c + beW vw u) ∧ Tb c = To (3 * c + beW vw u) ∧ -1000000 ≤ From (3 * c + beW vw u) ∧ From (3 * c + beW vw u) < To (3 * c + beW vw u) ∧ To (3 * c + beW vw u) ≤ 2000000 := fun c c0 c1 => by
    have h1 := hR c c0 c1
    have h2 := hM (3 * c + beW vw u) (by omega) (by omega)
    omega
  have := fl_en (st := stW From To vw bn u) (fun y => runZ (linS F T Fb Tb Z bn y GK (edgL Fb Tb y bn)) GK nk 0 2 0) (fun y t ht => stB_fa hM hal ht) (gathL Fb Tb bn) [] (-10000000) (gathL_srt Fb Tb bn) (gathL_all Fb Tb (P := fun y => -10000000 ≤ y ∧ y < 10000000) bn (fun c c0 c1 => by have := hb c c0 c1; omega) (fun c c0 c1 => by have := hb c c0 c1; omega))
    (fun y t g1 g2 => stB_no (fun c c0 c1 => by
      have h1 := hb c c0 c1
      have h2 := gathL_mem (F := Fb) (T := Tb) c0 c1
      rw [h1.1, h1.2.1] at h2
      exact ⟨fun e => g2 (e ▸ h2.1), fun e => g2 (e ▸ h2.2)⟩)) (fun y _ => line_en hn hM hal hR hG) (by decide) (enY_0 (fun y t g => stB_no (fun c c0 c1 => by have := hb c c0 c1; omega)))
  rw [List.nil_append] at this
  exact this

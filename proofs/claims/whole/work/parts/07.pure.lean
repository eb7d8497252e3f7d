/-! PURE WORDS: rows chosen by a number, folds over the first n places -/
def sel2 {α : Type} (a : Int) (f g : α) : α := if a = 0 then f else g
def sel3 {α : Type} (a : Int) (f g h : α) : α := if a = 0 then f else if a = 1 then g else h
theorem sel2_b (a : Int) {f g : Int → Int} (hf : ∀ j : Int, I32 (f j)) (hg : ∀ j : Int, I32 (g j)) (j : Int) : I32 (sel2 a f g j) := by
  unfold sel2; split
  · exact hf j
  · exact hg j
theorem sel3_b (a : Int) {f g h : Int → Int} (hf : ∀ j : Int, I32 (f j)) (hg : ∀ j : Int, I32 (g j)) (hh : ∀ j : Int, I32 (h j)) (j : Int) : I32 (sel3 a f g h j) := by
  unfold sel3; split
  · exact hf j
  · split
    · exact hg j
    · exact hh j
def foldN {α : Type} (f : Int → α → α) (a : α) : Nat → α
  | 0 => a
  | k + 1 => f (k : Int) (foldN f a k)
def foldZ {α : Type} (f : Int → α → α) (a : α) (n : Int) : α := foldN f a n.toNat
theorem foldZ_0 {α : Type} (f : Int → α → α) (a : α) : foldZ f a 0 = a := rfl
theorem foldZ_s {α : Type} (f : Int → α → α) (a : α) {i : Int} (h : 0 ≤ i) : foldZ f a (i + 1) = f i (foldZ f a i) := by
  unfold foldZ
  have h1 : (i + 1).toNat = i.toNat + 1 := by omega
  rw [h1]
  show f ((i.toNat : Nat) : Int) _ = _
  rw [Int.toNat_of_nonneg h]
/-- is there one among the first n -/
def anyZ (P : Int → Bool) (n : Int) : Bool := foldZ (fun i b => b || P i) false n
theorem anyZ_0 (P : Int → Bool) : anyZ P 0 = false := rfl
theorem anyZ_s (P : Int → Bool) {i : Int} (h : 0 ≤ i) : anyZ P (i + 1) = (anyZ P i || P i) := foldZ_s _ _ h
theorem anyZ_iff (P : Int → Bool) (n : Int) : anyZ P n = true ↔ ∃ i : Int, 0 ≤ i ∧ i < n ∧ P i = true := by
  have key : ∀ k : Nat, foldN (fun (i : Int) (b : Bool) => b || P i) false k = true ↔ ∃ i : Int, 0 ≤ i ∧ i < (k : Int) ∧ P i = true := by
    intro k
    induction k with
    | zero =>
      constructor
      · intro h; cases h
      · rintro ⟨i, h0, h1, -⟩; omega
    | succ k ih =>
      show (foldN _ false k || P (k : Int)) = true ↔ _
      rw [Bool.or_eq_true, ih]
      constructor
      · rintro (⟨i, h0, h1, h2⟩ | h)
        · exact ⟨i, h0, by omega, h2⟩
        · exact ⟨(k : Int), by omega, by omega, h⟩
      · rintro ⟨i, h0, h1, h2⟩
        by_cases h : i = (k : Int)
        · right; rw [← h]; exact h2
        · left; exact ⟨i, h0, by omega, h2⟩
  unfold anyZ foldZ
  rw [key]
  constructor
  · rintro ⟨i, h0, h1, h2⟩; exact ⟨i, h0, by omega, h2⟩
  · rintro ⟨i, h0, h1, h2⟩; exact ⟨i, h0, by omega, h2⟩
theorem anyZ_t {P : Int → Bool} {n i : Int} (h0 : 0 ≤ i) (h1 : i < n) (h2 : P i = true) : anyZ P n = true := (anyZ_iff P n).mpr ⟨i, h0, h1, h2⟩
theorem anyZ_n {P : Int → Bool} {i : Int} (h0 : 0 ≤ i) (h : anyZ P i = false) (h2 : P i = false) : anyZ P (i + 1) = false := by
  rw [anyZ_s P h0, h, h2]; rfl
def bz (b : Bool) : Int := if b then 1 else 0
theorem bz_t : bz true = 1 := rfl
theorem bz_f : bz false = 0 := rfl
def sumZ (f : Int → Int) (n : Int) : Int := foldZ (fun i s => s + f i) 0 n
theorem sumZ_0 (f : Int → Int) : sumZ f 0 = 0 := rfl
theorem sumZ_s (f : Int → Int) {i : Int} (h : 0 ≤ i) : sumZ f (i + 1) = sumZ f i + f i := foldZ_s _ _ h
theorem sumZ_le {f : Int → Int} {B : Int} (hB : 0 ≤ B) (h : ∀ i, 0 ≤ f i ∧ f i ≤ B) (n : Int) : 0 ≤ sumZ f n ∧ sumZ f n ≤ B * n.toNat := by
  unfold sumZ foldZ
  generalize n.toNat = k
  induction k with
  | zero => exact ⟨Int.le_refl 0, by show (0 : Int) ≤ B * ((0 : Nat) : Int); rw [Int.natCast_zero, Int.mul_zero]; exact Int.le_refl 0⟩
  | succ k ih =>
    have h1 := h (k : Int)
    show 0 ≤ foldN _ 0 k + f (k : Int) ∧ foldN _ 0 k + f (k : Int) ≤ B * ((k + 1 : Nat) : Int)
    have e : B * ((k + 1 : Nat) : Int) = B * (k : Int) + B := by rw [Int.natCast_add, Int.mul_add]; simp
    rw [e]
    omega
def wayZ (ac k : Int) : Int := if k < ac then 0 else 1
theorem bz_01 (b : Bool) : 0 ≤ bz b ∧ bz b ≤ 1 := by cases b <;> decide
theorem bz_eq0 (b : Bool) : b = false ↔ bz b = 0 := by cases b <;> decide
theorem bz_eq1 (b : Bool) : b = true ↔ bz b ≠ 0 := by cases b <;> decide
/-- measures: in this row of this axis; overlapping there; the length there -/
def inM (Ax Ro : Int → Int) (ax ro i : Int) : Bool := decide (Ax i = ax ∧ Ro i = ro)
def ovM (Ax Ro Fr To : Int → Int) (ax ro le gr i : Int) : Bool := inM Ax Ro ax ro i && (decide (Fr i < gr) && decide (le < To i))
def lnM (Ax Ro Fr To : Int → Int) (ax ro i : Int) : Int := if inM Ax Ro ax ro i = true then To i - Fr i else 0
/-- the least of 0 .. n for which P, or n -/
def leastN (P : Int → Bool) (n : Int) : Nat → Int
  | 0 => n
  | k + 1 => if P (n - ((k + 1 : Nat) : Int)) = true then n - ((k + 1 : Nat) : Int) else leastN P n k
def leastZ (P : Int → Bool) (n : Int) : Int := leastN P n n.toNat
theorem leastN_at (P : Int → Bool) (n : Int) : ∀ (k : Nat) (i : Int), n - (k : Int) ≤ i → i < n → P i = true → (∀ j, n - (k : Int) ≤ j → j < i → P j = false) → leastN P n k = i
  | 0, i, h0, h1, _, _ => absurd h1 (by omega)
  | k + 1, i, h0, h1, h2, h3 => by
    unfold leastN
    by_cases h : n - ((k + 1 : Nat) : Int) = i
    · rw [h, if_pos h2]
    · rw [if_neg (by rw [h3 _ (Int.le_refl _) (by omega)]; decide)]
      exact leastN_at P n k i (by omega) h1 h2 (fun j a b => h3 j (by omega) b)
theorem leastN_no (P : Int → Bool) (n : Int) : ∀ (k : Nat), (∀ j, n - (k : Int) ≤ j → j < n → P j = false) → leastN P n k = n
  | 0, _ => rfl
  | k + 1, h => by
    unfold leastN
    rw [if_neg (by rw [h _ (Int.le_refl _) (by omega)]; decide)]
    exact leastN_no P n k (fun j a b => h j (by omega) b)
theorem leastN_in (P : Int → Bool) (n : Int) : ∀ (k : Nat), n - (k : Int) ≤ leastN P n k ∧ leastN P n k ≤ n
  | 0 => by unfold leastN; omega
  | k + 1 => by
    unfold leastN
    have := leastN_in P n k
    split <;> omega
theorem anyZ_f {P : Int → Bool} {n : Int} (h : anyZ P n = false) {j : Int} (h0 : 0 ≤ j) (h1 : j < n) : P j = false := by
  cases e : P j with
  | false => rfl
  | true => rw [anyZ_t h0 h1 e] at h; cases h
theorem leastZ_at {P : Int → Bool} {n i : Int} (h0 : 0 ≤ i) (h1 : i < n) (h : anyZ P i = false) (h2 : P i = true) : leastZ P n = i :=
  leastN_at P n n.toNat i (by omega) h1 h2 (fun j a b => anyZ_f h (by omega) b)
theorem leastZ_no {P : Int → Bool} {n : Int} (hn : 0 ≤ n) (h : anyZ P n = false) : leastZ P n = n :=
  leastN_no P n n.toNat (fun j a b => anyZ_f h (by omega) b)
theorem leastZ_in {P : Int → Bool} {n : Int} (hn : 0 ≤ n) : 0 ≤ leastZ P n ∧ leastZ P n ≤ n := by
  have := leastN_in P n n.toNat
  unfold leastZ
  omega
def frM (Ax Ro Fr To : Int → Int) (n ax le gr : Int) : Int := leastZ (fun ro => !(anyZ (ovM Ax Ro Fr To ax ro le gr) n)) n
theorem frM_le {Ax Ro Fr To : Int → Int} {n ax le gr : Int} (hn : 0 ≤ n) : 0 ≤ frM Ax Ro Fr To n ax le gr ∧ frM Ax Ro Fr To n ax le gr ≤ n := leastZ_in hn
theorem frM_at {Ax Ro Fr To : Int → Int} {n ax le gr i : Int} (h0 : 0 ≤ i) (h1 : i < n) (h : anyZ (fun ro => !(anyZ (ovM Ax Ro Fr To ax ro le gr) n)) i = false) (h2 : (!(anyZ (ovM Ax Ro Fr To ax i le gr) n)) = true) : frM Ax Ro Fr To n ax le gr = i := leastZ_at h0 h1 h h2
theorem frM_no {Ax Ro Fr To : Int → Int} {n ax le gr : Int} (hn : 0 ≤ n) (h : anyZ (fun ro => !(anyZ (ovM Ax Ro Fr To ax ro le gr) n)) n = false) : frM Ax Ro Fr To n ax le gr = n := leastZ_no hn h
theorem wayZ_01 (ac k : Int) : 0 ≤ wayZ ac k ∧ wayZ ac k ≤ 1 := by unfold wayZ; split <;> omega
/-- strokes: a number of one, what is found at a place, a length -/
def numS (ac : Int) (Li Be En St : Int → Int) (k i : Int) : Int := if i = 0 then wayZ ac k else if i = 1 then Li k else if i = 2 then Be k else if i = 3 then En k else St k
def stF (ac : Int) (Li Be En St : Int → Int) (wy y q k x : Int) : Int := if wayZ ac k = wy ∧ Li k = y ∧ Be k ≤ q ∧ q ≤ En k then min x (St k) else x
def lnS (St Be En : Int → Int) (wa k : Int) : Int := if St k = wa then En k - Be k else 0
/-- an array holds a list -/
def arrL (G : Int → Int) (n : Int) (L : List Int) : Prop := n = (L.length : Int) ∧ ∀ k : Nat, k < L.length → G (k : Int) = L.getD k 0
/-- places in their order, each once: one more -/
def insZ (p : Int) : List Int → List Int
  | [] => [p]
  | q :: t => if q < p then q :: insZ p t else if q = p then q :: t else p :: q :: t
def srt : List Int → Prop
  | [] => True
  | q :: t => (∀ x ∈ t, q < x) ∧ srt t
theorem insZ_mem (p x : Int) : ∀ L : List Int, x ∈ insZ p L ↔ x = p ∨ x ∈ L
  | [] => by simp [insZ]
  | q :: t => by
    unfold insZ
    have ih := insZ_mem p x t
    split
    · simp only [List.mem_cons, ih]; constructor <;> (intro h; rcases h with h | h | h <;> simp [h])
    · split
      · next h => subst h; simp
      · simp
theorem insZ_srt (p : Int) : ∀ L : List Int, srt L → srt (insZ p L)
  | [], _ => ⟨fun x h => absurd h List.not_mem_nil, trivial⟩
  | q :: t, ⟨h1, h2⟩ => by
    unfold insZ
    split
    · next h => exact ⟨fun x hx => ((insZ_mem p x t).mp hx).elim (fun e => by rw [e]; exact h) (fun h3 => h1 x h3), insZ_srt p t h2⟩
    · split
      · exact ⟨h1, h2⟩
      · next h3 h4 => exact ⟨fun x hx => (List.mem_cons.mp hx).elim (fun e => by omega) (fun h5 => by have := h1 x h5; omega), h1, h2⟩
theorem insZ_len (p : Int) : ∀ L : List Int, (insZ p L).length ≤ L.length + 1 ∧ L.length ≤ (insZ p L).length
  | [] => by simp [insZ]
  | q :: t => by
    unfold insZ
    have := insZ_len p t
    split
    · simp only [List.length_cons]; omega
    · split <;> simp only [List.length_cons] <;> omega
/-- the place at which it belongs: all before are below -/
theorem insZ_at {p : Int} : ∀ {L : List Int} {a : Nat}, (∀ k, k < a → L.getD k 0 < p) → a ≤ L.length → (a < L.length → p < L.getD a 0) → insZ p L = L.take a ++ p :: L.drop a
  | [], a, _, h2, _ => by
    have : a = 0 := by simpa using h2
    subst this; rfl
  | q :: t, 0, _, _, h3 => by
    have := h3 (by simp)
    simp only [List.getD_cons_zero] at this
    unfold insZ
    rw [if_neg (by omega), if_neg (by omega)]
    rfl
  | q :: t, a + 1, h1, h2, h3 => by
    have h0 := h1 0 (by omega)
    simp only [List.getD_cons_zero] at h0
    unfold insZ
    rw [if_pos h0, insZ_at (L := t) (a := a) (fun k hk => by have := h1 (k + 1) (by omega); simpa using this) (by simpa using h2) (fun hk => by have := h3 (by simpa using hk); simpa using this)]
    rfl
theorem insZ_same {p : Int} : ∀ {L : List Int} {a : Nat}, (∀ k, k < a → L.getD k 0 < p) → a < L.length → L.getD a 0 = p → insZ p L = L
  | [], a, _, h2, _ => by simp at h2
  | q :: t, 0, _, _, h3 => by
    simp only [List.getD_cons_zero] at h3
    unfold insZ
    rw [if_neg (by omega), if_pos h3]
  | q :: t, a + 1, h1, h2, h3 => by
    have h0 := h1 0 (by omega)
    simp only [List.getD_cons_zero] at h0
    unfold insZ
    rw [if_pos h0, insZ_same (L := t) (a := a) (fun k hk => by have := h1 (k + 1) (by omega); simpa using this) (by simpa using h2) (by simpa using h3)]
/-- the array behind the shift -/
theorem arrL_ins {G G2 : Int → Int} {n p : Int} {L : List Int} {a : Nat} (h : arrL G n L) (ha : a ≤ L.length) (h1 : ∀ j : Int, 0 ≤ j → j < (a : Int) → G2 j = G j) (h2 : G2 (a : Int) = p) (h3 : ∀ j : Int, (a : Int) < j → j ≤ n → G2 j = G (j - 1)) : arrL G2 (n + 1) (L.take a ++ p :: L.drop a) := by
  obtain ⟨hn, hG⟩ := h
  have hlen : (L.take a ++ p :: L.drop a).length = L.length + 1 := by
    simp only [List.length_append, List.length_take, List.length_cons, List.length_drop]; omega
  refine ⟨by rw [hlen, hn]; simp, fun k hk => ?_⟩
  rw [hlen] at hk
  rcases Nat.lt_trichotomy k a with h | h | h
  · rw [h1 _ (by omega) (by omega), hG k (by omega)]
    rw [List.getD_eq_getElem?_getD, List.getD_eq_getElem?_getD, List.getElem?_append_left (by simp; omega), List.getElem?_take_of_lt h]
  · subst h
    rw [h2, List.getD_eq_getElem?_getD, List.getElem?_append_right (by simp; omega)]
    simp [Nat.min_eq_left ha]
  · rw [h3 _ (by omega) (by omega)]
    have e : ((k : Int) - 1) = ((k - 1 : Nat) : Int) := by omega
    rw [e, hG (k - 1) (by omega), List.getD_eq_getElem?_getD, List.getD_eq_getElem?_getD, List.getElem?_append_right (by simp; omega)]
    have h5 : k - (L.take a).length = (k - a - 1) + 1 := by simp; omega
    rw [h5, List.getElem?_cons_succ, List.getElem?_drop]
    congr 2
    omega
/-- rectangles: over a stretch of a way; the field of a grid; the places of all sides -/
def spZ (F T : Int → Int) (r b e : Int) : Bool := decide (F r ≤ b ∧ e ≤ T r)
def fillP (F0 F1 T0 T1 : Int → Int) (b e lo hi i : Int) : Bool := spZ (sel2 0 F0 F1) (sel2 0 T0 T1) i b e && spZ (sel2 1 F0 F1) (sel2 1 T0 T1) i lo hi
def gathL (F T : Int → Int) (k : Int) : List Int := foldZ (fun i L => insZ (T i) (insZ (F i) L)) [] k
theorem gathL_s (F T : Int → Int) {i : Int} (h : 0 ≤ i) : gathL F T (i + 1) = insZ (T i) (insZ (F i) (gathL F T i)) := foldZ_s _ _ h
theorem gathL_len (F T : Int → Int) (k : Int) : (gathL F T k).length ≤ 2 * k.toNat := by
  unfold gathL foldZ
  generalize k.toNat = n
  induction n with
  | zero => exact Nat.le_refl _
  | succ n ih =>
    have h1 := insZ_len (F (n : Int)) (foldN (fun i L => insZ (T i) (insZ (F i) L)) [] n)
    have h2 := insZ_len (T (n : Int)) (insZ (F (n : Int)) (foldN (fun i L => insZ (T i) (insZ (F i) L)) [] n))
    show (insZ (T (n : Int)) (insZ (F (n : Int)) _)).length ≤ _
    omega
theorem arrL_all {G : Int → Int} {n : Int} {L : List Int} (h : arrL G n L) {P : Int → Prop} (hP : ∀ x ∈ L, P x) : ∀ j : Int, 0 ≤ j → j < n → P (G j) := by
  intro j h0 h1
  obtain ⟨hn, hG⟩ := h
  have h2 := hG j.toNat (by omega)
  rw [Int.toNat_of_nonneg h0] at h2
  rw [h2]
  have h3 : j.toNat < L.length := by omega
  rw [List.getD_eq_getElem?_getD, List.getElem?_eq_getElem h3]
  exact hP _ (List.getElem_mem h3)
theorem gathL_all (F T : Int → Int) {P : Int → Prop} (k : Int) (hF : ∀ j : Int, 0 ≤ j → j < k → P (F j)) (hT : ∀ j : Int, 0 ≤ j → j < k → P (T j)) : ∀ x ∈ gathL F T k, P x := by
  have key : ∀ n : Nat, (n : Int) ≤ k ∨ n = 0 → ∀ x ∈ foldN (fun i L => insZ (T i) (insZ (F i) L)) [] n, P x := by
    intro n
    induction n with
    | zero => intro _ x hx; cases hx
    | succ n ih =>
      intro hn x hx
      rcases (insZ_mem _ _ _).mp hx with h | h
      · rw [h]; exact hT _ (by omega) (by omega)
      · rcases (insZ_mem _ _ _).mp h with h | h
        · rw [h]; exact hF _ (by omega) (by omega)
        · exact ih (by omega) x h
  exact key k.toNat (by omega)
theorem gathL_srt (F T : Int → Int) (k : Int) : srt (gathL F T k) := by
  unfold gathL foldZ
  generalize k.toNat = n
  induction n with
  | zero => trivial
  | succ n ih => exact insZ_srt _ _ (insZ_srt _ _ ih)
theorem gath_bd {F T G : Int → Int} {k n : Int} (h : arrL G n (gathL F T k)) (hF : ∀ j : Int, 0 ≤ j → j < k → -2000000 ≤ F j ∧ F j ≤ 2000000) (hT : ∀ j : Int, 0 ≤ j → j < k → -2000000 ≤ T j ∧ T j ≤ 2000000) : ∀ j : Int, 0 ≤ j → j < n → -2000000 ≤ G j ∧ G j ≤ 2000000 := arrL_all (P := fun z => -2000000 ≤ z ∧ z ≤ 2000000) h (gathL_all F T k hF hT)
theorem gath_n {F T G : Int → Int} {k n : Int} (h0 : 0 ≤ k) (h1 : k ≤ 24) (h : arrL G n (gathL F T k)) : 0 ≤ n ∧ n ≤ 48 := by
  have := gathL_len F T k
  have := h.1
  omega
/-- the height that is filled between two places across, a piece; the area, a stripe -/
def hiF (Fa Fb Ta Tb GU : Int → Int) (rn be en i : Int) : Int := if anyZ (fillP Fa Fb Ta Tb be en (GU i) (GU (i + 1))) rn = true then GU (i + 1) - GU i else 0
def arF (Fa Fb Ta Tb : Int → Int) (rn : Int) (Ga Gu : Int → Int) (nu i : Int) : Int := (Ga (i + 1) - Ga i) * sumZ (hiF Fa Fb Ta Tb Gu rn (Ga i) (Ga (i + 1))) (nu - 1)

/-! THE CUT LIST: the class's and the model's are one -/
theorem lst_0 (S : Int → Int) : lstP S 0 [] := by
  refine ⟨List.Pairwise.nil, fun x y z => ⟨fun ⟨q, h, _⟩ => absurd h List.not_mem_nil, fun ⟨c, c0, c1, _⟩ => by omega⟩, fun x y z => rfl, fun q h => absurd h List.not_mem_nil⟩
theorem bm_z {bn : Int} {P0 P1 P2 S0 S1 S2 From To : Int → Int} (h : bmR bn P0 P1 P2 S0 S1 S2 From To) {b : Int} (h0 : 0 ≤ b) (h1 : b < bn) : mS From To 0 b = S0 b ∧ mS From To 1 b = S1 b ∧ mS From To 2 b = S2 b := by
  obtain ⟨⟨a1, a2⟩, ⟨b1, b2⟩, ⟨d1, d2⟩⟩ := h b h0 h1
  unfold mS
  rw [show 3 * b + 0 = 3 * b by omega]
  omega
theorem lst_C {bn : Int} {P0 P1 P2 S0 S1 S2 From To S : Int → Int} (h : bmR bn P0 P1 P2 S0 S1 S2 From To) (hS : srtP From To bn S) (hn : 0 ≤ bn) : lstP S bn (listC S0 S1 S2 bn) := by
  have key : ∀ k : Nat, (k : Int) ≤ bn → lstP S (k : Int) (listC S0 S1 S2 (k : Int)) := by
    intro k
    induction k with
    | zero => intro _; exact lst_0 S
    | succ k ih =>
      intro hk
      have i1 := lst_s (by omega) (ih (by omega))
      obtain ⟨s1, s2, s3⟩ := hS (k : Int) (by omega) (by omega)
      obtain ⟨m0, m1, m2⟩ := bm_z h (b := (k : Int)) (by omega) (by omega)
      rw [s1, s2, s3] at i1
      unfold sm2 at i1
      unfold sm1 sm3 at i1
      rw [m0, m1, m2] at i1
      rw [show ((k + 1 : Nat) : Int) = (k : Int) + 1 by omega, listC_s _ _ _ (by omega)]
      exact i1
  have := key bn.toNat (by omega)
  rw [Int.toNat_of_nonneg hn] at this
  exact this
theorem gt_z {a b d : Int} : ∀ {L : List T4}, (∀ z ∈ L, cmC z a b d ≠ 1) → gtC a b d L = 0
  | [], _ => rfl
  | q :: t, h => by
    show (if cmC q a b d = 1 then (1 : Int) else 0) + gtC a b d t = 0
    rw [if_neg (h q (by simp)), gt_z (fun z hz => h z (List.mem_cons_of_mem _ hz))]
    rfl
theorem gD_mem : ∀ {L : List T4} {k : Nat}, k < L.length → gD L k ∈ L
  | [], k, h => absurd h (by simp)
  | q :: t, 0, _ => by simp [gD]
  | q :: t, k + 1, h => by
    have := gD_mem (L := t) (k := k) (by simpa using h)
    exact List.mem_cons_of_mem _ (by simpa [gD] using this)
theorem gt_at : ∀ {L : List T4}, srC L → ∀ {k : Nat}, k < L.length → gtC (gD L k).1 (gD L k).2.1 (gD L k).2.2.1 L = (k : Int)
  | [], _, k, h => absurd h (by simp)
  | q :: t, hs, 0, _ => by
    obtain ⟨s1, s2⟩ := List.pairwise_cons.mp hs
    show gtC q.1 q.2.1 q.2.2.1 (q :: t) = 0
    refine gt_z (fun z hz => ?_)
    rcases List.mem_cons.mp hz with e | e
    · subst e
      have := cmC_in z z.1 z.2.1 z.2.2.1
      omega
    · have h1 : cmC q z.1 z.2.1 z.2.2.1 = 1 := s1 z e
      have h2 := cmC_in q z.1 z.2.1 z.2.2.1
      have h3 := cmC_in z q.1 q.2.1 q.2.2.1
      omega
  | q :: t, hs, k + 1, h => by
    obtain ⟨s1, s2⟩ := List.pairwise_cons.mp hs
    have hk : k < t.length := by simpa using h
    have e : gD (q :: t) (k + 1) = gD t k := by simp [gD]
    rw [e]
    show (if cmC q (gD t k).1 (gD t k).2.1 (gD t k).2.2.1 = 1 then (1 : Int) else 0) + gtC (gD t k).1 (gD t k).2.1 (gD t k).2.2.1 t = _
    rw [gt_at s2 hk, if_pos (s1 _ (gD_mem hk))]
    omega
theorem gD_ex : ∀ {L : List T4} {q : T4}, q ∈ L → ∃ k : Nat, k < L.length ∧ gD L k = q
  | [], q, h => absurd h List.not_mem_nil
  | x :: t, q, h => by
    rcases List.mem_cons.mp h with e | e
    · exact ⟨0, by simp, by simp [gD, e]⟩
    · obtain ⟨k, k1, k2⟩ := gD_ex e
      exact ⟨k + 1, by simpa using k1, by simpa [gD] using k2⟩
section LS
variable {S : Int → Int} {bn : Int} {L : List T4}
abbrev tbS (S : Int → Int) (b : Int) (q : T4) : Prop := S (3 * b + 0) = q.1 ∧ S (3 * b + 1) = q.2.1 ∧ S (3 * b + 2) = q.2.2.1
theorem ln_gt (h : lstP S bn L) (b : Int) : lnQ S bn b = gtC (S (3 * b + 0)) (S (3 * b + 1)) (S (3 * b + 2)) L := (h.2.2.1 _ _ _).symm
theorem ln_of (h : lstP S bn L) {b : Int} {k : Nat} (hk : k < L.length) (e : tbS S b (gD L k)) : lnQ S bn b = (k : Int) := by
  rw [ln_gt h, e.1, e.2.1, e.2.2]
  exact gt_at h.1 hk
theorem ln_ex (h : lstP S bn L) {b : Int} (h0 : 0 ≤ b) (h1 : b < bn) : ∃ k : Nat, k < L.length ∧ tbS S b (gD L k) ∧ lnQ S bn b = (k : Int) := by
  obtain ⟨q, hq, e1, e2, e3⟩ := (h.2.1 (S (3 * b + 0)) (S (3 * b + 1)) (S (3 * b + 2))).mpr ⟨b, h0, h1, rfl, rfl, rfl⟩
  obtain ⟨k, k1, k2⟩ := gD_ex hq
  have e : tbS S b (gD L k) := by rw [k2]; exact ⟨e1.symm, e2.symm, e3.symm⟩
  exact ⟨k, k1, e, ln_of h k1 e⟩
theorem ln_bx (h : lstP S bn L) {k : Nat} (hk : k < L.length) : ∃ b : Int, 0 ≤ b ∧ b < bn ∧ tbS S b (gD L k) ∧ lnQ S bn b = (k : Int) := by
  obtain ⟨b, b0, b1, e⟩ := (h.2.1 (gD L k).1 (gD L k).2.1 (gD L k).2.2.1).mp ⟨gD L k, gD_mem hk, rfl, rfl, rfl⟩
  exact ⟨b, b0, b1, e, ln_of h hk e⟩
theorem lns_in (S : Int → Int) (bn : Int) (hb : 0 ≤ bn) {n : Int} (hn : 0 ≤ n) : 0 ≤ lnsQ S bn n ∧ (∀ b : Int, 0 ≤ b → b < n → lnQ S bn b < lnsQ S bn n) ∧ (lnsQ S bn n = 0 ∨ ∃ b : Int, 0 ≤ b ∧ b < n ∧ lnsQ S bn n = lnQ S bn b + 1) := by
  have key : ∀ k : Nat, 0 ≤ lnsQ S bn (k : Int) ∧ (∀ b : Int, 0 ≤ b → b < (k : Int) → lnQ S bn b < lnsQ S bn (k : Int)) ∧ (lnsQ S bn (k : Int) = 0 ∨ ∃ b : Int, 0 ≤ b ∧ b < (k : Int) ∧ lnsQ S bn (k : Int) = lnQ S bn b + 1) := by
    intro k
    induction k with
    | zero => exact ⟨Int.le_refl _, fun b b0 b1 => absurd b1 (by omega), Or.inl rfl⟩
    | succ k ih =>
      obtain ⟨i1, i2, i3⟩ := ih
      have hq := lnQ_in S (bn := bn) (k : Int) hb
      rw [show ((k + 1 : Nat) : Int) = (k : Int) + 1 by omega, lnsQ_s _ _ (by omega)]
      split
      · next g =>
        refine ⟨by omega, fun b b0 b1 => ?_, Or.inr ⟨(k : Int), by omega, by omega, rfl⟩⟩
        by_cases e : b = (k : Int)
        · subst e; omega
        · have := i2 b b0 (by omega); omega
      · next g =>
        refine ⟨i1, fun b b0 b1 => ?_, ?_⟩
        · by_cases e : b = (k : Int)
          · subst e; omega
          · exact i2 b b0 (by omega)
        · rcases i3 with i | ⟨b, b0, b1, b2⟩
          · exact Or.inl i
          · exact Or.inr ⟨b, b0, by omega, b2⟩
  have := key n.toNat
  rw [Int.toNat_of_nonneg hn] at this
  exact this
theorem lns_len (h : lstP S bn L) (hb : 0 ≤ bn) : lnsQ S bn bn = (L.length : Int) := by
  obtain ⟨i1, i2, i3⟩ := lns_in S bn hb hb
  have u : lnsQ S bn bn ≤ (L.length : Int) := by
    rcases i3 with i | ⟨b, b0, b1, b2⟩
    · omega
    · obtain ⟨k, k1, -, k2⟩ := ln_ex h b0 b1
      omega
  have l : (L.length : Int) ≤ lnsQ S bn bn := by
    by_cases e : L.length = 0
    · omega
    · obtain ⟨b, b0, b1, -, b2⟩ := ln_bx h (k := L.length - 1) (by omega)
      have := i2 b b0 b1
      omega
  omega
theorem fnd_in (S : Int → Int) (bn k : Int) {n : Int} (hn : 0 ≤ n) : (∀ b : Int, 0 ≤ b → b < n → lnQ S bn b ≠ k) ∨ (0 ≤ fndQ S bn k n ∧ fndQ S bn k n < n ∧ lnQ S bn (fndQ S bn k n) = k) := by
  have key : ∀ m : Nat, (∀ b : Int, 0 ≤ b → b < (m : Int) → lnQ S bn b ≠ k) ∨ (0 ≤ fndQ S bn k (m : Int) ∧ fndQ S bn k (m : Int) < (m : Int) ∧ lnQ S bn (fndQ S bn k (m : Int)) = k) := by
    intro m
    induction m with
    | zero => exact Or.inl (fun b b0 b1 => absurd b1 (by omega))
    | succ m ih =>
      rw [show ((m + 1 : Nat) : Int) = (m : Int) + 1 by omega, fndQ_s _ _ _ (by omega)]
      split
      · next g => exact Or.inr ⟨by omega, by omega, g⟩
      · next g =>
        rcases ih with i | ⟨i1, i2, i3⟩
        · refine Or.inl (fun b b0 b1 => ?_)
          by_cases e : b = (m : Int)
          · subst e; exact g
          · exact i b b0 (by omega)
        · exact Or.inr ⟨i1, by omega, i3⟩
  have := key n.toNat
  rw [Int.toNat_of_nonneg hn] at this
  exact this
theorem fnd_at (h : lstP S bn L) (hb : 0 ≤ bn) {k : Nat} (hk : k < L.length) : 0 ≤ fndQ S bn (k : Int) bn ∧ tbS S (fndQ S bn (k : Int) bn) (gD L k) := by
  rcases fnd_in S bn (k : Int) hb with i | ⟨i1, i2, i3⟩
  · obtain ⟨b, b0, b1, -, b2⟩ := ln_bx h hk
    exact absurd b2 (i b b0 b1)
  · obtain ⟨j, j1, j2, j3⟩ := ln_ex h i1 i2
    have e : j = k := by omega
    subst e
    exact ⟨i1, j2⟩
theorem isQ_at (h : lstP S bn L) (hb : 0 ≤ bn) {k : Nat} (hk : k < L.length) : cntZ (isQ S bn (k : Int)) bn = (gD L k).2.2.2 := by
  rw [h.2.2.2 _ (gD_mem hk)]
  refine cntZ_e hb (fun b b0 b1 => ?_)
  unfold isQ sQ
  refine decide_eq_decide.mpr ⟨fun e => ?_, fun e => ln_of h hk e⟩
  obtain ⟨j, j1, j2, j3⟩ := ln_ex h b0 b1
  have e : j = k := by omega
  subst e
  exact j2
end LS
theorem list_fd {bn : Int} {P0 P1 P2 S0 S1 S2 From To : Int → Int} (h : bmR bn P0 P1 P2 S0 S1 S2 From To) (hn : 0 ≤ bn) {k : Int} (S : Int → Int) (hS : srtP From To bn S) (h0 : 0 ≤ k) (h1 : k < lnsQ S bn bn) : 0 ≤ fndQ S bn k bn := by
  have hl := lst_C h hS hn
  rw [lns_len hl hn] at h1
  have := (fnd_at hl hn (k := k.toNat) (by omega)).1
  rw [Int.toNat_of_nonneg h0] at this
  exact this
theorem list_at {bn : Int} {P0 P1 P2 S0 S1 S2 From To S : Int → Int} (h : bmR bn P0 P1 P2 S0 S1 S2 From To) (hn : 0 ≤ bn) (hS : srtP From To bn S) {nc : Int} {A1 A2 A3 A4 : Int → Int} (hA : arrS nc A1 A2 A3 A4 (listC S0 S1 S2 bn)) {k wh : Int} (h0 : 0 ≤ k) (h1 : k < nc) (hw : 0 ≤ wh ∧ wh ≤ 3) : numC A1 A2 A3 A4 k wh = if wh = 3 then cntZ (isQ S bn k) bn else S (3 * fndQ S bn k bn + wh) := by
  have hl := lst_C h hS hn
  have hk : k.toNat < (listC S0 S1 S2 bn).length := by have := hA.1; omega
  obtain ⟨f0, f1, f2, f3⟩ := fnd_at hl hn hk
  have f4 := isQ_at hl hn hk
  obtain ⟨a1, a2, a3, a4⟩ := arrS_at hA hk
  rw [Int.toNat_of_nonneg h0] at f0 f1 f2 f3 f4 a1 a2 a3 a4
  unfold numC
  have : wh = 0 ∨ wh = 1 ∨ wh = 2 ∨ wh = 3 := by omega
  rcases this with e | e | e | e
  · subst e; rw [if_pos rfl, if_neg (by decide), a1, f1]
  · subst e; rw [if_neg (by decide), if_pos rfl, if_neg (by decide), a2, f2]
  · subst e; rw [if_neg (by decide), if_neg (by decide), if_pos rfl, if_neg (by decide), a3, f3]
  · subst e; rw [if_neg (by decide), if_neg (by decide), if_neg (by decide), if_pos rfl, a4, f4]

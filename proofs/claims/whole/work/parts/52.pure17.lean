theorem mFt_in {bn : Int} {From To : Int → Int} (h : moB bn From To) {vw b : Int} (h0 : 0 ≤ b) (h1 : b < bn) : -2000000 ≤ mFt From To vw b ∧ mFt From To vw b ≤ 2000000 := by
  have hd := dax_in vw
  have := h (3 * b + dax vw) (by omega) (by omega)
  unfold mFt
  split <;> omega
theorem mBk_in {bn : Int} {From To : Int → Int} (h : moB bn From To) {vw b : Int} (h0 : 0 ≤ b) (h1 : b < bn) : -2000000 ≤ mBk From To vw b ∧ mBk From To vw b ≤ 2000000 ∧ mFt From To vw b < mBk From To vw b := by
  have hd := dax_in vw
  have := h (3 * b + dax vw) (by omega) (by omega)
  unfold mBk mFt
  split <;> omega
theorem isRun.bd {st : Int → Int} {b e h0 : Int} (h : isRun st b e h0) : st (e - 1) ≠ st e := by
  rw [h.al (e - 1) (by have := h.lt; omega) (by omega)]
  exact fun q => h.ri q.symm
section Runs
variable {Ef Et Sf St_ : Int → Int} {ne ns : Int}
theorem plA {q r : Int} (hu : untP Sf St_ ns q r) (hlt : q < r) (hbd : stM Ef Et ne Sf St_ ns (q - 1) ≠ stM Ef Et ne Sf St_ ns q) : isRun (stM Ef Et ne Sf St_ ns) q r 0 := by
  have h0 : ∀ t : Int, q ≤ t → t < r → stM Ef Et ne Sf St_ ns t = 0 := fun t a b => stM_0 (hu.2.1 t a b)
  refine ⟨hlt, by decide, h0, ?_, ?_⟩
  · rw [h0 q (Int.le_refl _) hlt] at hbd; exact hbd
  · have hn := unt_cl hu
    by_cases h : LC Ef Et ne r
    · rw [stM_1 hn h]; decide
    · rw [stM_2 hn h]; decide
theorem plB {q fa r : Int} (hns : 0 ≤ ns) (hneS : neS Sf St_ ns) (hSE : ∀ t : Int, LC Sf St_ ns t → LC Ef Et ne t) (hu : untP Sf St_ ns q q) (hr : r = nxZ Sf ns q fa) (hq : q < fa) (hE : ∀ t : Int, q ≤ t → t < fa → LC Ef Et ne t) (hfa : ¬ LC Ef Et ne fa) (hbd : stM Ef Et ne Sf St_ ns (q - 1) ≠ stM Ef Et ne Sf St_ ns q) : isRun (stM Ef Et ne Sf St_ ns) q r 1 ∧ r ≤ fa := by
  obtain ⟨i1, i2, i3, i4⟩ := nxN hns hr hneS hu.2.2 hq
  have h0 : ∀ t : Int, q ≤ t → t < r → stM Ef Et ne Sf St_ ns t = 1 := fun t a b => stM_1 (i3 t a b) (hE t a (by omega))
  refine ⟨⟨i1, by decide, h0, ?_, ?_⟩, i2⟩
  · rw [h0 q (Int.le_refl _) i1] at hbd; exact hbd
  · by_cases h : r < fa
    · rw [stM_0 (i4 h)]; decide
    · rw [show r = fa by omega, stM_2 (fun g => hfa (hSE _ g)) hfa]; decide
theorem stM_b {q : Int} (hSE : ∀ t : Int, LC Sf St_ ns t → LC Ef Et ne t) (h1 : ¬ LC Ef Et ne (q - 1)) (h2 : LC Ef Et ne q) : stM Ef Et ne Sf St_ ns (q - 1) ≠ stM Ef Et ne Sf St_ ns q := by
  rw [stM_2 (fun g => h1 (hSE _ g)) h1]
  by_cases h : LC Sf St_ ns q
  · rw [stM_0 h]; decide
  · rw [stM_1 h h2]; decide
theorem stM_e {t : Int} (hSE : ∀ t : Int, LC Sf St_ ns t → LC Ef Et ne t) (h1 : ¬ LC Ef Et ne t) : stM Ef Et ne Sf St_ ns t = 2 := stM_2 (fun g => h1 (hSE _ g)) h1
/-- the first edge -/
theorem plC {r : Int} (hne : 0 ≤ ne) (hneE : neS Ef Et ne) (hiB : inB Ef Et ne) (hSE : ∀ t : Int, LC Sf St_ ns t → LC Ef Et ne t) (hr : r = nxZ Ef ne (-10000000) 10000000) : -10000000 < r ∧ r ≤ 10000000 ∧ enT (stM Ef Et ne Sf St_ ns) r [] ∧ (r < 10000000 → LC Ef Et ne r ∧ ¬ LC Ef Et ne (r - 1)) := by
  obtain ⟨i1, i2, i3, i4, i5⟩ := nxE hne hr hneE (fun k k0 k1 k2 => by have := hiB k k0 k1; omega) (fun k k0 k1 => by have := hiB k k0 k1; omega) (by decide)
  have hlo : ∀ t : Int, t < r → ¬ LC Ef Et ne t := fun t ht => by
    by_cases g : -10000000 ≤ t
    · exact i3 t g ht
    · rintro ⟨k, k0, k1, k2, k3⟩
      have := hiB k k0 k1
      omega
  exact ⟨i1, i2, enT_0 (fun t ht => stM_e hSE (hlo t ht)), fun h => ⟨i4 h, hlo _ (by omega)⟩⟩
/-- the next edge behind far -/
theorem plD {fa r : Int} {R : List (Int × Int × Int)} (hne : 0 ≤ ne) (hneE : neS Ef Et ne) (hiB : inB Ef Et ne) (hSE : ∀ t : Int, LC Sf St_ ns t → LC Ef Et ne t) {q : Int} (hu : untP Ef Et ne q fa) (hfa : fa < 10000000) (hr : r = nxZ Ef ne fa 10000000) (hR : enT (stM Ef Et ne Sf St_ ns) fa R) : fa < r ∧ r ≤ 10000000 ∧ enT (stM Ef Et ne Sf St_ ns) r R ∧ (r < 10000000 → LC Ef Et ne r ∧ ¬ LC Ef Et ne (r - 1)) := by
  obtain ⟨i1, i2, i3, i4, i5⟩ := nxE hne hr hneE hu.2.2 (fun k k0 k1 => by have := hiB k k0 k1; omega) hfa
  exact ⟨i1, i2, enT_g hR (by omega) (fun t a b => stM_e hSE (i3 t a b)), fun h => ⟨i4 h, i3 _ (by omega) (by omega)⟩⟩
end Runs
theorem onLine_a {SL : List (Int × Int × Int × Int)} {y a b d : Int} {R : List (Int × Int × Int)} : SL ++ onLine y (R ++ [(a, b, d)]) = (SL ++ onLine y R) ++ [(y, a, b, d)] := by
  unfold onLine
  rw [List.map_append, List.append_assoc]
  rfl
theorem ups_a {U V : Int → Int} {s n v : Int} (h : ∀ j : Int, (j < s → U j = V j) ∧ (s ≤ j → j < n → U j = v)) (hs : s ≤ n) : ∀ j : Int, (j < s → upz U n v j = V j) ∧ (s ≤ j → j < n + 1 → upz U n v j = v) := by
  intro j
  refine ⟨fun g => by rw [upz_n (by omega)]; exact (h j).1 g, fun g1 g2 => ?_⟩
  by_cases e : j = n
  · subst e; exact upz_s ..
  · rw [upz_n e]; exact (h j).2 g1 (by omega)

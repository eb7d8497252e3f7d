/-! THE AREA OF A SECTION -/
theorem sel2_0 {α : Type} (f g : α) : sel2 0 f g = f := if_pos rfl
theorem sel2_1 {α : Type} (f g : α) : sel2 1 f g = g := if_neg (by decide)
section Area
variable {bn vw q rn : Int} {P0 P1 P2 S0 S1 S2 From To Fa Fb Ta Tb Z IX : Int → Int}
theorem cov_s (hbn : 0 ≤ bn) (h : bmR bn P0 P1 P2 S0 S1 S2 From To) (hL : arrL IX rn (cutL P0 P1 P2 S0 S1 S2 (dax vw) q bn)) (hR : ∀ j : Int, 0 ≤ j → j < rn → rcAt P0 P1 P2 S0 S1 S2 vw (Fa j) (Fb j) (Ta j) (Tb j) (Z j) (IX j)) (s t : Int) : (∃ r : Int, 0 ≤ r ∧ r < rn ∧ (Fa r ≤ s ∧ s < Ta r) ∧ (Fb r ≤ t ∧ t < Tb r)) ↔ cvU From To vw q s bn t := by
  have hix : ∀ r : Int, 0 ≤ r → r < rn → 0 ≤ IX r ∧ IX r < bn ∧ mCut From To vw q (IX r) = true ∧ Fa r = From (3 * IX r + acx (dax vw)) ∧ Ta r = To (3 * IX r + acx (dax vw)) ∧ Fb r = From (3 * IX r + upx (dax vw)) ∧ Tb r = To (3 * IX r + upx (dax vw)) := fun r r0 r1 => by
    have hm := arrL_all hL (P := fun c => 0 ≤ c ∧ c < bn ∧ insB P0 P1 P2 S0 S1 S2 (dax vw) q c = true) (fun c hc => (cutL_mem hbn).mp hc) r r0 r1
    obtain ⟨c0, c1, c2⟩ := hm
    obtain ⟨r1', r2, r3, r4, -⟩ := hR r r0 r1
    obtain ⟨a1, a2⟩ := bm_s h (acx_in (dax vw)) c0 c1
    obtain ⟨b1, b2⟩ := bm_s h (upx_in (dax vw)) c0 c1
    rw [bm_cut h c0 c1] at c2
    exact ⟨c0, c1, c2, by rw [r1', a1], by rw [r3, a2], by rw [r2, b1], by rw [r4, b2]⟩
  constructor
  · rintro ⟨r, r0, r1, r2, r3⟩
    obtain ⟨c0, c1, c2, e1, e2, e3, e4⟩ := hix r r0 r1
    rw [e1, e2] at r2
    rw [e3, e4] at r3
    exact ⟨IX r, c0, c1, ⟨c2, r2⟩, r3⟩
  · rintro ⟨c, c0, c1, ⟨c2, c3⟩, c4⟩
    obtain ⟨r, r0, r1, e⟩ := arrL_m hL ((cutL_mem hbn).mpr ⟨c0, c1, by rw [bm_cut h c0 c1]; exact c2⟩)
    obtain ⟨-, -, -, e1, e2, e3, e4⟩ := hix r r0 r1
    rw [e] at e1 e2 e3 e4
    exact ⟨r, r0, r1, by rw [e1, e2]; exact c3, by rw [e3, e4]; exact c4⟩
theorem area_eq {Ga Gu : Int → Int} {na nu : Int} (hbn : 0 ≤ bn) (h : bmR bn P0 P1 P2 S0 S1 S2 From To) (hL : arrL IX rn (cutL P0 P1 P2 S0 S1 S2 (dax vw) q bn)) (hR : ∀ j : Int, 0 ≤ j → j < rn → rcAt P0 P1 P2 S0 S1 S2 vw (Fa j) (Fb j) (Ta j) (Tb j) (Z j) (IX j)) (hFT : ∀ j : Int, 0 ≤ j → j < rn → (-2000000 ≤ Fa j ∧ Fa j ≤ 2000000) ∧ (-2000000 ≤ Fb j ∧ Fb j ≤ 2000000) ∧ (-2000000 ≤ Ta j ∧ Ta j ≤ 2000000) ∧ (-2000000 ≤ Tb j ∧ Tb j ≤ 2000000)) (hGa : arrL Ga na (gathL Fa Ta rn)) (hGu : arrL Gu nu (gathL Fb Tb rn)) : sumZ (arF Fa Fb Ta Tb rn Ga Gu nu) (na - 1) = sumR (colU From To vw q bn) (-10000000) 10000000 := by
  have cv := cov_s (Fa := Fa) (Fb := Fb) (Ta := Ta) (Tb := Tb) (Z := Z) hbn h hL hR
  have sa := gathL_srt Fa Ta rn
  have su := gathL_srt Fb Tb rn
  have ma : ∀ r : Int, 0 ≤ r → r < rn → Fa r ∈ gathL Fa Ta rn ∧ Ta r ∈ gathL Fa Ta rn := fun r a b => gathL_mem a b
  have mu : ∀ r : Int, 0 ≤ r → r < rn → Fb r ∈ gathL Fb Tb rn ∧ Tb r ∈ gathL Fb Tb rn := fun r a b => gathL_mem a b
  have ba := gath_bd hGa (fun j a b => (hFT j a b).1) (fun j a b => (hFT j a b).2.2.1)
  have bu := gath_bd hGu (fun j a b => (hFT j a b).2.1) (fun j a b => (hFT j a b).2.2.2)
  have inner : ∀ i s : Int, 0 ≤ i → i + 1 < na → Ga i ≤ s → s < Ga (i + 1) → colU From To vw q bn s = sumZ (hiF Fa Fb Ta Tb Gu rn (Ga i) (Ga (i + 1))) (nu - 1) := by
    intro i s i0 i1 s0 s1
    have ff : ∀ j : Int, 0 ≤ j → j + 1 < nu → ∀ t : Int, Gu j ≤ t → t < Gu (j + 1) → (anyZ (fillP Fa Fb Ta Tb (Ga i) (Ga (i + 1)) (Gu j) (Gu (j + 1))) rn = true ↔ cvU From To vw q s bn t) := by
      intro j j0 j1 t t0 t1
      rw [anyZ_iff, ← cv s t]
      constructor
      · rintro ⟨r, r0, r1, r2⟩
        unfold fillP spZ at r2
        rw [sel2_0, sel2_0, sel2_1, sel2_1, Bool.and_eq_true, decide_eq_true_eq, decide_eq_true_eq] at r2
        exact ⟨r, r0, r1, by omega, by omega⟩
      · rintro ⟨r, r0, r1, r2, r3⟩
        have x1 := cut_no hGa sa (ma r r0 r1).1 i0 i1
        have x2 := cut_no hGa sa (ma r r0 r1).2 i0 i1
        have x3 := cut_no hGu su (mu r r0 r1).1 j0 j1
        have x4 := cut_no hGu su (mu r r0 r1).2 j0 j1
        refine ⟨r, r0, r1, ?_⟩
        unfold fillP spZ
        rw [sel2_0, sel2_0, sel2_1, sel2_1, Bool.and_eq_true, decide_eq_true_eq, decide_eq_true_eq]
        omega
    have e : ∀ j : Int, hiF Fa Fb Ta Tb Gu rn (Ga i) (Ga (i + 1)) j = (Gu (j + 1) - Gu j) * (if anyZ (fillP Fa Fb Ta Tb (Ga i) (Ga (i + 1)) (Gu j) (Gu (j + 1))) rn = true then 1 else 0) := by
      intro j
      unfold hiF
      split
      · rw [Int.mul_one]
      · rw [Int.mul_zero]
    rw [show hiF Fa Fb Ta Tb Gu rn (Ga i) (Ga (i + 1)) = (fun j => (Gu (j + 1) - Gu j) * (if anyZ (fillP Fa Fb Ta Tb (Ga i) (Ga (i + 1)) (Gu j) (Gu (j + 1))) rn = true then 1 else 0)) from funext e]
    unfold colU
    symm
    refine stp_sum (fun j j0 j1 => arrL_lt hGu su j0 (by omega) j1) (fun j t j0 j1 t0 t1 => ?_) (fun hh t ht => ind_0 ?_) (fun hh t ht => ind_0 ?_) (fun hh => ?_) (fun hh t => ind_0 ?_) (by decide)
    · by_cases g : cvU From To vw q s bn t
      · rw [ind_1 g, if_pos ((ff j j0 j1 t t0 t1).mpr g)]
      · rw [ind_0 g, if_neg (fun z => g ((ff j j0 j1 t t0 t1).mp z))]
    · rw [← cv s t]
      rintro ⟨r, r0, r1, r2, r3⟩
      have := (cut_lo hGu su (mu r r0 r1).1).1
      omega
    · rw [← cv s t]
      rintro ⟨r, r0, r1, r2, r3⟩
      have := (cut_lo hGu su (mu r r0 r1).2).2
      omega
    · have x1 := bu 0 (by omega) (by omega)
      have x2 := bu (nu - 1) (by omega) (by omega)
      omega
    · rw [← cv s t]
      rintro ⟨r, r0, r1, r2, r3⟩
      obtain ⟨j, j0, j1, -⟩ := arrL_m hGu (mu r r0 r1).1
      omega
  show sumZ (fun i => (Ga (i + 1) - Ga i) * sumZ (hiF Fa Fb Ta Tb Gu rn (Ga i) (Ga (i + 1))) (nu - 1)) (na - 1) = _
  have zero : ∀ s : Int, (∀ r : Int, 0 ≤ r → r < rn → ¬ (Fa r ≤ s ∧ s < Ta r)) → colU From To vw q bn s = 0 := by
    intro s hs
    unfold colU
    rw [sumR_k (v := 0) (by decide) (fun t _ _ => ind_0 (by
      rw [← cv s t]
      rintro ⟨r, r0, r1, r2, r3⟩
      exact hs r r0 r1 r2)), Int.mul_zero]
  refine stp_sum (v := fun i => sumZ (hiF Fa Fb Ta Tb Gu rn (Ga i) (Ga (i + 1))) (nu - 1)) (fun j j0 j1 => arrL_lt hGa sa j0 (by omega) j1) (fun j t j0 j1 t0 t1 => inner j t j0 j1 t0 t1) (fun hh t ht => zero t (fun r r0 r1 r2 => ?_)) (fun hh t ht => zero t (fun r r0 r1 r2 => ?_)) (fun hh => ?_) (fun hh t => zero t (fun r r0 r1 r2 => ?_)) (by decide)
  · have := (cut_lo hGa sa (ma r r0 r1).1).1
    omega
  · have := (cut_lo hGa sa (ma r r0 r1).2).2
    omega
  · have x1 := ba 0 (by omega) (by omega)
    have x2 := ba (na - 1) (by omega) (by omega)
    omega
  · obtain ⟨j, j0, j1, -⟩ := arrL_m hGa (ma r r0 r1).1
    omega
end Area

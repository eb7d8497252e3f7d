/-! THE LABEL: its check digit, its letters -/
theorem arrL_self (L : List Int) : arrL (lisG L) (L.length : Int) L := ⟨rfl, fun k _ => by unfold lisG; rw [show ((k : Int)).toNat = k from Int.toNat_natCast k]⟩
theorem ck_35 (L : List Int) : ckS (L ++ [35]) = ckS L := by
  have h1 := arrL_a (v := 35) (arrL_self L)
  have hl : (0 : Int) ≤ (L.length : Int) := Int.natCast_nonneg _
  rw [← ckS_a h1, ← ckS_a (arrL_self L), sumZ_s _ hl]
  have e1 : ckF (upz (lisG L) (L.length : Int) 35) (L.length : Int) = 0 := by
    unfold ckF
    rw [if_neg]
    unfold upz
    rw [if_pos rfl]
    omega
  rw [e1, Int.add_zero]
  refine sumZ_e hl (fun i h0 h1 => ?_)
  unfold ckF
  rw [upz_n (by omega)]
theorem lab_f {w h d cn : Int} {V : Int → Int} (hw : 1 ≤ w) (hh : 1 ≤ h) (hd : 1 ≤ d) (hc : 0 ≤ (sumZ (ckF V) cn).tmod 10 ∧ (sumZ (ckF V) cn).tmod 10 ≤ 9) (hL : arrL V cn ((((((([] ++ [87]) ++ dgz w) ++ [72]) ++ dgz h) ++ [68]) ++ dgz d) ++ [35])) : (((((((([] ++ [87]) ++ dgz w) ++ [72]) ++ dgz h) ++ [68]) ++ dgz d) ++ [35]) ++ dgz ((sumZ (ckF V) cn).tmod 10)) = labF w h d := by
  have e1 : ((((((([] ++ [87]) ++ dgz w) ++ [72]) ++ dgz h) ++ [68]) ++ dgz d) : List Int) = labL w h d := by
    rw [dgz_x hw, dgz_x hh, dgz_x hd]; rfl
  have e2 : sumZ (ckF V) cn = ckS (labL w h d) := by rw [ckS_a hL, e1, ck_35]
  rw [dgz_1 hc.1 hc.2, e1, e2]
  rfl
theorem chr_e {V : Int → Int} {cn w h d i : Int} (hL : arrL V cn (labF w h d)) (h0 : 0 ≤ i) : (if i < cn then V i else -1) = chrL w h d i := by
  unfold chrL
  rw [← hL.1]
  by_cases hi : i < cn
  · rw [if_pos hi, if_pos hi]; exact arrL_i hL h0 hi
  · rw [if_neg hi, if_neg hi]
theorem lab_len {w h d : Int} (hw : w ≤ 1000000) (hh : h ≤ 1000000) (hd : d ≤ 1000000) : (labF w h d).length ≤ 26 := by
  have h1 := labL_len (w := w) (h := h) (d := d) (by omega) (by omega) (by omega)
  show (labL w h d ++ [35] ++ [48 + (ckS (labL w h d)).tmod 10]).length ≤ 26
  simp only [List.length_append, List.length_cons, List.length_nil]
  omega
theorem labF_in {w h d x : Int} (hx : x ∈ labF w h d) : 35 ≤ x ∧ x ≤ 87 := by
  have hx : x ∈ [87] ++ dgx w ++ [72] ++ dgx h ++ [68] ++ dgx d ++ [35] ++ [48 + (ckS (labL w h d)).tmod 10] := hx
  simp only [List.mem_append, List.mem_singleton] at hx
  have hm := tmod_bounds (a := ckS (labL w h d)) (M := 10) (by decide)
  rcases hx with ((((((h1 | h1) | h1) | h1) | h1) | h1) | h1) | h1
  · omega
  · have := dgF_in 10 _ _ h1; omega
  · omega
  · have := dgF_in 10 _ _ h1; omega
  · omega
  · have := dgF_in 10 _ _ h1; omega
  · omega
  · omega
theorem chr_I {w h d : Int} (i : Int) : I32 (chrL w h d i) := by
  unfold chrL
  split
  · unfold lisG
    rw [List.getD_eq_getElem?_getD]
    cases e : (labF w h d)[i.toNat]? with
    | none => exact I32_0
    | some x =>
      have := labF_in (List.mem_of_getElem? e)
      show I32 x
      unfold I32
      omega
  · unfold I32; omega

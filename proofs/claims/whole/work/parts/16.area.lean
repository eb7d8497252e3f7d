set_option maxRecDepth 100000 in
theorem flRe_30 : Cond.fieldLink "PartDrawings$Rectangles" 30 (TRe 5).1 (TRe 5).2.1 (TRe 5).2.2.1 ∈ gW := gW_1 145 rfl rfl
set_option maxRecDepth 100000 in
theorem flRe_67 : Cond.fieldLink "PartDrawings$Rectangles" 67 (TCu 1).1 (TCu 1).2.1 (TCu 1).2.2.1 ∈ gW := gW_1 126 rfl rfl
set_option maxRecDepth 100000 in
theorem flRe_68 : Cond.fieldLink "PartDrawings$Rectangles" 68 (TCu 0).1 (TCu 0).2.1 (TCu 0).2.2.1 ∈ gW := gW_1 123 rfl rfl
set_option maxRecDepth 100000 in
theorem kRe_75 : inT (kV "PartDrawings$Rectangles" 75 yRe_isFilled cRe_isFilled 6 (some .boolean)) := gW_l [738, 740, 13, 48, 741] rfl (by decide +kernel)
set_option maxRecDepth 100000 in
theorem flRe_26 : Cond.fieldLink "PartDrawings$Rectangles" 26 (TRe 4).1 (TRe 4).2.1 (TRe 4).2.2.1 ∈ gW := gW_1 144 rfl rfl
set_option maxRecDepth 100000 in
theorem kRe_63 : inT (kV "PartDrawings$Rectangles" 63 yCu_gather cCu_gather 4 none) := gW_l [733, 586, 587, 49, 588] rfl (by decide +kernel)
set_option maxRecDepth 100000 in
theorem kRe_71 : inT (kV "PartDrawings$Rectangles" 71 yRe_heightBetween cRe_heightBetween 8 (some .long)) := gW_l [734, 736, 12, 48, 737] rfl (by decide +kernel)
set_option maxHeartbeats 4000000 in
set_option maxRecDepth 100000 in
theorem c_Rectangles_heightBetween (l : Launch) (D : va_G) (cI cG cL cB : ClassId) (r0 : Nat) (hf : Nat) (ht : Nat) (hz : Nat) (ca : Nat) (cu : Nat) (f0 : Nat) (f1 : Nat) (t0 : Nat) (t1 : Nat) (rn : Int) (Fa : Int → Int) (Fb : Int → Int) (Ta : Int → Int) (Tb : Int → Int) (Z : Int → Int) (u1 : Nat) (nu : Int) (GU : Int → Int) (be : Int) (en : Int) (bFa : ∀ j : Int, I32 (Fa j)) (bFb : ∀ j : Int, I32 (Fb j)) (bTa : ∀ j : Int, I32 (Ta j)) (bTb : ∀ j : Int, I32 (Tb j)) (bZ : ∀ j : Int, I32 (Z j)) (hrn0 : 0 ≤ rn) (hrn1 : rn ≤ 24) (bGU : ∀ j : Int, I32 (GU j)) (hnu0 : 0 ≤ nu) (hnu1 : nu ≤ 48) (hGU : ∀ j : Int, 0 ≤ j → j < nu → -2000000 ≤ GU j ∧ GU j ≤ 2000000) (hIbe : I32 be) (hIen : I32 en) : Cl l yRe_heightBetween cRe_heightBetween 8 (some .long) 2 0 0 D zCl (zT cI cG cL cB) [.ref r0, .int (zI be), .int (zI en)] [(r0, .inr (6, [.ref hf, .ref ht, .ref hz, .int (zI rn), .ref ca, .ref cu])), (hf, .inl (cG, 2, .inr (.inr (.inr (.inr (g2 f0 f1)))))), (ht, .inl (cG, 2, .inr (.inr (.inr (.inr (g2 t0 t1)))))), (f0, .inl (cI, 24, .inl (fI Fa))), (f1, .inl (cI, 24, .inl (fI Fb))), (t0, .inl (cI, 24, .inl (fI Ta))), (t1, .inl (cI, 24, .inl (fI Tb))), (hz, .inl (cI, 24, .inl (fI Z))), (cu, .inr (2, [.ref u1, .int (zI nu)])), (u1, .inl (cI, 48, .inl (fI GU)))] (fun x w => x = zL (sumZ (hiF Fa Fb Ta Tb GU rn be en) (nu - 1)) ∧ w = [(r0, .inr (6, [.ref hf, .ref ht, .ref hz, .int (zI rn), .ref ca, .ref cu])), (hf, .inl (cG, 2, .inr (.inr (.inr (.inr (g2 f0 f1)))))), (ht, .inl (cG, 2, .inr (.inr (.inr (.inr (g2 t0 t1)))))), (f0, .inl (cI, 24, .inl (fI Fa))), (f1, .inl (cI, 24, .inl (fI Fb))), (t0, .inl (cI, 24, .inl (fI Ta))), (t1, .inl (cI, 24, .inl (fI Tb))), (hz, .inl (cI, 24, .inl (fI Z))), (cu, .inr (2, [.ref u1, .int (zI nu)])), (u1, .inl (cI, 48, .inl (fI GU)))]) := by
  refine zBl (by decide) (Nat.le_of_ble_eq_true rfl) ?_
  intro p e s m args below meth c ls A H locs Q C hin hl hW hQ
  have hl : lv_has ls 8 [(0, .ref r0), (1, .int (zI be)), (2, .int (zI en))] := hl
  refine lv_lconst (v := zL 0) C.1 C.2.1 dRe_heightBetween_0 (by decide) ?_
  refine lv_lstore_n (lv' := [(3, .long (zL 0)), (0, .ref r0), (1, .int (zI be)), (2, .int (zI en))]) C.1 C.2.1 dRe_heightBetween_1 rfl hl (by decide) rfl (fun ls hl => ?_)
  refine lv_iconst (v := zI 0) C.1 C.2.1 dRe_heightBetween_2 (by decide) ?_
  refine lv_istore (lv' := [(5, .int (zI 0)), (3, .long (zL 0)), (0, .ref r0), (1, .int (zI be)), (2, .int (zI en))]) C.1 C.2.1 dRe_heightBetween_3 hl (by decide) rfl (fun ls hl => ?_)
  have L5 : ∀ (N : Nat) (i : Int) (sm : Int), (nu - i).toNat < N → (0 ≤ i) → (i ≤ nu - 1 ∨ i = 0) → (sm = sumZ (hiF Fa Fb Ta Tb GU rn be en) i) → ∀ (ls : Array Slot) (H : Heap) (locs : List Loc), lv_has ls 8 [(5, .int (zI i)), (3, .long (zL sm)), (0, .ref r0), (1, .int (zI be)), (2, .int (zI en))] → zw D zCl A s [(r0, .inr (6, [.ref hf, .ref ht, .ref hz, .int (zI rn), .ref ca, .ref cu])), (hf, .inl (cG, 2, .inr (.inr (.inr (.inr (g2 f0 f1)))))), (ht, .inl (cG, 2, .inr (.inr (.inr (.inr (g2 t0 t1)))))), (f0, .inl (cI, 24, .inl (fI Fa))), (f1, .inl (cI, 24, .inl (fI Fb))), (t0, .inl (cI, 24, .inl (fI Ta))), (t1, .inl (cI, 24, .inl (fI Tb))), (hz, .inl (cI, 24, .inl (fI Z))), (cu, .inr (2, [.ref u1, .int (zI nu)])), (u1, .inl (cI, 48, .inl (fI GU)))] H locs → W p l e (zr 2 0 0) s m args below meth c H locs 0 0 Q (F0 m 5 ls []) := by
    intro N
    induction N with
    | zero => intro i sm hm; exact absurd hm (Nat.not_lt_zero _)
    | succ N ih5 =>
      intro i sm hm5 hi0 hi1 hx ls H locs hl hW
      refine lv_iload C.1 C.2.1 dRe_heightBetween_5 (lv_at hl 0 rfl) ?_
      refine lv_iconst (v := zI 1) C.1 C.2.1 dRe_heightBetween_7 (by decide) ?_
      refine ziadd C dRe_heightBetween_8 ?_
      refine lv_aload_n C.1 C.2.1 dRe_heightBetween_9 rfl (lv_at hl 2 rfl) ?_
      refine zget C hW 0 5 rfl rfl inRe (by decide) flRe_30 rfl dRe_heightBetween_10 ?_
      refine zget C hW 8 1 rfl rfl inCu (by decide) flRe_67 rfl dRe_heightBetween_13 ?_
      refine zicmp_ge (tgt := 73) C (by omega) (by omega) dRe_heightBetween_16 (by decide) (fun c16 => ?_) (fun c16 => ?_)
      · refine lv_lload_n C.1 C.2.1 dRe_heightBetween_73 rfl (lv_at hl 1 rfl) ?_
        exact hQ (zL sm) _ H locs _ _ _ ls hW ⟨congrArg zL (by rw [hx]; rcases hi1 with h | h; exact congrArg _ (show i = nu - 1 by omega); subst h; unfold sumZ foldZ; rw [show (nu - 1).toNat = 0 by omega]; rfl), rfl⟩ (by omega) (by omega) dRe_heightBetween_74
      · refine lv_aload_n C.1 C.2.1 dRe_heightBetween_19 rfl (lv_at hl 2 rfl) ?_
        refine zget C hW 0 5 rfl rfl inRe (by decide) flRe_30 rfl dRe_heightBetween_20 ?_
        refine zget C hW 8 0 rfl rfl inCu (by decide) flRe_68 rfl dRe_heightBetween_23 ?_
        refine lv_iload C.1 C.2.1 dRe_heightBetween_26 (lv_at hl 0 rfl) ?_
        refine ziald C hW 9 0 rfl rfl (by omega) (by omega) (by decide) dRe_heightBetween_28 ?_
        have hb1 := bGU i
        refine lv_istore (lv' := [(6, .int (zI (GU i))), (5, .int (zI i)), (3, .long (zL sm)), (0, .ref r0), (1, .int (zI be)), (2, .int (zI en))]) C.1 C.2.1 dRe_heightBetween_29 hl (by decide) rfl (fun ls hl => ?_)
        refine lv_aload_n C.1 C.2.1 dRe_heightBetween_31 rfl (lv_at hl 3 rfl) ?_
        refine zget C hW 0 5 rfl rfl inRe (by decide) flRe_30 rfl dRe_heightBetween_32 ?_
        have hq1 := hGU i hi0 (by omega)
        have hq2 := hGU (i + 1) (by omega) (by omega)
        refine zget C hW 8 0 rfl rfl inCu (by decide) flRe_68 rfl dRe_heightBetween_35 ?_
        refine lv_iload C.1 C.2.1 dRe_heightBetween_38 (lv_at hl 1 rfl) ?_
        refine lv_iconst (v := zI 1) C.1 C.2.1 dRe_heightBetween_40 (by decide) ?_
        refine ziadd C dRe_heightBetween_41 ?_
        refine ziald C hW 9 0 rfl rfl (by omega) (by omega) (by decide) dRe_heightBetween_42 ?_
        have hb2 := bGU (i + 1)
        refine lv_istore (lv' := [(7, .int (zI (GU (i + 1)))), (6, .int (zI (GU i))), (5, .int (zI i)), (3, .long (zL sm)), (0, .ref r0), (1, .int (zI be)), (2, .int (zI en))]) C.1 C.2.1 dRe_heightBetween_43 hl (by decide) rfl (fun ls hl => ?_)
        refine lv_aload_n C.1 C.2.1 dRe_heightBetween_45 rfl (lv_at hl 4 rfl) ?_
        refine lv_iload_n C.1 C.2.1 dRe_heightBetween_46 rfl (lv_at hl 5 rfl) ?_
        refine lv_iload_n C.1 C.2.1 dRe_heightBetween_47 rfl (lv_at hl 6 rfl) ?_
        refine lv_iload C.1 C.2.1 dRe_heightBetween_48 (lv_at hl 1 rfl) ?_
        refine lv_iload C.1 C.2.1 dRe_heightBetween_50 (lv_at hl 0 rfl) ?_
        refine zcalli (wr := [(cu, .inr (2, [.ref u1, .int (zI nu)])), (u1, .inl (cI, 48, .inl (fI GU)))]) C hW [0, 1, 2, 3, 4, 5, 6, 7] [8, 9] rfl rfl (by decide) (by decide) (zRunV (k := 4) (As := [.int (zI be), .int (zI en), .int (zI (GU i)), .int (zI (GU (i + 1)))]) (rest := []) C hW (c_Rectangles_isFilled l D cI cG cL cB r0 hf ht hz ca cu f0 f1 t0 t1 rn Fa Fb Ta Tb Z be en (GU i) (GU (i + 1)) bFa bFb bTa bTb bZ (by omega) (by omega) (by omega) (by omega) (by omega) (by omega) H.size) [0, 1, 2, 3, 4, 5, 6, 7] rfl (by decide) kRe_75 (by decide +kernel) ⟨by decide, by decide⟩ 0 rfl rfl rfl hl.1 (Nat.le_of_ble_eq_true rfl) dRe_heightBetween_52 ⟨by first | decide | omega, by first | decide | omega⟩) (fun x w H locs hq hW => ?_)
        obtain ⟨rfl, rfl⟩ := hq
        have hW : zw D zCl A s [(cu, .inr (2, [.ref u1, .int (zI nu)])), (u1, .inl (cI, 48, .inl (fI GU))), (r0, .inr (6, [.ref hf, .ref ht, .ref hz, .int (zI rn), .ref ca, .ref cu])), (hf, .inl (cG, 2, .inr (.inr (.inr (.inr (g2 f0 f1)))))), (ht, .inl (cG, 2, .inr (.inr (.inr (.inr (g2 t0 t1)))))), (f0, .inl (cI, 24, .inl (fI Fa))), (f1, .inl (cI, 24, .inl (fI Fb))), (t0, .inl (cI, 24, .inl (fI Ta))), (t1, .inl (cI, 24, .inl (fI Tb))), (hz, .inl (cI, 24, .inl (fI Z)))] H locs := hW
        have hr3 := bz_01 (anyZ (fillP Fa Fb Ta Tb be en (GU i) (GU (i + 1))) rn)
        refine zif_eq (tgt := 67) C (by omega) dRe_heightBetween_55 (by decide) (fun c55 => ?_) (fun c55 => ?_)
        · refine lv_iinc (v := zI (i + 1)) (lv' := [(5, .int (zI (i + 1))), (7, .int (zI (GU (i + 1)))), (6, .int (zI (GU i))), (3, .long (zL sm)), (0, .ref r0), (1, .int (zI be)), (2, .int (zI en))]) C.1 C.2.1 dRe_heightBetween_67 hl (k := 2) rfl (zI_add i 1) (by decide) rfl (fun ls hl => ?_)
          refine lv_goto (tgt := 5) C.1 C.2.1 dRe_heightBetween_70 (by decide) ?_
          exact ih5 (i + 1) sm (by omega) (by omega) (by omega) (by rw [sumZ_s _ hi0, hx]; unfold hiF; first | rw [if_pos ((bz_eq1 _).mpr (by omega))] | rw [if_neg (fun h9 => absurd ((bz_eq1 _).mp h9) (by omega)), Int.add_zero]) ls H locs (lv_sub hl [0, 3, 4, 5, 6] rfl) (zwp hW [2, 3, 4, 5, 6, 7, 8, 9, 0, 1] rfl (by decide))
        · refine lv_lload_n C.1 C.2.1 dRe_heightBetween_58 rfl (lv_at hl 3 rfl) ?_
          refine lv_iload C.1 C.2.1 dRe_heightBetween_59 (lv_at hl 0 rfl) ?_
          refine lv_iload C.1 C.2.1 dRe_heightBetween_61 (lv_at hl 1 rfl) ?_
          refine zisub C dRe_heightBetween_63 ?_
          refine zi2l C (by omega) dRe_heightBetween_64 ?_
          refine zladd C dRe_heightBetween_65 ?_
          refine lv_lstore_n (lv' := [(3, .long (zL (sm + ((GU (i + 1)) - (GU i))))), (7, .int (zI (GU (i + 1)))), (6, .int (zI (GU i))), (5, .int (zI i)), (0, .ref r0), (1, .int (zI be)), (2, .int (zI en))]) C.1 C.2.1 dRe_heightBetween_66 rfl hl (by decide) rfl (fun ls hl => ?_)
          refine lv_iinc (v := zI (i + 1)) (lv' := [(5, .int (zI (i + 1))), (3, .long (zL (sm + ((GU (i + 1)) - (GU i))))), (7, .int (zI (GU (i + 1)))), (6, .int (zI (GU i))), (0, .ref r0), (1, .int (zI be)), (2, .int (zI en))]) C.1 C.2.1 dRe_heightBetween_67 hl (k := 3) rfl (zI_add i 1) (by decide) rfl (fun ls hl => ?_)
          refine lv_goto (tgt := 5) C.1 C.2.1 dRe_heightBetween_70 (by decide) ?_
          exact ih5 (i + 1) (sm + ((GU (i + 1)) - (GU i))) (by omega) (by omega) (by omega) (by rw [sumZ_s _ hi0, hx]; unfold hiF; first | rw [if_pos ((bz_eq1 _).mpr (by omega))] | rw [if_neg (fun h9 => absurd ((bz_eq1 _).mp h9) (by omega)), Int.add_zero]) ls H locs (lv_sub hl [0, 1, 4, 5, 6] rfl) (zwp hW [2, 3, 4, 5, 6, 7, 8, 9, 0, 1] rfl (by decide))
  exact L5 _ 0 0 (Nat.lt_succ_self _) (by omega) (by omega) (sumZ_0 _).symm ls H locs (lv_sub hl [0, 1, 2, 3, 4] rfl) hW
set_option maxHeartbeats 4000000 in
set_option maxRecDepth 100000 in
theorem c_Rectangles_area (l : Launch) (D : va_G) (cI cG cL cB : ClassId) (r0 : Nat) (hf : Nat) (ht : Nat) (hz : Nat) (ca : Nat) (cu : Nat) (f0 : Nat) (f1 : Nat) (t0 : Nat) (t1 : Nat) (rn : Int) (Fa : Int → Int) (Fb : Int → Int) (Ta : Int → Int) (Tb : Int → Int) (Z : Int → Int) (c1 : Nat) (na : Int) (GA : Int → Int) (u1 : Nat) (nu : Int) (GU : Int → Int) (bFa : ∀ j : Int, I32 (Fa j)) (bFb : ∀ j : Int, I32 (Fb j)) (bTa : ∀ j : Int, I32 (Ta j)) (bTb : ∀ j : Int, I32 (Tb j)) (bZ : ∀ j : Int, I32 (Z j)) (hrn0 : 0 ≤ rn) (hrn1 : rn ≤ 24) (bGA : ∀ j : Int, I32 (GA j)) (bGU : ∀ j : Int, I32 (GU j)) (hFT : ∀ j : Int, 0 ≤ j → j < rn → (-2000000 ≤ Fa j ∧ Fa j ≤ 2000000) ∧ (-2000000 ≤ Fb j ∧ Fb j ≤ 2000000) ∧ (-2000000 ≤ Ta j ∧ Ta j ≤ 2000000) ∧ (-2000000 ≤ Tb j ∧ Tb j ≤ 2000000)) : Cl l yRe_area cRe_area 6 (some .long) 3 0 0 D zCl (zT cI cG cL cB) [.ref r0] [(r0, .inr (6, [.ref hf, .ref ht, .ref hz, .int (zI rn), .ref ca, .ref cu])), (hf, .inl (cG, 2, .inr (.inr (.inr (.inr (g2 f0 f1)))))), (ht, .inl (cG, 2, .inr (.inr (.inr (.inr (g2 t0 t1)))))), (f0, .inl (cI, 24, .inl (fI Fa))), (f1, .inl (cI, 24, .inl (fI Fb))), (t0, .inl (cI, 24, .inl (fI Ta))), (t1, .inl (cI, 24, .inl (fI Tb))), (hz, .inl (cI, 24, .inl (fI Z))), (ca, .inr (2, [.ref c1, .int (zI na)])), (c1, .inl (cI, 48, .inl (fI GA))), (cu, .inr (2, [.ref u1, .int (zI nu)])), (u1, .inl (cI, 48, .inl (fI GU)))] (fun x w => ∃ Ga : Int → Int, ∃ Gu : Int → Int, ∃ na2 : Int, ∃ nu2 : Int, (∀ j : Int, I32 (Ga j)) ∧ (∀ j : Int, I32 (Gu j)) ∧ (arrL Ga na2 (gathL (sel2 0 Fa Fb) (sel2 0 Ta Tb) rn)) ∧ (arrL Gu nu2 (gathL (sel2 1 Fa Fb) (sel2 1 Ta Tb) rn)) ∧ x = zL (sumZ (arF Fa Fb Ta Tb rn Ga Gu nu2) (na2 - 1)) ∧ w = [(r0, .inr (6, [.ref hf, .ref ht, .ref hz, .int (zI rn), .ref ca, .ref cu])), (hf, .inl (cG, 2, .inr (.inr (.inr (.inr (g2 f0 f1)))))), (ht, .inl (cG, 2, .inr (.inr (.inr (.inr (g2 t0 t1)))))), (f0, .inl (cI, 24, .inl (fI Fa))), (f1, .inl (cI, 24, .inl (fI Fb))), (t0, .inl (cI, 24, .inl (fI Ta))), (t1, .inl (cI, 24, .inl (fI Tb))), (hz, .inl (cI, 24, .inl (fI Z))), (ca, .inr (2, [.ref c1, .int (zI na2)])), (c1, .inl (cI, 48, .inl (fI Ga))), (cu, .inr (2, [.ref u1, .int (zI nu2)])), (u1, .inl (cI, 48, .inl (fI Gu)))]) := by
  refine zBl (by decide) (Nat.le_of_ble_eq_true rfl) ?_
  intro p e s m args below meth c ls A H locs Q C hin hl hW hQ
  have hl : lv_has ls 6 [(0, .ref r0)] := hl
  refine lv_aload_n C.1 C.2.1 dRe_area_0 rfl (lv_at hl 0 rfl) ?_
  refine zget C hW 0 4 rfl rfl inRe (by decide) flRe_26 rfl dRe_area_1 ?_
  refine lv_aload_n C.1 C.2.1 dRe_area_4 rfl (lv_at hl 0 rfl) ?_
  refine lv_iconst (v := zI 0) C.1 C.2.1 dRe_area_5 (by decide) ?_
  refine zcallv (wr := [(cu, .inr (2, [.ref u1, .int (zI nu)])), (u1, .inl (cI, 48, .inl (fI GU)))]) C hW [8, 9, 0, 1, 2, 3, 4, 5, 6, 7] [10, 11] rfl rfl (by decide) (by decide) (zRunV (k := 2) (As := [.ref r0, .int (zI 0)]) (rest := []) C hW (c_Cuts_gather l D cI cG cL cB ca c1 na GA r0 hf ht hz ca cu f0 f1 t0 t1 rn Fa Fb Ta Tb Z 0 bGA bFa bFb bTa bTb bZ (by omega) (by omega) (Or.inl rfl) H.size) [8, 9, 0, 1, 2, 3, 4, 5, 6, 7] rfl (by decide) kRe_63 (by decide +kernel) ⟨by decide, by decide⟩ 8 rfl rfl rfl hl.1 (Nat.le_of_ble_eq_true rfl) dRe_area_6 ⟨by first | decide | omega, by first | decide | omega⟩) (fun w H locs hq hW => ?_)
  obtain ⟨G21, n22, hf3, hf4, rfl⟩ := hq
  have hW : zw D zCl A s [(cu, .inr (2, [.ref u1, .int (zI nu)])), (u1, .inl (cI, 48, .inl (fI GU))), (ca, .inr (2, [.ref c1, .int (zI n22)])), (c1, .inl (cI, 48, .inl (fI G21))), (r0, .inr (6, [.ref hf, .ref ht, .ref hz, .int (zI rn), .ref ca, .ref cu])), (hf, .inl (cG, 2, .inr (.inr (.inr (.inr (g2 f0 f1)))))), (ht, .inl (cG, 2, .inr (.inr (.inr (.inr (g2 t0 t1)))))), (f0, .inl (cI, 24, .inl (fI Fa))), (f1, .inl (cI, 24, .inl (fI Fb))), (t0, .inl (cI, 24, .inl (fI Ta))), (t1, .inl (cI, 24, .inl (fI Tb))), (hz, .inl (cI, 24, .inl (fI Z)))] H locs := hW
  refine lv_aload_n C.1 C.2.1 dRe_area_9 rfl (lv_at hl 0 rfl) ?_
  refine zget C hW 4 5 rfl rfl inRe (by decide) flRe_30 rfl dRe_area_10 ?_
  refine lv_aload_n C.1 C.2.1 dRe_area_13 rfl (lv_at hl 0 rfl) ?_
  refine lv_iconst (v := zI 1) C.1 C.2.1 dRe_area_14 (by decide) ?_
  refine zcallv (wr := [(ca, .inr (2, [.ref c1, .int (zI n22)])), (c1, .inl (cI, 48, .inl (fI G21)))]) C hW [0, 1, 4, 5, 6, 7, 8, 9, 10, 11] [2, 3] rfl rfl (by decide) (by decide) (zRunV (k := 2) (As := [.ref r0, .int (zI 1)]) (rest := []) C hW (c_Cuts_gather l D cI cG cL cB cu u1 nu GU r0 hf ht hz ca cu f0 f1 t0 t1 rn Fa Fb Ta Tb Z 1 bGU bFa bFb bTa bTb bZ (by omega) (by omega) (Or.inr rfl) H.size) [0, 1, 4, 5, 6, 7, 8, 9, 10, 11] rfl (by decide) kRe_63 (by decide +kernel) ⟨by decide, by decide⟩ 0 rfl rfl rfl hl.1 (Nat.le_of_ble_eq_true rfl) dRe_area_15 ⟨by first | decide | omega, by first | decide | omega⟩) (fun w H locs hq hW => ?_)
  obtain ⟨G25, n26, hf7, hf8, rfl⟩ := hq
  have hW : zw D zCl A s [(ca, .inr (2, [.ref c1, .int (zI n22)])), (c1, .inl (cI, 48, .inl (fI G21))), (cu, .inr (2, [.ref u1, .int (zI n26)])), (u1, .inl (cI, 48, .inl (fI G25))), (r0, .inr (6, [.ref hf, .ref ht, .ref hz, .int (zI rn), .ref ca, .ref cu])), (hf, .inl (cG, 2, .inr (.inr (.inr (.inr (g2 f0 f1)))))), (ht, .inl (cG, 2, .inr (.inr (.inr (.inr (g2 t0 t1)))))), (f0, .inl (cI, 24, .inl (fI Fa))), (f1, .inl (cI, 24, .inl (fI Fb))), (t0, .inl (cI, 24, .inl (fI Ta))), (t1, .inl (cI, 24, .inl (fI Tb))), (hz, .inl (cI, 24, .inl (fI Z)))] H locs := hW
  have hCa := gath_bd hf4 (fun j a b => (hFT j a b).1) (fun j a b => (hFT j a b).2.2.1)
  have hCu := gath_bd hf8 (fun j a b => (hFT j a b).2.1) (fun j a b => (hFT j a b).2.2.2)
  have hCn := gath_n hrn0 hrn1 hf4
  have hCm := gath_n hrn0 hrn1 hf8
  refine lv_lconst (v := zL 0) C.1 C.2.1 dRe_area_18 (by decide) ?_
  refine lv_lstore_n (lv' := [(1, .long (zL 0)), (0, .ref r0)]) C.1 C.2.1 dRe_area_19 rfl hl (by decide) rfl (fun ls hl => ?_)
  refine lv_iconst (v := zI 0) C.1 C.2.1 dRe_area_20 (by decide) ?_
  refine lv_istore_n (lv' := [(3, .int (zI 0)), (1, .long (zL 0)), (0, .ref r0)]) C.1 C.2.1 dRe_area_21 rfl hl (by decide) rfl (fun ls hl => ?_)
  have L22 : ∀ (N : Nat) (i : Int) (sm : Int), (n22 - i).toNat < N → (0 ≤ i) → (i ≤ n22 - 1 ∨ i = 0) → (sm = sumZ (arF Fa Fb Ta Tb rn G21 G25 n26) i) → ∀ (ls : Array Slot) (H : Heap) (locs : List Loc), lv_has ls 6 [(3, .int (zI i)), (1, .long (zL sm)), (0, .ref r0)] → zw D zCl A s [(ca, .inr (2, [.ref c1, .int (zI n22)])), (c1, .inl (cI, 48, .inl (fI G21))), (cu, .inr (2, [.ref u1, .int (zI n26)])), (u1, .inl (cI, 48, .inl (fI G25))), (r0, .inr (6, [.ref hf, .ref ht, .ref hz, .int (zI rn), .ref ca, .ref cu])), (hf, .inl (cG, 2, .inr (.inr (.inr (.inr (g2 f0 f1)))))), (ht, .inl (cG, 2, .inr (.inr (.inr (.inr (g2 t0 t1)))))), (f0, .inl (cI, 24, .inl (fI Fa))), (f1, .inl (cI, 24, .inl (fI Fb))), (t0, .inl (cI, 24, .inl (fI Ta))), (t1, .inl (cI, 24, .inl (fI Tb))), (hz, .inl (cI, 24, .inl (fI Z)))] H locs → W p l e (zr 3 0 0) s m args below meth c H locs 0 0 Q (F0 m 22 ls []) := by
    intro N
    induction N with
    | zero => intro i sm hm; exact absurd hm (Nat.not_lt_zero _)
    | succ N ih22 =>
      intro i sm hm22 hi0 hi1 hx ls H locs hl hW
      refine lv_iload_n C.1 C.2.1 dRe_area_22 rfl (lv_at hl 0 rfl) ?_
      refine lv_iconst (v := zI 1) C.1 C.2.1 dRe_area_23 (by decide) ?_
      refine ziadd C dRe_area_24 ?_
      refine lv_aload_n C.1 C.2.1 dRe_area_25 rfl (lv_at hl 2 rfl) ?_
      refine zget C hW 4 4 rfl rfl inRe (by decide) flRe_26 rfl dRe_area_26 ?_
      refine zget C hW 0 1 rfl rfl inCu (by decide) flRe_67 rfl dRe_area_29 ?_
      refine zicmp_ge (tgt := 83) C (by omega) (by omega) dRe_area_32 (by decide) (fun c32 => ?_) (fun c32 => ?_)
      · refine lv_lload_n C.1 C.2.1 dRe_area_83 rfl (lv_at hl 1 rfl) ?_
        have hW : zw D zCl A s [(r0, .inr (6, [.ref hf, .ref ht, .ref hz, .int (zI rn), .ref ca, .ref cu])), (hf, .inl (cG, 2, .inr (.inr (.inr (.inr (g2 f0 f1)))))), (ht, .inl (cG, 2, .inr (.inr (.inr (.inr (g2 t0 t1)))))), (f0, .inl (cI, 24, .inl (fI Fa))), (f1, .inl (cI, 24, .inl (fI Fb))), (t0, .inl (cI, 24, .inl (fI Ta))), (t1, .inl (cI, 24, .inl (fI Tb))), (hz, .inl (cI, 24, .inl (fI Z))), (ca, .inr (2, [.ref c1, .int (zI n22)])), (c1, .inl (cI, 48, .inl (fI G21))), (cu, .inr (2, [.ref u1, .int (zI n26)])), (u1, .inl (cI, 48, .inl (fI G25)))] H locs := zwp hW [4, 5, 6, 7, 8, 9, 10, 11, 0, 1, 2, 3] rfl (by decide)
        exact hQ (zL sm) _ H locs _ _ _ ls hW ⟨_, _, _, _, hf3, hf7, hf4, hf8, congrArg zL (by rw [hx]; rcases hi1 with h | h; exact congrArg _ (show i = n22 - 1 by omega); subst h; unfold sumZ foldZ; rw [show (n22 - 1).toNat = 0 by omega]; rfl), rfl⟩ (by omega) (by omega) dRe_area_84
      · refine lv_aload_n C.1 C.2.1 dRe_area_35 rfl (lv_at hl 2 rfl) ?_
        refine zget C hW 4 4 rfl rfl inRe (by decide) flRe_26 rfl dRe_area_36 ?_
        refine zget C hW 0 0 rfl rfl inCu (by decide) flRe_68 rfl dRe_area_39 ?_
        refine lv_iload_n C.1 C.2.1 dRe_area_42 rfl (lv_at hl 0 rfl) ?_
        refine ziald C hW 1 0 rfl rfl (by omega) (by omega) (by decide) dRe_area_43 ?_
        have hb9 := hf3 i
        refine lv_istore (lv' := [(4, .int (zI (G21 i))), (3, .int (zI i)), (1, .long (zL sm)), (0, .ref r0)]) C.1 C.2.1 dRe_area_44 hl (by decide) rfl (fun ls hl => ?_)
        refine lv_aload_n C.1 C.2.1 dRe_area_46 rfl (lv_at hl 3 rfl) ?_
        refine zget C hW 4 4 rfl rfl inRe (by decide) flRe_26 rfl dRe_area_47 ?_
        refine zget C hW 0 0 rfl rfl inCu (by decide) flRe_68 rfl dRe_area_50 ?_
        refine lv_iload_n C.1 C.2.1 dRe_area_53 rfl (lv_at hl 1 rfl) ?_
        refine lv_iconst (v := zI 1) C.1 C.2.1 dRe_area_54 (by decide) ?_
        refine ziadd C dRe_area_55 ?_
        refine ziald C hW 1 0 rfl rfl (by omega) (by omega) (by decide) dRe_area_56 ?_
        have hb10 := hf3 (i + 1)
        refine lv_istore (lv' := [(5, .int (zI (G21 (i + 1)))), (4, .int (zI (G21 i))), (3, .int (zI i)), (1, .long (zL sm)), (0, .ref r0)]) C.1 C.2.1 dRe_area_57 hl (by decide) rfl (fun ls hl => ?_)
        refine lv_lload_n C.1 C.2.1 dRe_area_59 rfl (lv_at hl 3 rfl) ?_
        refine lv_iload C.1 C.2.1 dRe_area_60 (lv_at hl 0 rfl) ?_
        refine lv_iload C.1 C.2.1 dRe_area_62 (lv_at hl 1 rfl) ?_
        refine zisub C dRe_area_64 ?_
        have hq1 := hCa i hi0 (by omega)
        have hq2 := hCa (i + 1) (by omega) (by omega)
        refine zi2l C (by omega) dRe_area_65 ?_
        refine lv_aload_n C.1 C.2.1 dRe_area_66 rfl (lv_at hl 4 rfl) ?_
        refine lv_iload C.1 C.2.1 dRe_area_67 (lv_at hl 1 rfl) ?_
        refine lv_iload C.1 C.2.1 dRe_area_69 (lv_at hl 0 rfl) ?_
        refine zcalll (wr := [(ca, .inr (2, [.ref c1, .int (zI n22)])), (c1, .inl (cI, 48, .inl (fI G21)))]) C hW [4, 5, 6, 7, 8, 9, 10, 11, 2, 3] [0, 1] rfl rfl (by decide) (by decide) (zRunV (k := 2) (As := [.int (zI (G21 i)), .int (zI (G21 (i + 1)))]) (rest := [.long (zL ((G21 (i + 1)) - (G21 i))), .long (zL sm)]) C hW (c_Rectangles_heightBetween l D cI cG cL cB r0 hf ht hz ca cu f0 f1 t0 t1 rn Fa Fb Ta Tb Z u1 n26 G25 (G21 i) (G21 (i + 1)) bFa bFb bTa bTb bZ (by omega) (by omega) hf7 (by omega) (by omega) hCu (by omega) (by omega) H.size) [4, 5, 6, 7, 8, 9, 10, 11, 2, 3] rfl (by decide) kRe_71 (by decide +kernel) ⟨by decide, by decide⟩ 4 rfl rfl rfl hl.1 (Nat.le_of_ble_eq_true rfl) dRe_area_71 ⟨by first | decide | omega, by first | decide | omega⟩) (fun x w H locs hq hW => ?_)
        obtain ⟨rfl, rfl⟩ := hq
        have hW : zw D zCl A s [(ca, .inr (2, [.ref c1, .int (zI n22)])), (c1, .inl (cI, 48, .inl (fI G21))), (r0, .inr (6, [.ref hf, .ref ht, .ref hz, .int (zI rn), .ref ca, .ref cu])), (hf, .inl (cG, 2, .inr (.inr (.inr (.inr (g2 f0 f1)))))), (ht, .inl (cG, 2, .inr (.inr (.inr (.inr (g2 t0 t1)))))), (f0, .inl (cI, 24, .inl (fI Fa))), (f1, .inl (cI, 24, .inl (fI Fb))), (t0, .inl (cI, 24, .inl (fI Ta))), (t1, .inl (cI, 24, .inl (fI Tb))), (hz, .inl (cI, 24, .inl (fI Z))), (cu, .inr (2, [.ref u1, .int (zI n26)])), (u1, .inl (cI, 48, .inl (fI G25)))] H locs := hW
        refine zlmul C dRe_area_74 ?_
        refine zladd C dRe_area_75 ?_
        refine lv_lstore_n (lv' := [(1, .long (zL (sm + (((G21 (i + 1)) - (G21 i)) * sumZ (hiF Fa Fb Ta Tb G25 rn (G21 i) (G21 (i + 1))) (n26 - 1))))), (5, .int (zI (G21 (i + 1)))), (4, .int (zI (G21 i))), (3, .int (zI i)), (0, .ref r0)]) C.1 C.2.1 dRe_area_76 rfl hl (by decide) rfl (fun ls hl => ?_)
        refine lv_iinc (v := zI (i + 1)) (lv' := [(3, .int (zI (i + 1))), (1, .long (zL (sm + (((G21 (i + 1)) - (G21 i)) * sumZ (hiF Fa Fb Ta Tb G25 rn (G21 i) (G21 (i + 1))) (n26 - 1))))), (5, .int (zI (G21 (i + 1)))), (4, .int (zI (G21 i))), (0, .ref r0)]) C.1 C.2.1 dRe_area_77 hl (k := 3) rfl (zI_add i 1) (by decide) rfl (fun ls hl => ?_)
        refine lv_goto (tgt := 22) C.1 C.2.1 dRe_area_80 (by decide) ?_
        exact ih22 (i + 1) (sm + (((G21 (i + 1)) - (G21 i)) * sumZ (hiF Fa Fb Ta Tb G25 rn (G21 i) (G21 (i + 1))) (n26 - 1))) (by omega) (by omega) (by omega) (by rw [sumZ_s _ hi0, hx]; rfl) ls H locs (lv_sub hl [0, 1, 4] rfl) (zwp hW [0, 1, 10, 11, 2, 3, 4, 5, 6, 7, 8, 9] rfl (by decide))
  exact L22 _ 0 0 (Nat.lt_succ_self _) (by omega) (by omega) (sumZ_0 _).symm ls H locs (lv_sub hl [0, 1, 2] rfl) hW

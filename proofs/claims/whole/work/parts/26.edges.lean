set_option maxRecDepth 100000 in
theorem flTr_61 : Cond.fieldLink "PartDrawings$Tracer" 61 (TTr 3).1 (TTr 3).2.1 (TTr 3).2.2.1 ∈ gW := gW_1 170 rfl rfl
set_option maxRecDepth 100000 in
theorem inTr : ∀ w ∈ u_ws RTr TTr 4, w ∈ gW := gW_l [171, 173, 175, 177] rfl (by decide +kernel)
set_option maxRecDepth 100000 in
theorem flTr_21 : Cond.fieldLink "PartDrawings$Tracer" 21 (TTr 2).1 (TTr 2).2.1 (TTr 2).2.2.1 ∈ gW := gW_1 169 rfl rfl
set_option maxRecDepth 100000 in
theorem flTr_18 : Cond.fieldLink "PartDrawings$Tracer" 18 (TTr 1).1 (TTr 1).2.1 (TTr 1).2.2.1 ∈ gW := gW_1 168 rfl rfl
set_option maxRecDepth 100000 in
theorem flTr_50 : Cond.fieldLink "PartDrawings$Tracer" 50 (TCu 0).1 (TCu 0).2.1 (TCu 0).2.2.1 ∈ gW := gW_1 122 rfl rfl
set_option maxRecDepth 100000 in
theorem kTr_86 : inT (kV "PartDrawings$Tracer" 86 yTr_isCovered cTr_isCovered 9 (some .boolean)) := gW_l [609, 611, 7, 50, 612] rfl (by decide +kernel)
set_option maxHeartbeats 4000000 in
set_option maxRecDepth 100000 in
theorem c_Tracer_gatherEdges (l : Launch) (D : va_G) (cI cG cL cB : ClassId) (o0 : Nat) (li : Nat) (cu_ : Nat) (ed : Nat) (ec : Int) (E : Int → Int) (r0 : Nat) (hf : Nat) (ht : Nat) (hz : Nat) (ca : Nat) (cu : Nat) (f0 : Nat) (f1 : Nat) (t0 : Nat) (t1 : Nat) (rn : Int) (Fa : Int → Int) (Fb : Int → Int) (Ta : Int → Int) (Tb : Int → Int) (Z : Int → Int) (wy : Int) (y : Int) (bE : ∀ j : Int, I32 (E j)) (bFa : ∀ j : Int, I32 (Fa j)) (bFb : ∀ j : Int, I32 (Fb j)) (bTa : ∀ j : Int, I32 (Ta j)) (bTb : ∀ j : Int, I32 (Tb j)) (bZ : ∀ j : Int, I32 (Z j)) (hrn0 : 0 ≤ rn) (hrn1 : rn ≤ 24) (hwy : wy = 0 ∨ wy = 1) (hIy : I32 y) : Cv l yTr_gatherEdges cTr_gatherEdges 6 none 1 0 0 D zCl (zT cI cG cL cB) [.ref o0, .ref r0, .int (zI wy), .int (zI y)] [(o0, .inr (8, [.ref li, .ref cu_, .ref ed, .int (zI ec)])), (ed, .inl (cI, 24, .inl (fI E))), (r0, .inr (6, [.ref hf, .ref ht, .ref hz, .int (zI rn), .ref ca, .ref cu])), (hf, .inl (cG, 2, .inr (.inr (.inr (.inr (g2 f0 f1)))))), (ht, .inl (cG, 2, .inr (.inr (.inr (.inr (g2 t0 t1)))))), (f0, .inl (cI, 24, .inl (fI Fa))), (f1, .inl (cI, 24, .inl (fI Fb))), (t0, .inl (cI, 24, .inl (fI Ta))), (t1, .inl (cI, 24, .inl (fI Tb))), (hz, .inl (cI, 24, .inl (fI Z)))] (fun w => ∃ E2 : Int → Int, ∃ ec2 : Int, (∀ j : Int, I32 (E2 j)) ∧ (arrL E2 ec2 (edgL (sel2 (owy wy) Fa Fb) (sel2 (owy wy) Ta Tb) y rn)) ∧ w = [(o0, .inr (8, [.ref li, .ref cu_, .ref ed, .int (zI ec2)])), (ed, .inl (cI, 24, .inl (fI E2))), (r0, .inr (6, [.ref hf, .ref ht, .ref hz, .int (zI rn), .ref ca, .ref cu])), (hf, .inl (cG, 2, .inr (.inr (.inr (.inr (g2 f0 f1)))))), (ht, .inl (cG, 2, .inr (.inr (.inr (.inr (g2 t0 t1)))))), (f0, .inl (cI, 24, .inl (fI Fa))), (f1, .inl (cI, 24, .inl (fI Fb))), (t0, .inl (cI, 24, .inl (fI Ta))), (t1, .inl (cI, 24, .inl (fI Tb))), (hz, .inl (cI, 24, .inl (fI Z)))]) := by
  rcases hwy with rfl | rfl
  · refine zBv (by decide) (Nat.le_of_ble_eq_true rfl) ?_
    intro p e s m args below meth c ls A H locs Q C hin hl hW hQ
    have hl : lv_has ls 6 [(0, .ref o0), (1, .ref r0), (2, .int (zI 0)), (3, .int (zI y))] := hl
    refine lv_iload_n C.1 C.2.1 dTr_gatherEdges_0 rfl (lv_at hl 2 rfl) ?_
    refine zcalli (wr := [(o0, .inr (8, [.ref li, .ref cu_, .ref ed, .int (zI ec)])), (ed, .inl (cI, 24, .inl (fI E))), (r0, .inr (6, [.ref hf, .ref ht, .ref hz, .int (zI rn), .ref ca, .ref cu])), (hf, .inl (cG, 2, .inr (.inr (.inr (.inr (g2 f0 f1)))))), (ht, .inl (cG, 2, .inr (.inr (.inr (.inr (g2 t0 t1)))))), (f0, .inl (cI, 24, .inl (fI Fa))), (f1, .inl (cI, 24, .inl (fI Fb))), (t0, .inl (cI, 24, .inl (fI Ta))), (t1, .inl (cI, 24, .inl (fI Tb))), (hz, .inl (cI, 24, .inl (fI Z)))]) C hW [] [0, 1, 2, 3, 4, 5, 6, 7, 8, 9] rfl rfl (by decide) (by decide) (zRunS (k := 1) (As := [.int (zI 0)]) (rest := []) C hW (c_Tracer_otherWay l D cI cG cL cB 0 (by omega) H.size) [] rfl (by decide) kTr_38 (by decide +kernel) ⟨by decide, by decide⟩ rfl hl.1 (Nat.le_of_ble_eq_true rfl) dTr_gatherEdges_1 ⟨by first | decide | omega, by first | decide | omega⟩) (fun x w H locs hq hW => ?_)
    obtain ⟨rfl, rfl⟩ := hq
    have hW : zw D zCl A s [(o0, .inr (8, [.ref li, .ref cu_, .ref ed, .int (zI ec)])), (ed, .inl (cI, 24, .inl (fI E))), (r0, .inr (6, [.ref hf, .ref ht, .ref hz, .int (zI rn), .ref ca, .ref cu])), (hf, .inl (cG, 2, .inr (.inr (.inr (.inr (g2 f0 f1)))))), (ht, .inl (cG, 2, .inr (.inr (.inr (.inr (g2 t0 t1)))))), (f0, .inl (cI, 24, .inl (fI Fa))), (f1, .inl (cI, 24, .inl (fI Fb))), (t0, .inl (cI, 24, .inl (fI Ta))), (t1, .inl (cI, 24, .inl (fI Tb))), (hz, .inl (cI, 24, .inl (fI Z)))] H locs := hW
    refine lv_istore (lv' := [(4, .int (zI 1)), (0, .ref o0), (1, .ref r0), (2, .int (zI 0)), (3, .int (zI y))]) C.1 C.2.1 dTr_gatherEdges_4 hl (by decide) rfl (fun ls hl => ?_)
    refine lv_aload_n C.1 C.2.1 dTr_gatherEdges_6 rfl (lv_at hl 1 rfl) ?_
    refine lv_iconst (v := zI 0) C.1 C.2.1 dTr_gatherEdges_7 (by decide) ?_
    refine zput C hW 0 3 tyTr tyTr_ok nmTr rfl rfl inTr (by decide) flTr_61 rfl rfl rfl rfl (Nat.le_of_ble_eq_true rfl) dTr_gatherEdges_8 (fun H locs hW => ?_)
    have hW : zw D zCl A s [(o0, .inr (8, [.ref li, .ref cu_, .ref ed, .int (zI 0)])), (ed, .inl (cI, 24, .inl (fI E))), (r0, .inr (6, [.ref hf, .ref ht, .ref hz, .int (zI rn), .ref ca, .ref cu])), (hf, .inl (cG, 2, .inr (.inr (.inr (.inr (g2 f0 f1)))))), (ht, .inl (cG, 2, .inr (.inr (.inr (.inr (g2 t0 t1)))))), (f0, .inl (cI, 24, .inl (fI Fa))), (f1, .inl (cI, 24, .inl (fI Fb))), (t0, .inl (cI, 24, .inl (fI Ta))), (t1, .inl (cI, 24, .inl (fI Tb))), (hz, .inl (cI, 24, .inl (fI Z)))] H locs := hW
    refine lv_iconst (v := zI 0) C.1 C.2.1 dTr_gatherEdges_11 (by decide) ?_
    refine lv_istore (lv' := [(5, .int (zI 0)), (4, .int (zI 1)), (0, .ref o0), (1, .ref r0), (2, .int (zI 0)), (3, .int (zI y))]) C.1 C.2.1 dTr_gatherEdges_12 hl (by decide) rfl (fun ls hl => ?_)
    have L14 : ∀ (N : Nat) (i : Int) (k : Int) (Ec : Int → Int), (rn - i).toNat < N → (0 ≤ i) → (i ≤ rn) → (0 ≤ k) → (k ≤ i) → (∀ j : Int, I32 (Ec j)) → (arrL Ec k (edgL (sel2 (owy 0) Fa Fb) (sel2 (owy 0) Ta Tb) y i)) → ∀ (ls : Array Slot) (H : Heap) (locs : List Loc), lv_has ls 6 [(5, .int (zI i)), (4, .int (zI 1)), (0, .ref o0), (1, .ref r0), (2, .int (zI 0)), (3, .int (zI y))] → zw D zCl A s [(o0, .inr (8, [.ref li, .ref cu_, .ref ed, .int (zI k)])), (ed, .inl (cI, 24, .inl (fI Ec))), (r0, .inr (6, [.ref hf, .ref ht, .ref hz, .int (zI rn), .ref ca, .ref cu])), (hf, .inl (cG, 2, .inr (.inr (.inr (.inr (g2 f0 f1)))))), (ht, .inl (cG, 2, .inr (.inr (.inr (.inr (g2 t0 t1)))))), (f0, .inl (cI, 24, .inl (fI Fa))), (f1, .inl (cI, 24, .inl (fI Fb))), (t0, .inl (cI, 24, .inl (fI Ta))), (t1, .inl (cI, 24, .inl (fI Tb))), (hz, .inl (cI, 24, .inl (fI Z)))] H locs → W p l e (zr 1 0 0) s m args below meth c H locs 0 0 Q (F0 m 14 ls []) := by
      intro N
      induction N with
      | zero => intro i k Ec hm; exact absurd hm (Nat.not_lt_zero _)
      | succ N ih14 =>
        intro i k Ec hm14 hi0 hi1 hk0 hk1 hbc hL ls H locs hl hW
        refine lv_iload C.1 C.2.1 dTr_gatherEdges_14 (lv_at hl 0 rfl) ?_
        refine lv_aload_n C.1 C.2.1 dTr_gatherEdges_16 rfl (lv_at hl 3 rfl) ?_
        refine zget C hW 2 3 rfl rfl inRe (by decide) flTr_64 rfl dTr_gatherEdges_17 ?_
        refine zicmp_ge (tgt := 78) C (by omega) (by omega) dTr_gatherEdges_20 (by decide) (fun c20 => ?_) (fun c20 => ?_)
        · exact hQ _ H locs _ _ _ ls hW ⟨Ec, k, hbc, (by rw [show rn = i by omega]; exact hL), rfl⟩ (by omega) (by omega) dTr_gatherEdges_78
        · refine lv_aload_n C.1 C.2.1 dTr_gatherEdges_23 rfl (lv_at hl 3 rfl) ?_
          refine zget C hW 2 0 rfl rfl inRe (by decide) flTr_67 rfl dTr_gatherEdges_24 ?_
          refine lv_iload C.1 C.2.1 dTr_gatherEdges_27 (lv_at hl 1 rfl) ?_
          refine zgald C hW 3 1 (r := f1) rfl rfl rfl (by omega) (by omega) (by decide) rfl dTr_gatherEdges_29 ?_
          refine lv_iload C.1 C.2.1 dTr_gatherEdges_30 (lv_at hl 0 rfl) ?_
          refine ziald C hW 6 0 rfl rfl (by omega) (by omega) (by decide) dTr_gatherEdges_32 ?_
          have hb1 := bFb i
          refine lv_iload_n C.1 C.2.1 dTr_gatherEdges_33 rfl (lv_at hl 5 rfl) ?_
          refine zicmp_eq (tgt := 51) C (by omega) (by omega) dTr_gatherEdges_34 (by decide) (fun c34 => ?_) (fun c34 => ?_)
          · refine lv_aload_n C.1 C.2.1 dTr_gatherEdges_51 rfl (lv_at hl 2 rfl) ?_
            refine zget C hW 0 2 rfl rfl inTr (by decide) flTr_21 rfl dTr_gatherEdges_52 ?_
            refine lv_aload_n C.1 C.2.1 dTr_gatherEdges_55 rfl (lv_at hl 2 rfl) ?_
            refine zget C hW 0 3 rfl rfl inTr (by decide) flTr_61 rfl dTr_gatherEdges_56 ?_
            refine lv_iload C.1 C.2.1 dTr_gatherEdges_59 (lv_at hl 0 rfl) ?_
            refine ziast C hW 1 0 rfl rfl (by omega) (by omega) (by decide) dTr_gatherEdges_61 (fun H locs hW => ?_)
            have hB2 : ∀ jj : Int, I32 ((upz Ec k i) jj) := upz_b hbc (by omega)
            have hW : zw D zCl A s [(o0, .inr (8, [.ref li, .ref cu_, .ref ed, .int (zI k)])), (ed, .inl (cI, 24, .inl (fI (upz Ec k i)))), (r0, .inr (6, [.ref hf, .ref ht, .ref hz, .int (zI rn), .ref ca, .ref cu])), (hf, .inl (cG, 2, .inr (.inr (.inr (.inr (g2 f0 f1)))))), (ht, .inl (cG, 2, .inr (.inr (.inr (.inr (g2 t0 t1)))))), (f0, .inl (cI, 24, .inl (fI Fa))), (f1, .inl (cI, 24, .inl (fI Fb))), (t0, .inl (cI, 24, .inl (fI Ta))), (t1, .inl (cI, 24, .inl (fI Tb))), (hz, .inl (cI, 24, .inl (fI Z)))] H locs := hW
            refine lv_aload_n C.1 C.2.1 dTr_gatherEdges_62 rfl (lv_at hl 2 rfl) ?_
            refine lv_dup C.1 C.2.1 dTr_gatherEdges_63 rfl ?_
            refine zget C hW 0 3 rfl rfl inTr (by decide) flTr_61 rfl dTr_gatherEdges_64 ?_
            refine lv_iconst (v := zI 1) C.1 C.2.1 dTr_gatherEdges_67 (by decide) ?_
            refine ziadd C dTr_gatherEdges_68 ?_
            refine zput C hW 0 3 tyTr tyTr_ok nmTr rfl rfl inTr (by decide) flTr_61 rfl rfl rfl rfl (Nat.le_of_ble_eq_true rfl) dTr_gatherEdges_69 (fun H locs hW => ?_)
            have hW : zw D zCl A s [(o0, .inr (8, [.ref li, .ref cu_, .ref ed, .int (zI (k + 1))])), (ed, .inl (cI, 24, .inl (fI (upz Ec k i)))), (r0, .inr (6, [.ref hf, .ref ht, .ref hz, .int (zI rn), .ref ca, .ref cu])), (hf, .inl (cG, 2, .inr (.inr (.inr (.inr (g2 f0 f1)))))), (ht, .inl (cG, 2, .inr (.inr (.inr (.inr (g2 t0 t1)))))), (f0, .inl (cI, 24, .inl (fI Fa))), (f1, .inl (cI, 24, .inl (fI Fb))), (t0, .inl (cI, 24, .inl (fI Ta))), (t1, .inl (cI, 24, .inl (fI Tb))), (hz, .inl (cI, 24, .inl (fI Z)))] H locs := hW
            refine lv_iinc (v := zI (i + 1)) (lv' := [(5, .int (zI (i + 1))), (4, .int (zI 1)), (0, .ref o0), (1, .ref r0), (2, .int (zI 0)), (3, .int (zI y))]) C.1 C.2.1 dTr_gatherEdges_72 hl (k := 0) rfl (zI_add i 1) (by decide) rfl (fun ls hl => ?_)
            refine lv_goto (tgt := 14) C.1 C.2.1 dTr_gatherEdges_75 (by decide) ?_
            exact ih14 (i + 1) (k + 1) (upz Ec k i) (by omega) (by omega) (by omega) (by omega) (by omega) hB2 (by rw [edgL_t hi0 (decide_eq_true (by simp only [sel2, owy]; simp; omega))]; exact arrL_app hL) ls H locs (lv_sub hl [0, 1, 2, 3, 4, 5] rfl) hW
          · refine lv_aload_n C.1 C.2.1 dTr_gatherEdges_37 rfl (lv_at hl 3 rfl) ?_
            refine zget C hW 2 1 rfl rfl inRe (by decide) flTr_71 rfl dTr_gatherEdges_38 ?_
            refine lv_iload C.1 C.2.1 dTr_gatherEdges_41 (lv_at hl 1 rfl) ?_
            refine zgald C hW 4 1 (r := t1) rfl rfl rfl (by omega) (by omega) (by decide) rfl dTr_gatherEdges_43 ?_
            refine lv_iload C.1 C.2.1 dTr_gatherEdges_44 (lv_at hl 0 rfl) ?_
            refine ziald C hW 8 0 rfl rfl (by omega) (by omega) (by decide) dTr_gatherEdges_46 ?_
            have hb3 := bTb i
            refine lv_iload_n C.1 C.2.1 dTr_gatherEdges_47 rfl (lv_at hl 5 rfl) ?_
            refine zicmp_ne (tgt := 72) C (by omega) (by omega) dTr_gatherEdges_48 (by decide) (fun c48 => ?_) (fun c48 => ?_)
            · refine lv_iinc (v := zI (i + 1)) (lv' := [(5, .int (zI (i + 1))), (4, .int (zI 1)), (0, .ref o0), (1, .ref r0), (2, .int (zI 0)), (3, .int (zI y))]) C.1 C.2.1 dTr_gatherEdges_72 hl (k := 0) rfl (zI_add i 1) (by decide) rfl (fun ls hl => ?_)
              refine lv_goto (tgt := 14) C.1 C.2.1 dTr_gatherEdges_75 (by decide) ?_
              exact ih14 (i + 1) k Ec (by omega) (by omega) (by omega) (by omega) (by omega) hbc (by rw [edgL_f hi0 (decide_eq_false (by simp only [sel2, owy]; simp; omega))]; exact hL) ls H locs (lv_sub hl [0, 1, 2, 3, 4, 5] rfl) hW
            · refine lv_aload_n C.1 C.2.1 dTr_gatherEdges_51 rfl (lv_at hl 2 rfl) ?_
              refine zget C hW 0 2 rfl rfl inTr (by decide) flTr_21 rfl dTr_gatherEdges_52 ?_
              refine lv_aload_n C.1 C.2.1 dTr_gatherEdges_55 rfl (lv_at hl 2 rfl) ?_
              refine zget C hW 0 3 rfl rfl inTr (by decide) flTr_61 rfl dTr_gatherEdges_56 ?_
              refine lv_iload C.1 C.2.1 dTr_gatherEdges_59 (lv_at hl 0 rfl) ?_
              refine ziast C hW 1 0 rfl rfl (by omega) (by omega) (by decide) dTr_gatherEdges_61 (fun H locs hW => ?_)
              have hB4 : ∀ jj : Int, I32 ((upz Ec k i) jj) := upz_b hbc (by omega)
              have hW : zw D zCl A s [(o0, .inr (8, [.ref li, .ref cu_, .ref ed, .int (zI k)])), (ed, .inl (cI, 24, .inl (fI (upz Ec k i)))), (r0, .inr (6, [.ref hf, .ref ht, .ref hz, .int (zI rn), .ref ca, .ref cu])), (hf, .inl (cG, 2, .inr (.inr (.inr (.inr (g2 f0 f1)))))), (ht, .inl (cG, 2, .inr (.inr (.inr (.inr (g2 t0 t1)))))), (f0, .inl (cI, 24, .inl (fI Fa))), (f1, .inl (cI, 24, .inl (fI Fb))), (t0, .inl (cI, 24, .inl (fI Ta))), (t1, .inl (cI, 24, .inl (fI Tb))), (hz, .inl (cI, 24, .inl (fI Z)))] H locs := hW
              refine lv_aload_n C.1 C.2.1 dTr_gatherEdges_62 rfl (lv_at hl 2 rfl) ?_
              refine lv_dup C.1 C.2.1 dTr_gatherEdges_63 rfl ?_
              refine zget C hW 0 3 rfl rfl inTr (by decide) flTr_61 rfl dTr_gatherEdges_64 ?_
              refine lv_iconst (v := zI 1) C.1 C.2.1 dTr_gatherEdges_67 (by decide) ?_
              refine ziadd C dTr_gatherEdges_68 ?_
              refine zput C hW 0 3 tyTr tyTr_ok nmTr rfl rfl inTr (by decide) flTr_61 rfl rfl rfl rfl (Nat.le_of_ble_eq_true rfl) dTr_gatherEdges_69 (fun H locs hW => ?_)
              have hW : zw D zCl A s [(o0, .inr (8, [.ref li, .ref cu_, .ref ed, .int (zI (k + 1))])), (ed, .inl (cI, 24, .inl (fI (upz Ec k i)))), (r0, .inr (6, [.ref hf, .ref ht, .ref hz, .int (zI rn), .ref ca, .ref cu])), (hf, .inl (cG, 2, .inr (.inr (.inr (.inr (g2 f0 f1)))))), (ht, .inl (cG, 2, .inr (.inr (.inr (.inr (g2 t0 t1)))))), (f0, .inl (cI, 24, .inl (fI Fa))), (f1, .inl (cI, 24, .inl (fI Fb))), (t0, .inl (cI, 24, .inl (fI Ta))), (t1, .inl (cI, 24, .inl (fI Tb))), (hz, .inl (cI, 24, .inl (fI Z)))] H locs := hW
              refine lv_iinc (v := zI (i + 1)) (lv' := [(5, .int (zI (i + 1))), (4, .int (zI 1)), (0, .ref o0), (1, .ref r0), (2, .int (zI 0)), (3, .int (zI y))]) C.1 C.2.1 dTr_gatherEdges_72 hl (k := 0) rfl (zI_add i 1) (by decide) rfl (fun ls hl => ?_)
              refine lv_goto (tgt := 14) C.1 C.2.1 dTr_gatherEdges_75 (by decide) ?_
              exact ih14 (i + 1) (k + 1) (upz Ec k i) (by omega) (by omega) (by omega) (by omega) (by omega) hB4 (by rw [edgL_t hi0 (decide_eq_true (by simp only [sel2, owy]; simp; omega))]; exact arrL_app hL) ls H locs (lv_sub hl [0, 1, 2, 3, 4, 5] rfl) hW
    exact L14 _ 0 0 E (Nat.lt_succ_self _) (by omega) (by omega) (by omega) (by omega) bE ⟨rfl, fun k h => absurd h (Nat.not_lt_zero k)⟩ ls H locs (lv_sub hl [0, 1, 2, 3, 4, 5] rfl) hW
  · refine zBv (by decide) (Nat.le_of_ble_eq_true rfl) ?_
    intro p e s m args below meth c ls A H locs Q C hin hl hW hQ
    have hl : lv_has ls 6 [(0, .ref o0), (1, .ref r0), (2, .int (zI 1)), (3, .int (zI y))] := hl
    refine lv_iload_n C.1 C.2.1 dTr_gatherEdges_0 rfl (lv_at hl 2 rfl) ?_
    refine zcalli (wr := [(o0, .inr (8, [.ref li, .ref cu_, .ref ed, .int (zI ec)])), (ed, .inl (cI, 24, .inl (fI E))), (r0, .inr (6, [.ref hf, .ref ht, .ref hz, .int (zI rn), .ref ca, .ref cu])), (hf, .inl (cG, 2, .inr (.inr (.inr (.inr (g2 f0 f1)))))), (ht, .inl (cG, 2, .inr (.inr (.inr (.inr (g2 t0 t1)))))), (f0, .inl (cI, 24, .inl (fI Fa))), (f1, .inl (cI, 24, .inl (fI Fb))), (t0, .inl (cI, 24, .inl (fI Ta))), (t1, .inl (cI, 24, .inl (fI Tb))), (hz, .inl (cI, 24, .inl (fI Z)))]) C hW [] [0, 1, 2, 3, 4, 5, 6, 7, 8, 9] rfl rfl (by decide) (by decide) (zRunS (k := 1) (As := [.int (zI 1)]) (rest := []) C hW (c_Tracer_otherWay l D cI cG cL cB 1 (by omega) H.size) [] rfl (by decide) kTr_38 (by decide +kernel) ⟨by decide, by decide⟩ rfl hl.1 (Nat.le_of_ble_eq_true rfl) dTr_gatherEdges_1 ⟨by first | decide | omega, by first | decide | omega⟩) (fun x w H locs hq hW => ?_)
    obtain ⟨rfl, rfl⟩ := hq
    have hW : zw D zCl A s [(o0, .inr (8, [.ref li, .ref cu_, .ref ed, .int (zI ec)])), (ed, .inl (cI, 24, .inl (fI E))), (r0, .inr (6, [.ref hf, .ref ht, .ref hz, .int (zI rn), .ref ca, .ref cu])), (hf, .inl (cG, 2, .inr (.inr (.inr (.inr (g2 f0 f1)))))), (ht, .inl (cG, 2, .inr (.inr (.inr (.inr (g2 t0 t1)))))), (f0, .inl (cI, 24, .inl (fI Fa))), (f1, .inl (cI, 24, .inl (fI Fb))), (t0, .inl (cI, 24, .inl (fI Ta))), (t1, .inl (cI, 24, .inl (fI Tb))), (hz, .inl (cI, 24, .inl (fI Z)))] H locs := hW
    refine lv_istore (lv' := [(4, .int (zI 0)), (0, .ref o0), (1, .ref r0), (2, .int (zI 1)), (3, .int (zI y))]) C.1 C.2.1 dTr_gatherEdges_4 hl (by decide) rfl (fun ls hl => ?_)
    refine lv_aload_n C.1 C.2.1 dTr_gatherEdges_6 rfl (lv_at hl 1 rfl) ?_
    refine lv_iconst (v := zI 0) C.1 C.2.1 dTr_gatherEdges_7 (by decide) ?_
    refine zput C hW 0 3 tyTr tyTr_ok nmTr rfl rfl inTr (by decide) flTr_61 rfl rfl rfl rfl (Nat.le_of_ble_eq_true rfl) dTr_gatherEdges_8 (fun H locs hW => ?_)
    have hW : zw D zCl A s [(o0, .inr (8, [.ref li, .ref cu_, .ref ed, .int (zI 0)])), (ed, .inl (cI, 24, .inl (fI E))), (r0, .inr (6, [.ref hf, .ref ht, .ref hz, .int (zI rn), .ref ca, .ref cu])), (hf, .inl (cG, 2, .inr (.inr (.inr (.inr (g2 f0 f1)))))), (ht, .inl (cG, 2, .inr (.inr (.inr (.inr (g2 t0 t1)))))), (f0, .inl (cI, 24, .inl (fI Fa))), (f1, .inl (cI, 24, .inl (fI Fb))), (t0, .inl (cI, 24, .inl (fI Ta))), (t1, .inl (cI, 24, .inl (fI Tb))), (hz, .inl (cI, 24, .inl (fI Z)))] H locs := hW
    refine lv_iconst (v := zI 0) C.1 C.2.1 dTr_gatherEdges_11 (by decide) ?_
    refine lv_istore (lv' := [(5, .int (zI 0)), (4, .int (zI 0)), (0, .ref o0), (1, .ref r0), (2, .int (zI 1)), (3, .int (zI y))]) C.1 C.2.1 dTr_gatherEdges_12 hl (by decide) rfl (fun ls hl => ?_)
    have L14 : ∀ (N : Nat) (i : Int) (k : Int) (Ec : Int → Int), (rn - i).toNat < N → (0 ≤ i) → (i ≤ rn) → (0 ≤ k) → (k ≤ i) → (∀ j : Int, I32 (Ec j)) → (arrL Ec k (edgL (sel2 (owy 1) Fa Fb) (sel2 (owy 1) Ta Tb) y i)) → ∀ (ls : Array Slot) (H : Heap) (locs : List Loc), lv_has ls 6 [(5, .int (zI i)), (4, .int (zI 0)), (0, .ref o0), (1, .ref r0), (2, .int (zI 1)), (3, .int (zI y))] → zw D zCl A s [(o0, .inr (8, [.ref li, .ref cu_, .ref ed, .int (zI k)])), (ed, .inl (cI, 24, .inl (fI Ec))), (r0, .inr (6, [.ref hf, .ref ht, .ref hz, .int (zI rn), .ref ca, .ref cu])), (hf, .inl (cG, 2, .inr (.inr (.inr (.inr (g2 f0 f1)))))), (ht, .inl (cG, 2, .inr (.inr (.inr (.inr (g2 t0 t1)))))), (f0, .inl (cI, 24, .inl (fI Fa))), (f1, .inl (cI, 24, .inl (fI Fb))), (t0, .inl (cI, 24, .inl (fI Ta))), (t1, .inl (cI, 24, .inl (fI Tb))), (hz, .inl (cI, 24, .inl (fI Z)))] H locs → W p l e (zr 1 0 0) s m args below meth c H locs 0 0 Q (F0 m 14 ls []) := by
      intro N
      induction N with
      | zero => intro i k Ec hm; exact absurd hm (Nat.not_lt_zero _)
      | succ N ih14 =>
        intro i k Ec hm14 hi0 hi1 hk0 hk1 hbc hL ls H locs hl hW
        refine lv_iload C.1 C.2.1 dTr_gatherEdges_14 (lv_at hl 0 rfl) ?_
        refine lv_aload_n C.1 C.2.1 dTr_gatherEdges_16 rfl (lv_at hl 3 rfl) ?_
        refine zget C hW 2 3 rfl rfl inRe (by decide) flTr_64 rfl dTr_gatherEdges_17 ?_
        refine zicmp_ge (tgt := 78) C (by omega) (by omega) dTr_gatherEdges_20 (by decide) (fun c20 => ?_) (fun c20 => ?_)
        · exact hQ _ H locs _ _ _ ls hW ⟨Ec, k, hbc, (by rw [show rn = i by omega]; exact hL), rfl⟩ (by omega) (by omega) dTr_gatherEdges_78
        · refine lv_aload_n C.1 C.2.1 dTr_gatherEdges_23 rfl (lv_at hl 3 rfl) ?_
          refine zget C hW 2 0 rfl rfl inRe (by decide) flTr_67 rfl dTr_gatherEdges_24 ?_
          refine lv_iload C.1 C.2.1 dTr_gatherEdges_27 (lv_at hl 1 rfl) ?_
          refine zgald C hW 3 1 (r := f0) rfl rfl rfl (by omega) (by omega) (by decide) rfl dTr_gatherEdges_29 ?_
          refine lv_iload C.1 C.2.1 dTr_gatherEdges_30 (lv_at hl 0 rfl) ?_
          refine ziald C hW 5 0 rfl rfl (by omega) (by omega) (by decide) dTr_gatherEdges_32 ?_
          have hb1 := bFa i
          refine lv_iload_n C.1 C.2.1 dTr_gatherEdges_33 rfl (lv_at hl 5 rfl) ?_
          refine zicmp_eq (tgt := 51) C (by omega) (by omega) dTr_gatherEdges_34 (by decide) (fun c34 => ?_) (fun c34 => ?_)
          · refine lv_aload_n C.1 C.2.1 dTr_gatherEdges_51 rfl (lv_at hl 2 rfl) ?_
            refine zget C hW 0 2 rfl rfl inTr (by decide) flTr_21 rfl dTr_gatherEdges_52 ?_
            refine lv_aload_n C.1 C.2.1 dTr_gatherEdges_55 rfl (lv_at hl 2 rfl) ?_
            refine zget C hW 0 3 rfl rfl inTr (by decide) flTr_61 rfl dTr_gatherEdges_56 ?_
            refine lv_iload C.1 C.2.1 dTr_gatherEdges_59 (lv_at hl 0 rfl) ?_
            refine ziast C hW 1 0 rfl rfl (by omega) (by omega) (by decide) dTr_gatherEdges_61 (fun H locs hW => ?_)
            have hB2 : ∀ jj : Int, I32 ((upz Ec k i) jj) := upz_b hbc (by omega)
            have hW : zw D zCl A s [(o0, .inr (8, [.ref li, .ref cu_, .ref ed, .int (zI k)])), (ed, .inl (cI, 24, .inl (fI (upz Ec k i)))), (r0, .inr (6, [.ref hf, .ref ht, .ref hz, .int (zI rn), .ref ca, .ref cu])), (hf, .inl (cG, 2, .inr (.inr (.inr (.inr (g2 f0 f1)))))), (ht, .inl (cG, 2, .inr (.inr (.inr (.inr (g2 t0 t1)))))), (f0, .inl (cI, 24, .inl (fI Fa))), (f1, .inl (cI, 24, .inl (fI Fb))), (t0, .inl (cI, 24, .inl (fI Ta))), (t1, .inl (cI, 24, .inl (fI Tb))), (hz, .inl (cI, 24, .inl (fI Z)))] H locs := hW
            refine lv_aload_n C.1 C.2.1 dTr_gatherEdges_62 rfl (lv_at hl 2 rfl) ?_
            refine lv_dup C.1 C.2.1 dTr_gatherEdges_63 rfl ?_
            refine zget C hW 0 3 rfl rfl inTr (by decide) flTr_61 rfl dTr_gatherEdges_64 ?_
            refine lv_iconst (v := zI 1) C.1 C.2.1 dTr_gatherEdges_67 (by decide) ?_
            refine ziadd C dTr_gatherEdges_68 ?_
            refine zput C hW 0 3 tyTr tyTr_ok nmTr rfl rfl inTr (by decide) flTr_61 rfl rfl rfl rfl (Nat.le_of_ble_eq_true rfl) dTr_gatherEdges_69 (fun H locs hW => ?_)
            have hW : zw D zCl A s [(o0, .inr (8, [.ref li, .ref cu_, .ref ed, .int (zI (k + 1))])), (ed, .inl (cI, 24, .inl (fI (upz Ec k i)))), (r0, .inr (6, [.ref hf, .ref ht, .ref hz, .int (zI rn), .ref ca, .ref cu])), (hf, .inl (cG, 2, .inr (.inr (.inr (.inr (g2 f0 f1)))))), (ht, .inl (cG, 2, .inr (.inr (.inr (.inr (g2 t0 t1)))))), (f0, .inl (cI, 24, .inl (fI Fa))), (f1, .inl (cI, 24, .inl (fI Fb))), (t0, .inl (cI, 24, .inl (fI Ta))), (t1, .inl (cI, 24, .inl (fI Tb))), (hz, .inl (cI, 24, .inl (fI Z)))] H locs := hW
            refine lv_iinc (v := zI (i + 1)) (lv' := [(5, .int (zI (i + 1))), (4, .int (zI 0)), (0, .ref o0), (1, .ref r0), (2, .int (zI 1)), (3, .int (zI y))]) C.1 C.2.1 dTr_gatherEdges_72 hl (k := 0) rfl (zI_add i 1) (by decide) rfl (fun ls hl => ?_)
            refine lv_goto (tgt := 14) C.1 C.2.1 dTr_gatherEdges_75 (by decide) ?_
            exact ih14 (i + 1) (k + 1) (upz Ec k i) (by omega) (by omega) (by omega) (by omega) (by omega) hB2 (by rw [edgL_t hi0 (decide_eq_true (by simp only [sel2, owy]; simp; omega))]; exact arrL_app hL) ls H locs (lv_sub hl [0, 1, 2, 3, 4, 5] rfl) hW
          · refine lv_aload_n C.1 C.2.1 dTr_gatherEdges_37 rfl (lv_at hl 3 rfl) ?_
            refine zget C hW 2 1 rfl rfl inRe (by decide) flTr_71 rfl dTr_gatherEdges_38 ?_
            refine lv_iload C.1 C.2.1 dTr_gatherEdges_41 (lv_at hl 1 rfl) ?_
            refine zgald C hW 4 1 (r := t0) rfl rfl rfl (by omega) (by omega) (by decide) rfl dTr_gatherEdges_43 ?_
            refine lv_iload C.1 C.2.1 dTr_gatherEdges_44 (lv_at hl 0 rfl) ?_
            refine ziald C hW 7 0 rfl rfl (by omega) (by omega) (by decide) dTr_gatherEdges_46 ?_
            have hb3 := bTa i
            refine lv_iload_n C.1 C.2.1 dTr_gatherEdges_47 rfl (lv_at hl 5 rfl) ?_
            refine zicmp_ne (tgt := 72) C (by omega) (by omega) dTr_gatherEdges_48 (by decide) (fun c48 => ?_) (fun c48 => ?_)
            · refine lv_iinc (v := zI (i + 1)) (lv' := [(5, .int (zI (i + 1))), (4, .int (zI 0)), (0, .ref o0), (1, .ref r0), (2, .int (zI 1)), (3, .int (zI y))]) C.1 C.2.1 dTr_gatherEdges_72 hl (k := 0) rfl (zI_add i 1) (by decide) rfl (fun ls hl => ?_)
              refine lv_goto (tgt := 14) C.1 C.2.1 dTr_gatherEdges_75 (by decide) ?_
              exact ih14 (i + 1) k Ec (by omega) (by omega) (by omega) (by omega) (by omega) hbc (by rw [edgL_f hi0 (decide_eq_false (by simp only [sel2, owy]; simp; omega))]; exact hL) ls H locs (lv_sub hl [0, 1, 2, 3, 4, 5] rfl) hW
            · refine lv_aload_n C.1 C.2.1 dTr_gatherEdges_51 rfl (lv_at hl 2 rfl) ?_
              refine zget C hW 0 2 rfl rfl inTr (by decide) flTr_21 rfl dTr_gatherEdges_52 ?_
              refine lv_aload_n C.1 C.2.1 dTr_gatherEdges_55 rfl (lv_at hl 2 rfl) ?_
              refine zget C hW 0 3 rfl rfl inTr (by decide) flTr_61 rfl dTr_gatherEdges_56 ?_
              refine lv_iload C.1 C.2.1 dTr_gatherEdges_59 (lv_at hl 0 rfl) ?_
              refine ziast C hW 1 0 rfl rfl (by omega) (by omega) (by decide) dTr_gatherEdges_61 (fun H locs hW => ?_)
              have hB4 : ∀ jj : Int, I32 ((upz Ec k i) jj) := upz_b hbc (by omega)
              have hW : zw D zCl A s [(o0, .inr (8, [.ref li, .ref cu_, .ref ed, .int (zI k)])), (ed, .inl (cI, 24, .inl (fI (upz Ec k i)))), (r0, .inr (6, [.ref hf, .ref ht, .ref hz, .int (zI rn), .ref ca, .ref cu])), (hf, .inl (cG, 2, .inr (.inr (.inr (.inr (g2 f0 f1)))))), (ht, .inl (cG, 2, .inr (.inr (.inr (.inr (g2 t0 t1)))))), (f0, .inl (cI, 24, .inl (fI Fa))), (f1, .inl (cI, 24, .inl (fI Fb))), (t0, .inl (cI, 24, .inl (fI Ta))), (t1, .inl (cI, 24, .inl (fI Tb))), (hz, .inl (cI, 24, .inl (fI Z)))] H locs := hW
              refine lv_aload_n C.1 C.2.1 dTr_gatherEdges_62 rfl (lv_at hl 2 rfl) ?_
              refine lv_dup C.1 C.2.1 dTr_gatherEdges_63 rfl ?_
              refine zget C hW 0 3 rfl rfl inTr (by decide) flTr_61 rfl dTr_gatherEdges_64 ?_
              refine lv_iconst (v := zI 1) C.1 C.2.1 dTr_gatherEdges_67 (by decide) ?_
              refine ziadd C dTr_gatherEdges_68 ?_
              refine zput C hW 0 3 tyTr tyTr_ok nmTr rfl rfl inTr (by decide) flTr_61 rfl rfl rfl rfl (Nat.le_of_ble_eq_true rfl) dTr_gatherEdges_69 (fun H locs hW => ?_)
              have hW : zw D zCl A s [(o0, .inr (8, [.ref li, .ref cu_, .ref ed, .int (zI (k + 1))])), (ed, .inl (cI, 24, .inl (fI (upz Ec k i)))), (r0, .inr (6, [.ref hf, .ref ht, .ref hz, .int (zI rn), .ref ca, .ref cu])), (hf, .inl (cG, 2, .inr (.inr (.inr (.inr (g2 f0 f1)))))), (ht, .inl (cG, 2, .inr (.inr (.inr (.inr (g2 t0 t1)))))), (f0, .inl (cI, 24, .inl (fI Fa))), (f1, .inl (cI, 24, .inl (fI Fb))), (t0, .inl (cI, 24, .inl (fI Ta))), (t1, .inl (cI, 24, .inl (fI Tb))), (hz, .inl (cI, 24, .inl (fI Z)))] H locs := hW
              refine lv_iinc (v := zI (i + 1)) (lv' := [(5, .int (zI (i + 1))), (4, .int (zI 0)), (0, .ref o0), (1, .ref r0), (2, .int (zI 1)), (3, .int (zI y))]) C.1 C.2.1 dTr_gatherEdges_72 hl (k := 0) rfl (zI_add i 1) (by decide) rfl (fun ls hl => ?_)
              refine lv_goto (tgt := 14) C.1 C.2.1 dTr_gatherEdges_75 (by decide) ?_
              exact ih14 (i + 1) (k + 1) (upz Ec k i) (by omega) (by omega) (by omega) (by omega) (by omega) hB4 (by rw [edgL_t hi0 (decide_eq_true (by simp only [sel2, owy]; simp; omega))]; exact arrL_app hL) ls H locs (lv_sub hl [0, 1, 2, 3, 4, 5] rfl) hW
    exact L14 _ 0 0 E (Nat.lt_succ_self _) (by omega) (by omega) (by omega) (by omega) bE ⟨rfl, fun k h => absurd h (Nat.not_lt_zero k)⟩ ls H locs (lv_sub hl [0, 1, 2, 3, 4, 5] rfl) hW
set_option maxHeartbeats 4000000 in
set_option maxRecDepth 100000 in
theorem c_Tracer_stateFrom (l : Launch) (D : va_G) (cI cG cL cB : ClassId) (o0 : Nat) (li : Nat) (cu_ : Nat) (ed : Nat) (ec : Int) (E : Int → Int) (k1 : Nat) (nk : Int) (GK : Int → Int) (r0 : Nat) (hf : Nat) (ht : Nat) (hz : Nat) (ca : Nat) (cu : Nat) (f0 : Nat) (f1 : Nat) (t0 : Nat) (t1 : Nat) (rn : Int) (Fa : Int → Int) (Fb : Int → Int) (Ta : Int → Int) (Tb : Int → Int) (Z : Int → Int) (wy : Int) (y : Int) (k : Int) (L : List Int) (bE : ∀ j : Int, I32 (E j)) (bGK : ∀ j : Int, I32 (GK j)) (bFa : ∀ j : Int, I32 (Fa j)) (bFb : ∀ j : Int, I32 (Fb j)) (bTa : ∀ j : Int, I32 (Ta j)) (bTb : ∀ j : Int, I32 (Tb j)) (bZ : ∀ j : Int, I32 (Z j)) (hrn0 : 0 ≤ rn) (hrn1 : rn ≤ 24) (hwy : wy = 0 ∨ wy = 1) (hIy : I32 y) (hk0 : 0 ≤ k) (hk1 : k + 1 < nk) (hk2 : nk ≤ 48) (hL : arrL E ec L) (hLl : L.length ≤ 24) (hLa : ∀ z ∈ L, 0 ≤ z ∧ z < 24) : Ci l yTr_stateFrom cTr_stateFrom 9 (some .int) 2 0 0 D zCl (zT cI cG cL cB) [.ref o0, .ref r0, .int (zI wy), .int (zI y), .int (zI k)] [(o0, .inr (8, [.ref li, .ref cu_, .ref ed, .int (zI ec)])), (ed, .inl (cI, 24, .inl (fI E))), (cu_, .inr (2, [.ref k1, .int (zI nk)])), (k1, .inl (cI, 48, .inl (fI GK))), (r0, .inr (6, [.ref hf, .ref ht, .ref hz, .int (zI rn), .ref ca, .ref cu])), (hf, .inl (cG, 2, .inr (.inr (.inr (.inr (g2 f0 f1)))))), (ht, .inl (cG, 2, .inr (.inr (.inr (.inr (g2 t0 t1)))))), (f0, .inl (cI, 24, .inl (fI Fa))), (f1, .inl (cI, 24, .inl (fI Fb))), (t0, .inl (cI, 24, .inl (fI Ta))), (t1, .inl (cI, 24, .inl (fI Tb))), (hz, .inl (cI, 24, .inl (fI Z)))] (fun x w => x = zI (stE (sel2 wy Fa Fb) (sel2 wy Ta Tb) (sel2 (owy wy) Fa Fb) (sel2 (owy wy) Ta Tb) Z rn y (GK k) (GK (k + 1)) L) ∧ w = [(o0, .inr (8, [.ref li, .ref cu_, .ref ed, .int (zI ec)])), (ed, .inl (cI, 24, .inl (fI E))), (cu_, .inr (2, [.ref k1, .int (zI nk)])), (k1, .inl (cI, 48, .inl (fI GK))), (r0, .inr (6, [.ref hf, .ref ht, .ref hz, .int (zI rn), .ref ca, .ref cu])), (hf, .inl (cG, 2, .inr (.inr (.inr (.inr (g2 f0 f1)))))), (ht, .inl (cG, 2, .inr (.inr (.inr (.inr (g2 t0 t1)))))), (f0, .inl (cI, 24, .inl (fI Fa))), (f1, .inl (cI, 24, .inl (fI Fb))), (t0, .inl (cI, 24, .inl (fI Ta))), (t1, .inl (cI, 24, .inl (fI Tb))), (hz, .inl (cI, 24, .inl (fI Z)))]) := by
  refine zBi (by decide) (Nat.le_of_ble_eq_true rfl) ?_
  intro p e s m args below meth c ls A H locs Q C hin hl hW hQ
  have hl : lv_has ls 9 [(0, .ref o0), (1, .ref r0), (2, .int (zI wy)), (3, .int (zI y)), (4, .int (zI k))] := hl
  obtain ⟨hn, hG⟩ := id hL
  refine lv_aload_n C.1 C.2.1 dTr_stateFrom_0 rfl (lv_at hl 0 rfl) ?_
  refine zget C hW 0 1 rfl rfl inTr (by decide) flTr_18 rfl dTr_stateFrom_1 ?_
  refine zget C hW 2 0 rfl rfl inCu (by decide) flTr_50 rfl dTr_stateFrom_4 ?_
  refine lv_iload C.1 C.2.1 dTr_stateFrom_7 (lv_at hl 4 rfl) ?_
  refine ziald C hW 3 0 rfl rfl (by omega) (by omega) (by decide) dTr_stateFrom_9 ?_
  have hb1 := bGK k
  refine lv_istore (lv' := [(5, .int (zI (GK k))), (0, .ref o0), (1, .ref r0), (2, .int (zI wy)), (3, .int (zI y)), (4, .int (zI k))]) C.1 C.2.1 dTr_stateFrom_10 hl (by decide) rfl (fun ls hl => ?_)
  refine lv_aload_n C.1 C.2.1 dTr_stateFrom_12 rfl (lv_at hl 1 rfl) ?_
  refine zget C hW 0 1 rfl rfl inTr (by decide) flTr_18 rfl dTr_stateFrom_13 ?_
  refine zget C hW 2 0 rfl rfl inCu (by decide) flTr_50 rfl dTr_stateFrom_16 ?_
  refine lv_iload C.1 C.2.1 dTr_stateFrom_19 (lv_at hl 5 rfl) ?_
  refine lv_iconst (v := zI 1) C.1 C.2.1 dTr_stateFrom_21 (by decide) ?_
  refine ziadd C dTr_stateFrom_22 ?_
  refine ziald C hW 3 0 rfl rfl (by omega) (by omega) (by decide) dTr_stateFrom_23 ?_
  have hb2 := bGK (k + 1)
  refine lv_istore (lv' := [(6, .int (zI (GK (k + 1)))), (5, .int (zI (GK k))), (0, .ref o0), (1, .ref r0), (2, .int (zI wy)), (3, .int (zI y)), (4, .int (zI k))]) C.1 C.2.1 dTr_stateFrom_24 hl (by decide) rfl (fun ls hl => ?_)
  refine lv_iconst (v := zI 2) C.1 C.2.1 dTr_stateFrom_26 (by decide) ?_
  refine lv_istore (lv' := [(7, .int (zI 2)), (6, .int (zI (GK (k + 1)))), (5, .int (zI (GK k))), (0, .ref o0), (1, .ref r0), (2, .int (zI wy)), (3, .int (zI y)), (4, .int (zI k))]) C.1 C.2.1 dTr_stateFrom_27 hl (by decide) rfl (fun ls hl => ?_)
  refine lv_iconst (v := zI 0) C.1 C.2.1 dTr_stateFrom_29 (by decide) ?_
  refine lv_istore (lv' := [(8, .int (zI 0)), (7, .int (zI 2)), (6, .int (zI (GK (k + 1)))), (5, .int (zI (GK k))), (0, .ref o0), (1, .ref r0), (2, .int (zI wy)), (3, .int (zI y)), (4, .int (zI k))]) C.1 C.2.1 dTr_stateFrom_30 hl (by decide) rfl (fun ls hl => ?_)
  have L32 : ∀ (N : Nat) (i : Nat) (q : Int), L.length - i < N → (i ≤ L.length) → (q = 1 ∨ q = 2) → (stE (sel2 wy Fa Fb) (sel2 wy Ta Tb) (sel2 (owy wy) Fa Fb) (sel2 (owy wy) Ta Tb) Z rn y (GK k) (GK (k + 1)) L = cmbS q (stE (sel2 wy Fa Fb) (sel2 wy Ta Tb) (sel2 (owy wy) Fa Fb) (sel2 (owy wy) Ta Tb) Z rn y (GK k) (GK (k + 1)) (L.drop i))) → ∀ (ls : Array Slot) (H : Heap) (locs : List Loc), lv_has ls 9 [(8, .int (zI (i : Int))), (7, .int (zI q)), (6, .int (zI (GK (k + 1)))), (5, .int (zI (GK k))), (0, .ref o0), (1, .ref r0), (2, .int (zI wy)), (3, .int (zI y)), (4, .int (zI k))] → zw D zCl A s [(o0, .inr (8, [.ref li, .ref cu_, .ref ed, .int (zI ec)])), (ed, .inl (cI, 24, .inl (fI E))), (cu_, .inr (2, [.ref k1, .int (zI nk)])), (k1, .inl (cI, 48, .inl (fI GK))), (r0, .inr (6, [.ref hf, .ref ht, .ref hz, .int (zI rn), .ref ca, .ref cu])), (hf, .inl (cG, 2, .inr (.inr (.inr (.inr (g2 f0 f1)))))), (ht, .inl (cG, 2, .inr (.inr (.inr (.inr (g2 t0 t1)))))), (f0, .inl (cI, 24, .inl (fI Fa))), (f1, .inl (cI, 24, .inl (fI Fb))), (t0, .inl (cI, 24, .inl (fI Ta))), (t1, .inl (cI, 24, .inl (fI Tb))), (hz, .inl (cI, 24, .inl (fI Z)))] H locs → W p l e (zr 2 0 0) s m args below meth c H locs 0 0 Q (F0 m 32 ls []) := by
    intro N
    induction N with
    | zero => intro i q hm; exact absurd hm (Nat.not_lt_zero _)
    | succ N ih32 =>
      intro i q hm32 hi_ hq2 hq ls H locs hl hW
      refine lv_iload C.1 C.2.1 dTr_stateFrom_32 (lv_at hl 0 rfl) ?_
      refine lv_aload_n C.1 C.2.1 dTr_stateFrom_34 rfl (lv_at hl 4 rfl) ?_
      refine zget C hW 0 3 rfl rfl inTr (by decide) flTr_61 rfl dTr_stateFrom_35 ?_
      refine zicmp_ge (tgt := 92) C (by omega) (by omega) dTr_stateFrom_38 (by decide) (fun c38 => ?_) (fun c38 => ?_)
      · refine lv_iload C.1 C.2.1 dTr_stateFrom_92 (lv_at hl 1 rfl) ?_
        exact hQ (zI q) _ H locs _ _ _ ls hW ⟨congrArg zI (by rw [hq, show i = L.length by omega, List.drop_length]; rcases hq2 with h | h <;> rw [h] <;> rfl), rfl⟩ (by omega) (by omega) dTr_stateFrom_94
      · have hi : i < L.length := by omega
        have hEi := hG i hi
        have hEa := arrL_all hL hLa (i : Int) (by omega) (by omega)
        refine lv_aload_n C.1 C.2.1 dTr_stateFrom_41 rfl (lv_at hl 5 rfl) ?_
        refine lv_aload_n C.1 C.2.1 dTr_stateFrom_42 rfl (lv_at hl 4 rfl) ?_
        refine zget C hW 0 2 rfl rfl inTr (by decide) flTr_21 rfl dTr_stateFrom_43 ?_
        refine lv_iload C.1 C.2.1 dTr_stateFrom_46 (lv_at hl 0 rfl) ?_
        refine ziald C hW 1 0 rfl rfl (by omega) (by omega) (by decide) dTr_stateFrom_48 ?_
        have hb3 := bE (i : Int)
        refine lv_iload_n C.1 C.2.1 dTr_stateFrom_49 rfl (lv_at hl 6 rfl) ?_
        refine lv_iload C.1 C.2.1 dTr_stateFrom_50 (lv_at hl 3 rfl) ?_
        refine lv_iload C.1 C.2.1 dTr_stateFrom_52 (lv_at hl 2 rfl) ?_
        refine zcalli (wr := [(o0, .inr (8, [.ref li, .ref cu_, .ref ed, .int (zI ec)])), (ed, .inl (cI, 24, .inl (fI E))), (cu_, .inr (2, [.ref k1, .int (zI nk)])), (k1, .inl (cI, 48, .inl (fI GK)))]) C hW [4, 5, 6, 7, 8, 9, 10, 11] [0, 1, 2, 3] rfl rfl (by decide) (by decide) (zRunV (k := 4) (As := [.int (zI (E (i : Int))), .int (zI wy), .int (zI (GK k)), .int (zI (GK (k + 1)))]) (rest := []) C hW (c_Rectangles_spans l D cI cG cL cB r0 hf ht hz ca cu f0 f1 t0 t1 rn Fa Fb Ta Tb Z (E (i : Int)) wy (GK k) (GK (k + 1)) bFa bFb bTa bTb bZ (by omega) (by omega) (by omega) (by omega) hwy (by omega) (by omega) H.size) [4, 5, 6, 7, 8, 9, 10, 11] rfl (by decide) kTr_82 (by decide +kernel) ⟨by decide, by decide⟩ 4 rfl rfl rfl hl.1 (Nat.le_of_ble_eq_true rfl) dTr_stateFrom_54 ⟨by first | decide | omega, by first | decide | omega⟩) (fun x w H locs hq hW => ?_)
        obtain ⟨rfl, rfl⟩ := hq
        have hW : zw D zCl A s [(o0, .inr (8, [.ref li, .ref cu_, .ref ed, .int (zI ec)])), (ed, .inl (cI, 24, .inl (fI E))), (cu_, .inr (2, [.ref k1, .int (zI nk)])), (k1, .inl (cI, 48, .inl (fI GK))), (r0, .inr (6, [.ref hf, .ref ht, .ref hz, .int (zI rn), .ref ca, .ref cu])), (hf, .inl (cG, 2, .inr (.inr (.inr (.inr (g2 f0 f1)))))), (ht, .inl (cG, 2, .inr (.inr (.inr (.inr (g2 t0 t1)))))), (f0, .inl (cI, 24, .inl (fI Fa))), (f1, .inl (cI, 24, .inl (fI Fb))), (t0, .inl (cI, 24, .inl (fI Ta))), (t1, .inl (cI, 24, .inl (fI Tb))), (hz, .inl (cI, 24, .inl (fI Z)))] H locs := hW
        have hr4 := bz_01 (spZ (sel2 wy Fa Fb) (sel2 wy Ta Tb) (E (i : Int)) (GK k) (GK (k + 1)))
        refine zif_eq (tgt := 86) C (by omega) dTr_stateFrom_57 (by decide) (fun c57 => ?_) (fun c57 => ?_)
        · refine lv_iinc (v := zI ((i : Int) + 1)) (lv' := [(8, .int (zI ((i : Int) + 1))), (7, .int (zI q)), (6, .int (zI (GK (k + 1)))), (5, .int (zI (GK k))), (0, .ref o0), (1, .ref r0), (2, .int (zI wy)), (3, .int (zI y)), (4, .int (zI k))]) C.1 C.2.1 dTr_stateFrom_86 hl (k := 0) rfl (zI_add (i : Int) 1) (by decide) rfl (fun ls hl => ?_)
          refine lv_goto (tgt := 32) C.1 C.2.1 dTr_stateFrom_89 (by decide) ?_
          exact ih32 (i + 1) q (by omega) (by omega) hq2 (by rw [hq, drop_c hi, ← hEi, stE_n ((bz_eq0 _).mpr (by omega))]) ls H locs (lv_sub hl [0, 1, 2, 3, 4, 5, 6, 7, 8] rfl) hW
        · refine lv_aload_n C.1 C.2.1 dTr_stateFrom_60 rfl (lv_at hl 4 rfl) ?_
          refine lv_aload_n C.1 C.2.1 dTr_stateFrom_61 rfl (lv_at hl 5 rfl) ?_
          refine lv_aload_n C.1 C.2.1 dTr_stateFrom_62 rfl (lv_at hl 4 rfl) ?_
          refine zget C hW 0 2 rfl rfl inTr (by decide) flTr_21 rfl dTr_stateFrom_63 ?_
          refine lv_iload C.1 C.2.1 dTr_stateFrom_66 (lv_at hl 0 rfl) ?_
          refine ziald C hW 1 0 rfl rfl (by omega) (by omega) (by decide) dTr_stateFrom_68 ?_
          have hb5 := bE (i : Int)
          refine lv_iload_n C.1 C.2.1 dTr_stateFrom_69 rfl (lv_at hl 6 rfl) ?_
          refine lv_iload_n C.1 C.2.1 dTr_stateFrom_70 rfl (lv_at hl 7 rfl) ?_
          refine lv_iload C.1 C.2.1 dTr_stateFrom_71 (lv_at hl 3 rfl) ?_
          refine lv_iload C.1 C.2.1 dTr_stateFrom_73 (lv_at hl 2 rfl) ?_
          refine zcalli (wr := [(ed, .inl (cI, 24, .inl (fI E))), (cu_, .inr (2, [.ref k1, .int (zI nk)])), (k1, .inl (cI, 48, .inl (fI GK)))]) C hW [0, 4, 5, 6, 7, 8, 9, 10, 11] [1, 2, 3] rfl rfl (by decide) (by decide) (zRunV (k := 6) (As := [.ref r0, .int (zI (E (i : Int))), .int (zI wy), .int (zI y), .int (zI (GK k)), .int (zI (GK (k + 1)))]) (rest := []) C hW (c_Tracer_isCovered l D cI cG cL cB o0 li cu_ ed ec r0 hf ht hz ca cu f0 f1 t0 t1 rn Fa Fb Ta Tb Z (E (i : Int)) wy y (GK k) (GK (k + 1)) bFa bFb bTa bTb bZ (by omega) (by omega) (by omega) (by omega) hwy (by omega) (by omega) (by omega) H.size) [0, 4, 5, 6, 7, 8, 9, 10, 11] rfl (by decide) kTr_86 (by decide +kernel) ⟨by decide, by decide⟩ 0 rfl rfl rfl hl.1 (Nat.le_of_ble_eq_true rfl) dTr_stateFrom_75 ⟨by first | decide | omega, by first | decide | omega⟩) (fun x w H locs hq hW => ?_)
          obtain ⟨rfl, rfl⟩ := hq
          have hW : zw D zCl A s [(ed, .inl (cI, 24, .inl (fI E))), (cu_, .inr (2, [.ref k1, .int (zI nk)])), (k1, .inl (cI, 48, .inl (fI GK))), (o0, .inr (8, [.ref li, .ref cu_, .ref ed, .int (zI ec)])), (r0, .inr (6, [.ref hf, .ref ht, .ref hz, .int (zI rn), .ref ca, .ref cu])), (hf, .inl (cG, 2, .inr (.inr (.inr (.inr (g2 f0 f1)))))), (ht, .inl (cG, 2, .inr (.inr (.inr (.inr (g2 t0 t1)))))), (f0, .inl (cI, 24, .inl (fI Fa))), (f1, .inl (cI, 24, .inl (fI Fb))), (t0, .inl (cI, 24, .inl (fI Ta))), (t1, .inl (cI, 24, .inl (fI Tb))), (hz, .inl (cI, 24, .inl (fI Z)))] H locs := hW
          have hr6 := bz_01 (anyZ (covP (sel2 wy Fa Fb) (sel2 wy Ta Tb) (sel2 (owy wy) Fa Fb) (sel2 (owy wy) Ta Tb) Z (Z (E (i : Int))) y (GK k) (GK (k + 1))) rn)
          refine zif_ne (tgt := 83) C (by omega) dTr_stateFrom_78 (by decide) (fun c78 => ?_) (fun c78 => ?_)
          · refine lv_iconst (v := zI 1) C.1 C.2.1 dTr_stateFrom_83 (by decide) ?_
            refine lv_istore (lv' := [(7, .int (zI 1)), (8, .int (zI (i : Int))), (6, .int (zI (GK (k + 1)))), (5, .int (zI (GK k))), (0, .ref o0), (1, .ref r0), (2, .int (zI wy)), (3, .int (zI y)), (4, .int (zI k))]) C.1 C.2.1 dTr_stateFrom_84 hl (by decide) rfl (fun ls hl => ?_)
            refine lv_iinc (v := zI ((i : Int) + 1)) (lv' := [(8, .int (zI ((i : Int) + 1))), (7, .int (zI 1)), (6, .int (zI (GK (k + 1)))), (5, .int (zI (GK k))), (0, .ref o0), (1, .ref r0), (2, .int (zI wy)), (3, .int (zI y)), (4, .int (zI k))]) C.1 C.2.1 dTr_stateFrom_86 hl (k := 1) rfl (zI_add (i : Int) 1) (by decide) rfl (fun ls hl => ?_)
            refine lv_goto (tgt := 32) C.1 C.2.1 dTr_stateFrom_89 (by decide) ?_
            exact ih32 (i + 1) 1 (by omega) (by omega) (by omega) (by rw [hq, drop_c hi, ← hEi]; exact stE_h ((bz_eq1 _).mpr (by omega)) ((bz_eq1 _).mpr (by omega))) ls H locs (lv_sub hl [0, 1, 2, 3, 4, 5, 6, 7, 8] rfl) (zwp hW [3, 0, 1, 2, 4, 5, 6, 7, 8, 9, 10, 11] rfl (by decide))
          · refine lv_iconst (v := zI 0) C.1 C.2.1 dTr_stateFrom_81 (by decide) ?_
            have hW : zw D zCl A s [(o0, .inr (8, [.ref li, .ref cu_, .ref ed, .int (zI ec)])), (ed, .inl (cI, 24, .inl (fI E))), (cu_, .inr (2, [.ref k1, .int (zI nk)])), (k1, .inl (cI, 48, .inl (fI GK))), (r0, .inr (6, [.ref hf, .ref ht, .ref hz, .int (zI rn), .ref ca, .ref cu])), (hf, .inl (cG, 2, .inr (.inr (.inr (.inr (g2 f0 f1)))))), (ht, .inl (cG, 2, .inr (.inr (.inr (.inr (g2 t0 t1)))))), (f0, .inl (cI, 24, .inl (fI Fa))), (f1, .inl (cI, 24, .inl (fI Fb))), (t0, .inl (cI, 24, .inl (fI Ta))), (t1, .inl (cI, 24, .inl (fI Tb))), (hz, .inl (cI, 24, .inl (fI Z)))] H locs := zwp hW [3, 0, 1, 2, 4, 5, 6, 7, 8, 9, 10, 11] rfl (by decide)
            exact hQ (zI 0) _ H locs _ _ _ ls hW ⟨congrArg zI (by rw [hq, drop_c hi, ← hEi, stE_s ((bz_eq1 _).mpr (by omega)) ((bz_eq0 _).mpr (by omega))]; rcases hq2 with h | h <;> rw [h] <;> rfl), rfl⟩ (by omega) (by omega) dTr_stateFrom_82
  exact L32 _ 0 2 (Nat.lt_succ_self _) (by omega) (Or.inr rfl) rfl ls H locs (lv_sub hl [0, 1, 2, 3, 4, 5, 6, 7, 8] rfl) hW

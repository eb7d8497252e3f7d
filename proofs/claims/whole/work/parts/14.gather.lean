set_option maxRecDepth 100000 in
theorem flCu_19 : Cond.fieldLink "PartDrawings$Cuts" 19 (TRe 3).1 (TRe 3).2.1 (TRe 3).2.2.1 ∈ gW := gW_1 141 rfl rfl
set_option maxRecDepth 100000 in
theorem inRe : ∀ w ∈ u_ws RRe TRe 6, w ∈ gW := gW_l [146, 148, 150, 152, 154, 156] rfl (by decide +kernel)
set_option maxRecDepth 100000 in
theorem flCu_22 : Cond.fieldLink "PartDrawings$Cuts" 22 (TRe 0).1 (TRe 0).2.1 (TRe 0).2.2.1 ∈ gW := gW_1 133 rfl rfl
set_option maxRecDepth 100000 in
theorem kCu_26 : inT (kV "PartDrawings$Cuts" 26 yCu_put cCu_put 5 none) := gW_l [589, 590, 591, 49, 592] rfl (by decide +kernel)
set_option maxRecDepth 100000 in
theorem flCu_30 : Cond.fieldLink "PartDrawings$Cuts" 30 (TRe 1).1 (TRe 1).2.1 (TRe 1).2.2.1 ∈ gW := gW_1 136 rfl rfl
set_option maxHeartbeats 4000000 in
set_option maxRecDepth 100000 in
theorem c_Cuts_gather (l : Launch) (D : va_G) (cI cG cL cB : ClassId) (h0 : Nat) (a1 : Nat) (n : Int) (G : Int → Int) (r0 : Nat) (hf : Nat) (ht : Nat) (hz : Nat) (ca : Nat) (cu : Nat) (f0 : Nat) (f1 : Nat) (t0 : Nat) (t1 : Nat) (rn : Int) (Fa : Int → Int) (Fb : Int → Int) (Ta : Int → Int) (Tb : Int → Int) (Z : Int → Int) (wy : Int) (bG : ∀ j : Int, I32 (G j)) (bFa : ∀ j : Int, I32 (Fa j)) (bFb : ∀ j : Int, I32 (Fb j)) (bTa : ∀ j : Int, I32 (Ta j)) (bTb : ∀ j : Int, I32 (Tb j)) (bZ : ∀ j : Int, I32 (Z j)) (hrn0 : 0 ≤ rn) (hrn1 : rn ≤ 24) (hwy : wy = 0 ∨ wy = 1) : Cv l yCu_gather cCu_gather 4 none 1 0 0 D zCl (zT cI cG cL cB) [.ref h0, .ref r0, .int (zI wy)] [(h0, .inr (2, [.ref a1, .int (zI n)])), (a1, .inl (cI, 48, .inl (fI G))), (r0, .inr (6, [.ref hf, .ref ht, .ref hz, .int (zI rn), .ref ca, .ref cu])), (hf, .inl (cG, 2, .inr (.inr (.inr (.inr (g2 f0 f1)))))), (ht, .inl (cG, 2, .inr (.inr (.inr (.inr (g2 t0 t1)))))), (f0, .inl (cI, 24, .inl (fI Fa))), (f1, .inl (cI, 24, .inl (fI Fb))), (t0, .inl (cI, 24, .inl (fI Ta))), (t1, .inl (cI, 24, .inl (fI Tb))), (hz, .inl (cI, 24, .inl (fI Z)))] (fun w => ∃ G2 : Int → Int, ∃ n2 : Int, (∀ j : Int, I32 (G2 j)) ∧ (arrL G2 n2 (gathL (sel2 wy Fa Fb) (sel2 wy Ta Tb) rn)) ∧ w = [(h0, .inr (2, [.ref a1, .int (zI n2)])), (a1, .inl (cI, 48, .inl (fI G2))), (r0, .inr (6, [.ref hf, .ref ht, .ref hz, .int (zI rn), .ref ca, .ref cu])), (hf, .inl (cG, 2, .inr (.inr (.inr (.inr (g2 f0 f1)))))), (ht, .inl (cG, 2, .inr (.inr (.inr (.inr (g2 t0 t1)))))), (f0, .inl (cI, 24, .inl (fI Fa))), (f1, .inl (cI, 24, .inl (fI Fb))), (t0, .inl (cI, 24, .inl (fI Ta))), (t1, .inl (cI, 24, .inl (fI Tb))), (hz, .inl (cI, 24, .inl (fI Z)))]) := by
  rcases hwy with rfl | rfl
  · refine zBv (by decide) (Nat.le_of_ble_eq_true rfl) ?_
    intro p e s m args below meth c ls A H locs Q C hin hl hW hQ
    have hl : lv_has ls 4 [(0, .ref h0), (1, .ref r0), (2, .int (zI 0))] := hl
    refine lv_aload_n C.1 C.2.1 dCu_gather_0 rfl (lv_at hl 0 rfl) ?_
    refine lv_iconst (v := zI 0) C.1 C.2.1 dCu_gather_1 (by decide) ?_
    refine zput C hW 0 1 tyCu tyCu_ok nmCu rfl rfl inCu (by decide) flCu_15 rfl rfl rfl rfl (Nat.le_of_ble_eq_true rfl) dCu_gather_2 (fun H locs hW => ?_)
    have hW : zw D zCl A s [(h0, .inr (2, [.ref a1, .int (zI 0)])), (a1, .inl (cI, 48, .inl (fI G))), (r0, .inr (6, [.ref hf, .ref ht, .ref hz, .int (zI rn), .ref ca, .ref cu])), (hf, .inl (cG, 2, .inr (.inr (.inr (.inr (g2 f0 f1)))))), (ht, .inl (cG, 2, .inr (.inr (.inr (.inr (g2 t0 t1)))))), (f0, .inl (cI, 24, .inl (fI Fa))), (f1, .inl (cI, 24, .inl (fI Fb))), (t0, .inl (cI, 24, .inl (fI Ta))), (t1, .inl (cI, 24, .inl (fI Tb))), (hz, .inl (cI, 24, .inl (fI Z)))] H locs := hW
    refine lv_iconst (v := zI 0) C.1 C.2.1 dCu_gather_5 (by decide) ?_
    refine lv_istore_n (lv' := [(3, .int (zI 0)), (0, .ref h0), (1, .ref r0), (2, .int (zI 0))]) C.1 C.2.1 dCu_gather_6 rfl hl (by decide) rfl (fun ls hl => ?_)
    have L7 : ∀ (N : Nat) (i : Int) (Gc : Int → Int) (nc : Int), (rn - i).toNat < N → (0 ≤ i) → (i ≤ rn) → (∀ j : Int, I32 (Gc j)) → (arrL Gc nc (gathL Fa Ta i)) → ∀ (ls : Array Slot) (H : Heap) (locs : List Loc), lv_has ls 4 [(3, .int (zI i)), (0, .ref h0), (1, .ref r0), (2, .int (zI 0))] → zw D zCl A s [(h0, .inr (2, [.ref a1, .int (zI nc)])), (a1, .inl (cI, 48, .inl (fI Gc))), (r0, .inr (6, [.ref hf, .ref ht, .ref hz, .int (zI rn), .ref ca, .ref cu])), (hf, .inl (cG, 2, .inr (.inr (.inr (.inr (g2 f0 f1)))))), (ht, .inl (cG, 2, .inr (.inr (.inr (.inr (g2 t0 t1)))))), (f0, .inl (cI, 24, .inl (fI Fa))), (f1, .inl (cI, 24, .inl (fI Fb))), (t0, .inl (cI, 24, .inl (fI Ta))), (t1, .inl (cI, 24, .inl (fI Tb))), (hz, .inl (cI, 24, .inl (fI Z)))] H locs → W p l e (zr 1 0 0) s m args below meth c H locs 0 0 Q (F0 m 7 ls []) := by
      intro N
      induction N with
      | zero => intro i Gc nc hm; exact absurd hm (Nat.not_lt_zero _)
      | succ N ih7 =>
        intro i Gc nc hm7 hi0 hi1 hbc hL ls H locs hl hW
        refine lv_iload_n C.1 C.2.1 dCu_gather_7 rfl (lv_at hl 0 rfl) ?_
        refine lv_aload_n C.1 C.2.1 dCu_gather_8 rfl (lv_at hl 2 rfl) ?_
        refine zget C hW 2 3 rfl rfl inRe (by decide) flCu_19 rfl dCu_gather_9 ?_
        refine zicmp_ge (tgt := 45) C (by omega) (by omega) dCu_gather_12 (by decide) (fun c12 => ?_) (fun c12 => ?_)
        · exact hQ _ H locs _ _ _ ls hW ⟨Gc, nc, hbc, (by rw [show rn = i by omega]; exact hL), rfl⟩ (by omega) (by omega) dCu_gather_45
        · refine lv_aload_n C.1 C.2.1 dCu_gather_15 rfl (lv_at hl 1 rfl) ?_
          refine lv_aload_n C.1 C.2.1 dCu_gather_16 rfl (lv_at hl 2 rfl) ?_
          refine zget C hW 2 0 rfl rfl inRe (by decide) flCu_22 rfl dCu_gather_17 ?_
          refine lv_iload_n C.1 C.2.1 dCu_gather_20 rfl (lv_at hl 3 rfl) ?_
          refine zgald C hW 3 1 (r := f0) rfl rfl rfl (by omega) (by omega) (by decide) rfl dCu_gather_21 ?_
          refine lv_iload_n C.1 C.2.1 dCu_gather_22 rfl (lv_at hl 0 rfl) ?_
          refine ziald C hW 5 0 rfl rfl (by omega) (by omega) (by decide) dCu_gather_23 ?_
          have hb1 := bFa i
          refine zcallv (wr := [(r0, .inr (6, [.ref hf, .ref ht, .ref hz, .int (zI rn), .ref ca, .ref cu])), (hf, .inl (cG, 2, .inr (.inr (.inr (.inr (g2 f0 f1)))))), (ht, .inl (cG, 2, .inr (.inr (.inr (.inr (g2 t0 t1)))))), (f0, .inl (cI, 24, .inl (fI Fa))), (f1, .inl (cI, 24, .inl (fI Fb))), (t0, .inl (cI, 24, .inl (fI Ta))), (t1, .inl (cI, 24, .inl (fI Tb))), (hz, .inl (cI, 24, .inl (fI Z)))]) C hW [0, 1] [2, 3, 4, 5, 6, 7, 8, 9] rfl rfl (by decide) (by decide) (zRunV (k := 1) (As := [.int (zI (Fa i))]) (rest := []) C hW (c_Cuts_put l D cI cG cL cB h0 a1 nc Gc (Fa i) (gathL Fa Ta i) hbc hL (by have := gathL_len Fa Ta i; omega) (by omega) H.size) [0, 1] rfl (by decide) kCu_26 (by decide +kernel) ⟨by decide, by decide⟩ 0 rfl rfl rfl hl.1 (Nat.le_of_ble_eq_true rfl) dCu_gather_24 ⟨by first | decide | omega, by first | decide | omega⟩) (fun w H locs hq hW => ?_)
          obtain ⟨G22, n23, hf4, hf5, rfl⟩ := hq
          have hW : zw D zCl A s [(r0, .inr (6, [.ref hf, .ref ht, .ref hz, .int (zI rn), .ref ca, .ref cu])), (hf, .inl (cG, 2, .inr (.inr (.inr (.inr (g2 f0 f1)))))), (ht, .inl (cG, 2, .inr (.inr (.inr (.inr (g2 t0 t1)))))), (f0, .inl (cI, 24, .inl (fI Fa))), (f1, .inl (cI, 24, .inl (fI Fb))), (t0, .inl (cI, 24, .inl (fI Ta))), (t1, .inl (cI, 24, .inl (fI Tb))), (hz, .inl (cI, 24, .inl (fI Z))), (h0, .inr (2, [.ref a1, .int (zI n23)])), (a1, .inl (cI, 48, .inl (fI G22)))] H locs := hW
          refine lv_aload_n C.1 C.2.1 dCu_gather_27 rfl (lv_at hl 1 rfl) ?_
          refine lv_aload_n C.1 C.2.1 dCu_gather_28 rfl (lv_at hl 2 rfl) ?_
          refine zget C hW 0 1 rfl rfl inRe (by decide) flCu_30 rfl dCu_gather_29 ?_
          refine lv_iload_n C.1 C.2.1 dCu_gather_32 rfl (lv_at hl 3 rfl) ?_
          refine zgald C hW 2 1 (r := t0) rfl rfl rfl (by omega) (by omega) (by decide) rfl dCu_gather_33 ?_
          refine lv_iload_n C.1 C.2.1 dCu_gather_34 rfl (lv_at hl 0 rfl) ?_
          refine ziald C hW 5 0 rfl rfl (by omega) (by omega) (by decide) dCu_gather_35 ?_
          have hb6 := bTa i
          refine zcallv (wr := [(r0, .inr (6, [.ref hf, .ref ht, .ref hz, .int (zI rn), .ref ca, .ref cu])), (hf, .inl (cG, 2, .inr (.inr (.inr (.inr (g2 f0 f1)))))), (ht, .inl (cG, 2, .inr (.inr (.inr (.inr (g2 t0 t1)))))), (f0, .inl (cI, 24, .inl (fI Fa))), (f1, .inl (cI, 24, .inl (fI Fb))), (t0, .inl (cI, 24, .inl (fI Ta))), (t1, .inl (cI, 24, .inl (fI Tb))), (hz, .inl (cI, 24, .inl (fI Z)))]) C hW [8, 9] [0, 1, 2, 3, 4, 5, 6, 7] rfl rfl (by decide) (by decide) (zRunV (k := 1) (As := [.int (zI (Ta i))]) (rest := []) C hW (c_Cuts_put l D cI cG cL cB h0 a1 n23 G22 (Ta i) (insZ (Fa i) (gathL Fa Ta i)) hf4 hf5 (by have := gathL_len Fa Ta i; have := insZ_len (Fa i) (gathL Fa Ta i); omega) (by omega) H.size) [8, 9] rfl (by decide) kCu_26 (by decide +kernel) ⟨by decide, by decide⟩ 8 rfl rfl rfl hl.1 (Nat.le_of_ble_eq_true rfl) dCu_gather_36 ⟨by first | decide | omega, by first | decide | omega⟩) (fun w H locs hq hW => ?_)
          obtain ⟨G27, n28, hf9, hf10, rfl⟩ := hq
          have hW : zw D zCl A s [(r0, .inr (6, [.ref hf, .ref ht, .ref hz, .int (zI rn), .ref ca, .ref cu])), (hf, .inl (cG, 2, .inr (.inr (.inr (.inr (g2 f0 f1)))))), (ht, .inl (cG, 2, .inr (.inr (.inr (.inr (g2 t0 t1)))))), (f0, .inl (cI, 24, .inl (fI Fa))), (f1, .inl (cI, 24, .inl (fI Fb))), (t0, .inl (cI, 24, .inl (fI Ta))), (t1, .inl (cI, 24, .inl (fI Tb))), (hz, .inl (cI, 24, .inl (fI Z))), (h0, .inr (2, [.ref a1, .int (zI n28)])), (a1, .inl (cI, 48, .inl (fI G27)))] H locs := hW
          refine lv_iinc (v := zI (i + 1)) (lv' := [(3, .int (zI (i + 1))), (0, .ref h0), (1, .ref r0), (2, .int (zI 0))]) C.1 C.2.1 dCu_gather_39 hl (k := 0) rfl (zI_add i 1) (by decide) rfl (fun ls hl => ?_)
          refine lv_goto (tgt := 7) C.1 C.2.1 dCu_gather_42 (by decide) ?_
          exact ih7 (i + 1) G27 n28 (by omega) (by omega) (by omega) hf9 (by rw [gathL_s _ _ hi0]; exact hf10) ls H locs (lv_sub hl [0, 1, 2, 3] rfl) (zwp hW [8, 9, 0, 1, 2, 3, 4, 5, 6, 7] rfl (by decide))
    exact L7 _ 0 G 0 (Nat.lt_succ_self _) (by omega) (by omega) bG ⟨rfl, fun k h => absurd h (Nat.not_lt_zero k)⟩ ls H locs (lv_sub hl [0, 1, 2, 3] rfl) hW
  · refine zBv (by decide) (Nat.le_of_ble_eq_true rfl) ?_
    intro p e s m args below meth c ls A H locs Q C hin hl hW hQ
    have hl : lv_has ls 4 [(0, .ref h0), (1, .ref r0), (2, .int (zI 1))] := hl
    refine lv_aload_n C.1 C.2.1 dCu_gather_0 rfl (lv_at hl 0 rfl) ?_
    refine lv_iconst (v := zI 0) C.1 C.2.1 dCu_gather_1 (by decide) ?_
    refine zput C hW 0 1 tyCu tyCu_ok nmCu rfl rfl inCu (by decide) flCu_15 rfl rfl rfl rfl (Nat.le_of_ble_eq_true rfl) dCu_gather_2 (fun H locs hW => ?_)
    have hW : zw D zCl A s [(h0, .inr (2, [.ref a1, .int (zI 0)])), (a1, .inl (cI, 48, .inl (fI G))), (r0, .inr (6, [.ref hf, .ref ht, .ref hz, .int (zI rn), .ref ca, .ref cu])), (hf, .inl (cG, 2, .inr (.inr (.inr (.inr (g2 f0 f1)))))), (ht, .inl (cG, 2, .inr (.inr (.inr (.inr (g2 t0 t1)))))), (f0, .inl (cI, 24, .inl (fI Fa))), (f1, .inl (cI, 24, .inl (fI Fb))), (t0, .inl (cI, 24, .inl (fI Ta))), (t1, .inl (cI, 24, .inl (fI Tb))), (hz, .inl (cI, 24, .inl (fI Z)))] H locs := hW
    refine lv_iconst (v := zI 0) C.1 C.2.1 dCu_gather_5 (by decide) ?_
    refine lv_istore_n (lv' := [(3, .int (zI 0)), (0, .ref h0), (1, .ref r0), (2, .int (zI 1))]) C.1 C.2.1 dCu_gather_6 rfl hl (by decide) rfl (fun ls hl => ?_)
    have L7 : ∀ (N : Nat) (i : Int) (Gc : Int → Int) (nc : Int), (rn - i).toNat < N → (0 ≤ i) → (i ≤ rn) → (∀ j : Int, I32 (Gc j)) → (arrL Gc nc (gathL Fb Tb i)) → ∀ (ls : Array Slot) (H : Heap) (locs : List Loc), lv_has ls 4 [(3, .int (zI i)), (0, .ref h0), (1, .ref r0), (2, .int (zI 1))] → zw D zCl A s [(h0, .inr (2, [.ref a1, .int (zI nc)])), (a1, .inl (cI, 48, .inl (fI Gc))), (r0, .inr (6, [.ref hf, .ref ht, .ref hz, .int (zI rn), .ref ca, .ref cu])), (hf, .inl (cG, 2, .inr (.inr (.inr (.inr (g2 f0 f1)))))), (ht, .inl (cG, 2, .inr (.inr (.inr (.inr (g2 t0 t1)))))), (f0, .inl (cI, 24, .inl (fI Fa))), (f1, .inl (cI, 24, .inl (fI Fb))), (t0, .inl (cI, 24, .inl (fI Ta))), (t1, .inl (cI, 24, .inl (fI Tb))), (hz, .inl (cI, 24, .inl (fI Z)))] H locs → W p l e (zr 1 0 0) s m args below meth c H locs 0 0 Q (F0 m 7 ls []) := by
      intro N
      induction N with
      | zero => intro i Gc nc hm; exact absurd hm (Nat.not_lt_zero _)
      | succ N ih7 =>
        intro i Gc nc hm7 hi0 hi1 hbc hL ls H locs hl hW
        refine lv_iload_n C.1 C.2.1 dCu_gather_7 rfl (lv_at hl 0 rfl) ?_
        refine lv_aload_n C.1 C.2.1 dCu_gather_8 rfl (lv_at hl 2 rfl) ?_
        refine zget C hW 2 3 rfl rfl inRe (by decide) flCu_19 rfl dCu_gather_9 ?_
        refine zicmp_ge (tgt := 45) C (by omega) (by omega) dCu_gather_12 (by decide) (fun c12 => ?_) (fun c12 => ?_)
        · exact hQ _ H locs _ _ _ ls hW ⟨Gc, nc, hbc, (by rw [show rn = i by omega]; exact hL), rfl⟩ (by omega) (by omega) dCu_gather_45
        · refine lv_aload_n C.1 C.2.1 dCu_gather_15 rfl (lv_at hl 1 rfl) ?_
          refine lv_aload_n C.1 C.2.1 dCu_gather_16 rfl (lv_at hl 2 rfl) ?_
          refine zget C hW 2 0 rfl rfl inRe (by decide) flCu_22 rfl dCu_gather_17 ?_
          refine lv_iload_n C.1 C.2.1 dCu_gather_20 rfl (lv_at hl 3 rfl) ?_
          refine zgald C hW 3 1 (r := f1) rfl rfl rfl (by omega) (by omega) (by decide) rfl dCu_gather_21 ?_
          refine lv_iload_n C.1 C.2.1 dCu_gather_22 rfl (lv_at hl 0 rfl) ?_
          refine ziald C hW 6 0 rfl rfl (by omega) (by omega) (by decide) dCu_gather_23 ?_
          have hb1 := bFb i
          refine zcallv (wr := [(r0, .inr (6, [.ref hf, .ref ht, .ref hz, .int (zI rn), .ref ca, .ref cu])), (hf, .inl (cG, 2, .inr (.inr (.inr (.inr (g2 f0 f1)))))), (ht, .inl (cG, 2, .inr (.inr (.inr (.inr (g2 t0 t1)))))), (f0, .inl (cI, 24, .inl (fI Fa))), (f1, .inl (cI, 24, .inl (fI Fb))), (t0, .inl (cI, 24, .inl (fI Ta))), (t1, .inl (cI, 24, .inl (fI Tb))), (hz, .inl (cI, 24, .inl (fI Z)))]) C hW [0, 1] [2, 3, 4, 5, 6, 7, 8, 9] rfl rfl (by decide) (by decide) (zRunV (k := 1) (As := [.int (zI (Fb i))]) (rest := []) C hW (c_Cuts_put l D cI cG cL cB h0 a1 nc Gc (Fb i) (gathL Fb Tb i) hbc hL (by have := gathL_len Fb Tb i; omega) (by omega) H.size) [0, 1] rfl (by decide) kCu_26 (by decide +kernel) ⟨by decide, by decide⟩ 0 rfl rfl rfl hl.1 (Nat.le_of_ble_eq_true rfl) dCu_gather_24 ⟨by first | decide | omega, by first | decide | omega⟩) (fun w H locs hq hW => ?_)
          obtain ⟨G22, n23, hf4, hf5, rfl⟩ := hq
          have hW : zw D zCl A s [(r0, .inr (6, [.ref hf, .ref ht, .ref hz, .int (zI rn), .ref ca, .ref cu])), (hf, .inl (cG, 2, .inr (.inr (.inr (.inr (g2 f0 f1)))))), (ht, .inl (cG, 2, .inr (.inr (.inr (.inr (g2 t0 t1)))))), (f0, .inl (cI, 24, .inl (fI Fa))), (f1, .inl (cI, 24, .inl (fI Fb))), (t0, .inl (cI, 24, .inl (fI Ta))), (t1, .inl (cI, 24, .inl (fI Tb))), (hz, .inl (cI, 24, .inl (fI Z))), (h0, .inr (2, [.ref a1, .int (zI n23)])), (a1, .inl (cI, 48, .inl (fI G22)))] H locs := hW
          refine lv_aload_n C.1 C.2.1 dCu_gather_27 rfl (lv_at hl 1 rfl) ?_
          refine lv_aload_n C.1 C.2.1 dCu_gather_28 rfl (lv_at hl 2 rfl) ?_
          refine zget C hW 0 1 rfl rfl inRe (by decide) flCu_30 rfl dCu_gather_29 ?_
          refine lv_iload_n C.1 C.2.1 dCu_gather_32 rfl (lv_at hl 3 rfl) ?_
          refine zgald C hW 2 1 (r := t1) rfl rfl rfl (by omega) (by omega) (by decide) rfl dCu_gather_33 ?_
          refine lv_iload_n C.1 C.2.1 dCu_gather_34 rfl (lv_at hl 0 rfl) ?_
          refine ziald C hW 6 0 rfl rfl (by omega) (by omega) (by decide) dCu_gather_35 ?_
          have hb6 := bTb i
          refine zcallv (wr := [(r0, .inr (6, [.ref hf, .ref ht, .ref hz, .int (zI rn), .ref ca, .ref cu])), (hf, .inl (cG, 2, .inr (.inr (.inr (.inr (g2 f0 f1)))))), (ht, .inl (cG, 2, .inr (.inr (.inr (.inr (g2 t0 t1)))))), (f0, .inl (cI, 24, .inl (fI Fa))), (f1, .inl (cI, 24, .inl (fI Fb))), (t0, .inl (cI, 24, .inl (fI Ta))), (t1, .inl (cI, 24, .inl (fI Tb))), (hz, .inl (cI, 24, .inl (fI Z)))]) C hW [8, 9] [0, 1, 2, 3, 4, 5, 6, 7] rfl rfl (by decide) (by decide) (zRunV (k := 1) (As := [.int (zI (Tb i))]) (rest := []) C hW (c_Cuts_put l D cI cG cL cB h0 a1 n23 G22 (Tb i) (insZ (Fb i) (gathL Fb Tb i)) hf4 hf5 (by have := gathL_len Fb Tb i; have := insZ_len (Fb i) (gathL Fb Tb i); omega) (by omega) H.size) [8, 9] rfl (by decide) kCu_26 (by decide +kernel) ⟨by decide, by decide⟩ 8 rfl rfl rfl hl.1 (Nat.le_of_ble_eq_true rfl) dCu_gather_36 ⟨by first | decide | omega, by first | decide | omega⟩) (fun w H locs hq hW => ?_)
          obtain ⟨G27, n28, hf9, hf10, rfl⟩ := hq
          have hW : zw D zCl A s [(r0, .inr (6, [.ref hf, .ref ht, .ref hz, .int (zI rn), .ref ca, .ref cu])), (hf, .inl (cG, 2, .inr (.inr (.inr (.inr (g2 f0 f1)))))), (ht, .inl (cG, 2, .inr (.inr (.inr (.inr (g2 t0 t1)))))), (f0, .inl (cI, 24, .inl (fI Fa))), (f1, .inl (cI, 24, .inl (fI Fb))), (t0, .inl (cI, 24, .inl (fI Ta))), (t1, .inl (cI, 24, .inl (fI Tb))), (hz, .inl (cI, 24, .inl (fI Z))), (h0, .inr (2, [.ref a1, .int (zI n28)])), (a1, .inl (cI, 48, .inl (fI G27)))] H locs := hW
          refine lv_iinc (v := zI (i + 1)) (lv' := [(3, .int (zI (i + 1))), (0, .ref h0), (1, .ref r0), (2, .int (zI 1))]) C.1 C.2.1 dCu_gather_39 hl (k := 0) rfl (zI_add i 1) (by decide) rfl (fun ls hl => ?_)
          refine lv_goto (tgt := 7) C.1 C.2.1 dCu_gather_42 (by decide) ?_
          exact ih7 (i + 1) G27 n28 (by omega) (by omega) (by omega) hf9 (by rw [gathL_s _ _ hi0]; exact hf10) ls H locs (lv_sub hl [0, 1, 2, 3] rfl) (zwp hW [8, 9, 0, 1, 2, 3, 4, 5, 6, 7] rfl (by decide))
    exact L7 _ 0 G 0 (Nat.lt_succ_self _) (by omega) (by omega) bG ⟨rfl, fun k h => absurd h (Nat.not_lt_zero k)⟩ ls H locs (lv_sub hl [0, 1, 2, 3] rfl) hW

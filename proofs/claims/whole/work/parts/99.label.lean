theorem dLb_init_0 : decode cLb_init 0 = .ok (.aload_n 0, 1) := by decide +kernel
theorem dLb_init_1 : decode cLb_init 1 = .ok (.invokespecial 3, 3) := by decide +kernel
theorem dLb_init_4 : decode cLb_init 4 = .ok (.aload_n 0, 1) := by decide +kernel
theorem dLb_init_5 : decode cLb_init 5 = .ok (.new 9, 3) := by decide +kernel
theorem dLb_init_8 : decode cLb_init 8 = .ok (.dup, 1) := by decide +kernel
theorem dLb_init_9 : decode cLb_init 9 = .ok (.invokespecial 11, 3) := by decide +kernel
theorem dLb_init_12 : decode cLb_init 12 = .ok (.putfield 12, 3) := by decide +kernel
theorem dLb_init_15 : decode cLb_init 15 = .ok (.return_, 1) := by decide +kernel
theorem dLb_write_0 : decode cLb_write 0 = .ok (.aload_n 0, 1) := by decide +kernel
theorem dLb_write_1 : decode cLb_write 1 = .ok (.getfield 12, 3) := by decide +kernel
theorem dLb_write_4 : decode cLb_write 4 = .ok (.iconst 0, 1) := by decide +kernel
theorem dLb_write_5 : decode cLb_write 5 = .ok (.invokevirtual 18, 3) := by decide +kernel
theorem dLb_write_8 : decode cLb_write 8 = .ok (.aload_n 0, 1) := by decide +kernel
theorem dLb_write_9 : decode cLb_write 9 = .ok (.getfield 12, 3) := by decide +kernel
theorem dLb_write_12 : decode cLb_write 12 = .ok (.bipush 87, 2) := by decide +kernel
theorem dLb_write_14 : decode cLb_write 14 = .ok (.invokevirtual 22, 3) := by decide +kernel
theorem dLb_write_17 : decode cLb_write 17 = .ok (.iload_n 1, 1) := by decide +kernel
theorem dLb_write_18 : decode cLb_write 18 = .ok (.invokevirtual 26, 3) := by decide +kernel
theorem dLb_write_21 : decode cLb_write 21 = .ok (.bipush 72, 2) := by decide +kernel
theorem dLb_write_23 : decode cLb_write 23 = .ok (.invokevirtual 22, 3) := by decide +kernel
theorem dLb_write_26 : decode cLb_write 26 = .ok (.iload_n 2, 1) := by decide +kernel
theorem dLb_write_27 : decode cLb_write 27 = .ok (.invokevirtual 26, 3) := by decide +kernel
theorem dLb_write_30 : decode cLb_write 30 = .ok (.bipush 68, 2) := by decide +kernel
theorem dLb_write_32 : decode cLb_write 32 = .ok (.invokevirtual 22, 3) := by decide +kernel
theorem dLb_write_35 : decode cLb_write 35 = .ok (.iload_n 3, 1) := by decide +kernel
theorem dLb_write_36 : decode cLb_write 36 = .ok (.invokevirtual 26, 3) := by decide +kernel
theorem dLb_write_39 : decode cLb_write 39 = .ok (.bipush 35, 2) := by decide +kernel
theorem dLb_write_41 : decode cLb_write 41 = .ok (.invokevirtual 22, 3) := by decide +kernel
theorem dLb_write_44 : decode cLb_write 44 = .ok (.pop, 1) := by decide +kernel
theorem dLb_write_45 : decode cLb_write 45 = .ok (.aload_n 0, 1) := by decide +kernel
theorem dLb_write_46 : decode cLb_write 46 = .ok (.getfield 12, 3) := by decide +kernel
theorem dLb_write_49 : decode cLb_write 49 = .ok (.aload_n 0, 1) := by decide +kernel
theorem dLb_write_50 : decode cLb_write 50 = .ok (.invokevirtual 29, 3) := by decide +kernel
theorem dLb_write_53 : decode cLb_write 53 = .ok (.invokevirtual 26, 3) := by decide +kernel
theorem dLb_write_56 : decode cLb_write 56 = .ok (.pop, 1) := by decide +kernel
theorem dLb_write_57 : decode cLb_write 57 = .ok (.return_, 1) := by decide +kernel
theorem dLb_checkDigit_0 : decode cLb_checkDigit 0 = .ok (.iconst 0, 1) := by decide +kernel
theorem dLb_checkDigit_1 : decode cLb_checkDigit 1 = .ok (.istore_n 1, 1) := by decide +kernel
theorem dLb_checkDigit_2 : decode cLb_checkDigit 2 = .ok (.iconst 0, 1) := by decide +kernel
theorem dLb_checkDigit_3 : decode cLb_checkDigit 3 = .ok (.istore_n 2, 1) := by decide +kernel
theorem dLb_checkDigit_4 : decode cLb_checkDigit 4 = .ok (.iload_n 2, 1) := by decide +kernel
theorem dLb_checkDigit_5 : decode cLb_checkDigit 5 = .ok (.aload_n 0, 1) := by decide +kernel
theorem dLb_checkDigit_6 : decode cLb_checkDigit 6 = .ok (.getfield 12, 3) := by decide +kernel
theorem dLb_checkDigit_9 : decode cLb_checkDigit 9 = .ok (.invokevirtual 33, 3) := by decide +kernel
theorem dLb_checkDigit_12 : decode cLb_checkDigit 12 = .ok (.if_icmp .ge 41, 3) := by decide +kernel
theorem dLb_checkDigit_15 : decode cLb_checkDigit 15 = .ok (.aload_n 0, 1) := by decide +kernel
theorem dLb_checkDigit_16 : decode cLb_checkDigit 16 = .ok (.getfield 12, 3) := by decide +kernel
theorem dLb_checkDigit_19 : decode cLb_checkDigit 19 = .ok (.iload_n 2, 1) := by decide +kernel
theorem dLb_checkDigit_20 : decode cLb_checkDigit 20 = .ok (.invokevirtual 36, 3) := by decide +kernel
theorem dLb_checkDigit_23 : decode cLb_checkDigit 23 = .ok (.istore_n 3, 1) := by decide +kernel
theorem dLb_checkDigit_24 : decode cLb_checkDigit 24 = .ok (.iload_n 3, 1) := by decide +kernel
theorem dLb_checkDigit_25 : decode cLb_checkDigit 25 = .ok (.bipush 48, 2) := by decide +kernel
theorem dLb_checkDigit_27 : decode cLb_checkDigit 27 = .ok (.if_icmp .lt 20, 3) := by decide +kernel
theorem dLb_checkDigit_30 : decode cLb_checkDigit 30 = .ok (.iload_n 3, 1) := by decide +kernel
theorem dLb_checkDigit_31 : decode cLb_checkDigit 31 = .ok (.bipush 57, 2) := by decide +kernel
theorem dLb_checkDigit_33 : decode cLb_checkDigit 33 = .ok (.if_icmp .gt 14, 3) := by decide +kernel
theorem dLb_checkDigit_36 : decode cLb_checkDigit 36 = .ok (.iload_n 1, 1) := by decide +kernel
theorem dLb_checkDigit_37 : decode cLb_checkDigit 37 = .ok (.iload_n 3, 1) := by decide +kernel
theorem dLb_checkDigit_38 : decode cLb_checkDigit 38 = .ok (.bipush 48, 2) := by decide +kernel
theorem dLb_checkDigit_40 : decode cLb_checkDigit 40 = .ok (.isub, 1) := by decide +kernel
theorem dLb_checkDigit_41 : decode cLb_checkDigit 41 = .ok (.iload_n 2, 1) := by decide +kernel
theorem dLb_checkDigit_42 : decode cLb_checkDigit 42 = .ok (.iconst 1, 1) := by decide +kernel
theorem dLb_checkDigit_43 : decode cLb_checkDigit 43 = .ok (.iadd, 1) := by decide +kernel
theorem dLb_checkDigit_44 : decode cLb_checkDigit 44 = .ok (.imul, 1) := by decide +kernel
theorem dLb_checkDigit_45 : decode cLb_checkDigit 45 = .ok (.iadd, 1) := by decide +kernel
theorem dLb_checkDigit_46 : decode cLb_checkDigit 46 = .ok (.istore_n 1, 1) := by decide +kernel
theorem dLb_checkDigit_47 : decode cLb_checkDigit 47 = .ok (.iinc 2 1, 3) := by decide +kernel
theorem dLb_checkDigit_50 : decode cLb_checkDigit 50 = .ok (.goto (-46), 3) := by decide +kernel
theorem dLb_checkDigit_53 : decode cLb_checkDigit 53 = .ok (.iload_n 1, 1) := by decide +kernel
theorem dLb_checkDigit_54 : decode cLb_checkDigit 54 = .ok (.bipush 10, 2) := by decide +kernel
theorem dLb_checkDigit_56 : decode cLb_checkDigit 56 = .ok (.irem, 1) := by decide +kernel
theorem dLb_checkDigit_57 : decode cLb_checkDigit 57 = .ok (.ireturn, 1) := by decide +kernel
theorem dLb_character_0 : decode cLb_character 0 = .ok (.iload_n 1, 1) := by decide +kernel
theorem dLb_character_1 : decode cLb_character 1 = .ok (.ifCond .lt 25, 3) := by decide +kernel
theorem dLb_character_4 : decode cLb_character 4 = .ok (.iload_n 1, 1) := by decide +kernel
theorem dLb_character_5 : decode cLb_character 5 = .ok (.aload_n 0, 1) := by decide +kernel
theorem dLb_character_6 : decode cLb_character 6 = .ok (.getfield 12, 3) := by decide +kernel
theorem dLb_character_9 : decode cLb_character 9 = .ok (.invokevirtual 33, 3) := by decide +kernel
theorem dLb_character_12 : decode cLb_character 12 = .ok (.if_icmp .ge 14, 3) := by decide +kernel
theorem dLb_character_15 : decode cLb_character 15 = .ok (.aload_n 0, 1) := by decide +kernel
theorem dLb_character_16 : decode cLb_character 16 = .ok (.getfield 12, 3) := by decide +kernel
theorem dLb_character_19 : decode cLb_character 19 = .ok (.iload_n 1, 1) := by decide +kernel
theorem dLb_character_20 : decode cLb_character 20 = .ok (.invokevirtual 36, 3) := by decide +kernel
theorem dLb_character_23 : decode cLb_character 23 = .ok (.goto 4, 3) := by decide +kernel
theorem dLb_character_26 : decode cLb_character 26 = .ok (.iconst (-1), 1) := by decide +kernel
theorem dLb_character_27 : decode cLb_character 27 = .ok (.ireturn, 1) := by decide +kernel
set_option maxRecDepth 100000 in
theorem flLb_12 : Cond.fieldLink "PartDrawings$Label" 12 (TLb 0).1 (TLb 0).2.1 (TLb 0).2.2.1 ∈ gW := gW_1 349 rfl rfl
set_option maxRecDepth 100000 in
theorem inLb : ∀ w ∈ u_ws RLb TLb 1, w ∈ gW := gW_l [350] rfl (by decide +kernel)
set_option maxRecDepth 100000 in
theorem kLb_33 : inT (kV "PartDrawings$Label" 33 ySb_length cSb_length 1 (some .int)) := gW_l [1153, 1037, 1525, 58, 1038] rfl (by decide +kernel)
set_option maxRecDepth 100000 in
theorem kLb_36 : inT (kV "PartDrawings$Label" 36 ySb_charAt cSb_charAt 2 (some .char)) := gW_l [1154, 1155, 1156, 58, 1157] rfl (by decide +kernel)
set_option maxRecDepth 100000 in
theorem kLb_18 : inT (kV "PartDrawings$Label" 18 ySb_setLength cSb_setLength 2 none) := gW_l [859, 860, 861, 58, 862] rfl (by decide +kernel)
set_option maxRecDepth 100000 in
theorem kLb_22 : inT (kV "PartDrawings$Label" 22 ySb_append_0 cSb_append_0 2 (some (.object "java/lang/StringBuilder"))) := gW_l [1126, 1127, 1128, 58, 1129] rfl (by decide +kernel)
set_option maxRecDepth 100000 in
theorem kLb_26 : inT (kV "PartDrawings$Label" 26 ySb_append_1 cSb_append_1 2 (some (.object "java/lang/StringBuilder"))) := gW_l [1148, 991, 992, 58, 993] rfl (by decide +kernel)
set_option maxRecDepth 100000 in
theorem kLb_29 : inT (kV "PartDrawings$Label" 29 yLb_checkDigit cLb_checkDigit 4 (some .int)) := gW_l [1149, 1151, 18, 56, 1152] rfl (by decide +kernel)
set_option maxRecDepth 100000 in
theorem kobLb_3 : inT (kObj "PartDrawings$Label" 3) := gW_l [315, 82, 83] rfl (by decide +kernel)
set_option maxRecDepth 100000 in
theorem kwLb_9 : inT [.classLink "PartDrawings$Label" 9 RSb, .instantiable RSb 4, .initialized RSb] := gW_l [316, 317, 58] rfl (by decide +kernel)
set_option maxRecDepth 100000 in
theorem dfSb : ∀ j, j < 4 → defaultValue (tySb j) = vp_V [.null, .int (zI 0), .int (zI 0), .int (zI 0)] j
  | 0, _ => rfl
  | 1, _ => rfl
  | 2, _ => rfl
  | 3, _ => rfl
  | n + 4, h => absurd h (by omega)
set_option maxRecDepth 100000 in
theorem kLb_11 : inT (kI "PartDrawings$Label" 11 ySb_init cSb_init 1) := gW_l [318, 319, 58, 320] rfl (by decide +kernel)
set_option maxHeartbeats 4000000 in
set_option maxRecDepth 100000 in
theorem c_Label_checkDigit (l : Launch) (D : va_G) (cI cG cL cB : ClassId) (la0 : Nat) (sb0 : Nat) (va : Nat) (ml : Int) (cn : Int) (mm : Nat) (V : Int → Int) (bV : ∀ j : Int, B8 (V j)) (hmm : mm = 16 ∨ mm = 34) (hml : ml = 0 ∨ ml = 1) (hcn : 0 ≤ cn ∧ cn ≤ mm) : Ci l yLb_checkDigit cLb_checkDigit 4 (some .int) 4 0 0 D zCl (zT cI cG cL cB) [.ref la0] [(la0, .inr (3, [.ref sb0])), (sb0, .inr (11, [.ref va, .int (zI 0), .int (zI ml), .int (zI cn)])), (va, .inl (cB, mm, .inl (fI V)))] (fun x w => (0 ≤ (sumZ (ckF V) cn).tmod 10 ∧ (sumZ (ckF V) cn).tmod 10 ≤ 9) ∧ x = zI ((sumZ (ckF V) cn).tmod 10) ∧ w = [(la0, .inr (3, [.ref sb0])), (sb0, .inr (11, [.ref va, .int (zI 0), .int (zI ml), .int (zI cn)])), (va, .inl (cB, mm, .inl (fI V)))]) := by
  refine zBi (by decide) (Nat.le_of_ble_eq_true rfl) ?_
  intro p e s m args below meth c ls A H locs Q C hin hl hW hQ
  have hl : lv_has ls 4 [(0, .ref la0)] := hl
  have hmi : (mm : Int) ≤ 34 := (by omega)
  refine lv_iconst (v := zI 0) C.1 C.2.1 dLb_checkDigit_0 (by decide) ?_
  refine lv_istore_n (lv' := [(1, .int (zI 0)), (0, .ref la0)]) C.1 C.2.1 dLb_checkDigit_1 rfl hl (by decide) rfl (fun ls hl => ?_)
  refine lv_iconst (v := zI 0) C.1 C.2.1 dLb_checkDigit_2 (by decide) ?_
  refine lv_istore_n (lv' := [(2, .int (zI 0)), (1, .int (zI 0)), (0, .ref la0)]) C.1 C.2.1 dLb_checkDigit_3 rfl hl (by decide) rfl (fun ls hl => ?_)
  have L4 : ∀ (N : Nat) (i : Int) (s_ : Int), (cn - i).toNat < N → (0 ≤ i) → (i ≤ cn) → (s_ = sumZ (ckF V) i) → (0 ≤ s_ ∧ s_ ≤ 400 * i) → ∀ (ls : Array Slot) (H : Heap) (locs : List Loc), lv_has ls 4 [(2, .int (zI i)), (1, .int (zI s_)), (0, .ref la0)] → zw D zCl A s [(la0, .inr (3, [.ref sb0])), (sb0, .inr (11, [.ref va, .int (zI 0), .int (zI ml), .int (zI cn)])), (va, .inl (cB, mm, .inl (fI V)))] H locs → W p l e (zr 4 0 0) s m args below meth c H locs 0 0 Q (F0 m 4 ls []) := by
    intro N
    induction N with
    | zero => intro i s_ hm; exact absurd hm (Nat.not_lt_zero _)
    | succ N ih4 =>
      intro i s_ hm4 hi0 hi1 hs_ hsb ls H locs hl hW
      refine lv_iload_n C.1 C.2.1 dLb_checkDigit_4 rfl (lv_at hl 0 rfl) ?_
      refine lv_aload_n C.1 C.2.1 dLb_checkDigit_5 rfl (lv_at hl 2 rfl) ?_
      refine zget C hW 0 0 rfl rfl inLb (by decide) flLb_12 rfl dLb_checkDigit_6 ?_
      refine zcalli (wr := [(la0, .inr (3, [.ref sb0])), (va, .inl (cB, mm, .inl (fI V)))]) C hW [1] [0, 2] rfl rfl (by decide) (by decide) (zRunV (k := 0) (As := []) (rest := [.int (zI i)]) C hW (c_StringBuilder_length l D cI cG cL cB sb0 va ml cn  H.size) [1] rfl (by decide) kLb_33 (by decide +kernel) ⟨by decide, by decide⟩ 1 rfl rfl rfl hl.1 (Nat.le_of_ble_eq_true rfl) dLb_checkDigit_9 ⟨by first | decide | omega, by first | decide | omega⟩) (fun x w H locs hq hW => ?_)
      obtain ⟨rfl, rfl⟩ := hq
      have hW : zw D zCl A s [(la0, .inr (3, [.ref sb0])), (va, .inl (cB, mm, .inl (fI V))), (sb0, .inr (11, [.ref va, .int (zI 0), .int (zI ml), .int (zI cn)]))] H locs := hW
      refine zicmp_ge (tgt := 53) C (by omega) (by omega) dLb_checkDigit_12 (by decide) (fun c12 => ?_) (fun c12 => ?_)
      · have hsm1 := Int.tmod_nonneg 10 (show 0 ≤ s_ by omega)
        have hsm2 := Int.tmod_lt_of_pos s_ (show (0 : Int) < 10 by decide)
        have hic : i = cn := by omega
        refine lv_iload_n C.1 C.2.1 dLb_checkDigit_53 rfl (lv_at hl 1 rfl) ?_
        refine lv_bipush (v := zI 10) C.1 C.2.1 dLb_checkDigit_54 (by decide) ?_
        refine zirem C (by omega) (by omega) (by omega) dLb_checkDigit_56 ?_
        have hW : zw D zCl A s [(la0, .inr (3, [.ref sb0])), (sb0, .inr (11, [.ref va, .int (zI 0), .int (zI ml), .int (zI cn)])), (va, .inl (cB, mm, .inl (fI V)))] H locs := zwp hW [0, 2, 1] rfl (by decide)
        exact hQ (zI (s_.tmod 10)) _ H locs _ _ _ ls hW ⟨(by rw [← hic, ← hs_]; omega), congrArg zI (by rw [← hic, ← hs_]), rfl⟩ (by omega) (by omega) dLb_checkDigit_57
      · refine lv_aload_n C.1 C.2.1 dLb_checkDigit_15 rfl (lv_at hl 2 rfl) ?_
        refine zget C hW 0 0 rfl rfl inLb (by decide) flLb_12 rfl dLb_checkDigit_16 ?_
        refine lv_iload_n C.1 C.2.1 dLb_checkDigit_19 rfl (lv_at hl 0 rfl) ?_
        refine zcalli (wr := [(la0, .inr (3, [.ref sb0]))]) C hW [2, 1] [0] rfl rfl (by decide) (by decide) (zRunV (k := 1) (As := [.int (zI i)]) (rest := []) C hW (c_StringBuilder_charAt l D cI cG cL cB sb0 va ml cn mm V i bV (by omega) (by omega) (by omega) (by omega) (by omega) H.size) [2, 1] rfl (by decide) kLb_36 (by decide +kernel) ⟨by decide, by decide⟩ 2 rfl rfl rfl hl.1 (Nat.le_of_ble_eq_true rfl) dLb_checkDigit_20 ⟨by first | decide | omega, by first | decide | omega⟩) (fun x w H locs hq hW => ?_)
        obtain ⟨rfl, rfl⟩ := hq
        have hW : zw D zCl A s [(la0, .inr (3, [.ref sb0])), (sb0, .inr (11, [.ref va, .int (zI 0), .int (zI ml), .int (zI cn)])), (va, .inl (cB, mm, .inl (fI V)))] H locs := hW
        have hbi := bV i
        refine lv_istore_n (lv' := [(3, .int (zI (V i))), (2, .int (zI i)), (1, .int (zI s_)), (0, .ref la0)]) C.1 C.2.1 dLb_checkDigit_23 rfl hl (by decide) rfl (fun ls hl => ?_)
        refine lv_iload_n C.1 C.2.1 dLb_checkDigit_24 rfl (lv_at hl 0 rfl) ?_
        refine lv_bipush (v := zI 48) C.1 C.2.1 dLb_checkDigit_25 (by decide) ?_
        refine zicmp_lt (tgt := 47) C (by omega) (by omega) dLb_checkDigit_27 (by decide) (fun c27 => ?_) (fun c27 => ?_)
        · refine lv_iinc (v := zI (i + 1)) (lv' := [(2, .int (zI (i + 1))), (3, .int (zI (V i))), (1, .int (zI s_)), (0, .ref la0)]) C.1 C.2.1 dLb_checkDigit_47 hl (k := 1) rfl (zI_add i 1) (by decide) rfl (fun ls hl => ?_)
          refine lv_goto (tgt := 4) C.1 C.2.1 dLb_checkDigit_50 (by decide) ?_
          exact ih4 (i + 1) s_ (by omega) (by omega) (by omega) (by rw [sumZ_s _ hi0, ← hs_]; unfold ckF; first | (rw [if_pos (by omega)]; done) | (rw [if_neg (by omega)]; omega)) (by first | omega | (have h9 := mul_in (a := V i - 48) (b := i + 1) (A := 9) (B := 34) (by omega) (by omega) (by omega) (by omega); omega)) ls H locs (lv_sub hl [0, 2, 3] rfl) hW
        · refine lv_iload_n C.1 C.2.1 dLb_checkDigit_30 rfl (lv_at hl 0 rfl) ?_
          refine lv_bipush (v := zI 57) C.1 C.2.1 dLb_checkDigit_31 (by decide) ?_
          refine zicmp_gt (tgt := 47) C (by omega) (by omega) dLb_checkDigit_33 (by decide) (fun c33 => ?_) (fun c33 => ?_)
          · refine lv_iinc (v := zI (i + 1)) (lv' := [(2, .int (zI (i + 1))), (3, .int (zI (V i))), (1, .int (zI s_)), (0, .ref la0)]) C.1 C.2.1 dLb_checkDigit_47 hl (k := 1) rfl (zI_add i 1) (by decide) rfl (fun ls hl => ?_)
            refine lv_goto (tgt := 4) C.1 C.2.1 dLb_checkDigit_50 (by decide) ?_
            exact ih4 (i + 1) s_ (by omega) (by omega) (by omega) (by rw [sumZ_s _ hi0, ← hs_]; unfold ckF; first | (rw [if_pos (by omega)]; done) | (rw [if_neg (by omega)]; omega)) (by first | omega | (have h9 := mul_in (a := V i - 48) (b := i + 1) (A := 9) (B := 34) (by omega) (by omega) (by omega) (by omega); omega)) ls H locs (lv_sub hl [0, 2, 3] rfl) hW
          · refine lv_iload_n C.1 C.2.1 dLb_checkDigit_36 rfl (lv_at hl 2 rfl) ?_
            refine lv_iload_n C.1 C.2.1 dLb_checkDigit_37 rfl (lv_at hl 0 rfl) ?_
            refine lv_bipush (v := zI 48) C.1 C.2.1 dLb_checkDigit_38 (by decide) ?_
            refine zisub C dLb_checkDigit_40 ?_
            refine lv_iload_n C.1 C.2.1 dLb_checkDigit_41 rfl (lv_at hl 1 rfl) ?_
            refine lv_iconst (v := zI 1) C.1 C.2.1 dLb_checkDigit_42 (by decide) ?_
            refine ziadd C dLb_checkDigit_43 ?_
            refine zimul C dLb_checkDigit_44 ?_
            refine ziadd C dLb_checkDigit_45 ?_
            refine lv_istore_n (lv' := [(1, .int (zI (s_ + (((V i) - 48) * (i + 1))))), (3, .int (zI (V i))), (2, .int (zI i)), (0, .ref la0)]) C.1 C.2.1 dLb_checkDigit_46 rfl hl (by decide) rfl (fun ls hl => ?_)
            refine lv_iinc (v := zI (i + 1)) (lv' := [(2, .int (zI (i + 1))), (1, .int (zI (s_ + (((V i) - 48) * (i + 1))))), (3, .int (zI (V i))), (0, .ref la0)]) C.1 C.2.1 dLb_checkDigit_47 hl (k := 2) rfl (zI_add i 1) (by decide) rfl (fun ls hl => ?_)
            refine lv_goto (tgt := 4) C.1 C.2.1 dLb_checkDigit_50 (by decide) ?_
            exact ih4 (i + 1) (s_ + (((V i) - 48) * (i + 1))) (by omega) (by omega) (by omega) (by rw [sumZ_s _ hi0, ← hs_]; unfold ckF; first | (rw [if_pos (by omega)]; done) | (rw [if_neg (by omega)]; omega)) (by first | omega | (have h9 := mul_in (a := V i - 48) (b := i + 1) (A := 9) (B := 34) (by omega) (by omega) (by omega) (by omega); omega)) ls H locs (lv_sub hl [0, 1, 3] rfl) hW
  exact L4 _ 0 0 (Nat.lt_succ_self _) (by omega) (by omega) rfl (by omega) ls H locs (lv_sub hl [0, 1, 2] rfl) hW
set_option maxHeartbeats 4000000 in
set_option maxRecDepth 100000 in
theorem c_Label_write (l : Launch) (D : va_G) (cI cG cL cB : ClassId) (la0 : Nat) (sb0 : Nat) (va : Nat) (ml : Int) (cn : Int) (mm : Nat) (V : Int → Int) (pw : Int) (ph : Int) (pd_ : Int) (bV : ∀ j : Int, B8 (V j)) (hmm : mm = 16 ∨ mm = 34) (hml : ml = 0 ∨ ml = 1) (hcn : 0 ≤ cn ∧ cn ≤ mm) (hpw : 1 ≤ pw ∧ pw ≤ 1000000) (hph : 1 ≤ ph ∧ ph ≤ 1000000) (hpd_ : 1 ≤ pd_ ∧ pd_ ≤ 1000000) : Cv l yLb_write cLb_write 4 none 6 9 306 D zCl (zT cI cG cL cB) [.ref la0, .int (zI pw), .int (zI ph), .int (zI pd_)] [(la0, .inr (3, [.ref sb0])), (sb0, .inr (11, [.ref va, .int (zI 0), .int (zI ml), .int (zI cn)])), (va, .inl (cB, mm, .inl (fI V)))] (fun w => ∃ va2 : Nat, ∃ mm2 : Nat, ∃ V2 : Int → Int, ∃ ml2 : Int, ∃ cn2 : Int, (∀ j : Int, B8 (V2 j)) ∧ (mm2 = 16 ∨ mm2 = 34) ∧ (ml2 = 0 ∨ ml2 = 1) ∧ (0 ≤ cn2 ∧ cn2 ≤ mm2) ∧ (arrL V2 cn2 (labF pw ph pd_)) ∧ w = [(la0, .inr (3, [.ref sb0])), (sb0, .inr (11, [.ref va2, .int (zI 0), .int (zI ml2), .int (zI cn2)])), (va2, .inl (cB, mm2, .inl (fI V2)))]) := by
  refine zBv (by decide) (Nat.le_of_ble_eq_true rfl) ?_
  intro p e s m args below meth c ls A H locs Q C hin hl hW hQ
  have hl : lv_has ls 4 [(0, .ref la0), (1, .int (zI pw)), (2, .int (zI ph)), (3, .int (zI pd_))] := hl
  have hl_pw := dgz_le (v := pw) (by omega)
  have hl_ph := dgz_le (v := ph) (by omega)
  have hl_pd_ := dgz_le (v := pd_) (by omega)
  refine lv_aload_n C.1 C.2.1 dLb_write_0 rfl (lv_at hl 0 rfl) ?_
  refine zget C hW 0 0 rfl rfl inLb (by decide) flLb_12 rfl dLb_write_1 ?_
  refine lv_iconst (v := zI 0) C.1 C.2.1 dLb_write_4 (by decide) ?_
  refine zcallv (wr := [(la0, .inr (3, [.ref sb0]))]) C hW [1, 2] [0] rfl rfl (by decide) (by decide) (zRunV (k := 1) (As := [.int (zI 0)]) (rest := []) C hW (c_StringBuilder_setLength l D cI cG cL cB sb0 va ml cn mm V bV (by omega) (by omega) (by omega) H.size) [1, 2] rfl (by decide) kLb_18 (by decide +kernel) ⟨by decide, by decide⟩ 1 rfl rfl rfl hl.1 (Nat.le_of_ble_eq_true rfl) dLb_write_5 ⟨by first | decide | omega, by first | decide | omega⟩) (fun w H locs hq hW => ?_)
  obtain ⟨va21, mm22, V23, ml24, hf5, hf6, hf7, rfl⟩ := hq
  have hW : zw D zCl A s [(la0, .inr (3, [.ref sb0])), (sb0, .inr (11, [.ref va21, .int (zI 0), .int (zI ml24), .int (zI 0)])), (va21, .inl (cB, mm22, .inl (fI V23)))] H locs := hW
  refine lv_aload_n C.1 C.2.1 dLb_write_8 rfl (lv_at hl 0 rfl) ?_
  refine zget C hW 0 0 rfl rfl inLb (by decide) flLb_12 rfl dLb_write_9 ?_
  refine lv_bipush (v := zI 87) C.1 C.2.1 dLb_write_12 (by decide) ?_
  refine zcallq (wr := [(la0, .inr (3, [.ref sb0]))]) C hW [1, 2] [0] rfl rfl (by decide) (by decide) (zRunV (k := 1) (As := [.int (zI 87)]) (rest := []) C hW (c_Sb_appendC l D cI cG cL cB sb0 va21 ml24 0 mm22 V23 87 ([]) hf5 (by omega) (by omega) (by omega) (by omega) ⟨rfl, fun k h => absurd h (Nat.not_lt_zero k)⟩ (by omega) H.size) [1, 2] rfl (by decide) kLb_22 (by decide +kernel) ⟨by decide, by decide⟩ 1 rfl rfl rfl hl.1 (Nat.le_of_ble_eq_true rfl) dLb_write_14 ⟨by first | decide | omega, by first | decide | omega⟩) (fun x w H locs hq hW => ?_)
  obtain ⟨va28, mm29, V210, hf11, hf12, hf13, hf14, rfl, rfl⟩ := hq
  have hW : zw D zCl A s [(la0, .inr (3, [.ref sb0])), (sb0, .inr (11, [.ref va28, .int (zI 0), .int (zI ml24), .int (zI (0 + 1))])), (va28, .inl (cB, mm29, .inl (fI V210)))] H locs := hW
  refine lv_iload_n C.1 C.2.1 dLb_write_17 rfl (lv_at hl 1 rfl) ?_
  refine zcallq (wr := [(la0, .inr (3, [.ref sb0]))]) C hW [1, 2] [0] rfl rfl (by decide) (by decide) (zRunV (k := 1) (As := [.int (zI pw)]) (rest := []) C hW (c_Sb_appendI l D cI cG cL cB sb0 va28 ml24 (0 + 1) mm29 V210 pw ([] ++ [87]) hf11 (by omega) (by omega) (by omega) (by omega) hf14 (by omega) H.size) [1, 2] rfl (by decide) kLb_26 (by decide +kernel) ⟨by decide, by decide⟩ 1 rfl rfl rfl hl.1 (Nat.le_of_ble_eq_true rfl) dLb_write_18 ⟨by first | decide | omega, by first | decide | omega⟩) (fun x w H locs hq hW => ?_)
  obtain ⟨va215, mm216, V217, hf18, hf19, hf20, hf21, rfl, rfl⟩ := hq
  have hW : zw D zCl A s [(la0, .inr (3, [.ref sb0])), (sb0, .inr (11, [.ref va215, .int (zI 0), .int (zI ml24), .int (zI ((0 + 1) + ((dgz pw).length : Int)))])), (va215, .inl (cB, mm216, .inl (fI V217)))] H locs := hW
  refine lv_bipush (v := zI 72) C.1 C.2.1 dLb_write_21 (by decide) ?_
  refine zcallq (wr := [(la0, .inr (3, [.ref sb0]))]) C hW [1, 2] [0] rfl rfl (by decide) (by decide) (zRunV (k := 1) (As := [.int (zI 72)]) (rest := []) C hW (c_Sb_appendC l D cI cG cL cB sb0 va215 ml24 ((0 + 1) + ((dgz pw).length : Int)) mm216 V217 72 (([] ++ [87]) ++ dgz pw) hf18 (by omega) (by omega) (by omega) (by omega) hf21 (by omega) H.size) [1, 2] rfl (by decide) kLb_22 (by decide +kernel) ⟨by decide, by decide⟩ 1 rfl rfl rfl hl.1 (Nat.le_of_ble_eq_true rfl) dLb_write_23 ⟨by first | decide | omega, by first | decide | omega⟩) (fun x w H locs hq hW => ?_)
  obtain ⟨va222, mm223, V224, hf25, hf26, hf27, hf28, rfl, rfl⟩ := hq
  have hW : zw D zCl A s [(la0, .inr (3, [.ref sb0])), (sb0, .inr (11, [.ref va222, .int (zI 0), .int (zI ml24), .int (zI (((0 + 1) + ((dgz pw).length : Int)) + 1))])), (va222, .inl (cB, mm223, .inl (fI V224)))] H locs := hW
  refine lv_iload_n C.1 C.2.1 dLb_write_26 rfl (lv_at hl 2 rfl) ?_
  refine zcallq (wr := [(la0, .inr (3, [.ref sb0]))]) C hW [1, 2] [0] rfl rfl (by decide) (by decide) (zRunV (k := 1) (As := [.int (zI ph)]) (rest := []) C hW (c_Sb_appendI l D cI cG cL cB sb0 va222 ml24 (((0 + 1) + ((dgz pw).length : Int)) + 1) mm223 V224 ph ((([] ++ [87]) ++ dgz pw) ++ [72]) hf25 (by omega) (by omega) (by omega) (by omega) hf28 (by omega) H.size) [1, 2] rfl (by decide) kLb_26 (by decide +kernel) ⟨by decide, by decide⟩ 1 rfl rfl rfl hl.1 (Nat.le_of_ble_eq_true rfl) dLb_write_27 ⟨by first | decide | omega, by first | decide | omega⟩) (fun x w H locs hq hW => ?_)
  obtain ⟨va229, mm230, V231, hf32, hf33, hf34, hf35, rfl, rfl⟩ := hq
  have hW : zw D zCl A s [(la0, .inr (3, [.ref sb0])), (sb0, .inr (11, [.ref va229, .int (zI 0), .int (zI ml24), .int (zI ((((0 + 1) + ((dgz pw).length : Int)) + 1) + ((dgz ph).length : Int)))])), (va229, .inl (cB, mm230, .inl (fI V231)))] H locs := hW
  refine lv_bipush (v := zI 68) C.1 C.2.1 dLb_write_30 (by decide) ?_
  refine zcallq (wr := [(la0, .inr (3, [.ref sb0]))]) C hW [1, 2] [0] rfl rfl (by decide) (by decide) (zRunV (k := 1) (As := [.int (zI 68)]) (rest := []) C hW (c_Sb_appendC l D cI cG cL cB sb0 va229 ml24 ((((0 + 1) + ((dgz pw).length : Int)) + 1) + ((dgz ph).length : Int)) mm230 V231 68 (((([] ++ [87]) ++ dgz pw) ++ [72]) ++ dgz ph) hf32 (by omega) (by omega) (by omega) (by omega) hf35 (by omega) H.size) [1, 2] rfl (by decide) kLb_22 (by decide +kernel) ⟨by decide, by decide⟩ 1 rfl rfl rfl hl.1 (Nat.le_of_ble_eq_true rfl) dLb_write_32 ⟨by first | decide | omega, by first | decide | omega⟩) (fun x w H locs hq hW => ?_)
  obtain ⟨va236, mm237, V238, hf39, hf40, hf41, hf42, rfl, rfl⟩ := hq
  have hW : zw D zCl A s [(la0, .inr (3, [.ref sb0])), (sb0, .inr (11, [.ref va236, .int (zI 0), .int (zI ml24), .int (zI (((((0 + 1) + ((dgz pw).length : Int)) + 1) + ((dgz ph).length : Int)) + 1))])), (va236, .inl (cB, mm237, .inl (fI V238)))] H locs := hW
  refine lv_iload_n C.1 C.2.1 dLb_write_35 rfl (lv_at hl 3 rfl) ?_
  refine zcallq (wr := [(la0, .inr (3, [.ref sb0]))]) C hW [1, 2] [0] rfl rfl (by decide) (by decide) (zRunV (k := 1) (As := [.int (zI pd_)]) (rest := []) C hW (c_Sb_appendI l D cI cG cL cB sb0 va236 ml24 (((((0 + 1) + ((dgz pw).length : Int)) + 1) + ((dgz ph).length : Int)) + 1) mm237 V238 pd_ ((((([] ++ [87]) ++ dgz pw) ++ [72]) ++ dgz ph) ++ [68]) hf39 (by omega) (by omega) (by omega) (by omega) hf42 (by omega) H.size) [1, 2] rfl (by decide) kLb_26 (by decide +kernel) ⟨by decide, by decide⟩ 1 rfl rfl rfl hl.1 (Nat.le_of_ble_eq_true rfl) dLb_write_36 ⟨by first | decide | omega, by first | decide | omega⟩) (fun x w H locs hq hW => ?_)
  obtain ⟨va243, mm244, V245, hf46, hf47, hf48, hf49, rfl, rfl⟩ := hq
  have hW : zw D zCl A s [(la0, .inr (3, [.ref sb0])), (sb0, .inr (11, [.ref va243, .int (zI 0), .int (zI ml24), .int (zI ((((((0 + 1) + ((dgz pw).length : Int)) + 1) + ((dgz ph).length : Int)) + 1) + ((dgz pd_).length : Int)))])), (va243, .inl (cB, mm244, .inl (fI V245)))] H locs := hW
  refine lv_bipush (v := zI 35) C.1 C.2.1 dLb_write_39 (by decide) ?_
  refine zcallq (wr := [(la0, .inr (3, [.ref sb0]))]) C hW [1, 2] [0] rfl rfl (by decide) (by decide) (zRunV (k := 1) (As := [.int (zI 35)]) (rest := []) C hW (c_Sb_appendC l D cI cG cL cB sb0 va243 ml24 ((((((0 + 1) + ((dgz pw).length : Int)) + 1) + ((dgz ph).length : Int)) + 1) + ((dgz pd_).length : Int)) mm244 V245 35 (((((([] ++ [87]) ++ dgz pw) ++ [72]) ++ dgz ph) ++ [68]) ++ dgz pd_) hf46 (by omega) (by omega) (by omega) (by omega) hf49 (by omega) H.size) [1, 2] rfl (by decide) kLb_22 (by decide +kernel) ⟨by decide, by decide⟩ 1 rfl rfl rfl hl.1 (Nat.le_of_ble_eq_true rfl) dLb_write_41 ⟨by first | decide | omega, by first | decide | omega⟩) (fun x w H locs hq hW => ?_)
  obtain ⟨va250, mm251, V252, hf53, hf54, hf55, hf56, rfl, rfl⟩ := hq
  have hW : zw D zCl A s [(la0, .inr (3, [.ref sb0])), (sb0, .inr (11, [.ref va250, .int (zI 0), .int (zI ml24), .int (zI (((((((0 + 1) + ((dgz pw).length : Int)) + 1) + ((dgz ph).length : Int)) + 1) + ((dgz pd_).length : Int)) + 1))])), (va250, .inl (cB, mm251, .inl (fI V252)))] H locs := hW
  refine lv_pop C.1 C.2.1 dLb_write_44 rfl ?_
  refine lv_aload_n C.1 C.2.1 dLb_write_45 rfl (lv_at hl 0 rfl) ?_
  refine zget C hW 0 0 rfl rfl inLb (by decide) flLb_12 rfl dLb_write_46 ?_
  refine lv_aload_n C.1 C.2.1 dLb_write_49 rfl (lv_at hl 0 rfl) ?_
  refine zcalli (wr := []) C hW [0, 1, 2] [] rfl rfl (by decide) (by decide) (zRunV (k := 0) (As := []) (rest := [.ref sb0]) C hW (c_Label_checkDigit l D cI cG cL cB la0 sb0 va250 ml24 (((((((0 + 1) + ((dgz pw).length : Int)) + 1) + ((dgz ph).length : Int)) + 1) + ((dgz pd_).length : Int)) + 1) mm251 V252 hf53 (by omega) (by omega) (by omega) H.size) [0, 1, 2] rfl (by decide) kLb_29 (by decide +kernel) ⟨by decide, by decide⟩ 0 rfl rfl rfl hl.1 (Nat.le_of_ble_eq_true rfl) dLb_write_50 ⟨by first | decide | omega, by first | decide | omega⟩) (fun x w H locs hq hW => ?_)
  obtain ⟨hf57, rfl, rfl⟩ := hq
  have hW : zw D zCl A s [(la0, .inr (3, [.ref sb0])), (sb0, .inr (11, [.ref va250, .int (zI 0), .int (zI ml24), .int (zI (((((((0 + 1) + ((dgz pw).length : Int)) + 1) + ((dgz ph).length : Int)) + 1) + ((dgz pd_).length : Int)) + 1))])), (va250, .inl (cB, mm251, .inl (fI V252)))] H locs := hW
  have hld := congrArg List.length (dgz_1 (hf57).1 (hf57).2)
  simp only [List.length_cons, List.length_nil] at hld
  refine zcallq (wr := [(la0, .inr (3, [.ref sb0]))]) C hW [1, 2] [0] rfl rfl (by decide) (by decide) (zRunV (k := 1) (As := [.int (zI ((sumZ (ckF V252) (((((((0 + 1) + ((dgz pw).length : Int)) + 1) + ((dgz ph).length : Int)) + 1) + ((dgz pd_).length : Int)) + 1)).tmod 10))]) (rest := []) C hW (c_Sb_appendI l D cI cG cL cB sb0 va250 ml24 (((((((0 + 1) + ((dgz pw).length : Int)) + 1) + ((dgz ph).length : Int)) + 1) + ((dgz pd_).length : Int)) + 1) mm251 V252 ((sumZ (ckF V252) (((((((0 + 1) + ((dgz pw).length : Int)) + 1) + ((dgz ph).length : Int)) + 1) + ((dgz pd_).length : Int)) + 1)).tmod 10) ((((((([] ++ [87]) ++ dgz pw) ++ [72]) ++ dgz ph) ++ [68]) ++ dgz pd_) ++ [35]) hf53 (by omega) (by omega) (by omega) (by omega) hf56 (by omega) H.size) [1, 2] rfl (by decide) kLb_26 (by decide +kernel) ⟨by decide, by decide⟩ 1 rfl rfl rfl hl.1 (Nat.le_of_ble_eq_true rfl) dLb_write_53 ⟨by first | decide | omega, by first | decide | omega⟩) (fun x w H locs hq hW => ?_)
  obtain ⟨va258, mm259, V260, hf61, hf62, hf63, hf64, rfl, rfl⟩ := hq
  have hW : zw D zCl A s [(la0, .inr (3, [.ref sb0])), (sb0, .inr (11, [.ref va258, .int (zI 0), .int (zI ml24), .int (zI ((((((((0 + 1) + ((dgz pw).length : Int)) + 1) + ((dgz ph).length : Int)) + 1) + ((dgz pd_).length : Int)) + 1) + ((dgz ((sumZ (ckF V252) (((((((0 + 1) + ((dgz pw).length : Int)) + 1) + ((dgz ph).length : Int)) + 1) + ((dgz pd_).length : Int)) + 1)).tmod 10)).length : Int)))])), (va258, .inl (cB, mm259, .inl (fI V260)))] H locs := hW
  refine lv_pop C.1 C.2.1 dLb_write_56 rfl ?_
  exact hQ _ H locs _ _ _ ls hW ⟨_, _, _, _, _, hf61, hf62, (by omega), (by omega), (by have h9 := hf64; rw [lab_f hpw.1 hph.1 hpd_.1 hf57 hf56] at h9; exact h9), rfl⟩ (by omega) (by omega) dLb_write_57
set_option maxHeartbeats 4000000 in
set_option maxRecDepth 100000 in
theorem c_Label_character (l : Launch) (D : va_G) (cI cG cL cB : ClassId) (la0 : Nat) (sb0 : Nat) (va : Nat) (ml : Int) (cn : Int) (mm : Nat) (V : Int → Int) (i : Int) (bV : ∀ j : Int, B8 (V j)) (hmm : mm = 16 ∨ mm = 34) (hml : ml = 0 ∨ ml = 1) (hcn : 0 ≤ cn ∧ cn ≤ mm) (hIi : I32 i) (hi0 : 0 ≤ i) : Ci l yLb_character cLb_character 2 (some .int) 4 0 0 D zCl (zT cI cG cL cB) [.ref la0, .int (zI i)] [(la0, .inr (3, [.ref sb0])), (sb0, .inr (11, [.ref va, .int (zI 0), .int (zI ml), .int (zI cn)])), (va, .inl (cB, mm, .inl (fI V)))] (fun x w => x = zI (if i < cn then V i else -1) ∧ w = [(la0, .inr (3, [.ref sb0])), (sb0, .inr (11, [.ref va, .int (zI 0), .int (zI ml), .int (zI cn)])), (va, .inl (cB, mm, .inl (fI V)))]) := by
  refine zBi (by decide) (Nat.le_of_ble_eq_true rfl) ?_
  intro p e s m args below meth c ls A H locs Q C hin hl hW hQ
  have hl : lv_has ls 2 [(0, .ref la0), (1, .int (zI i))] := hl
  have hmi : (mm : Int) ≤ 34 := (by omega)
  refine lv_iload_n C.1 C.2.1 dLb_character_0 rfl (lv_at hl 1 rfl) ?_
  refine zif_lt (tgt := 26) C (by omega) dLb_character_1 (by decide) (fun c1 => ?_) (fun c1 => ?_)
  · exact False.elim (by omega)
  · refine lv_iload_n C.1 C.2.1 dLb_character_4 rfl (lv_at hl 1 rfl) ?_
    refine lv_aload_n C.1 C.2.1 dLb_character_5 rfl (lv_at hl 0 rfl) ?_
    refine zget C hW 0 0 rfl rfl inLb (by decide) flLb_12 rfl dLb_character_6 ?_
    refine zcalli (wr := [(la0, .inr (3, [.ref sb0])), (va, .inl (cB, mm, .inl (fI V)))]) C hW [1] [0, 2] rfl rfl (by decide) (by decide) (zRunV (k := 0) (As := []) (rest := [.int (zI i)]) C hW (c_StringBuilder_length l D cI cG cL cB sb0 va ml cn  H.size) [1] rfl (by decide) kLb_33 (by decide +kernel) ⟨by decide, by decide⟩ 1 rfl rfl rfl hl.1 (Nat.le_of_ble_eq_true rfl) dLb_character_9 ⟨by first | decide | omega, by first | decide | omega⟩) (fun x w H locs hq hW => ?_)
    obtain ⟨rfl, rfl⟩ := hq
    have hW : zw D zCl A s [(la0, .inr (3, [.ref sb0])), (va, .inl (cB, mm, .inl (fI V))), (sb0, .inr (11, [.ref va, .int (zI 0), .int (zI ml), .int (zI cn)]))] H locs := hW
    refine zicmp_ge (tgt := 26) C (by omega) (by omega) dLb_character_12 (by decide) (fun c12 => ?_) (fun c12 => ?_)
    · refine lv_iconst (v := zI (-1)) C.1 C.2.1 dLb_character_26 (by decide) ?_
      have hW : zw D zCl A s [(la0, .inr (3, [.ref sb0])), (sb0, .inr (11, [.ref va, .int (zI 0), .int (zI ml), .int (zI cn)])), (va, .inl (cB, mm, .inl (fI V)))] H locs := zwp hW [0, 2, 1] rfl (by decide)
      exact hQ (zI (-1)) _ H locs _ _ _ ls hW ⟨congrArg zI (by first | rw [if_pos (by omega)] | rw [if_neg (by omega)]), rfl⟩ (by omega) (by omega) dLb_character_27
    · refine lv_aload_n C.1 C.2.1 dLb_character_15 rfl (lv_at hl 0 rfl) ?_
      refine zget C hW 0 0 rfl rfl inLb (by decide) flLb_12 rfl dLb_character_16 ?_
      refine lv_iload_n C.1 C.2.1 dLb_character_19 rfl (lv_at hl 1 rfl) ?_
      refine zcalli (wr := [(la0, .inr (3, [.ref sb0]))]) C hW [2, 1] [0] rfl rfl (by decide) (by decide) (zRunV (k := 1) (As := [.int (zI i)]) (rest := []) C hW (c_StringBuilder_charAt l D cI cG cL cB sb0 va ml cn mm V i bV (by omega) (by omega) (by omega) (by omega) (by omega) H.size) [2, 1] rfl (by decide) kLb_36 (by decide +kernel) ⟨by decide, by decide⟩ 2 rfl rfl rfl hl.1 (Nat.le_of_ble_eq_true rfl) dLb_character_20 ⟨by first | decide | omega, by first | decide | omega⟩) (fun x w H locs hq hW => ?_)
      obtain ⟨rfl, rfl⟩ := hq
      have hW : zw D zCl A s [(la0, .inr (3, [.ref sb0])), (sb0, .inr (11, [.ref va, .int (zI 0), .int (zI ml), .int (zI cn)])), (va, .inl (cB, mm, .inl (fI V)))] H locs := hW
      refine lv_goto (tgt := 27) C.1 C.2.1 dLb_character_23 (by decide) ?_
      exact hQ (zI (V i)) _ H locs _ _ _ ls hW ⟨congrArg zI (by first | rw [if_pos (by omega)] | rw [if_neg (by omega)]), rfl⟩ (by omega) (by omega) dLb_character_27
set_option maxHeartbeats 4000000 in
set_option maxRecDepth 100000 in
theorem c_Label_init (l : Launch) (D : va_G) (cI cG cL cB : ClassId) (la0 : Nat)  : Cv l yLb_init cLb_init 1 none 3 2 20 D zCl (zT cI cG cL cB) [.ref la0] [(la0, .inr (3, [.null]))] (fun w => ∃ sb0 : Nat, ∃ va : Nat, w = [(la0, .inr (3, [.ref sb0])), (sb0, .inr (11, [.ref va, .int (zI 0), .int (zI 0), .int (zI 0)])), (va, .inl (cB, 16, .inl (fI (fun _ => 0))))]) := by
  refine zBv (by decide) (Nat.le_of_ble_eq_true rfl) ?_
  intro p e s m args below meth c ls A H locs Q C hin hl hW hQ
  have hl : lv_has ls 1 [(0, .ref la0)] := hl
  refine lv_aload_n C.1 C.2.1 dLb_init_0 rfl (lv_at hl 0 rfl) ?_
  refine zobj C kobLb_3 hl.1 (by decide) (Nat.le_of_ble_eq_true rfl) dLb_init_1 ?_
  refine lv_aload_n C.1 C.2.1 dLb_init_4 rfl (lv_at hl 0 rfl) ?_
  refine znewo C hW 11 rfl inSb tySb tySb_ok kwLb_9 [.null, .int (zI 0), .int (zI 0), .int (zI 0)] dfSb (Nat.le_of_ble_eq_true rfl) (Nat.le_of_ble_eq_true rfl) dLb_init_5 (fun q1 H hW => ?_)
  have hW : zw D zCl A s [(la0, .inr (3, [.null])), (q1, .inr (11, [.null, .int (zI 0), .int (zI 0), .int (zI 0)]))] H locs := hW
  refine lv_dup C.1 C.2.1 dLb_init_8 rfl ?_
  refine zcallv (wr := [(la0, .inr (3, [.null]))]) C hW [1] [0] rfl rfl (by decide) (by decide) (zRunI (k := 0) (As := []) (rest := [.ref q1, .ref la0]) C hW (c_StringBuilder_init l D cI cG cL cB q1  H.size) [1] rfl (by decide) kLb_11 (by decide) (by decide +kernel) ⟨by decide, by decide⟩ rfl hl.1 (Nat.le_of_ble_eq_true rfl) dLb_init_9 ⟨by first | decide | omega, by first | decide | omega⟩) (fun w H locs hq hW => ?_)
  obtain ⟨va2, rfl⟩ := hq
  have hW : zw D zCl A s [(la0, .inr (3, [.null])), (q1, .inr (11, [.ref va2, .int (zI 0), .int (zI 0), .int (zI 0)])), (va2, .inl (cB, 16, .inl (fI (fun _ => 0))))] H locs := hW
  refine zputF C hin hW 0 0 tyLb tyLb_ok nmLb rfl rfl inLb (by decide) flLb_12 rfl rfl rfl rfl rfl (Nat.le_of_ble_eq_true rfl) dLb_init_12 (fun H locs hW => ?_)
  have hW : zw D zCl A s [(la0, .inr (3, [.ref q1])), (q1, .inr (11, [.ref va2, .int (zI 0), .int (zI 0), .int (zI 0)])), (va2, .inl (cB, 16, .inl (fI (fun _ => 0))))] H locs := hW
  exact hQ _ H locs _ _ _ ls hW ⟨_, _, rfl⟩ (by omega) (by omega) dLb_init_15

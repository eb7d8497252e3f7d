theorem dMe_init_0 : decode cMe_init 0 = .ok (.aload_n 0, 1) := by decide +kernel
theorem dMe_init_1 : decode cMe_init 1 = .ok (.invokespecial 3, 3) := by decide +kernel
theorem dMe_init_4 : decode cMe_init 4 = .ok (.aload_n 0, 1) := by decide +kernel
theorem dMe_init_5 : decode cMe_init 5 = .ok (.bipush 30, 2) := by decide +kernel
theorem dMe_init_7 : decode cMe_init 7 = .ok (.newarray .int, 2) := by decide +kernel
theorem dMe_init_9 : decode cMe_init 9 = .ok (.putfield 9, 3) := by decide +kernel
theorem dMe_init_12 : decode cMe_init 12 = .ok (.aload_n 0, 1) := by decide +kernel
theorem dMe_init_13 : decode cMe_init 13 = .ok (.bipush 30, 2) := by decide +kernel
theorem dMe_init_15 : decode cMe_init 15 = .ok (.newarray .int, 2) := by decide +kernel
theorem dMe_init_17 : decode cMe_init 17 = .ok (.putfield 15, 3) := by decide +kernel
theorem dMe_init_20 : decode cMe_init 20 = .ok (.aload_n 0, 1) := by decide +kernel
theorem dMe_init_21 : decode cMe_init 21 = .ok (.bipush 30, 2) := by decide +kernel
theorem dMe_init_23 : decode cMe_init 23 = .ok (.newarray .int, 2) := by decide +kernel
theorem dMe_init_25 : decode cMe_init 25 = .ok (.putfield 18, 3) := by decide +kernel
theorem dMe_init_28 : decode cMe_init 28 = .ok (.aload_n 0, 1) := by decide +kernel
theorem dMe_init_29 : decode cMe_init 29 = .ok (.bipush 30, 2) := by decide +kernel
theorem dMe_init_31 : decode cMe_init 31 = .ok (.newarray .int, 2) := by decide +kernel
theorem dMe_init_33 : decode cMe_init 33 = .ok (.putfield 21, 3) := by decide +kernel
theorem dMe_init_36 : decode cMe_init 36 = .ok (.return_, 1) := by decide +kernel
theorem dMe_add_0 : decode cMe_add 0 = .ok (.aload_n 0, 1) := by decide +kernel
theorem dMe_add_1 : decode cMe_add 1 = .ok (.getfield 24, 3) := by decide +kernel
theorem dMe_add_4 : decode cMe_add 4 = .ok (.bipush 30, 2) := by decide +kernel
theorem dMe_add_6 : decode cMe_add 6 = .ok (.if_icmp .lt 5, 3) := by decide +kernel
theorem dMe_add_9 : decode cMe_add 9 = .ok (.iconst (-1), 1) := by decide +kernel
theorem dMe_add_10 : decode cMe_add 10 = .ok (.ireturn, 1) := by decide +kernel
theorem dMe_add_11 : decode cMe_add 11 = .ok (.aload_n 0, 1) := by decide +kernel
theorem dMe_add_12 : decode cMe_add 12 = .ok (.getfield 9, 3) := by decide +kernel
theorem dMe_add_15 : decode cMe_add 15 = .ok (.aload_n 0, 1) := by decide +kernel
theorem dMe_add_16 : decode cMe_add 16 = .ok (.getfield 24, 3) := by decide +kernel
theorem dMe_add_19 : decode cMe_add 19 = .ok (.aload_n 0, 1) := by decide +kernel
theorem dMe_add_20 : decode cMe_add 20 = .ok (.iload_n 1, 1) := by decide +kernel
theorem dMe_add_21 : decode cMe_add 21 = .ok (.iload_n 2, 1) := by decide +kernel
theorem dMe_add_22 : decode cMe_add 22 = .ok (.iload_n 3, 1) := by decide +kernel
theorem dMe_add_23 : decode cMe_add 23 = .ok (.invokevirtual 28, 3) := by decide +kernel
theorem dMe_add_26 : decode cMe_add 26 = .ok (.iastore, 1) := by decide +kernel
theorem dMe_add_27 : decode cMe_add 27 = .ok (.aload_n 0, 1) := by decide +kernel
theorem dMe_add_28 : decode cMe_add 28 = .ok (.getfield 15, 3) := by decide +kernel
theorem dMe_add_31 : decode cMe_add 31 = .ok (.aload_n 0, 1) := by decide +kernel
theorem dMe_add_32 : decode cMe_add 32 = .ok (.getfield 24, 3) := by decide +kernel
theorem dMe_add_35 : decode cMe_add 35 = .ok (.iload_n 1, 1) := by decide +kernel
theorem dMe_add_36 : decode cMe_add 36 = .ok (.iastore, 1) := by decide +kernel
theorem dMe_add_37 : decode cMe_add 37 = .ok (.aload_n 0, 1) := by decide +kernel
theorem dMe_add_38 : decode cMe_add 38 = .ok (.getfield 18, 3) := by decide +kernel
theorem dMe_add_41 : decode cMe_add 41 = .ok (.aload_n 0, 1) := by decide +kernel
theorem dMe_add_42 : decode cMe_add 42 = .ok (.getfield 24, 3) := by decide +kernel
theorem dMe_add_45 : decode cMe_add 45 = .ok (.iload_n 2, 1) := by decide +kernel
theorem dMe_add_46 : decode cMe_add 46 = .ok (.iastore, 1) := by decide +kernel
theorem dMe_add_47 : decode cMe_add 47 = .ok (.aload_n 0, 1) := by decide +kernel
theorem dMe_add_48 : decode cMe_add 48 = .ok (.getfield 21, 3) := by decide +kernel
theorem dMe_add_51 : decode cMe_add 51 = .ok (.aload_n 0, 1) := by decide +kernel
theorem dMe_add_52 : decode cMe_add 52 = .ok (.getfield 24, 3) := by decide +kernel
theorem dMe_add_55 : decode cMe_add 55 = .ok (.iload_n 3, 1) := by decide +kernel
theorem dMe_add_56 : decode cMe_add 56 = .ok (.iastore, 1) := by decide +kernel
theorem dMe_add_57 : decode cMe_add 57 = .ok (.aload_n 0, 1) := by decide +kernel
theorem dMe_add_58 : decode cMe_add 58 = .ok (.dup, 1) := by decide +kernel
theorem dMe_add_59 : decode cMe_add 59 = .ok (.getfield 24, 3) := by decide +kernel
theorem dMe_add_62 : decode cMe_add 62 = .ok (.iconst 1, 1) := by decide +kernel
theorem dMe_add_63 : decode cMe_add 63 = .ok (.iadd, 1) := by decide +kernel
theorem dMe_add_64 : decode cMe_add 64 = .ok (.putfield 24, 3) := by decide +kernel
theorem dMe_add_67 : decode cMe_add 67 = .ok (.aload_n 0, 1) := by decide +kernel
theorem dMe_add_68 : decode cMe_add 68 = .ok (.getfield 24, 3) := by decide +kernel
theorem dMe_add_71 : decode cMe_add 71 = .ok (.iconst 1, 1) := by decide +kernel
theorem dMe_add_72 : decode cMe_add 72 = .ok (.isub, 1) := by decide +kernel
theorem dMe_add_73 : decode cMe_add 73 = .ok (.ireturn, 1) := by decide +kernel
theorem dMe_freeRow_0 : decode cMe_freeRow 0 = .ok (.iconst 0, 1) := by decide +kernel
theorem dMe_freeRow_1 : decode cMe_freeRow 1 = .ok (.istore 4, 2) := by decide +kernel
theorem dMe_freeRow_3 : decode cMe_freeRow 3 = .ok (.iload 4, 2) := by decide +kernel
theorem dMe_freeRow_5 : decode cMe_freeRow 5 = .ok (.aload_n 0, 1) := by decide +kernel
theorem dMe_freeRow_6 : decode cMe_freeRow 6 = .ok (.getfield 24, 3) := by decide +kernel
theorem dMe_freeRow_9 : decode cMe_freeRow 9 = .ok (.if_icmp .ge 24, 3) := by decide +kernel
theorem dMe_freeRow_12 : decode cMe_freeRow 12 = .ok (.aload_n 0, 1) := by decide +kernel
theorem dMe_freeRow_13 : decode cMe_freeRow 13 = .ok (.iload_n 1, 1) := by decide +kernel
theorem dMe_freeRow_14 : decode cMe_freeRow 14 = .ok (.iload 4, 2) := by decide +kernel
theorem dMe_freeRow_16 : decode cMe_freeRow 16 = .ok (.iload_n 2, 1) := by decide +kernel
theorem dMe_freeRow_17 : decode cMe_freeRow 17 = .ok (.iload_n 3, 1) := by decide +kernel
theorem dMe_freeRow_18 : decode cMe_freeRow 18 = .ok (.invokevirtual 32, 3) := by decide +kernel
theorem dMe_freeRow_21 : decode cMe_freeRow 21 = .ok (.ifCond .eq 6, 3) := by decide +kernel
theorem dMe_freeRow_24 : decode cMe_freeRow 24 = .ok (.iload 4, 2) := by decide +kernel
theorem dMe_freeRow_26 : decode cMe_freeRow 26 = .ok (.ireturn, 1) := by decide +kernel
theorem dMe_freeRow_27 : decode cMe_freeRow 27 = .ok (.iinc 4 1, 3) := by decide +kernel
theorem dMe_freeRow_30 : decode cMe_freeRow 30 = .ok (.goto (-27), 3) := by decide +kernel
theorem dMe_freeRow_33 : decode cMe_freeRow 33 = .ok (.aload_n 0, 1) := by decide +kernel
theorem dMe_freeRow_34 : decode cMe_freeRow 34 = .ok (.getfield 24, 3) := by decide +kernel
theorem dMe_freeRow_37 : decode cMe_freeRow 37 = .ok (.ireturn, 1) := by decide +kernel
theorem dMe_isFree_0 : decode cMe_isFree 0 = .ok (.iconst 0, 1) := by decide +kernel
theorem dMe_isFree_1 : decode cMe_isFree 1 = .ok (.istore 5, 2) := by decide +kernel
theorem dMe_isFree_3 : decode cMe_isFree 3 = .ok (.iload 5, 2) := by decide +kernel
theorem dMe_isFree_5 : decode cMe_isFree 5 = .ok (.aload_n 0, 1) := by decide +kernel
theorem dMe_isFree_6 : decode cMe_isFree 6 = .ok (.getfield 24, 3) := by decide +kernel
theorem dMe_isFree_9 : decode cMe_isFree 9 = .ok (.if_icmp .ge 45, 3) := by decide +kernel
theorem dMe_isFree_12 : decode cMe_isFree 12 = .ok (.aload_n 0, 1) := by decide +kernel
theorem dMe_isFree_13 : decode cMe_isFree 13 = .ok (.iload 5, 2) := by decide +kernel
theorem dMe_isFree_15 : decode cMe_isFree 15 = .ok (.iload_n 1, 1) := by decide +kernel
theorem dMe_isFree_16 : decode cMe_isFree 16 = .ok (.iload_n 2, 1) := by decide +kernel
theorem dMe_isFree_17 : decode cMe_isFree 17 = .ok (.invokevirtual 36, 3) := by decide +kernel
theorem dMe_isFree_20 : decode cMe_isFree 20 = .ok (.ifCond .eq 28, 3) := by decide +kernel
theorem dMe_isFree_23 : decode cMe_isFree 23 = .ok (.aload_n 0, 1) := by decide +kernel
theorem dMe_isFree_24 : decode cMe_isFree 24 = .ok (.getfield 18, 3) := by decide +kernel
theorem dMe_isFree_27 : decode cMe_isFree 27 = .ok (.iload 5, 2) := by decide +kernel
theorem dMe_isFree_29 : decode cMe_isFree 29 = .ok (.iaload, 1) := by decide +kernel
theorem dMe_isFree_30 : decode cMe_isFree 30 = .ok (.iload 4, 2) := by decide +kernel
theorem dMe_isFree_32 : decode cMe_isFree 32 = .ok (.if_icmp .ge 16, 3) := by decide +kernel
theorem dMe_isFree_35 : decode cMe_isFree 35 = .ok (.iload_n 3, 1) := by decide +kernel
theorem dMe_isFree_36 : decode cMe_isFree 36 = .ok (.aload_n 0, 1) := by decide +kernel
theorem dMe_isFree_37 : decode cMe_isFree 37 = .ok (.getfield 21, 3) := by decide +kernel
theorem dMe_isFree_40 : decode cMe_isFree 40 = .ok (.iload 5, 2) := by decide +kernel
theorem dMe_isFree_42 : decode cMe_isFree 42 = .ok (.iaload, 1) := by decide +kernel
theorem dMe_isFree_43 : decode cMe_isFree 43 = .ok (.if_icmp .ge 5, 3) := by decide +kernel
theorem dMe_isFree_46 : decode cMe_isFree 46 = .ok (.iconst 0, 1) := by decide +kernel
theorem dMe_isFree_47 : decode cMe_isFree 47 = .ok (.ireturn, 1) := by decide +kernel
theorem dMe_isFree_48 : decode cMe_isFree 48 = .ok (.iinc 5 1, 3) := by decide +kernel
theorem dMe_isFree_51 : decode cMe_isFree 51 = .ok (.goto (-48), 3) := by decide +kernel
theorem dMe_isFree_54 : decode cMe_isFree 54 = .ok (.iconst 1, 1) := by decide +kernel
theorem dMe_isFree_55 : decode cMe_isFree 55 = .ok (.ireturn, 1) := by decide +kernel
theorem dMe_isIn_0 : decode cMe_isIn 0 = .ok (.aload_n 0, 1) := by decide +kernel
theorem dMe_isIn_1 : decode cMe_isIn 1 = .ok (.getfield 15, 3) := by decide +kernel
theorem dMe_isIn_4 : decode cMe_isIn 4 = .ok (.iload_n 1, 1) := by decide +kernel
theorem dMe_isIn_5 : decode cMe_isIn 5 = .ok (.iaload, 1) := by decide +kernel
theorem dMe_isIn_6 : decode cMe_isIn 6 = .ok (.iload_n 2, 1) := by decide +kernel
theorem dMe_isIn_7 : decode cMe_isIn 7 = .ok (.if_icmp .ne 17, 3) := by decide +kernel
theorem dMe_isIn_10 : decode cMe_isIn 10 = .ok (.aload_n 0, 1) := by decide +kernel
theorem dMe_isIn_11 : decode cMe_isIn 11 = .ok (.getfield 9, 3) := by decide +kernel
theorem dMe_isIn_14 : decode cMe_isIn 14 = .ok (.iload_n 1, 1) := by decide +kernel
theorem dMe_isIn_15 : decode cMe_isIn 15 = .ok (.iaload, 1) := by decide +kernel
theorem dMe_isIn_16 : decode cMe_isIn 16 = .ok (.iload_n 3, 1) := by decide +kernel
theorem dMe_isIn_17 : decode cMe_isIn 17 = .ok (.if_icmp .ne 7, 3) := by decide +kernel
theorem dMe_isIn_20 : decode cMe_isIn 20 = .ok (.iconst 1, 1) := by decide +kernel
theorem dMe_isIn_21 : decode cMe_isIn 21 = .ok (.goto 4, 3) := by decide +kernel
theorem dMe_isIn_24 : decode cMe_isIn 24 = .ok (.iconst 0, 1) := by decide +kernel
theorem dMe_isIn_25 : decode cMe_isIn 25 = .ok (.ireturn, 1) := by decide +kernel
theorem dMe_lengthOf_0 : decode cMe_lengthOf 0 = .ok (.lconst 0, 1) := by decide +kernel
theorem dMe_lengthOf_1 : decode cMe_lengthOf 1 = .ok (.lstore_n 3, 1) := by decide +kernel
theorem dMe_lengthOf_2 : decode cMe_lengthOf 2 = .ok (.iconst 0, 1) := by decide +kernel
theorem dMe_lengthOf_3 : decode cMe_lengthOf 3 = .ok (.istore 5, 2) := by decide +kernel
theorem dMe_lengthOf_5 : decode cMe_lengthOf 5 = .ok (.iload 5, 2) := by decide +kernel
theorem dMe_lengthOf_7 : decode cMe_lengthOf 7 = .ok (.aload_n 0, 1) := by decide +kernel
theorem dMe_lengthOf_8 : decode cMe_lengthOf 8 = .ok (.getfield 24, 3) := by decide +kernel
theorem dMe_lengthOf_11 : decode cMe_lengthOf 11 = .ok (.if_icmp .ge 39, 3) := by decide +kernel
theorem dMe_lengthOf_14 : decode cMe_lengthOf 14 = .ok (.aload_n 0, 1) := by decide +kernel
theorem dMe_lengthOf_15 : decode cMe_lengthOf 15 = .ok (.iload 5, 2) := by decide +kernel
theorem dMe_lengthOf_17 : decode cMe_lengthOf 17 = .ok (.iload_n 1, 1) := by decide +kernel
theorem dMe_lengthOf_18 : decode cMe_lengthOf 18 = .ok (.iload_n 2, 1) := by decide +kernel
theorem dMe_lengthOf_19 : decode cMe_lengthOf 19 = .ok (.invokevirtual 36, 3) := by decide +kernel
theorem dMe_lengthOf_22 : decode cMe_lengthOf 22 = .ok (.ifCond .eq 22, 3) := by decide +kernel
theorem dMe_lengthOf_25 : decode cMe_lengthOf 25 = .ok (.lload_n 3, 1) := by decide +kernel
theorem dMe_lengthOf_26 : decode cMe_lengthOf 26 = .ok (.aload_n 0, 1) := by decide +kernel
theorem dMe_lengthOf_27 : decode cMe_lengthOf 27 = .ok (.getfield 21, 3) := by decide +kernel
theorem dMe_lengthOf_30 : decode cMe_lengthOf 30 = .ok (.iload 5, 2) := by decide +kernel
theorem dMe_lengthOf_32 : decode cMe_lengthOf 32 = .ok (.iaload, 1) := by decide +kernel
theorem dMe_lengthOf_33 : decode cMe_lengthOf 33 = .ok (.aload_n 0, 1) := by decide +kernel
theorem dMe_lengthOf_34 : decode cMe_lengthOf 34 = .ok (.getfield 18, 3) := by decide +kernel
theorem dMe_lengthOf_37 : decode cMe_lengthOf 37 = .ok (.iload 5, 2) := by decide +kernel
theorem dMe_lengthOf_39 : decode cMe_lengthOf 39 = .ok (.iaload, 1) := by decide +kernel
theorem dMe_lengthOf_40 : decode cMe_lengthOf 40 = .ok (.isub, 1) := by decide +kernel
theorem dMe_lengthOf_41 : decode cMe_lengthOf 41 = .ok (.i2l, 1) := by decide +kernel
theorem dMe_lengthOf_42 : decode cMe_lengthOf 42 = .ok (.ladd, 1) := by decide +kernel
theorem dMe_lengthOf_43 : decode cMe_lengthOf 43 = .ok (.lstore_n 3, 1) := by decide +kernel
theorem dMe_lengthOf_44 : decode cMe_lengthOf 44 = .ok (.iinc 5 1, 3) := by decide +kernel
theorem dMe_lengthOf_47 : decode cMe_lengthOf 47 = .ok (.goto (-42), 3) := by decide +kernel
theorem dMe_lengthOf_50 : decode cMe_lengthOf 50 = .ok (.lload_n 3, 1) := by decide +kernel
theorem dMe_lengthOf_51 : decode cMe_lengthOf 51 = .ok (.lreturn, 1) := by decide +kernel
set_option maxRecDepth 100000 in
theorem flMe_15 : Cond.fieldLink "PartDrawings$Measures" 15 (TMe 2).1 (TMe 2).2.1 (TMe 2).2.2.1 ∈ gW := gW_1 226 rfl rfl
set_option maxRecDepth 100000 in
theorem inMe : ∀ w ∈ u_ws RMe TMe 5, w ∈ gW := gW_l [229, 231, 233, 235, 237] rfl (by decide +kernel)
set_option maxRecDepth 100000 in
theorem flMe_9 : Cond.fieldLink "PartDrawings$Measures" 9 (TMe 0).1 (TMe 0).2.1 (TMe 0).2.2.1 ∈ gW := gW_1 222 rfl rfl
set_option maxRecDepth 100000 in
theorem flMe_24 : Cond.fieldLink "PartDrawings$Measures" 24 (TMe 1).1 (TMe 1).2.1 (TMe 1).2.2.1 ∈ gW := gW_1 224 rfl rfl
set_option maxRecDepth 100000 in
theorem kMe_36 : inT (kV "PartDrawings$Measures" 36 yMe_isIn cMe_isIn 4 (some .boolean)) := gW_l [687, 689, 11, 52, 690] rfl (by decide +kernel)
set_option maxRecDepth 100000 in
theorem flMe_18 : Cond.fieldLink "PartDrawings$Measures" 18 (TMe 3).1 (TMe 3).2.1 (TMe 3).2.2.1 ∈ gW := gW_1 227 rfl rfl
set_option maxRecDepth 100000 in
theorem flMe_21 : Cond.fieldLink "PartDrawings$Measures" 21 (TMe 4).1 (TMe 4).2.1 (TMe 4).2.2.1 ∈ gW := gW_1 228 rfl rfl
set_option maxRecDepth 100000 in
theorem kMe_32 : inT (kV "PartDrawings$Measures" 32 yMe_isFree cMe_isFree 6 (some .boolean)) := gW_l [683, 685, 10, 52, 686] rfl (by decide +kernel)
set_option maxHeartbeats 4000000 in
set_option maxRecDepth 100000 in
theorem c_Measures_isIn (l : Launch) (D : va_G) (cI cG cL cB : ClassId) (h0 : Nat) (a1 : Nat) (a2 : Nat) (a3 : Nat) (a4 : Nat) (n : Int) (Ro : Int → Int) (Ax : Int → Int) (Fr : Int → Int) (To : Int → Int) (i : Int) (ax : Int) (ro : Int) (bRo : ∀ j : Int, I32 (Ro j)) (bAx : ∀ j : Int, I32 (Ax j)) (bFr : ∀ j : Int, I32 (Fr j)) (bTo : ∀ j : Int, I32 (To j)) (hi0 : 0 ≤ i) (hi1 : i < 30) (hIax : I32 ax) (hIro : I32 ro) : Ci l yMe_isIn cMe_isIn 4 (some .boolean) 0 0 0 D zCl (zT cI cG cL cB) [.ref h0, .int (zI i), .int (zI ax), .int (zI ro)] [(h0, .inr (4, [.ref a1, .int (zI n), .ref a2, .ref a3, .ref a4])), (a1, .inl (cI, 30, .inl (fI Ro))), (a2, .inl (cI, 30, .inl (fI Ax))), (a3, .inl (cI, 30, .inl (fI Fr))), (a4, .inl (cI, 30, .inl (fI To)))] (fun x w => x = zI (bz (inM Ax Ro ax ro i)) ∧ w = [(h0, .inr (4, [.ref a1, .int (zI n), .ref a2, .ref a3, .ref a4])), (a1, .inl (cI, 30, .inl (fI Ro))), (a2, .inl (cI, 30, .inl (fI Ax))), (a3, .inl (cI, 30, .inl (fI Fr))), (a4, .inl (cI, 30, .inl (fI To)))]) := by
  refine zBz (by decide) (Nat.le_of_ble_eq_true rfl) ?_
  intro p e s m args below meth c ls A H locs Q C hin hl hW hQ
  have hl : lv_has ls 4 [(0, .ref h0), (1, .int (zI i)), (2, .int (zI ax)), (3, .int (zI ro))] := hl
  refine lv_aload_n C.1 C.2.1 dMe_isIn_0 rfl (lv_at hl 0 rfl) ?_
  refine zget C hW 0 2 rfl rfl inMe (by decide) flMe_15 rfl dMe_isIn_1 ?_
  refine lv_iload_n C.1 C.2.1 dMe_isIn_4 rfl (lv_at hl 1 rfl) ?_
  refine ziald C hW 2 0 rfl rfl (by omega) (by omega) (by decide) dMe_isIn_5 ?_
  have hb1 := bAx i
  refine lv_iload_n C.1 C.2.1 dMe_isIn_6 rfl (lv_at hl 2 rfl) ?_
  refine zicmp_ne (tgt := 24) C (by omega) (by omega) dMe_isIn_7 (by decide) (fun c7 => ?_) (fun c7 => ?_)
  · refine lv_iconst (v := zI 0) C.1 C.2.1 dMe_isIn_24 (by decide) ?_
    exact hQ (zI 0) _ H locs _ _ _ ls hW (by decide) ⟨congrArg zI (by simp only [inM, bz, decide_eq_true_eq]; split <;> omega), rfl⟩ (by omega) (by omega) dMe_isIn_25
  · refine lv_aload_n C.1 C.2.1 dMe_isIn_10 rfl (lv_at hl 0 rfl) ?_
    refine zget C hW 0 0 rfl rfl inMe (by decide) flMe_9 rfl dMe_isIn_11 ?_
    refine lv_iload_n C.1 C.2.1 dMe_isIn_14 rfl (lv_at hl 1 rfl) ?_
    refine ziald C hW 1 0 rfl rfl (by omega) (by omega) (by decide) dMe_isIn_15 ?_
    have hb2 := bRo i
    refine lv_iload_n C.1 C.2.1 dMe_isIn_16 rfl (lv_at hl 3 rfl) ?_
    refine zicmp_ne (tgt := 24) C (by omega) (by omega) dMe_isIn_17 (by decide) (fun c17 => ?_) (fun c17 => ?_)
    · refine lv_iconst (v := zI 0) C.1 C.2.1 dMe_isIn_24 (by decide) ?_
      exact hQ (zI 0) _ H locs _ _ _ ls hW (by decide) ⟨congrArg zI (by simp only [inM, bz, decide_eq_true_eq]; split <;> omega), rfl⟩ (by omega) (by omega) dMe_isIn_25
    · refine lv_iconst (v := zI 1) C.1 C.2.1 dMe_isIn_20 (by decide) ?_
      refine lv_goto (tgt := 25) C.1 C.2.1 dMe_isIn_21 (by decide) ?_
      exact hQ (zI 1) _ H locs _ _ _ ls hW (by decide) ⟨congrArg zI (by simp only [inM, bz, decide_eq_true_eq]; split <;> omega), rfl⟩ (by omega) (by omega) dMe_isIn_25
set_option maxHeartbeats 4000000 in
set_option maxRecDepth 100000 in
theorem c_Measures_isFree (l : Launch) (D : va_G) (cI cG cL cB : ClassId) (h0 : Nat) (a1 : Nat) (a2 : Nat) (a3 : Nat) (a4 : Nat) (n : Int) (Ro : Int → Int) (Ax : Int → Int) (Fr : Int → Int) (To : Int → Int) (ax : Int) (ro : Int) (le : Int) (gr : Int) (bRo : ∀ j : Int, I32 (Ro j)) (bAx : ∀ j : Int, I32 (Ax j)) (bFr : ∀ j : Int, I32 (Fr j)) (bTo : ∀ j : Int, I32 (To j)) (hn0 : 0 ≤ n) (hn1 : n ≤ 30) (hIax : I32 ax) (hIro : I32 ro) (hIle : I32 le) (hIgr : I32 gr) : Ci l yMe_isFree cMe_isFree 6 (some .boolean) 1 0 0 D zCl (zT cI cG cL cB) [.ref h0, .int (zI ax), .int (zI ro), .int (zI le), .int (zI gr)] [(h0, .inr (4, [.ref a1, .int (zI n), .ref a2, .ref a3, .ref a4])), (a1, .inl (cI, 30, .inl (fI Ro))), (a2, .inl (cI, 30, .inl (fI Ax))), (a3, .inl (cI, 30, .inl (fI Fr))), (a4, .inl (cI, 30, .inl (fI To)))] (fun x w => x = zI (bz (!(anyZ (ovM Ax Ro Fr To ax ro le gr) n))) ∧ w = [(h0, .inr (4, [.ref a1, .int (zI n), .ref a2, .ref a3, .ref a4])), (a1, .inl (cI, 30, .inl (fI Ro))), (a2, .inl (cI, 30, .inl (fI Ax))), (a3, .inl (cI, 30, .inl (fI Fr))), (a4, .inl (cI, 30, .inl (fI To)))]) := by
  refine zBz (by decide) (Nat.le_of_ble_eq_true rfl) ?_
  intro p e s m args below meth c ls A H locs Q C hin hl hW hQ
  have hl : lv_has ls 6 [(0, .ref h0), (1, .int (zI ax)), (2, .int (zI ro)), (3, .int (zI le)), (4, .int (zI gr))] := hl
  refine lv_iconst (v := zI 0) C.1 C.2.1 dMe_isFree_0 (by decide) ?_
  refine lv_istore (lv' := [(5, .int (zI 0)), (0, .ref h0), (1, .int (zI ax)), (2, .int (zI ro)), (3, .int (zI le)), (4, .int (zI gr))]) C.1 C.2.1 dMe_isFree_1 hl (by decide) rfl (fun ls hl => ?_)
  have L3 : ∀ (N : Nat) (i : Int), (n - i).toNat < N → (0 ≤ i) → (i ≤ n) → (anyZ (ovM Ax Ro Fr To ax ro le gr) i = false) → ∀ (ls : Array Slot) (H : Heap) (locs : List Loc), lv_has ls 6 [(5, .int (zI i)), (0, .ref h0), (1, .int (zI ax)), (2, .int (zI ro)), (3, .int (zI le)), (4, .int (zI gr))] → zw D zCl A s [(h0, .inr (4, [.ref a1, .int (zI n), .ref a2, .ref a3, .ref a4])), (a1, .inl (cI, 30, .inl (fI Ro))), (a2, .inl (cI, 30, .inl (fI Ax))), (a3, .inl (cI, 30, .inl (fI Fr))), (a4, .inl (cI, 30, .inl (fI To)))] H locs → W p l e (zr 1 0 0) s m args below meth c H locs 0 0 Q (F0 m 3 ls []) := by
    intro N
    induction N with
    | zero => intro i hm; exact absurd hm (Nat.not_lt_zero _)
    | succ N ih3 =>
      intro i hm3 hi0 hi1 hP ls H locs hl hW
      refine lv_iload C.1 C.2.1 dMe_isFree_3 (lv_at hl 0 rfl) ?_
      refine lv_aload_n C.1 C.2.1 dMe_isFree_5 rfl (lv_at hl 1 rfl) ?_
      refine zget C hW 0 1 rfl rfl inMe (by decide) flMe_24 rfl dMe_isFree_6 ?_
      refine zicmp_ge (tgt := 54) C (by omega) (by omega) dMe_isFree_9 (by decide) (fun c9 => ?_) (fun c9 => ?_)
      · refine lv_iconst (v := zI 1) C.1 C.2.1 dMe_isFree_54 (by decide) ?_
        exact hQ (zI 1) _ H locs _ _ _ ls hW (by decide) ⟨congrArg zI (by rw [show n = i by omega, hP]; rfl), rfl⟩ (by omega) (by omega) dMe_isFree_55
      · refine lv_aload_n C.1 C.2.1 dMe_isFree_12 rfl (lv_at hl 1 rfl) ?_
        refine lv_iload C.1 C.2.1 dMe_isFree_13 (lv_at hl 0 rfl) ?_
        refine lv_iload_n C.1 C.2.1 dMe_isFree_15 rfl (lv_at hl 2 rfl) ?_
        refine lv_iload_n C.1 C.2.1 dMe_isFree_16 rfl (lv_at hl 3 rfl) ?_
        refine zcalli (wr := []) C hW [0, 1, 2, 3, 4] [] rfl rfl (by decide) (by decide) (zRunV (k := 3) (As := [.int (zI i), .int (zI ax), .int (zI ro)]) (rest := []) C hW (c_Measures_isIn l D cI cG cL cB h0 a1 a2 a3 a4 n Ro Ax Fr To i ax ro bRo bAx bFr bTo (by omega) (by omega) (by omega) (by omega) H.size) [0, 1, 2, 3, 4] rfl (by decide) kMe_36 (by decide +kernel) ⟨by decide, by decide⟩ 0 rfl rfl rfl hl.1 (Nat.le_of_ble_eq_true rfl) dMe_isFree_17 ⟨by first | decide | omega, by first | decide | omega⟩) (fun x w H locs hq hW => ?_)
        obtain ⟨rfl, rfl⟩ := hq
        have hW : zw D zCl A s [(h0, .inr (4, [.ref a1, .int (zI n), .ref a2, .ref a3, .ref a4])), (a1, .inl (cI, 30, .inl (fI Ro))), (a2, .inl (cI, 30, .inl (fI Ax))), (a3, .inl (cI, 30, .inl (fI Fr))), (a4, .inl (cI, 30, .inl (fI To)))] H locs := hW
        have hr1 := bz_01 (inM Ax Ro ax ro i)
        refine zif_eq (tgt := 48) C (by omega) dMe_isFree_20 (by decide) (fun c20 => ?_) (fun c20 => ?_)
        · refine lv_iinc (v := zI (i + 1)) (lv' := [(5, .int (zI (i + 1))), (0, .ref h0), (1, .int (zI ax)), (2, .int (zI ro)), (3, .int (zI le)), (4, .int (zI gr))]) C.1 C.2.1 dMe_isFree_48 hl (k := 0) rfl (zI_add i 1) (by decide) rfl (fun ls hl => ?_)
          refine lv_goto (tgt := 3) C.1 C.2.1 dMe_isFree_51 (by decide) ?_
          exact ih3 (i + 1) (by omega) (by omega) (by omega) (anyZ_n hi0 hP (by have := bz_eq0 (inM Ax Ro ax ro i); simp only [ovM, Bool.and_eq_false_iff, decide_eq_false_iff_not, this]; omega)) ls H locs (lv_sub hl [0, 1, 2, 3, 4, 5] rfl) hW
        · refine lv_aload_n C.1 C.2.1 dMe_isFree_23 rfl (lv_at hl 1 rfl) ?_
          refine zget C hW 0 3 rfl rfl inMe (by decide) flMe_18 rfl dMe_isFree_24 ?_
          refine lv_iload C.1 C.2.1 dMe_isFree_27 (lv_at hl 0 rfl) ?_
          refine ziald C hW 3 0 rfl rfl (by omega) (by omega) (by decide) dMe_isFree_29 ?_
          have hb2 := bFr i
          refine lv_iload C.1 C.2.1 dMe_isFree_30 (lv_at hl 5 rfl) ?_
          refine zicmp_ge (tgt := 48) C (by omega) (by omega) dMe_isFree_32 (by decide) (fun c32 => ?_) (fun c32 => ?_)
          · refine lv_iinc (v := zI (i + 1)) (lv' := [(5, .int (zI (i + 1))), (0, .ref h0), (1, .int (zI ax)), (2, .int (zI ro)), (3, .int (zI le)), (4, .int (zI gr))]) C.1 C.2.1 dMe_isFree_48 hl (k := 0) rfl (zI_add i 1) (by decide) rfl (fun ls hl => ?_)
            refine lv_goto (tgt := 3) C.1 C.2.1 dMe_isFree_51 (by decide) ?_
            exact ih3 (i + 1) (by omega) (by omega) (by omega) (anyZ_n hi0 hP (by have := bz_eq0 (inM Ax Ro ax ro i); simp only [ovM, Bool.and_eq_false_iff, decide_eq_false_iff_not, this]; omega)) ls H locs (lv_sub hl [0, 1, 2, 3, 4, 5] rfl) hW
          · refine lv_iload_n C.1 C.2.1 dMe_isFree_35 rfl (lv_at hl 4 rfl) ?_
            refine lv_aload_n C.1 C.2.1 dMe_isFree_36 rfl (lv_at hl 1 rfl) ?_
            refine zget C hW 0 4 rfl rfl inMe (by decide) flMe_21 rfl dMe_isFree_37 ?_
            refine lv_iload C.1 C.2.1 dMe_isFree_40 (lv_at hl 0 rfl) ?_
            refine ziald C hW 4 0 rfl rfl (by omega) (by omega) (by decide) dMe_isFree_42 ?_
            have hb3 := bTo i
            refine zicmp_ge (tgt := 48) C (by omega) (by omega) dMe_isFree_43 (by decide) (fun c43 => ?_) (fun c43 => ?_)
            · refine lv_iinc (v := zI (i + 1)) (lv' := [(5, .int (zI (i + 1))), (0, .ref h0), (1, .int (zI ax)), (2, .int (zI ro)), (3, .int (zI le)), (4, .int (zI gr))]) C.1 C.2.1 dMe_isFree_48 hl (k := 0) rfl (zI_add i 1) (by decide) rfl (fun ls hl => ?_)
              refine lv_goto (tgt := 3) C.1 C.2.1 dMe_isFree_51 (by decide) ?_
              exact ih3 (i + 1) (by omega) (by omega) (by omega) (anyZ_n hi0 hP (by have := bz_eq0 (inM Ax Ro ax ro i); simp only [ovM, Bool.and_eq_false_iff, decide_eq_false_iff_not, this]; omega)) ls H locs (lv_sub hl [0, 1, 2, 3, 4, 5] rfl) hW
            · refine lv_iconst (v := zI 0) C.1 C.2.1 dMe_isFree_46 (by decide) ?_
              exact hQ (zI 0) _ H locs _ _ _ ls hW (by decide) ⟨congrArg zI (by rw [anyZ_t hi0 (by omega) (by have := bz_eq1 (inM Ax Ro ax ro i); simp only [ovM, Bool.and_eq_true, decide_eq_true_eq, this]; omega)]; rfl), rfl⟩ (by omega) (by omega) dMe_isFree_47
  exact L3 ((n - 0).toNat + 1) 0 (Nat.lt_succ_self _) (by omega) (by omega) (anyZ_0 _) ls H locs (lv_sub hl [0, 1, 2, 3, 4, 5] rfl) hW
set_option maxHeartbeats 4000000 in
set_option maxRecDepth 100000 in
theorem c_Measures_freeRow (l : Launch) (D : va_G) (cI cG cL cB : ClassId) (h0 : Nat) (a1 : Nat) (a2 : Nat) (a3 : Nat) (a4 : Nat) (n : Int) (Ro : Int → Int) (Ax : Int → Int) (Fr : Int → Int) (To : Int → Int) (ax : Int) (le : Int) (gr : Int) (bRo : ∀ j : Int, I32 (Ro j)) (bAx : ∀ j : Int, I32 (Ax j)) (bFr : ∀ j : Int, I32 (Fr j)) (bTo : ∀ j : Int, I32 (To j)) (hn0 : 0 ≤ n) (hn1 : n ≤ 30) (hIax : I32 ax) (hIle : I32 le) (hIgr : I32 gr) : Ci l yMe_freeRow cMe_freeRow 5 (some .int) 2 0 0 D zCl (zT cI cG cL cB) [.ref h0, .int (zI ax), .int (zI le), .int (zI gr)] [(h0, .inr (4, [.ref a1, .int (zI n), .ref a2, .ref a3, .ref a4])), (a1, .inl (cI, 30, .inl (fI Ro))), (a2, .inl (cI, 30, .inl (fI Ax))), (a3, .inl (cI, 30, .inl (fI Fr))), (a4, .inl (cI, 30, .inl (fI To)))] (fun x w => x = zI (frM Ax Ro Fr To n ax le gr) ∧ w = [(h0, .inr (4, [.ref a1, .int (zI n), .ref a2, .ref a3, .ref a4])), (a1, .inl (cI, 30, .inl (fI Ro))), (a2, .inl (cI, 30, .inl (fI Ax))), (a3, .inl (cI, 30, .inl (fI Fr))), (a4, .inl (cI, 30, .inl (fI To)))]) := by
  refine zBi (by decide) (Nat.le_of_ble_eq_true rfl) ?_
  intro p e s m args below meth c ls A H locs Q C hin hl hW hQ
  have hl : lv_has ls 5 [(0, .ref h0), (1, .int (zI ax)), (2, .int (zI le)), (3, .int (zI gr))] := hl
  refine lv_iconst (v := zI 0) C.1 C.2.1 dMe_freeRow_0 (by decide) ?_
  refine lv_istore (lv' := [(4, .int (zI 0)), (0, .ref h0), (1, .int (zI ax)), (2, .int (zI le)), (3, .int (zI gr))]) C.1 C.2.1 dMe_freeRow_1 hl (by decide) rfl (fun ls hl => ?_)
  have L3 : ∀ (N : Nat) (i : Int), (n - i).toNat < N → (0 ≤ i) → (i ≤ n) → (anyZ (fun ro => !(anyZ (ovM Ax Ro Fr To ax ro le gr) n)) i = false) → ∀ (ls : Array Slot) (H : Heap) (locs : List Loc), lv_has ls 5 [(4, .int (zI i)), (0, .ref h0), (1, .int (zI ax)), (2, .int (zI le)), (3, .int (zI gr))] → zw D zCl A s [(h0, .inr (4, [.ref a1, .int (zI n), .ref a2, .ref a3, .ref a4])), (a1, .inl (cI, 30, .inl (fI Ro))), (a2, .inl (cI, 30, .inl (fI Ax))), (a3, .inl (cI, 30, .inl (fI Fr))), (a4, .inl (cI, 30, .inl (fI To)))] H locs → W p l e (zr 2 0 0) s m args below meth c H locs 0 0 Q (F0 m 3 ls []) := by
    intro N
    induction N with
    | zero => intro i hm; exact absurd hm (Nat.not_lt_zero _)
    | succ N ih3 =>
      intro i hm3 hi0 hi1 hP ls H locs hl hW
      refine lv_iload C.1 C.2.1 dMe_freeRow_3 (lv_at hl 0 rfl) ?_
      refine lv_aload_n C.1 C.2.1 dMe_freeRow_5 rfl (lv_at hl 1 rfl) ?_
      refine zget C hW 0 1 rfl rfl inMe (by decide) flMe_24 rfl dMe_freeRow_6 ?_
      refine zicmp_ge (tgt := 33) C (by omega) (by omega) dMe_freeRow_9 (by decide) (fun c9 => ?_) (fun c9 => ?_)
      · refine lv_aload_n C.1 C.2.1 dMe_freeRow_33 rfl (lv_at hl 1 rfl) ?_
        refine zget C hW 0 1 rfl rfl inMe (by decide) flMe_24 rfl dMe_freeRow_34 ?_
        exact hQ (zI n) _ H locs _ _ _ ls hW ⟨congrArg zI (frM_no hn0 (by rw [show i = n by omega] at hP; exact hP)).symm, rfl⟩ (by omega) (by omega) dMe_freeRow_37
      · refine lv_aload_n C.1 C.2.1 dMe_freeRow_12 rfl (lv_at hl 1 rfl) ?_
        refine lv_iload_n C.1 C.2.1 dMe_freeRow_13 rfl (lv_at hl 2 rfl) ?_
        refine lv_iload C.1 C.2.1 dMe_freeRow_14 (lv_at hl 0 rfl) ?_
        refine lv_iload_n C.1 C.2.1 dMe_freeRow_16 rfl (lv_at hl 3 rfl) ?_
        refine lv_iload_n C.1 C.2.1 dMe_freeRow_17 rfl (lv_at hl 4 rfl) ?_
        refine zcalli (wr := []) C hW [0, 1, 2, 3, 4] [] rfl rfl (by decide) (by decide) (zRunV (k := 4) (As := [.int (zI ax), .int (zI i), .int (zI le), .int (zI gr)]) (rest := []) C hW (c_Measures_isFree l D cI cG cL cB h0 a1 a2 a3 a4 n Ro Ax Fr To ax i le gr bRo bAx bFr bTo (by omega) (by omega) (by omega) (by omega) (by omega) (by omega) H.size) [0, 1, 2, 3, 4] rfl (by decide) kMe_32 (by decide +kernel) ⟨by decide, by decide⟩ 0 rfl rfl rfl hl.1 (Nat.le_of_ble_eq_true rfl) dMe_freeRow_18 ⟨by first | decide | omega, by first | decide | omega⟩) (fun x w H locs hq hW => ?_)
        obtain ⟨rfl, rfl⟩ := hq
        have hW : zw D zCl A s [(h0, .inr (4, [.ref a1, .int (zI n), .ref a2, .ref a3, .ref a4])), (a1, .inl (cI, 30, .inl (fI Ro))), (a2, .inl (cI, 30, .inl (fI Ax))), (a3, .inl (cI, 30, .inl (fI Fr))), (a4, .inl (cI, 30, .inl (fI To)))] H locs := hW
        have hr1 := bz_01 (!(anyZ (ovM Ax Ro Fr To ax i le gr) n))
        refine zif_eq (tgt := 27) C (by omega) dMe_freeRow_21 (by decide) (fun c21 => ?_) (fun c21 => ?_)
        · refine lv_iinc (v := zI (i + 1)) (lv' := [(4, .int (zI (i + 1))), (0, .ref h0), (1, .int (zI ax)), (2, .int (zI le)), (3, .int (zI gr))]) C.1 C.2.1 dMe_freeRow_27 hl (k := 0) rfl (zI_add i 1) (by decide) rfl (fun ls hl => ?_)
          refine lv_goto (tgt := 3) C.1 C.2.1 dMe_freeRow_30 (by decide) ?_
          exact ih3 (i + 1) (by omega) (by omega) (by omega) (anyZ_n hi0 hP ((bz_eq0 _).mpr (by omega))) ls H locs (lv_sub hl [0, 1, 2, 3, 4] rfl) hW
        · refine lv_iload C.1 C.2.1 dMe_freeRow_24 (lv_at hl 0 rfl) ?_
          exact hQ (zI i) _ H locs _ _ _ ls hW ⟨congrArg zI (frM_at hi0 (by omega) hP ((bz_eq1 _).mpr (by omega))).symm, rfl⟩ (by omega) (by omega) dMe_freeRow_26
  exact L3 ((n - 0).toNat + 1) 0 (Nat.lt_succ_self _) (by omega) (by omega) (anyZ_0 _) ls H locs (lv_sub hl [0, 1, 2, 3, 4] rfl) hW
set_option maxHeartbeats 4000000 in
set_option maxRecDepth 100000 in
theorem c_Measures_lengthOf (l : Launch) (D : va_G) (cI cG cL cB : ClassId) (h0 : Nat) (a1 : Nat) (a2 : Nat) (a3 : Nat) (a4 : Nat) (n : Int) (Ro : Int → Int) (Ax : Int → Int) (Fr : Int → Int) (To : Int → Int) (ax : Int) (ro : Int) (bRo : ∀ j : Int, I32 (Ro j)) (bAx : ∀ j : Int, I32 (Ax j)) (bFr : ∀ j : Int, I32 (Fr j)) (bTo : ∀ j : Int, I32 (To j)) (hn0 : 0 ≤ n) (hn1 : n ≤ 30) (hIax : I32 ax) (hIro : I32 ro) (hFT : ∀ j, 0 ≤ j → j < n → I32 (To j - Fr j)) : Cl l yMe_lengthOf cMe_lengthOf 6 (some .long) 1 0 0 D zCl (zT cI cG cL cB) [.ref h0, .int (zI ax), .int (zI ro)] [(h0, .inr (4, [.ref a1, .int (zI n), .ref a2, .ref a3, .ref a4])), (a1, .inl (cI, 30, .inl (fI Ro))), (a2, .inl (cI, 30, .inl (fI Ax))), (a3, .inl (cI, 30, .inl (fI Fr))), (a4, .inl (cI, 30, .inl (fI To)))] (fun x w => x = zL (sumZ (lnM Ax Ro Fr To ax ro) n) ∧ w = [(h0, .inr (4, [.ref a1, .int (zI n), .ref a2, .ref a3, .ref a4])), (a1, .inl (cI, 30, .inl (fI Ro))), (a2, .inl (cI, 30, .inl (fI Ax))), (a3, .inl (cI, 30, .inl (fI Fr))), (a4, .inl (cI, 30, .inl (fI To)))]) := by
  refine zBl (by decide) (Nat.le_of_ble_eq_true rfl) ?_
  intro p e s m args below meth c ls A H locs Q C hin hl hW hQ
  have hl : lv_has ls 6 [(0, .ref h0), (1, .int (zI ax)), (2, .int (zI ro))] := hl
  refine lv_lconst (v := zL 0) C.1 C.2.1 dMe_lengthOf_0 (by decide) ?_
  refine lv_lstore_n (lv' := [(3, .long (zL 0)), (0, .ref h0), (1, .int (zI ax)), (2, .int (zI ro))]) C.1 C.2.1 dMe_lengthOf_1 rfl hl (by decide) rfl (fun ls hl => ?_)
  refine lv_iconst (v := zI 0) C.1 C.2.1 dMe_lengthOf_2 (by decide) ?_
  refine lv_istore (lv' := [(5, .int (zI 0)), (3, .long (zL 0)), (0, .ref h0), (1, .int (zI ax)), (2, .int (zI ro))]) C.1 C.2.1 dMe_lengthOf_3 hl (by decide) rfl (fun ls hl => ?_)
  have L5 : ∀ (N : Nat) (i : Int) (x : Int), (n - i).toNat < N → (0 ≤ i) → (i ≤ n) → (x = sumZ (lnM Ax Ro Fr To ax ro) i) → ∀ (ls : Array Slot) (H : Heap) (locs : List Loc), lv_has ls 6 [(5, .int (zI i)), (3, .long (zL x)), (0, .ref h0), (1, .int (zI ax)), (2, .int (zI ro))] → zw D zCl A s [(h0, .inr (4, [.ref a1, .int (zI n), .ref a2, .ref a3, .ref a4])), (a1, .inl (cI, 30, .inl (fI Ro))), (a2, .inl (cI, 30, .inl (fI Ax))), (a3, .inl (cI, 30, .inl (fI Fr))), (a4, .inl (cI, 30, .inl (fI To)))] H locs → W p l e (zr 1 0 0) s m args below meth c H locs 0 0 Q (F0 m 5 ls []) := by
    intro N
    induction N with
    | zero => intro i x hm; exact absurd hm (Nat.not_lt_zero _)
    | succ N ih5 =>
      intro i x hm5 hi0 hi1 hx ls H locs hl hW
      refine lv_iload C.1 C.2.1 dMe_lengthOf_5 (lv_at hl 0 rfl) ?_
      refine lv_aload_n C.1 C.2.1 dMe_lengthOf_7 rfl (lv_at hl 2 rfl) ?_
      refine zget C hW 0 1 rfl rfl inMe (by decide) flMe_24 rfl dMe_lengthOf_8 ?_
      refine zicmp_ge (tgt := 50) C (by omega) (by omega) dMe_lengthOf_11 (by decide) (fun c11 => ?_) (fun c11 => ?_)
      · refine lv_lload_n C.1 C.2.1 dMe_lengthOf_50 rfl (lv_at hl 1 rfl) ?_
        exact hQ (zL x) _ H locs _ _ _ ls hW ⟨congrArg zL (by rw [hx, show n = i by omega]), rfl⟩ (by omega) (by omega) dMe_lengthOf_51
      · refine lv_aload_n C.1 C.2.1 dMe_lengthOf_14 rfl (lv_at hl 2 rfl) ?_
        refine lv_iload C.1 C.2.1 dMe_lengthOf_15 (lv_at hl 0 rfl) ?_
        refine lv_iload_n C.1 C.2.1 dMe_lengthOf_17 rfl (lv_at hl 3 rfl) ?_
        refine lv_iload_n C.1 C.2.1 dMe_lengthOf_18 rfl (lv_at hl 4 rfl) ?_
        refine zcalli (wr := []) C hW [0, 1, 2, 3, 4] [] rfl rfl (by decide) (by decide) (zRunV (k := 3) (As := [.int (zI i), .int (zI ax), .int (zI ro)]) (rest := []) C hW (c_Measures_isIn l D cI cG cL cB h0 a1 a2 a3 a4 n Ro Ax Fr To i ax ro bRo bAx bFr bTo (by omega) (by omega) (by omega) (by omega) H.size) [0, 1, 2, 3, 4] rfl (by decide) kMe_36 (by decide +kernel) ⟨by decide, by decide⟩ 0 rfl rfl rfl hl.1 (Nat.le_of_ble_eq_true rfl) dMe_lengthOf_19 ⟨by first | decide | omega, by first | decide | omega⟩) (fun x w H locs hq hW => ?_)
        obtain ⟨rfl, rfl⟩ := hq
        have hW : zw D zCl A s [(h0, .inr (4, [.ref a1, .int (zI n), .ref a2, .ref a3, .ref a4])), (a1, .inl (cI, 30, .inl (fI Ro))), (a2, .inl (cI, 30, .inl (fI Ax))), (a3, .inl (cI, 30, .inl (fI Fr))), (a4, .inl (cI, 30, .inl (fI To)))] H locs := hW
        have hr1 := bz_01 (inM Ax Ro ax ro i)
        refine zif_eq (tgt := 44) C (by omega) dMe_lengthOf_22 (by decide) (fun c22 => ?_) (fun c22 => ?_)
        · refine lv_iinc (v := zI (i + 1)) (lv' := [(5, .int (zI (i + 1))), (3, .long (zL x)), (0, .ref h0), (1, .int (zI ax)), (2, .int (zI ro))]) C.1 C.2.1 dMe_lengthOf_44 hl (k := 0) rfl (zI_add i 1) (by decide) rfl (fun ls hl => ?_)
          refine lv_goto (tgt := 5) C.1 C.2.1 dMe_lengthOf_47 (by decide) ?_
          exact ih5 (i + 1) x (by omega) (by omega) (by omega) (by have := bz_eq1 (inM Ax Ro ax ro i); have h2 := bz_eq0 (inM Ax Ro ax ro i); rw [sumZ_s _ hi0, hx]; unfold lnM; split <;> simp_all <;> omega) ls H locs (lv_sub hl [0, 1, 2, 3, 4] rfl) hW
        · refine lv_lload_n C.1 C.2.1 dMe_lengthOf_25 rfl (lv_at hl 1 rfl) ?_
          refine lv_aload_n C.1 C.2.1 dMe_lengthOf_26 rfl (lv_at hl 2 rfl) ?_
          refine zget C hW 0 4 rfl rfl inMe (by decide) flMe_21 rfl dMe_lengthOf_27 ?_
          refine lv_iload C.1 C.2.1 dMe_lengthOf_30 (lv_at hl 0 rfl) ?_
          refine ziald C hW 4 0 rfl rfl (by omega) (by omega) (by decide) dMe_lengthOf_32 ?_
          have hb2 := bTo i
          refine lv_aload_n C.1 C.2.1 dMe_lengthOf_33 rfl (lv_at hl 2 rfl) ?_
          refine zget C hW 0 3 rfl rfl inMe (by decide) flMe_18 rfl dMe_lengthOf_34 ?_
          refine lv_iload C.1 C.2.1 dMe_lengthOf_37 (lv_at hl 0 rfl) ?_
          refine ziald C hW 3 0 rfl rfl (by omega) (by omega) (by decide) dMe_lengthOf_39 ?_
          have hb3 := bFr i
          refine zisub C dMe_lengthOf_40 ?_
          refine zi2l C (hFT i hi0 (by omega)) dMe_lengthOf_41 ?_
          refine zladd C dMe_lengthOf_42 ?_
          refine lv_lstore_n (lv' := [(3, .long (zL (x + ((To i) - (Fr i))))), (5, .int (zI i)), (0, .ref h0), (1, .int (zI ax)), (2, .int (zI ro))]) C.1 C.2.1 dMe_lengthOf_43 rfl hl (by decide) rfl (fun ls hl => ?_)
          refine lv_iinc (v := zI (i + 1)) (lv' := [(5, .int (zI (i + 1))), (3, .long (zL (x + ((To i) - (Fr i))))), (0, .ref h0), (1, .int (zI ax)), (2, .int (zI ro))]) C.1 C.2.1 dMe_lengthOf_44 hl (k := 1) rfl (zI_add i 1) (by decide) rfl (fun ls hl => ?_)
          refine lv_goto (tgt := 5) C.1 C.2.1 dMe_lengthOf_47 (by decide) ?_
          exact ih5 (i + 1) (x + ((To i) - (Fr i))) (by omega) (by omega) (by omega) (by have := bz_eq1 (inM Ax Ro ax ro i); have h2 := bz_eq0 (inM Ax Ro ax ro i); rw [sumZ_s _ hi0, hx]; unfold lnM; split <;> simp_all <;> omega) ls H locs (lv_sub hl [0, 1, 2, 3, 4] rfl) hW
  exact L5 ((n - 0).toNat + 1) 0 0 (Nat.lt_succ_self _) (by omega) (by omega) (sumZ_0 _).symm ls H locs (lv_sub hl [0, 1, 2, 3, 4] rfl) hW

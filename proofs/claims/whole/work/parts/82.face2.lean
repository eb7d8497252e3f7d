theorem dPD_command_0 : decode cPD_command 0 = .ok (.aload_n 0, 1) := by decide +kernel
theorem dPD_command_1 : decode cPD_command 1 = .ok (.invokevirtual 135, 3) := by decide +kernel
theorem dPD_command_4 : decode cPD_command 4 = .ok (.iload_n 1, 1) := by decide +kernel
theorem dPD_command_5 : decode cPD_command 5 = .ok (.ifCond .lt 23, 3) := by decide +kernel
theorem dPD_command_8 : decode cPD_command 8 = .ok (.iload_n 1, 1) := by decide +kernel
theorem dPD_command_9 : decode cPD_command 9 = .ok (.aload_n 0, 1) := by decide +kernel
theorem dPD_command_10 : decode cPD_command 10 = .ok (.getfield 33, 3) := by decide +kernel
theorem dPD_command_13 : decode cPD_command 13 = .ok (.getfield 134, 3) := by decide +kernel
theorem dPD_command_16 : decode cPD_command 16 = .ok (.if_icmp .ge 12, 3) := by decide +kernel
theorem dPD_command_19 : decode cPD_command 19 = .ok (.iload_n 2, 1) := by decide +kernel
theorem dPD_command_20 : decode cPD_command 20 = .ok (.ifCond .lt 8, 3) := by decide +kernel
theorem dPD_command_23 : decode cPD_command 23 = .ok (.iload_n 2, 1) := by decide +kernel
theorem dPD_command_24 : decode cPD_command 24 = .ok (.iconst 4, 1) := by decide +kernel
theorem dPD_command_25 : decode cPD_command 25 = .ok (.if_icmp .le 13, 3) := by decide +kernel
theorem dPD_command_28 : decode cPD_command 28 = .ok (.new 138, 3) := by decide +kernel
theorem dPD_command_31 : decode cPD_command 31 = .ok (.dup, 1) := by decide +kernel
theorem dPD_command_32 : decode cPD_command 32 = .ok (.ldc 140, 2) := by decide +kernel
theorem dPD_command_34 : decode cPD_command 34 = .ok (.invokespecial 142, 3) := by decide +kernel
theorem dPD_command_37 : decode cPD_command 37 = .ok (.athrow, 1) := by decide +kernel
theorem dPD_command_38 : decode cPD_command 38 = .ok (.aload_n 0, 1) := by decide +kernel
theorem dPD_command_39 : decode cPD_command 39 = .ok (.getfield 33, 3) := by decide +kernel
theorem dPD_command_42 : decode cPD_command 42 = .ok (.iload_n 1, 1) := by decide +kernel
theorem dPD_command_43 : decode cPD_command 43 = .ok (.iload_n 2, 1) := by decide +kernel
theorem dPD_command_44 : decode cPD_command 44 = .ok (.invokevirtual 143, 3) := by decide +kernel
theorem dPD_command_47 : decode cPD_command 47 = .ok (.lreturn, 1) := by decide +kernel
theorem dPD_on_0 : decode cPD_on 0 = .ok (.aload_n 0, 1) := by decide +kernel
theorem dPD_on_1 : decode cPD_on 1 = .ok (.invokevirtual 135, 3) := by decide +kernel
theorem dPD_on_4 : decode cPD_on 4 = .ok (.iload 5, 2) := by decide +kernel
theorem dPD_on_6 : decode cPD_on 6 = .ok (.ifCond .eq 16, 3) := by decide +kernel
theorem dPD_on_9 : decode cPD_on 9 = .ok (.aload_n 0, 1) := by decide +kernel
theorem dPD_on_10 : decode cPD_on 10 = .ok (.getfield 33, 3) := by decide +kernel
theorem dPD_on_13 : decode cPD_on 13 = .ok (.iconst 1, 1) := by decide +kernel
theorem dPD_on_14 : decode cPD_on 14 = .ok (.lload_n 1, 1) := by decide +kernel
theorem dPD_on_15 : decode cPD_on 15 = .ok (.lload_n 3, 1) := by decide +kernel
theorem dPD_on_16 : decode cPD_on 16 = .ok (.invokevirtual 147, 3) := by decide +kernel
theorem dPD_on_19 : decode cPD_on 19 = .ok (.goto 13, 3) := by decide +kernel
theorem dPD_on_22 : decode cPD_on 22 = .ok (.aload_n 0, 1) := by decide +kernel
theorem dPD_on_23 : decode cPD_on 23 = .ok (.getfield 33, 3) := by decide +kernel
theorem dPD_on_26 : decode cPD_on 26 = .ok (.iconst 0, 1) := by decide +kernel
theorem dPD_on_27 : decode cPD_on 27 = .ok (.lload_n 3, 1) := by decide +kernel
theorem dPD_on_28 : decode cPD_on 28 = .ok (.lload_n 1, 1) := by decide +kernel
theorem dPD_on_29 : decode cPD_on 29 = .ok (.invokevirtual 147, 3) := by decide +kernel
theorem dPD_on_32 : decode cPD_on 32 = .ok (.ireturn, 1) := by decide +kernel
theorem dPD_ink_0 : decode cPD_ink 0 = .ok (.aload_n 0, 1) := by decide +kernel
theorem dPD_ink_1 : decode cPD_ink 1 = .ok (.invokevirtual 135, 3) := by decide +kernel
theorem dPD_ink_4 : decode cPD_ink 4 = .ok (.aload_n 0, 1) := by decide +kernel
theorem dPD_ink_5 : decode cPD_ink 5 = .ok (.getfield 33, 3) := by decide +kernel
theorem dPD_ink_8 : decode cPD_ink 8 = .ok (.iload_n 1, 1) := by decide +kernel
theorem dPD_ink_9 : decode cPD_ink 9 = .ok (.ifCond .eq 7, 3) := by decide +kernel
theorem dPD_ink_12 : decode cPD_ink 12 = .ok (.iconst 1, 1) := by decide +kernel
theorem dPD_ink_13 : decode cPD_ink 13 = .ok (.goto 4, 3) := by decide +kernel
theorem dPD_ink_16 : decode cPD_ink 16 = .ok (.iconst 0, 1) := by decide +kernel
theorem dPD_ink_17 : decode cPD_ink 17 = .ok (.invokevirtual 151, 3) := by decide +kernel
theorem dPD_ink_20 : decode cPD_ink 20 = .ok (.lreturn, 1) := by decide +kernel
theorem dPD_row_0 : decode cPD_row 0 = .ok (.iload_n 1, 1) := by decide +kernel
theorem dPD_row_1 : decode cPD_row 1 = .ok (.ifCond .lt 14, 3) := by decide +kernel
theorem dPD_row_4 : decode cPD_row 4 = .ok (.iload_n 1, 1) := by decide +kernel
theorem dPD_row_5 : decode cPD_row 5 = .ok (.aload_n 0, 1) := by decide +kernel
theorem dPD_row_6 : decode cPD_row 6 = .ok (.getfield 43, 3) := by decide +kernel
theorem dPD_row_9 : decode cPD_row 9 = .ok (.getfield 155, 3) := by decide +kernel
theorem dPD_row_12 : decode cPD_row 12 = .ok (.if_icmp .lt 13, 3) := by decide +kernel
theorem dPD_row_15 : decode cPD_row 15 = .ok (.new 138, 3) := by decide +kernel
theorem dPD_row_18 : decode cPD_row 18 = .ok (.dup, 1) := by decide +kernel
theorem dPD_row_19 : decode cPD_row 19 = .ok (.ldc 174, 2) := by decide +kernel
theorem dPD_row_21 : decode cPD_row 21 = .ok (.invokespecial 142, 3) := by decide +kernel
theorem dPD_row_24 : decode cPD_row 24 = .ok (.athrow, 1) := by decide +kernel
theorem dPD_row_25 : decode cPD_row 25 = .ok (.aload_n 0, 1) := by decide +kernel
theorem dPD_row_26 : decode cPD_row 26 = .ok (.getfield 43, 3) := by decide +kernel
theorem dPD_row_29 : decode cPD_row 29 = .ok (.getfield 176, 3) := by decide +kernel
theorem dPD_row_32 : decode cPD_row 32 = .ok (.iload_n 1, 1) := by decide +kernel
theorem dPD_row_33 : decode cPD_row 33 = .ok (.iaload, 1) := by decide +kernel
theorem dPD_row_34 : decode cPD_row 34 = .ok (.ireturn, 1) := by decide +kernel
theorem dPD_total_0 : decode cPD_total 0 = .ok (.iload_n 2, 1) := by decide +kernel
theorem dPD_total_1 : decode cPD_total 1 = .ok (.ifCond .ge 13, 3) := by decide +kernel
theorem dPD_total_4 : decode cPD_total 4 = .ok (.new 85, 3) := by decide +kernel
theorem dPD_total_7 : decode cPD_total 7 = .ok (.dup, 1) := by decide +kernel
theorem dPD_total_8 : decode cPD_total 8 = .ok (.ldc 180, 2) := by decide +kernel
theorem dPD_total_10 : decode cPD_total 10 = .ok (.invokespecial 89, 3) := by decide +kernel
theorem dPD_total_13 : decode cPD_total 13 = .ok (.athrow, 1) := by decide +kernel
theorem dPD_total_14 : decode cPD_total 14 = .ok (.iload_n 1, 1) := by decide +kernel
theorem dPD_total_15 : decode cPD_total 15 = .ok (.invokestatic 158, 3) := by decide +kernel
theorem dPD_total_18 : decode cPD_total 18 = .ok (.aload_n 0, 1) := by decide +kernel
theorem dPD_total_19 : decode cPD_total 19 = .ok (.getfield 43, 3) := by decide +kernel
theorem dPD_total_22 : decode cPD_total 22 = .ok (.iload_n 1, 1) := by decide +kernel
theorem dPD_total_23 : decode cPD_total 23 = .ok (.iload_n 2, 1) := by decide +kernel
theorem dPD_total_24 : decode cPD_total 24 = .ok (.invokevirtual 182, 3) := by decide +kernel
theorem dPD_total_27 : decode cPD_total 27 = .ok (.lreturn, 1) := by decide +kernel
theorem dPD_keep_0 : decode cPD_keep 0 = .ok (.aload_n 0, 1) := by decide +kernel
theorem dPD_keep_1 : decode cPD_keep 1 = .ok (.invokevirtual 135, 3) := by decide +kernel
theorem dPD_keep_4 : decode cPD_keep 4 = .ok (.aload_n 0, 1) := by decide +kernel
theorem dPD_keep_5 : decode cPD_keep 5 = .ok (.getfield 37, 3) := by decide +kernel
theorem dPD_keep_8 : decode cPD_keep 8 = .ok (.aload_n 0, 1) := by decide +kernel
theorem dPD_keep_9 : decode cPD_keep 9 = .ok (.getfield 33, 3) := by decide +kernel
theorem dPD_keep_12 : decode cPD_keep 12 = .ok (.invokevirtual 240, 3) := by decide +kernel
theorem dPD_keep_15 : decode cPD_keep 15 = .ok (.aload_n 0, 1) := by decide +kernel
theorem dPD_keep_16 : decode cPD_keep 16 = .ok (.getfield 37, 3) := by decide +kernel
theorem dPD_keep_19 : decode cPD_keep 19 = .ok (.getfield 134, 3) := by decide +kernel
theorem dPD_keep_22 : decode cPD_keep 22 = .ok (.ireturn, 1) := by decide +kernel
theorem dPD_changed_0 : decode cPD_changed 0 = .ok (.aload_n 0, 1) := by decide +kernel
theorem dPD_changed_1 : decode cPD_changed 1 = .ok (.invokevirtual 135, 3) := by decide +kernel
theorem dPD_changed_4 : decode cPD_changed 4 = .ok (.aload_n 0, 1) := by decide +kernel
theorem dPD_changed_5 : decode cPD_changed 5 = .ok (.getfield 37, 3) := by decide +kernel
theorem dPD_changed_8 : decode cPD_changed 8 = .ok (.getfield 102, 3) := by decide +kernel
theorem dPD_changed_11 : decode cPD_changed 11 = .ok (.ifCond .ne 13, 3) := by decide +kernel
theorem dPD_changed_14 : decode cPD_changed 14 = .ok (.new 74, 3) := by decide +kernel
theorem dPD_changed_17 : decode cPD_changed 17 = .ok (.dup, 1) := by decide +kernel
theorem dPD_changed_18 : decode cPD_changed 18 = .ok (.ldc 243, 2) := by decide +kernel
theorem dPD_changed_20 : decode cPD_changed 20 = .ok (.invokespecial 78, 3) := by decide +kernel
theorem dPD_changed_23 : decode cPD_changed 23 = .ok (.athrow, 1) := by decide +kernel
theorem dPD_changed_24 : decode cPD_changed 24 = .ok (.iload_n 1, 1) := by decide +kernel
theorem dPD_changed_25 : decode cPD_changed 25 = .ok (.ifCond .ge 13, 3) := by decide +kernel
theorem dPD_changed_28 : decode cPD_changed 28 = .ok (.new 85, 3) := by decide +kernel
theorem dPD_changed_31 : decode cPD_changed 31 = .ok (.dup, 1) := by decide +kernel
theorem dPD_changed_32 : decode cPD_changed 32 = .ok (.ldc 245, 2) := by decide +kernel
theorem dPD_changed_34 : decode cPD_changed 34 = .ok (.invokespecial 89, 3) := by decide +kernel
theorem dPD_changed_37 : decode cPD_changed 37 = .ok (.athrow, 1) := by decide +kernel
theorem dPD_changed_38 : decode cPD_changed 38 = .ok (.aload_n 0, 1) := by decide +kernel
theorem dPD_changed_39 : decode cPD_changed 39 = .ok (.getfield 33, 3) := by decide +kernel
theorem dPD_changed_42 : decode cPD_changed 42 = .ok (.aload_n 0, 1) := by decide +kernel
theorem dPD_changed_43 : decode cPD_changed 43 = .ok (.getfield 37, 3) := by decide +kernel
theorem dPD_changed_46 : decode cPD_changed 46 = .ok (.iload_n 1, 1) := by decide +kernel
theorem dPD_changed_47 : decode cPD_changed 47 = .ok (.invokevirtual 247, 3) := by decide +kernel
theorem dPD_changed_50 : decode cPD_changed 50 = .ok (.ireturn, 1) := by decide +kernel
set_option maxRecDepth 100000 in
theorem kPD_135 : inT (kV "PartDrawings" 135 yPD_needDrawn cPD_needDrawn 1 none) := gW_l [624, 626, 8, 46, 627] rfl (by decide +kernel)
set_option maxRecDepth 100000 in
theorem flPD_134 : Cond.fieldLink "PartDrawings" 134 (TSk 1).1 (TSk 1).2.1 (TSk 1).2.2.1 ∈ gW := gW_1 190 rfl rfl
set_option maxRecDepth 100000 in
theorem kPD_143 : inT (kV "PartDrawings" 143 ySk_number cSk_number 3 (some .long)) := gW_l [630, 631, 632, 51, 633] rfl (by decide +kernel)
set_option maxRecDepth 100000 in
theorem ktPD_138_140_142c : inT [.classLink "PartDrawings" 138 "java/lang/IndexOutOfBoundsException", .instantiable "java/lang/IndexOutOfBoundsException" 6, .initialized "java/lang/IndexOutOfBoundsException"] := gW_l [507, 508, 67] rfl (by decide +kernel)
set_option maxRecDepth 100000 in
theorem ktPD_138_140_142s : Cond.stringRef "PartDrawings" 140 "there is no such stroke, or no such number of it" ∈ lw_tbl := List.mem_of_getElem? (i := 629) rfl
set_option maxRecDepth 100000 in
theorem kPD_147 : inT (kV "PartDrawings" 147 ySk_stateAt cSk_stateAt 8 (some .int)) := gW_l [645, 646, 647, 51, 648] rfl (by decide +kernel)
set_option maxRecDepth 100000 in
theorem kPD_151 : inT (kV "PartDrawings" 151 ySk_lengthOf cSk_lengthOf 5 (some .long)) := gW_l [657, 658, 659, 51, 660] rfl (by decide +kernel)
set_option maxRecDepth 100000 in
theorem flPD_43 : Cond.fieldLink "PartDrawings" 43 (TPD 5).1 (TPD 5).2.1 (TPD 5).2.2.1 ∈ gW := gW_1 358 rfl rfl
set_option maxRecDepth 100000 in
theorem flPD_155 : Cond.fieldLink "PartDrawings" 155 (TMe 1).1 (TMe 1).2.1 (TMe 1).2.2.1 ∈ gW := gW_1 225 rfl rfl
set_option maxRecDepth 100000 in
theorem flPD_176 : Cond.fieldLink "PartDrawings" 176 (TMe 0).1 (TMe 0).2.1 (TMe 0).2.2.1 ∈ gW := gW_1 223 rfl rfl
set_option maxRecDepth 100000 in
theorem ktPD_138_174_142c : inT [.classLink "PartDrawings" 138 "java/lang/IndexOutOfBoundsException", .instantiable "java/lang/IndexOutOfBoundsException" 6, .initialized "java/lang/IndexOutOfBoundsException"] := gW_l [507, 508, 67] rfl (by decide +kernel)
set_option maxRecDepth 100000 in
theorem ktPD_138_174_142s : Cond.stringRef "PartDrawings" 174 "there is no such measure" ∈ lw_tbl := List.mem_of_getElem? (i := 698) rfl
set_option maxRecDepth 100000 in
theorem kPD_158 : inT (kS "PartDrawings" 158 yPD_needAxis cPD_needAxis 1 none) := gW_l [669, 670, 46, 671] rfl (by decide +kernel)
set_option maxRecDepth 100000 in
theorem kPD_182 : inT (kV "PartDrawings" 182 yMe_lengthOf cMe_lengthOf 6 (some .long)) := gW_l [707, 708, 709, 52, 710] rfl (by decide +kernel)
set_option maxRecDepth 100000 in
theorem ktPD_85_180_89c : inT [.classLink "PartDrawings" 85 "java/lang/IllegalArgumentException", .instantiable "java/lang/IllegalArgumentException" 6, .initialized "java/lang/IllegalArgumentException"] := gW_l [467, 468, 66] rfl (by decide +kernel)
set_option maxRecDepth 100000 in
theorem ktPD_85_180_89s : Cond.stringRef "PartDrawings" 180 "a row is below 0" ∈ lw_tbl := List.mem_of_getElem? (i := 706) rfl
set_option maxRecDepth 100000 in
theorem flPD_37 : Cond.fieldLink "PartDrawings" 37 (TPD 4).1 (TPD 4).2.1 (TPD 4).2.2.1 ∈ gW := gW_1 357 rfl rfl
set_option maxRecDepth 100000 in
theorem kPD_240 : inT (kV "PartDrawings" 240 ySk_copy cSk_copy 2 none) := gW_l [1175, 1176, 1177, 51, 1178] rfl (by decide +kernel)
set_option maxRecDepth 100000 in
theorem kPD_247 : inT (kV "PartDrawings" 247 ySk_strokeNotIn cSk_strokeNotIn 6 (some .int)) := gW_l [1189, 1190, 1191, 51, 1192] rfl (by decide +kernel)
set_option maxRecDepth 100000 in
theorem ktPD_74_243_78c : inT [.classLink "PartDrawings" 74 "java/lang/IllegalStateException", .instantiable "java/lang/IllegalStateException" 6, .initialized "java/lang/IllegalStateException"] := gW_l [393, 394, 65] rfl (by decide +kernel)
set_option maxRecDepth 100000 in
theorem ktPD_74_243_78s : Cond.stringRef "PartDrawings" 243 "nothing is kept" ∈ lw_tbl := List.mem_of_getElem? (i := 1187) rfl
set_option maxRecDepth 100000 in
theorem ktPD_85_245_89c : inT [.classLink "PartDrawings" 85 "java/lang/IllegalArgumentException", .instantiable "java/lang/IllegalArgumentException" 6, .initialized "java/lang/IllegalArgumentException"] := gW_l [467, 468, 66] rfl (by decide +kernel)
set_option maxRecDepth 100000 in
theorem ktPD_85_245_89s : Cond.stringRef "PartDrawings" 245 "a stroke's number is below 0" ∈ lw_tbl := List.mem_of_getElem? (i := 1188) rfl
set_option maxHeartbeats 4000000 in
set_option maxRecDepth 100000 in
theorem c_PartDrawings_command (l : Launch) (D : va_G) (cI cG cL cB : ClassId) (x0 : Nat) (b0 : Nat) (r0 : Nat) (tr0 : Nat) (dh : Nat) (kh : Nat) (me0 : Nat) (cl0 : Nat) (pg0 : Nat) (la0 : Nat) (d1 : Nat) (d2 : Nat) (d3 : Nat) (d4 : Nat) (dth : Int) (dn : Int) (dac : Int) (dLi : Int → Int) (dBe : Int → Int) (dEn : Int → Int) (dSt : Int → Int) (k : Int) (i : Int) (bdLi : ∀ j : Int, I32 (dLi j)) (bdBe : ∀ j : Int, I32 (dBe j)) (bdEn : ∀ j : Int, I32 (dEn j)) (bdSt : ∀ j : Int, I32 (dSt j)) (hn0d : 0 ≤ dn) (hn1d : dn ≤ 1200) (ha0d : 0 ≤ dac) (ha1d : dac ≤ dn) (hdth : dth = 1) (hIk : I32 k) (hIi : I32 i) (hk : 0 ≤ k ∧ k < dn) (hi : 0 ≤ i ∧ i ≤ 4) : Cl l yPD_command cPD_command 3 (some .long) 2 0 0 D zCl (zT cI cG cL cB) [.ref x0, .int (zI k), .int (zI i)] [(x0, .inr (9, [.ref b0, .ref r0, .ref tr0, .ref dh, .ref kh, .ref me0, .ref cl0, .ref pg0, .ref la0])), (dh, .inr (7, [.int (zI dth), .int (zI dn), .int (zI dac), .ref d1, .ref d2, .ref d3, .ref d4])), (d1, .inl (cI, 1200, .inl (fI dLi))), (d2, .inl (cI, 1200, .inl (fI dBe))), (d3, .inl (cI, 1200, .inl (fI dEn))), (d4, .inl (cI, 1200, .inl (fI dSt)))] (fun x w => x = zL (numS dac dLi dBe dEn dSt k i) ∧ w = [(x0, .inr (9, [.ref b0, .ref r0, .ref tr0, .ref dh, .ref kh, .ref me0, .ref cl0, .ref pg0, .ref la0])), (dh, .inr (7, [.int (zI dth), .int (zI dn), .int (zI dac), .ref d1, .ref d2, .ref d3, .ref d4])), (d1, .inl (cI, 1200, .inl (fI dLi))), (d2, .inl (cI, 1200, .inl (fI dBe))), (d3, .inl (cI, 1200, .inl (fI dEn))), (d4, .inl (cI, 1200, .inl (fI dSt)))]) := by
  refine zBl (by decide) (Nat.le_of_ble_eq_true rfl) ?_
  intro p e s m args below meth c ls A H locs Q C hin hl hW hQ
  have hl : lv_has ls 3 [(0, .ref x0), (1, .int (zI k)), (2, .int (zI i))] := hl
  refine lv_aload_n C.1 C.2.1 dPD_command_0 rfl (lv_at hl 0 rfl) ?_
  refine zcallv (wr := [(d1, .inl (cI, 1200, .inl (fI dLi))), (d2, .inl (cI, 1200, .inl (fI dBe))), (d3, .inl (cI, 1200, .inl (fI dEn))), (d4, .inl (cI, 1200, .inl (fI dSt)))]) C hW [0, 1] [2, 3, 4, 5] rfl rfl (by decide) (by decide) (zRunV (k := 0) (As := []) (rest := []) C hW (c_PartDrawings_needDrawn l D cI cG cL cB x0 b0 r0 tr0 dh kh me0 cl0 pg0 la0 d1 d2 d3 d4 dth dn dac (by omega) H.size) [0, 1] rfl (by decide) kPD_135 (by decide +kernel) ⟨by decide, by decide⟩ 0 rfl rfl rfl hl.1 (Nat.le_of_ble_eq_true rfl) dPD_command_1 ⟨by first | decide | omega, by first | decide | omega⟩) (fun w H locs hq hW => ?_)
  subst hq
  have hW : zw D zCl A s [(d1, .inl (cI, 1200, .inl (fI dLi))), (d2, .inl (cI, 1200, .inl (fI dBe))), (d3, .inl (cI, 1200, .inl (fI dEn))), (d4, .inl (cI, 1200, .inl (fI dSt))), (x0, .inr (9, [.ref b0, .ref r0, .ref tr0, .ref dh, .ref kh, .ref me0, .ref cl0, .ref pg0, .ref la0])), (dh, .inr (7, [.int (zI dth), .int (zI dn), .int (zI dac), .ref d1, .ref d2, .ref d3, .ref d4]))] H locs := hW
  refine lv_iload_n C.1 C.2.1 dPD_command_4 rfl (lv_at hl 1 rfl) ?_
  refine zif_lt (tgt := 28) C (by omega) dPD_command_5 (by decide) (fun c5 => ?_) (fun c5 => ?_)
  · exact False.elim (by omega)
  · refine lv_iload_n C.1 C.2.1 dPD_command_8 rfl (lv_at hl 1 rfl) ?_
    refine lv_aload_n C.1 C.2.1 dPD_command_9 rfl (lv_at hl 0 rfl) ?_
    refine zget C hW 4 3 rfl rfl inPD (by decide) flPD_33 rfl dPD_command_10 ?_
    refine zget C hW 5 1 rfl rfl inSk (by decide) flPD_134 rfl dPD_command_13 ?_
    refine zicmp_ge (tgt := 28) C (by omega) (by omega) dPD_command_16 (by decide) (fun c16 => ?_) (fun c16 => ?_)
    · exact False.elim (by omega)
    · refine lv_iload_n C.1 C.2.1 dPD_command_19 rfl (lv_at hl 2 rfl) ?_
      refine zif_lt (tgt := 28) C (by omega) dPD_command_20 (by decide) (fun c20 => ?_) (fun c20 => ?_)
      · exact False.elim (by omega)
      · refine lv_iload_n C.1 C.2.1 dPD_command_23 rfl (lv_at hl 2 rfl) ?_
        refine lv_iconst (v := zI 4) C.1 C.2.1 dPD_command_24 (by decide) ?_
        refine zicmp_le (tgt := 38) C (by omega) (by omega) dPD_command_25 (by decide) (fun c25 => ?_) (fun c25 => ?_)
        · refine lv_aload_n C.1 C.2.1 dPD_command_38 rfl (lv_at hl 0 rfl) ?_
          refine zget C hW 4 3 rfl rfl inPD (by decide) flPD_33 rfl dPD_command_39 ?_
          refine lv_iload_n C.1 C.2.1 dPD_command_42 rfl (lv_at hl 1 rfl) ?_
          refine lv_iload_n C.1 C.2.1 dPD_command_43 rfl (lv_at hl 2 rfl) ?_
          refine zcalll (wr := [(x0, .inr (9, [.ref b0, .ref r0, .ref tr0, .ref dh, .ref kh, .ref me0, .ref cl0, .ref pg0, .ref la0]))]) C hW [5, 0, 1, 2, 3] [4] rfl rfl (by decide) (by decide) (zRunV (k := 2) (As := [.int (zI k), .int (zI i)]) (rest := []) C hW (c_Strokes_number l D cI cG cL cB dh d1 d2 d3 d4 dth dn dac dLi dBe dEn dSt k i bdLi bdBe bdEn bdSt (by omega) (by omega) (by omega) (by omega) (by omega) (by omega) (by omega) H.size) [5, 0, 1, 2, 3] rfl (by decide) kPD_143 (by decide +kernel) ⟨by decide, by decide⟩ 5 rfl rfl rfl hl.1 (Nat.le_of_ble_eq_true rfl) dPD_command_44 ⟨by first | decide | omega, by first | decide | omega⟩) (fun x w H locs hq hW => ?_)
          obtain ⟨rfl, rfl⟩ := hq
          have hW : zw D zCl A s [(x0, .inr (9, [.ref b0, .ref r0, .ref tr0, .ref dh, .ref kh, .ref me0, .ref cl0, .ref pg0, .ref la0])), (dh, .inr (7, [.int (zI dth), .int (zI dn), .int (zI dac), .ref d1, .ref d2, .ref d3, .ref d4])), (d1, .inl (cI, 1200, .inl (fI dLi))), (d2, .inl (cI, 1200, .inl (fI dBe))), (d3, .inl (cI, 1200, .inl (fI dEn))), (d4, .inl (cI, 1200, .inl (fI dSt)))] H locs := hW
          exact hQ (zL (numS dac dLi dBe dEn dSt k i)) _ H locs _ _ _ ls hW ⟨rfl, rfl⟩ (by omega) (by omega) dPD_command_47
        · exact False.elim (by omega)
set_option maxHeartbeats 4000000 in
set_option maxRecDepth 100000 in
theorem c_PartDrawings_command_T1 (l : Launch) (D : va_G) (cI cG cL cB : ClassId) (x0 : Nat) (b0 : Nat) (r0 : Nat) (tr0 : Nat) (dh : Nat) (kh : Nat) (me0 : Nat) (cl0 : Nat) (pg0 : Nat) (la0 : Nat) (d1 : Nat) (d2 : Nat) (d3 : Nat) (d4 : Nat) (dth : Int) (dn : Int) (dac : Int) (dLi : Int → Int) (dBe : Int → Int) (dEn : Int → Int) (dSt : Int → Int) (k : Int) (i : Int) (hlt : l.stackTraces = false) (bdLi : ∀ j : Int, I32 (dLi j)) (bdBe : ∀ j : Int, I32 (dBe j)) (bdEn : ∀ j : Int, I32 (dEn j)) (bdSt : ∀ j : Int, I32 (dSt j)) (hn0d : 0 ≤ dn) (hn1d : dn ≤ 1200) (ha0d : 0 ≤ dac) (ha1d : dac ≤ dn) (hdth : dth = 0) (hIk : I32 k) (hIi : I32 i) : Ct l yPD_command cPD_command 3 (some .long) 7 1 6 D zCl (zT cI cG cL cB) [.ref x0, .int (zI k), .int (zI i)] [(x0, .inr (9, [.ref b0, .ref r0, .ref tr0, .ref dh, .ref kh, .ref me0, .ref cl0, .ref pg0, .ref la0])), (dh, .inr (7, [.int (zI dth), .int (zI dn), .int (zI dac), .ref d1, .ref d2, .ref d3, .ref d4])), (d1, .inl (cI, 1200, .inl (fI dLi))), (d2, .inl (cI, 1200, .inl (fI dBe))), (d3, .inl (cI, 1200, .inl (fI dEn))), (d4, .inl (cI, 1200, .inl (fI dSt)))] "java/lang/IllegalStateException" (fun w => w = [(d1, .inl (cI, 1200, .inl (fI dLi))), (d2, .inl (cI, 1200, .inl (fI dBe))), (d3, .inl (cI, 1200, .inl (fI dEn))), (d4, .inl (cI, 1200, .inl (fI dSt))), (x0, .inr (9, [.ref b0, .ref r0, .ref tr0, .ref dh, .ref kh, .ref me0, .ref cl0, .ref pg0, .ref la0])), (dh, .inr (7, [.int (zI dth), .int (zI dn), .int (zI dac), .ref d1, .ref d2, .ref d3, .ref d4]))]) := by
  refine zBt (by decide) (Nat.le_of_ble_eq_true rfl) ?_
  intro p e s m args below meth c ls A H locs Q C hx hl hW hQ
  have hl : lv_has ls 3 [(0, .ref x0), (1, .int (zI k)), (2, .int (zI i))] := hl
  refine lv_aload_n C.1 C.2.1 dPD_command_0 rfl (lv_at hl 0 rfl) ?_
  exact zpropT (wr := [(d1, .inl (cI, 1200, .inl (fI dLi))), (d2, .inl (cI, 1200, .inl (fI dBe))), (d3, .inl (cI, 1200, .inl (fI dEn))), (d4, .inl (cI, 1200, .inl (fI dSt)))]) C hW hx [0, 1] [2, 3, 4, 5] rfl rfl (by decide) (by decide) (zRunVT (k := 0) (As := []) (rest := []) C hW (c_PartDrawings_needDrawn_T l D cI cG cL cB x0 b0 r0 tr0 dh kh me0 cl0 pg0 la0 d1 d2 d3 d4 dth dn dac (by omega) (by omega) H.size) [0, 1] rfl (by decide) kPD_135 (by decide +kernel) ⟨by decide, by decide⟩ 0 rfl rfl rfl hl.1 (Nat.le_of_ble_eq_true rfl) dPD_command_1 ⟨by first | decide | omega, by first | decide | omega⟩) (fun w hq => by obtain rfl := hq; exact rfl) hQ (by omega) (by omega)
set_option maxHeartbeats 4000000 in
set_option maxRecDepth 100000 in
theorem c_PartDrawings_command_T2 (l : Launch) (D : va_G) (cI cG cL cB : ClassId) (x0 : Nat) (b0 : Nat) (r0 : Nat) (tr0 : Nat) (dh : Nat) (kh : Nat) (me0 : Nat) (cl0 : Nat) (pg0 : Nat) (la0 : Nat) (d1 : Nat) (d2 : Nat) (d3 : Nat) (d4 : Nat) (dth : Int) (dn : Int) (dac : Int) (dLi : Int → Int) (dBe : Int → Int) (dEn : Int → Int) (dSt : Int → Int) (k : Int) (i : Int) (hlt : l.stackTraces = false) (bdLi : ∀ j : Int, I32 (dLi j)) (bdBe : ∀ j : Int, I32 (dBe j)) (bdEn : ∀ j : Int, I32 (dEn j)) (bdSt : ∀ j : Int, I32 (dSt j)) (hn0d : 0 ≤ dn) (hn1d : dn ≤ 1200) (ha0d : 0 ≤ dac) (ha1d : dac ≤ dn) (hdth : dth = 1) (hIk : I32 k) (hIi : I32 i) (hk : ¬ (0 ≤ k ∧ k < dn ∧ 0 ≤ i ∧ i ≤ 4)) : Ct l yPD_command cPD_command 3 (some .long) 7 1 6 D zCl (zT cI cG cL cB) [.ref x0, .int (zI k), .int (zI i)] [(x0, .inr (9, [.ref b0, .ref r0, .ref tr0, .ref dh, .ref kh, .ref me0, .ref cl0, .ref pg0, .ref la0])), (dh, .inr (7, [.int (zI dth), .int (zI dn), .int (zI dac), .ref d1, .ref d2, .ref d3, .ref d4])), (d1, .inl (cI, 1200, .inl (fI dLi))), (d2, .inl (cI, 1200, .inl (fI dBe))), (d3, .inl (cI, 1200, .inl (fI dEn))), (d4, .inl (cI, 1200, .inl (fI dSt)))] "java/lang/IndexOutOfBoundsException" (fun w => w = [(x0, .inr (9, [.ref b0, .ref r0, .ref tr0, .ref dh, .ref kh, .ref me0, .ref cl0, .ref pg0, .ref la0])), (dh, .inr (7, [.int (zI dth), .int (zI dn), .int (zI dac), .ref d1, .ref d2, .ref d3, .ref d4])), (d1, .inl (cI, 1200, .inl (fI dLi))), (d2, .inl (cI, 1200, .inl (fI dBe))), (d3, .inl (cI, 1200, .inl (fI dEn))), (d4, .inl (cI, 1200, .inl (fI dSt)))]) := by
  refine zBt (by decide) (Nat.le_of_ble_eq_true rfl) ?_
  intro p e s m args below meth c ls A H locs Q C hx hl hW hQ
  have hl : lv_has ls 3 [(0, .ref x0), (1, .int (zI k)), (2, .int (zI i))] := hl
  refine lv_aload_n C.1 C.2.1 dPD_command_0 rfl (lv_at hl 0 rfl) ?_
  refine zcallv (wr := [(d1, .inl (cI, 1200, .inl (fI dLi))), (d2, .inl (cI, 1200, .inl (fI dBe))), (d3, .inl (cI, 1200, .inl (fI dEn))), (d4, .inl (cI, 1200, .inl (fI dSt)))]) C hW [0, 1] [2, 3, 4, 5] rfl rfl (by decide) (by decide) (zRunV (k := 0) (As := []) (rest := []) C hW (c_PartDrawings_needDrawn l D cI cG cL cB x0 b0 r0 tr0 dh kh me0 cl0 pg0 la0 d1 d2 d3 d4 dth dn dac (by omega) H.size) [0, 1] rfl (by decide) kPD_135 (by decide +kernel) ⟨by decide, by decide⟩ 0 rfl rfl rfl hl.1 (Nat.le_of_ble_eq_true rfl) dPD_command_1 ⟨by first | decide | omega, by first | decide | omega⟩) (fun w H locs hq hW => ?_)
  subst hq
  have hW : zw D zCl A s [(d1, .inl (cI, 1200, .inl (fI dLi))), (d2, .inl (cI, 1200, .inl (fI dBe))), (d3, .inl (cI, 1200, .inl (fI dEn))), (d4, .inl (cI, 1200, .inl (fI dSt))), (x0, .inr (9, [.ref b0, .ref r0, .ref tr0, .ref dh, .ref kh, .ref me0, .ref cl0, .ref pg0, .ref la0])), (dh, .inr (7, [.int (zI dth), .int (zI dn), .int (zI dac), .ref d1, .ref d2, .ref d3, .ref d4]))] H locs := hW
  refine lv_iload_n C.1 C.2.1 dPD_command_4 rfl (lv_at hl 1 rfl) ?_
  refine zif_lt (tgt := 28) C (by omega) dPD_command_5 (by decide) (fun c5 => ?_) (fun c5 => ?_)
  · have hW : zw D zCl A s [(x0, .inr (9, [.ref b0, .ref r0, .ref tr0, .ref dh, .ref kh, .ref me0, .ref cl0, .ref pg0, .ref la0])), (dh, .inr (7, [.int (zI dth), .int (zI dn), .int (zI dac), .ref d1, .ref d2, .ref d3, .ref d4])), (d1, .inl (cI, 1200, .inl (fI dLi))), (d2, .inl (cI, 1200, .inl (fI dBe))), (d3, .inl (cI, 1200, .inl (fI dEn))), (d4, .inl (cI, 1200, .inl (fI dSt)))] H locs := zwp hW [4, 5, 0, 1, 2, 3] rfl (by decide)
    exact zthrow C hW hx hlt hl.1 (by decide +kernel) (by decide +kernel) ktPD_138_140_142c kxPD_142 ktPD_138_140_142s hQ rfl (by omega) (by omega) (by decide) (by decide) (by decide) (Nat.le_of_ble_eq_true rfl) dPD_command_28 dPD_command_31 dPD_command_32 dPD_command_34 dPD_command_37
  · refine lv_iload_n C.1 C.2.1 dPD_command_8 rfl (lv_at hl 1 rfl) ?_
    refine lv_aload_n C.1 C.2.1 dPD_command_9 rfl (lv_at hl 0 rfl) ?_
    refine zget C hW 4 3 rfl rfl inPD (by decide) flPD_33 rfl dPD_command_10 ?_
    refine zget C hW 5 1 rfl rfl inSk (by decide) flPD_134 rfl dPD_command_13 ?_
    refine zicmp_ge (tgt := 28) C (by omega) (by omega) dPD_command_16 (by decide) (fun c16 => ?_) (fun c16 => ?_)
    · have hW : zw D zCl A s [(x0, .inr (9, [.ref b0, .ref r0, .ref tr0, .ref dh, .ref kh, .ref me0, .ref cl0, .ref pg0, .ref la0])), (dh, .inr (7, [.int (zI dth), .int (zI dn), .int (zI dac), .ref d1, .ref d2, .ref d3, .ref d4])), (d1, .inl (cI, 1200, .inl (fI dLi))), (d2, .inl (cI, 1200, .inl (fI dBe))), (d3, .inl (cI, 1200, .inl (fI dEn))), (d4, .inl (cI, 1200, .inl (fI dSt)))] H locs := zwp hW [4, 5, 0, 1, 2, 3] rfl (by decide)
      exact zthrow C hW hx hlt hl.1 (by decide +kernel) (by decide +kernel) ktPD_138_140_142c kxPD_142 ktPD_138_140_142s hQ rfl (by omega) (by omega) (by decide) (by decide) (by decide) (Nat.le_of_ble_eq_true rfl) dPD_command_28 dPD_command_31 dPD_command_32 dPD_command_34 dPD_command_37
    · refine lv_iload_n C.1 C.2.1 dPD_command_19 rfl (lv_at hl 2 rfl) ?_
      refine zif_lt (tgt := 28) C (by omega) dPD_command_20 (by decide) (fun c20 => ?_) (fun c20 => ?_)
      · have hW : zw D zCl A s [(x0, .inr (9, [.ref b0, .ref r0, .ref tr0, .ref dh, .ref kh, .ref me0, .ref cl0, .ref pg0, .ref la0])), (dh, .inr (7, [.int (zI dth), .int (zI dn), .int (zI dac), .ref d1, .ref d2, .ref d3, .ref d4])), (d1, .inl (cI, 1200, .inl (fI dLi))), (d2, .inl (cI, 1200, .inl (fI dBe))), (d3, .inl (cI, 1200, .inl (fI dEn))), (d4, .inl (cI, 1200, .inl (fI dSt)))] H locs := zwp hW [4, 5, 0, 1, 2, 3] rfl (by decide)
        exact zthrow C hW hx hlt hl.1 (by decide +kernel) (by decide +kernel) ktPD_138_140_142c kxPD_142 ktPD_138_140_142s hQ rfl (by omega) (by omega) (by decide) (by decide) (by decide) (Nat.le_of_ble_eq_true rfl) dPD_command_28 dPD_command_31 dPD_command_32 dPD_command_34 dPD_command_37
      · refine lv_iload_n C.1 C.2.1 dPD_command_23 rfl (lv_at hl 2 rfl) ?_
        refine lv_iconst (v := zI 4) C.1 C.2.1 dPD_command_24 (by decide) ?_
        refine zicmp_le (tgt := 38) C (by omega) (by omega) dPD_command_25 (by decide) (fun c25 => ?_) (fun c25 => ?_)
        · exact False.elim (by omega)
        · have hW : zw D zCl A s [(x0, .inr (9, [.ref b0, .ref r0, .ref tr0, .ref dh, .ref kh, .ref me0, .ref cl0, .ref pg0, .ref la0])), (dh, .inr (7, [.int (zI dth), .int (zI dn), .int (zI dac), .ref d1, .ref d2, .ref d3, .ref d4])), (d1, .inl (cI, 1200, .inl (fI dLi))), (d2, .inl (cI, 1200, .inl (fI dBe))), (d3, .inl (cI, 1200, .inl (fI dEn))), (d4, .inl (cI, 1200, .inl (fI dSt)))] H locs := zwp hW [4, 5, 0, 1, 2, 3] rfl (by decide)
          exact zthrow C hW hx hlt hl.1 (by decide +kernel) (by decide +kernel) ktPD_138_140_142c kxPD_142 ktPD_138_140_142s hQ rfl (by omega) (by omega) (by decide) (by decide) (by decide) (Nat.le_of_ble_eq_true rfl) dPD_command_28 dPD_command_31 dPD_command_32 dPD_command_34 dPD_command_37
set_option maxHeartbeats 4000000 in
set_option maxRecDepth 100000 in
theorem c_PartDrawings_on (l : Launch) (D : va_G) (cI cG cL cB : ClassId) (x0 : Nat) (b0 : Nat) (r0 : Nat) (tr0 : Nat) (dh : Nat) (kh : Nat) (me0 : Nat) (cl0 : Nat) (pg0 : Nat) (la0 : Nat) (d1 : Nat) (d2 : Nat) (d3 : Nat) (d4 : Nat) (dth : Int) (dn : Int) (dac : Int) (dLi : Int → Int) (dBe : Int → Int) (dEn : Int → Int) (dSt : Int → Int) (ax_ : Int) (pl : Int) (ub : Int) (bdLi : ∀ j : Int, I32 (dLi j)) (bdBe : ∀ j : Int, I32 (dBe j)) (bdEn : ∀ j : Int, I32 (dEn j)) (bdSt : ∀ j : Int, I32 (dSt j)) (hn0d : 0 ≤ dn) (hn1d : dn ≤ 1200) (ha0d : 0 ≤ dac) (ha1d : dac ≤ dn) (hdth : dth = 1) (hJax_ : I64 ax_) (hJpl : I64 pl) (hub : ub = 0 ∨ ub = 1) : Ci l yPD_on cPD_on 6 (some .int) 2 0 0 D zCl (zT cI cG cL cB) [.ref x0, .long (zL ax_), .long (zL pl), .int (zI ub)] [(x0, .inr (9, [.ref b0, .ref r0, .ref tr0, .ref dh, .ref kh, .ref me0, .ref cl0, .ref pg0, .ref la0])), (dh, .inr (7, [.int (zI dth), .int (zI dn), .int (zI dac), .ref d1, .ref d2, .ref d3, .ref d4])), (d1, .inl (cI, 1200, .inl (fI dLi))), (d2, .inl (cI, 1200, .inl (fI dBe))), (d3, .inl (cI, 1200, .inl (fI dEn))), (d4, .inl (cI, 1200, .inl (fI dSt)))] (fun x w => x = zI (foldZ (stF dac dLi dBe dEn dSt ub (if ub = 0 then pl else ax_) (if ub = 0 then ax_ else pl)) 2 dn) ∧ w = [(x0, .inr (9, [.ref b0, .ref r0, .ref tr0, .ref dh, .ref kh, .ref me0, .ref cl0, .ref pg0, .ref la0])), (dh, .inr (7, [.int (zI dth), .int (zI dn), .int (zI dac), .ref d1, .ref d2, .ref d3, .ref d4])), (d1, .inl (cI, 1200, .inl (fI dLi))), (d2, .inl (cI, 1200, .inl (fI dBe))), (d3, .inl (cI, 1200, .inl (fI dEn))), (d4, .inl (cI, 1200, .inl (fI dSt)))]) := by
  rcases hub with rfl | rfl
  · refine zBi (by decide) (Nat.le_of_ble_eq_true rfl) ?_
    intro p e s m args below meth c ls A H locs Q C hin hl hW hQ
    have hl : lv_has ls 6 [(0, .ref x0), (1, .long (zL ax_)), (3, .long (zL pl)), (5, .int (zI 0))] := hl
    refine lv_aload_n C.1 C.2.1 dPD_on_0 rfl (lv_at hl 0 rfl) ?_
    refine zcallv (wr := [(d1, .inl (cI, 1200, .inl (fI dLi))), (d2, .inl (cI, 1200, .inl (fI dBe))), (d3, .inl (cI, 1200, .inl (fI dEn))), (d4, .inl (cI, 1200, .inl (fI dSt)))]) C hW [0, 1] [2, 3, 4, 5] rfl rfl (by decide) (by decide) (zRunV (k := 0) (As := []) (rest := []) C hW (c_PartDrawings_needDrawn l D cI cG cL cB x0 b0 r0 tr0 dh kh me0 cl0 pg0 la0 d1 d2 d3 d4 dth dn dac (by omega) H.size) [0, 1] rfl (by decide) kPD_135 (by decide +kernel) ⟨by decide, by decide⟩ 0 rfl rfl rfl hl.1 (Nat.le_of_ble_eq_true rfl) dPD_on_1 ⟨by first | decide | omega, by first | decide | omega⟩) (fun w H locs hq hW => ?_)
    subst hq
    have hW : zw D zCl A s [(d1, .inl (cI, 1200, .inl (fI dLi))), (d2, .inl (cI, 1200, .inl (fI dBe))), (d3, .inl (cI, 1200, .inl (fI dEn))), (d4, .inl (cI, 1200, .inl (fI dSt))), (x0, .inr (9, [.ref b0, .ref r0, .ref tr0, .ref dh, .ref kh, .ref me0, .ref cl0, .ref pg0, .ref la0])), (dh, .inr (7, [.int (zI dth), .int (zI dn), .int (zI dac), .ref d1, .ref d2, .ref d3, .ref d4]))] H locs := hW
    refine lv_iload C.1 C.2.1 dPD_on_4 (lv_at hl 3 rfl) ?_
    refine zif_eq (tgt := 22) C (by omega) dPD_on_6 (by decide) (fun c6 => ?_) (fun c6 => ?_)
    · refine lv_aload_n C.1 C.2.1 dPD_on_22 rfl (lv_at hl 0 rfl) ?_
      refine zget C hW 4 3 rfl rfl inPD (by decide) flPD_33 rfl dPD_on_23 ?_
      refine lv_iconst (v := zI 0) C.1 C.2.1 dPD_on_26 (by decide) ?_
      refine lv_lload_n C.1 C.2.1 dPD_on_27 rfl (lv_at hl 2 rfl) ?_
      refine lv_lload_n C.1 C.2.1 dPD_on_28 rfl (lv_at hl 1 rfl) ?_
      refine zcalli (wr := [(x0, .inr (9, [.ref b0, .ref r0, .ref tr0, .ref dh, .ref kh, .ref me0, .ref cl0, .ref pg0, .ref la0]))]) C hW [5, 0, 1, 2, 3] [4] rfl rfl (by decide) (by decide) (zRunV (k := 3) (As := [.int (zI 0), .long (zL pl), .long (zL ax_)]) (rest := []) C hW (c_Strokes_stateAt l D cI cG cL cB dh d1 d2 d3 d4 dth dn dac dLi dBe dEn dSt 0 pl ax_ bdLi bdBe bdEn bdSt (by omega) (by omega) (by omega) (by omega) (by omega) (by omega) (by omega) H.size) [5, 0, 1, 2, 3] rfl (by decide) kPD_147 (by decide +kernel) ⟨by decide, by decide⟩ 5 rfl rfl rfl hl.1 (Nat.le_of_ble_eq_true rfl) dPD_on_29 ⟨by first | decide | omega, by first | decide | omega⟩) (fun x w H locs hq hW => ?_)
      obtain ⟨rfl, rfl⟩ := hq
      have hW : zw D zCl A s [(x0, .inr (9, [.ref b0, .ref r0, .ref tr0, .ref dh, .ref kh, .ref me0, .ref cl0, .ref pg0, .ref la0])), (dh, .inr (7, [.int (zI dth), .int (zI dn), .int (zI dac), .ref d1, .ref d2, .ref d3, .ref d4])), (d1, .inl (cI, 1200, .inl (fI dLi))), (d2, .inl (cI, 1200, .inl (fI dBe))), (d3, .inl (cI, 1200, .inl (fI dEn))), (d4, .inl (cI, 1200, .inl (fI dSt)))] H locs := hW
      exact hQ (zI (foldZ (stF dac dLi dBe dEn dSt 0 pl ax_) 2 dn)) _ H locs _ _ _ ls hW ⟨rfl, rfl⟩ (by omega) (by omega) dPD_on_32
    · exact absurd c6 (by decide)
  · refine zBi (by decide) (Nat.le_of_ble_eq_true rfl) ?_
    intro p e s m args below meth c ls A H locs Q C hin hl hW hQ
    have hl : lv_has ls 6 [(0, .ref x0), (1, .long (zL ax_)), (3, .long (zL pl)), (5, .int (zI 1))] := hl
    refine lv_aload_n C.1 C.2.1 dPD_on_0 rfl (lv_at hl 0 rfl) ?_
    refine zcallv (wr := [(d1, .inl (cI, 1200, .inl (fI dLi))), (d2, .inl (cI, 1200, .inl (fI dBe))), (d3, .inl (cI, 1200, .inl (fI dEn))), (d4, .inl (cI, 1200, .inl (fI dSt)))]) C hW [0, 1] [2, 3, 4, 5] rfl rfl (by decide) (by decide) (zRunV (k := 0) (As := []) (rest := []) C hW (c_PartDrawings_needDrawn l D cI cG cL cB x0 b0 r0 tr0 dh kh me0 cl0 pg0 la0 d1 d2 d3 d4 dth dn dac (by omega) H.size) [0, 1] rfl (by decide) kPD_135 (by decide +kernel) ⟨by decide, by decide⟩ 0 rfl rfl rfl hl.1 (Nat.le_of_ble_eq_true rfl) dPD_on_1 ⟨by first | decide | omega, by first | decide | omega⟩) (fun w H locs hq hW => ?_)
    subst hq
    have hW : zw D zCl A s [(d1, .inl (cI, 1200, .inl (fI dLi))), (d2, .inl (cI, 1200, .inl (fI dBe))), (d3, .inl (cI, 1200, .inl (fI dEn))), (d4, .inl (cI, 1200, .inl (fI dSt))), (x0, .inr (9, [.ref b0, .ref r0, .ref tr0, .ref dh, .ref kh, .ref me0, .ref cl0, .ref pg0, .ref la0])), (dh, .inr (7, [.int (zI dth), .int (zI dn), .int (zI dac), .ref d1, .ref d2, .ref d3, .ref d4]))] H locs := hW
    refine lv_iload C.1 C.2.1 dPD_on_4 (lv_at hl 3 rfl) ?_
    refine zif_eq (tgt := 22) C (by omega) dPD_on_6 (by decide) (fun c6 => ?_) (fun c6 => ?_)
    · exact absurd c6 (by decide)
    · refine lv_aload_n C.1 C.2.1 dPD_on_9 rfl (lv_at hl 0 rfl) ?_
      refine zget C hW 4 3 rfl rfl inPD (by decide) flPD_33 rfl dPD_on_10 ?_
      refine lv_iconst (v := zI 1) C.1 C.2.1 dPD_on_13 (by decide) ?_
      refine lv_lload_n C.1 C.2.1 dPD_on_14 rfl (lv_at hl 1 rfl) ?_
      refine lv_lload_n C.1 C.2.1 dPD_on_15 rfl (lv_at hl 2 rfl) ?_
      refine zcalli (wr := [(x0, .inr (9, [.ref b0, .ref r0, .ref tr0, .ref dh, .ref kh, .ref me0, .ref cl0, .ref pg0, .ref la0]))]) C hW [5, 0, 1, 2, 3] [4] rfl rfl (by decide) (by decide) (zRunV (k := 3) (As := [.int (zI 1), .long (zL ax_), .long (zL pl)]) (rest := []) C hW (c_Strokes_stateAt l D cI cG cL cB dh d1 d2 d3 d4 dth dn dac dLi dBe dEn dSt 1 ax_ pl bdLi bdBe bdEn bdSt (by omega) (by omega) (by omega) (by omega) (by omega) (by omega) (by omega) H.size) [5, 0, 1, 2, 3] rfl (by decide) kPD_147 (by decide +kernel) ⟨by decide, by decide⟩ 5 rfl rfl rfl hl.1 (Nat.le_of_ble_eq_true rfl) dPD_on_16 ⟨by first | decide | omega, by first | decide | omega⟩) (fun x w H locs hq hW => ?_)
      obtain ⟨rfl, rfl⟩ := hq
      have hW : zw D zCl A s [(x0, .inr (9, [.ref b0, .ref r0, .ref tr0, .ref dh, .ref kh, .ref me0, .ref cl0, .ref pg0, .ref la0])), (dh, .inr (7, [.int (zI dth), .int (zI dn), .int (zI dac), .ref d1, .ref d2, .ref d3, .ref d4])), (d1, .inl (cI, 1200, .inl (fI dLi))), (d2, .inl (cI, 1200, .inl (fI dBe))), (d3, .inl (cI, 1200, .inl (fI dEn))), (d4, .inl (cI, 1200, .inl (fI dSt)))] H locs := hW
      refine lv_goto (tgt := 32) C.1 C.2.1 dPD_on_19 (by decide) ?_
      exact hQ (zI (foldZ (stF dac dLi dBe dEn dSt 1 ax_ pl) 2 dn)) _ H locs _ _ _ ls hW ⟨rfl, rfl⟩ (by omega) (by omega) dPD_on_32
set_option maxHeartbeats 4000000 in
set_option maxRecDepth 100000 in
theorem c_PartDrawings_on_T (l : Launch) (D : va_G) (cI cG cL cB : ClassId) (x0 : Nat) (b0 : Nat) (r0 : Nat) (tr0 : Nat) (dh : Nat) (kh : Nat) (me0 : Nat) (cl0 : Nat) (pg0 : Nat) (la0 : Nat) (d1 : Nat) (d2 : Nat) (d3 : Nat) (d4 : Nat) (dth : Int) (dn : Int) (dac : Int) (dLi : Int → Int) (dBe : Int → Int) (dEn : Int → Int) (dSt : Int → Int) (ax_ : Int) (pl : Int) (ub : Int) (hlt : l.stackTraces = false) (bdLi : ∀ j : Int, I32 (dLi j)) (bdBe : ∀ j : Int, I32 (dBe j)) (bdEn : ∀ j : Int, I32 (dEn j)) (bdSt : ∀ j : Int, I32 (dSt j)) (hn0d : 0 ≤ dn) (hn1d : dn ≤ 1200) (ha0d : 0 ≤ dac) (ha1d : dac ≤ dn) (hdth : dth = 0) (hJax_ : I64 ax_) (hJpl : I64 pl) (hub : ub = 0 ∨ ub = 1) : Ct l yPD_on cPD_on 6 (some .int) 7 1 6 D zCl (zT cI cG cL cB) [.ref x0, .long (zL ax_), .long (zL pl), .int (zI ub)] [(x0, .inr (9, [.ref b0, .ref r0, .ref tr0, .ref dh, .ref kh, .ref me0, .ref cl0, .ref pg0, .ref la0])), (dh, .inr (7, [.int (zI dth), .int (zI dn), .int (zI dac), .ref d1, .ref d2, .ref d3, .ref d4])), (d1, .inl (cI, 1200, .inl (fI dLi))), (d2, .inl (cI, 1200, .inl (fI dBe))), (d3, .inl (cI, 1200, .inl (fI dEn))), (d4, .inl (cI, 1200, .inl (fI dSt)))] "java/lang/IllegalStateException" (fun w => w = [(d1, .inl (cI, 1200, .inl (fI dLi))), (d2, .inl (cI, 1200, .inl (fI dBe))), (d3, .inl (cI, 1200, .inl (fI dEn))), (d4, .inl (cI, 1200, .inl (fI dSt))), (x0, .inr (9, [.ref b0, .ref r0, .ref tr0, .ref dh, .ref kh, .ref me0, .ref cl0, .ref pg0, .ref la0])), (dh, .inr (7, [.int (zI dth), .int (zI dn), .int (zI dac), .ref d1, .ref d2, .ref d3, .ref d4]))]) := by
  refine zBt (by decide) (Nat.le_of_ble_eq_true rfl) ?_
  intro p e s m args below meth c ls A H locs Q C hx hl hW hQ
  have hl : lv_has ls 6 [(0, .ref x0), (1, .long (zL ax_)), (3, .long (zL pl)), (5, .int (zI ub))] := hl
  refine lv_aload_n C.1 C.2.1 dPD_on_0 rfl (lv_at hl 0 rfl) ?_
  exact zpropT (wr := [(d1, .inl (cI, 1200, .inl (fI dLi))), (d2, .inl (cI, 1200, .inl (fI dBe))), (d3, .inl (cI, 1200, .inl (fI dEn))), (d4, .inl (cI, 1200, .inl (fI dSt)))]) C hW hx [0, 1] [2, 3, 4, 5] rfl rfl (by decide) (by decide) (zRunVT (k := 0) (As := []) (rest := []) C hW (c_PartDrawings_needDrawn_T l D cI cG cL cB x0 b0 r0 tr0 dh kh me0 cl0 pg0 la0 d1 d2 d3 d4 dth dn dac (by omega) (by omega) H.size) [0, 1] rfl (by decide) kPD_135 (by decide +kernel) ⟨by decide, by decide⟩ 0 rfl rfl rfl hl.1 (Nat.le_of_ble_eq_true rfl) dPD_on_1 ⟨by first | decide | omega, by first | decide | omega⟩) (fun w hq => by obtain rfl := hq; exact rfl) hQ (by omega) (by omega)
set_option maxHeartbeats 4000000 in
set_option maxRecDepth 100000 in
theorem c_PartDrawings_ink (l : Launch) (D : va_G) (cI cG cL cB : ClassId) (x0 : Nat) (b0 : Nat) (r0 : Nat) (tr0 : Nat) (dh : Nat) (kh : Nat) (me0 : Nat) (cl0 : Nat) (pg0 : Nat) (la0 : Nat) (d1 : Nat) (d2 : Nat) (d3 : Nat) (d4 : Nat) (dth : Int) (dn : Int) (dac : Int) (dLi : Int → Int) (dBe : Int → Int) (dEn : Int → Int) (dSt : Int → Int) (hd_ : Int) (bdLi : ∀ j : Int, I32 (dLi j)) (bdBe : ∀ j : Int, I32 (dBe j)) (bdEn : ∀ j : Int, I32 (dEn j)) (bdSt : ∀ j : Int, I32 (dSt j)) (hn0d : 0 ≤ dn) (hn1d : dn ≤ 1200) (ha0d : 0 ≤ dac) (ha1d : dac ≤ dn) (hdth : dth = 1) (hdB : bdA dn dLi dBe dEn dSt) (hhd : hd_ = 0 ∨ hd_ = 1) : Cl l yPD_ink cPD_ink 2 (some .long) 2 0 0 D zCl (zT cI cG cL cB) [.ref x0, .int (zI hd_)] [(x0, .inr (9, [.ref b0, .ref r0, .ref tr0, .ref dh, .ref kh, .ref me0, .ref cl0, .ref pg0, .ref la0])), (dh, .inr (7, [.int (zI dth), .int (zI dn), .int (zI dac), .ref d1, .ref d2, .ref d3, .ref d4])), (d1, .inl (cI, 1200, .inl (fI dLi))), (d2, .inl (cI, 1200, .inl (fI dBe))), (d3, .inl (cI, 1200, .inl (fI dEn))), (d4, .inl (cI, 1200, .inl (fI dSt)))] (fun x w => x = zL (sumZ (lnS dSt dBe dEn hd_) dn) ∧ w = [(x0, .inr (9, [.ref b0, .ref r0, .ref tr0, .ref dh, .ref kh, .ref me0, .ref cl0, .ref pg0, .ref la0])), (dh, .inr (7, [.int (zI dth), .int (zI dn), .int (zI dac), .ref d1, .ref d2, .ref d3, .ref d4])), (d1, .inl (cI, 1200, .inl (fI dLi))), (d2, .inl (cI, 1200, .inl (fI dBe))), (d3, .inl (cI, 1200, .inl (fI dEn))), (d4, .inl (cI, 1200, .inl (fI dSt)))]) := by
  rcases hhd with rfl | rfl
  · refine zBl (by decide) (Nat.le_of_ble_eq_true rfl) ?_
    intro p e s m args below meth c ls A H locs Q C hin hl hW hQ
    have hl : lv_has ls 2 [(0, .ref x0), (1, .int (zI 0))] := hl
    refine lv_aload_n C.1 C.2.1 dPD_ink_0 rfl (lv_at hl 0 rfl) ?_
    refine zcallv (wr := [(d1, .inl (cI, 1200, .inl (fI dLi))), (d2, .inl (cI, 1200, .inl (fI dBe))), (d3, .inl (cI, 1200, .inl (fI dEn))), (d4, .inl (cI, 1200, .inl (fI dSt)))]) C hW [0, 1] [2, 3, 4, 5] rfl rfl (by decide) (by decide) (zRunV (k := 0) (As := []) (rest := []) C hW (c_PartDrawings_needDrawn l D cI cG cL cB x0 b0 r0 tr0 dh kh me0 cl0 pg0 la0 d1 d2 d3 d4 dth dn dac (by omega) H.size) [0, 1] rfl (by decide) kPD_135 (by decide +kernel) ⟨by decide, by decide⟩ 0 rfl rfl rfl hl.1 (Nat.le_of_ble_eq_true rfl) dPD_ink_1 ⟨by first | decide | omega, by first | decide | omega⟩) (fun w H locs hq hW => ?_)
    subst hq
    have hW : zw D zCl A s [(d1, .inl (cI, 1200, .inl (fI dLi))), (d2, .inl (cI, 1200, .inl (fI dBe))), (d3, .inl (cI, 1200, .inl (fI dEn))), (d4, .inl (cI, 1200, .inl (fI dSt))), (x0, .inr (9, [.ref b0, .ref r0, .ref tr0, .ref dh, .ref kh, .ref me0, .ref cl0, .ref pg0, .ref la0])), (dh, .inr (7, [.int (zI dth), .int (zI dn), .int (zI dac), .ref d1, .ref d2, .ref d3, .ref d4]))] H locs := hW
    refine lv_aload_n C.1 C.2.1 dPD_ink_4 rfl (lv_at hl 0 rfl) ?_
    refine zget C hW 4 3 rfl rfl inPD (by decide) flPD_33 rfl dPD_ink_5 ?_
    refine lv_iload_n C.1 C.2.1 dPD_ink_8 rfl (lv_at hl 1 rfl) ?_
    refine zif_eq (tgt := 16) C (by omega) dPD_ink_9 (by decide) (fun c9 => ?_) (fun c9 => ?_)
    · refine lv_iconst (v := zI 0) C.1 C.2.1 dPD_ink_16 (by decide) ?_
      refine zcalll (wr := [(x0, .inr (9, [.ref b0, .ref r0, .ref tr0, .ref dh, .ref kh, .ref me0, .ref cl0, .ref pg0, .ref la0]))]) C hW [5, 0, 1, 2, 3] [4] rfl rfl (by decide) (by decide) (zRunV (k := 1) (As := [.int (zI 0)]) (rest := []) C hW (c_Strokes_lengthOf l D cI cG cL cB dh d1 d2 d3 d4 dth dn dac dLi dBe dEn dSt 0 bdLi bdBe bdEn bdSt (by omega) (by omega) (by omega) (by omega) (by omega) (fun j a b => by have := hdB j a b; omega) H.size) [5, 0, 1, 2, 3] rfl (by decide) kPD_151 (by decide +kernel) ⟨by decide, by decide⟩ 5 rfl rfl rfl hl.1 (Nat.le_of_ble_eq_true rfl) dPD_ink_17 ⟨by first | decide | omega, by first | decide | omega⟩) (fun x w H locs hq hW => ?_)
      obtain ⟨rfl, rfl⟩ := hq
      have hW : zw D zCl A s [(x0, .inr (9, [.ref b0, .ref r0, .ref tr0, .ref dh, .ref kh, .ref me0, .ref cl0, .ref pg0, .ref la0])), (dh, .inr (7, [.int (zI dth), .int (zI dn), .int (zI dac), .ref d1, .ref d2, .ref d3, .ref d4])), (d1, .inl (cI, 1200, .inl (fI dLi))), (d2, .inl (cI, 1200, .inl (fI dBe))), (d3, .inl (cI, 1200, .inl (fI dEn))), (d4, .inl (cI, 1200, .inl (fI dSt)))] H locs := hW
      exact hQ (zL (sumZ (lnS dSt dBe dEn 0) dn)) _ H locs _ _ _ ls hW ⟨rfl, rfl⟩ (by omega) (by omega) dPD_ink_20
    · exact absurd c9 (by decide)
  · refine zBl (by decide) (Nat.le_of_ble_eq_true rfl) ?_
    intro p e s m args below meth c ls A H locs Q C hin hl hW hQ
    have hl : lv_has ls 2 [(0, .ref x0), (1, .int (zI 1))] := hl
    refine lv_aload_n C.1 C.2.1 dPD_ink_0 rfl (lv_at hl 0 rfl) ?_
    refine zcallv (wr := [(d1, .inl (cI, 1200, .inl (fI dLi))), (d2, .inl (cI, 1200, .inl (fI dBe))), (d3, .inl (cI, 1200, .inl (fI dEn))), (d4, .inl (cI, 1200, .inl (fI dSt)))]) C hW [0, 1] [2, 3, 4, 5] rfl rfl (by decide) (by decide) (zRunV (k := 0) (As := []) (rest := []) C hW (c_PartDrawings_needDrawn l D cI cG cL cB x0 b0 r0 tr0 dh kh me0 cl0 pg0 la0 d1 d2 d3 d4 dth dn dac (by omega) H.size) [0, 1] rfl (by decide) kPD_135 (by decide +kernel) ⟨by decide, by decide⟩ 0 rfl rfl rfl hl.1 (Nat.le_of_ble_eq_true rfl) dPD_ink_1 ⟨by first | decide | omega, by first | decide | omega⟩) (fun w H locs hq hW => ?_)
    subst hq
    have hW : zw D zCl A s [(d1, .inl (cI, 1200, .inl (fI dLi))), (d2, .inl (cI, 1200, .inl (fI dBe))), (d3, .inl (cI, 1200, .inl (fI dEn))), (d4, .inl (cI, 1200, .inl (fI dSt))), (x0, .inr (9, [.ref b0, .ref r0, .ref tr0, .ref dh, .ref kh, .ref me0, .ref cl0, .ref pg0, .ref la0])), (dh, .inr (7, [.int (zI dth), .int (zI dn), .int (zI dac), .ref d1, .ref d2, .ref d3, .ref d4]))] H locs := hW
    refine lv_aload_n C.1 C.2.1 dPD_ink_4 rfl (lv_at hl 0 rfl) ?_
    refine zget C hW 4 3 rfl rfl inPD (by decide) flPD_33 rfl dPD_ink_5 ?_
    refine lv_iload_n C.1 C.2.1 dPD_ink_8 rfl (lv_at hl 1 rfl) ?_
    refine zif_eq (tgt := 16) C (by omega) dPD_ink_9 (by decide) (fun c9 => ?_) (fun c9 => ?_)
    · exact absurd c9 (by decide)
    · refine lv_iconst (v := zI 1) C.1 C.2.1 dPD_ink_12 (by decide) ?_
      refine lv_goto (tgt := 17) C.1 C.2.1 dPD_ink_13 (by decide) ?_
      refine zcalll (wr := [(x0, .inr (9, [.ref b0, .ref r0, .ref tr0, .ref dh, .ref kh, .ref me0, .ref cl0, .ref pg0, .ref la0]))]) C hW [5, 0, 1, 2, 3] [4] rfl rfl (by decide) (by decide) (zRunV (k := 1) (As := [.int (zI 1)]) (rest := []) C hW (c_Strokes_lengthOf l D cI cG cL cB dh d1 d2 d3 d4 dth dn dac dLi dBe dEn dSt 1 bdLi bdBe bdEn bdSt (by omega) (by omega) (by omega) (by omega) (by omega) (fun j a b => by have := hdB j a b; omega) H.size) [5, 0, 1, 2, 3] rfl (by decide) kPD_151 (by decide +kernel) ⟨by decide, by decide⟩ 5 rfl rfl rfl hl.1 (Nat.le_of_ble_eq_true rfl) dPD_ink_17 ⟨by first | decide | omega, by first | decide | omega⟩) (fun x w H locs hq hW => ?_)
      obtain ⟨rfl, rfl⟩ := hq
      have hW : zw D zCl A s [(x0, .inr (9, [.ref b0, .ref r0, .ref tr0, .ref dh, .ref kh, .ref me0, .ref cl0, .ref pg0, .ref la0])), (dh, .inr (7, [.int (zI dth), .int (zI dn), .int (zI dac), .ref d1, .ref d2, .ref d3, .ref d4])), (d1, .inl (cI, 1200, .inl (fI dLi))), (d2, .inl (cI, 1200, .inl (fI dBe))), (d3, .inl (cI, 1200, .inl (fI dEn))), (d4, .inl (cI, 1200, .inl (fI dSt)))] H locs := hW
      exact hQ (zL (sumZ (lnS dSt dBe dEn 1) dn)) _ H locs _ _ _ ls hW ⟨rfl, rfl⟩ (by omega) (by omega) dPD_ink_20
set_option maxHeartbeats 4000000 in
set_option maxRecDepth 100000 in
theorem c_PartDrawings_ink_T (l : Launch) (D : va_G) (cI cG cL cB : ClassId) (x0 : Nat) (b0 : Nat) (r0 : Nat) (tr0 : Nat) (dh : Nat) (kh : Nat) (me0 : Nat) (cl0 : Nat) (pg0 : Nat) (la0 : Nat) (d1 : Nat) (d2 : Nat) (d3 : Nat) (d4 : Nat) (dth : Int) (dn : Int) (dac : Int) (dLi : Int → Int) (dBe : Int → Int) (dEn : Int → Int) (dSt : Int → Int) (hd_ : Int) (hlt : l.stackTraces = false) (bdLi : ∀ j : Int, I32 (dLi j)) (bdBe : ∀ j : Int, I32 (dBe j)) (bdEn : ∀ j : Int, I32 (dEn j)) (bdSt : ∀ j : Int, I32 (dSt j)) (hn0d : 0 ≤ dn) (hn1d : dn ≤ 1200) (ha0d : 0 ≤ dac) (ha1d : dac ≤ dn) (hdth : dth = 0) (hhd : hd_ = 0 ∨ hd_ = 1) : Ct l yPD_ink cPD_ink 2 (some .long) 7 1 6 D zCl (zT cI cG cL cB) [.ref x0, .int (zI hd_)] [(x0, .inr (9, [.ref b0, .ref r0, .ref tr0, .ref dh, .ref kh, .ref me0, .ref cl0, .ref pg0, .ref la0])), (dh, .inr (7, [.int (zI dth), .int (zI dn), .int (zI dac), .ref d1, .ref d2, .ref d3, .ref d4])), (d1, .inl (cI, 1200, .inl (fI dLi))), (d2, .inl (cI, 1200, .inl (fI dBe))), (d3, .inl (cI, 1200, .inl (fI dEn))), (d4, .inl (cI, 1200, .inl (fI dSt)))] "java/lang/IllegalStateException" (fun w => w = [(d1, .inl (cI, 1200, .inl (fI dLi))), (d2, .inl (cI, 1200, .inl (fI dBe))), (d3, .inl (cI, 1200, .inl (fI dEn))), (d4, .inl (cI, 1200, .inl (fI dSt))), (x0, .inr (9, [.ref b0, .ref r0, .ref tr0, .ref dh, .ref kh, .ref me0, .ref cl0, .ref pg0, .ref la0])), (dh, .inr (7, [.int (zI dth), .int (zI dn), .int (zI dac), .ref d1, .ref d2, .ref d3, .ref d4]))]) := by
  refine zBt (by decide) (Nat.le_of_ble_eq_true rfl) ?_
  intro p e s m args below meth c ls A H locs Q C hx hl hW hQ
  have hl : lv_has ls 2 [(0, .ref x0), (1, .int (zI hd_))] := hl
  refine lv_aload_n C.1 C.2.1 dPD_ink_0 rfl (lv_at hl 0 rfl) ?_
  exact zpropT (wr := [(d1, .inl (cI, 1200, .inl (fI dLi))), (d2, .inl (cI, 1200, .inl (fI dBe))), (d3, .inl (cI, 1200, .inl (fI dEn))), (d4, .inl (cI, 1200, .inl (fI dSt)))]) C hW hx [0, 1] [2, 3, 4, 5] rfl rfl (by decide) (by decide) (zRunVT (k := 0) (As := []) (rest := []) C hW (c_PartDrawings_needDrawn_T l D cI cG cL cB x0 b0 r0 tr0 dh kh me0 cl0 pg0 la0 d1 d2 d3 d4 dth dn dac (by omega) (by omega) H.size) [0, 1] rfl (by decide) kPD_135 (by decide +kernel) ⟨by decide, by decide⟩ 0 rfl rfl rfl hl.1 (Nat.le_of_ble_eq_true rfl) dPD_ink_1 ⟨by first | decide | omega, by first | decide | omega⟩) (fun w hq => by obtain rfl := hq; exact rfl) hQ (by omega) (by omega)
set_option maxHeartbeats 4000000 in
set_option maxRecDepth 100000 in
theorem c_PartDrawings_row (l : Launch) (D : va_G) (cI cG cL cB : ClassId) (x0 : Nat) (b0 : Nat) (r0 : Nat) (tr0 : Nat) (dh : Nat) (kh : Nat) (me0 : Nat) (cl0 : Nat) (pg0 : Nat) (la0 : Nat) (m1 : Nat) (m2 : Nat) (m3 : Nat) (m4 : Nat) (mn : Int) (Ro : Int → Int) (Ax : Int → Int) (Fr : Int → Int) (To : Int → Int) (k : Int) (bRo : ∀ j : Int, I32 (Ro j)) (bAx : ∀ j : Int, I32 (Ax j)) (bFr : ∀ j : Int, I32 (Fr j)) (bTo : ∀ j : Int, I32 (To j)) (hmn : 0 ≤ mn ∧ mn ≤ 30) (hmB : meB mn Ro Fr To) (hIk : I32 k) (hk : 0 ≤ k ∧ k < mn) : Ci l yPD_row cPD_row 2 (some .int) 1 0 0 D zCl (zT cI cG cL cB) [.ref x0, .int (zI k)] [(x0, .inr (9, [.ref b0, .ref r0, .ref tr0, .ref dh, .ref kh, .ref me0, .ref cl0, .ref pg0, .ref la0])), (me0, .inr (4, [.ref m1, .int (zI mn), .ref m2, .ref m3, .ref m4])), (m1, .inl (cI, 30, .inl (fI Ro))), (m2, .inl (cI, 30, .inl (fI Ax))), (m3, .inl (cI, 30, .inl (fI Fr))), (m4, .inl (cI, 30, .inl (fI To)))] (fun x w => x = zI (Ro k) ∧ w = [(x0, .inr (9, [.ref b0, .ref r0, .ref tr0, .ref dh, .ref kh, .ref me0, .ref cl0, .ref pg0, .ref la0])), (me0, .inr (4, [.ref m1, .int (zI mn), .ref m2, .ref m3, .ref m4])), (m1, .inl (cI, 30, .inl (fI Ro))), (m2, .inl (cI, 30, .inl (fI Ax))), (m3, .inl (cI, 30, .inl (fI Fr))), (m4, .inl (cI, 30, .inl (fI To)))]) := by
  refine zBi (by decide) (Nat.le_of_ble_eq_true rfl) ?_
  intro p e s m args below meth c ls A H locs Q C hin hl hW hQ
  have hl : lv_has ls 2 [(0, .ref x0), (1, .int (zI k))] := hl
  refine lv_iload_n C.1 C.2.1 dPD_row_0 rfl (lv_at hl 1 rfl) ?_
  refine zif_lt (tgt := 15) C (by omega) dPD_row_1 (by decide) (fun c1 => ?_) (fun c1 => ?_)
  · exact False.elim (by omega)
  · refine lv_iload_n C.1 C.2.1 dPD_row_4 rfl (lv_at hl 1 rfl) ?_
    refine lv_aload_n C.1 C.2.1 dPD_row_5 rfl (lv_at hl 0 rfl) ?_
    refine zget C hW 0 5 rfl rfl inPD (by decide) flPD_43 rfl dPD_row_6 ?_
    refine zget C hW 1 1 rfl rfl inMe (by decide) flPD_155 rfl dPD_row_9 ?_
    refine zicmp_lt (tgt := 25) C (by omega) (by omega) dPD_row_12 (by decide) (fun c12 => ?_) (fun c12 => ?_)
    · refine lv_aload_n C.1 C.2.1 dPD_row_25 rfl (lv_at hl 0 rfl) ?_
      refine zget C hW 0 5 rfl rfl inPD (by decide) flPD_43 rfl dPD_row_26 ?_
      refine zget C hW 1 0 rfl rfl inMe (by decide) flPD_176 rfl dPD_row_29 ?_
      refine lv_iload_n C.1 C.2.1 dPD_row_32 rfl (lv_at hl 1 rfl) ?_
      refine ziald C hW 2 0 rfl rfl (by omega) (by omega) (by decide) dPD_row_33 ?_
      have hb1 := bRo k
      exact hQ (zI (Ro k)) _ H locs _ _ _ ls hW ⟨rfl, rfl⟩ (by omega) (by omega) dPD_row_34
    · exact False.elim (by omega)
set_option maxHeartbeats 4000000 in
set_option maxRecDepth 100000 in
theorem c_PartDrawings_row_T (l : Launch) (D : va_G) (cI cG cL cB : ClassId) (x0 : Nat) (b0 : Nat) (r0 : Nat) (tr0 : Nat) (dh : Nat) (kh : Nat) (me0 : Nat) (cl0 : Nat) (pg0 : Nat) (la0 : Nat) (m1 : Nat) (m2 : Nat) (m3 : Nat) (m4 : Nat) (mn : Int) (Ro : Int → Int) (Ax : Int → Int) (Fr : Int → Int) (To : Int → Int) (k : Int) (hlt : l.stackTraces = false) (bRo : ∀ j : Int, I32 (Ro j)) (bAx : ∀ j : Int, I32 (Ax j)) (bFr : ∀ j : Int, I32 (Fr j)) (bTo : ∀ j : Int, I32 (To j)) (hmn : 0 ≤ mn ∧ mn ≤ 30) (hmB : meB mn Ro Fr To) (hIk : I32 k) (hk : ¬ (0 ≤ k ∧ k < mn)) : Ct l yPD_row cPD_row 2 (some .int) 6 1 6 D zCl (zT cI cG cL cB) [.ref x0, .int (zI k)] [(x0, .inr (9, [.ref b0, .ref r0, .ref tr0, .ref dh, .ref kh, .ref me0, .ref cl0, .ref pg0, .ref la0])), (me0, .inr (4, [.ref m1, .int (zI mn), .ref m2, .ref m3, .ref m4])), (m1, .inl (cI, 30, .inl (fI Ro))), (m2, .inl (cI, 30, .inl (fI Ax))), (m3, .inl (cI, 30, .inl (fI Fr))), (m4, .inl (cI, 30, .inl (fI To)))] "java/lang/IndexOutOfBoundsException" (fun w => w = [(x0, .inr (9, [.ref b0, .ref r0, .ref tr0, .ref dh, .ref kh, .ref me0, .ref cl0, .ref pg0, .ref la0])), (me0, .inr (4, [.ref m1, .int (zI mn), .ref m2, .ref m3, .ref m4])), (m1, .inl (cI, 30, .inl (fI Ro))), (m2, .inl (cI, 30, .inl (fI Ax))), (m3, .inl (cI, 30, .inl (fI Fr))), (m4, .inl (cI, 30, .inl (fI To)))]) := by
  refine zBt (by decide) (Nat.le_of_ble_eq_true rfl) ?_
  intro p e s m args below meth c ls A H locs Q C hx hl hW hQ
  have hl : lv_has ls 2 [(0, .ref x0), (1, .int (zI k))] := hl
  refine lv_iload_n C.1 C.2.1 dPD_row_0 rfl (lv_at hl 1 rfl) ?_
  refine zif_lt (tgt := 15) C (by omega) dPD_row_1 (by decide) (fun c1 => ?_) (fun c1 => ?_)
  · exact zthrow C hW hx hlt hl.1 (by decide +kernel) (by decide +kernel) ktPD_138_174_142c kxPD_142 ktPD_138_174_142s hQ rfl (by omega) (by omega) (by decide) (by decide) (by decide) (Nat.le_of_ble_eq_true rfl) dPD_row_15 dPD_row_18 dPD_row_19 dPD_row_21 dPD_row_24
  · refine lv_iload_n C.1 C.2.1 dPD_row_4 rfl (lv_at hl 1 rfl) ?_
    refine lv_aload_n C.1 C.2.1 dPD_row_5 rfl (lv_at hl 0 rfl) ?_
    refine zget C hW 0 5 rfl rfl inPD (by decide) flPD_43 rfl dPD_row_6 ?_
    refine zget C hW 1 1 rfl rfl inMe (by decide) flPD_155 rfl dPD_row_9 ?_
    refine zicmp_lt (tgt := 25) C (by omega) (by omega) dPD_row_12 (by decide) (fun c12 => ?_) (fun c12 => ?_)
    · exact False.elim (by omega)
    · exact zthrow C hW hx hlt hl.1 (by decide +kernel) (by decide +kernel) ktPD_138_174_142c kxPD_142 ktPD_138_174_142s hQ rfl (by omega) (by omega) (by decide) (by decide) (by decide) (Nat.le_of_ble_eq_true rfl) dPD_row_15 dPD_row_18 dPD_row_19 dPD_row_21 dPD_row_24
set_option maxHeartbeats 4000000 in
set_option maxRecDepth 100000 in
theorem c_PartDrawings_total (l : Launch) (D : va_G) (cI cG cL cB : ClassId) (x0 : Nat) (b0 : Nat) (r0 : Nat) (tr0 : Nat) (dh : Nat) (kh : Nat) (me0 : Nat) (cl0 : Nat) (pg0 : Nat) (la0 : Nat) (m1 : Nat) (m2 : Nat) (m3 : Nat) (m4 : Nat) (mn : Int) (Ro : Int → Int) (Ax : Int → Int) (Fr : Int → Int) (To : Int → Int) (ax : Int) (ro : Int) (bRo : ∀ j : Int, I32 (Ro j)) (bAx : ∀ j : Int, I32 (Ax j)) (bFr : ∀ j : Int, I32 (Fr j)) (bTo : ∀ j : Int, I32 (To j)) (hmn : 0 ≤ mn ∧ mn ≤ 30) (hmB : meB mn Ro Fr To) (hIax : I32 ax) (hIro : I32 ro) (hr : 0 ≤ ro) (hax : 0 ≤ ax ∧ ax < 3) : Cl l yPD_total cPD_total 3 (some .long) 2 0 0 D zCl (zT cI cG cL cB) [.ref x0, .int (zI ax), .int (zI ro)] [(x0, .inr (9, [.ref b0, .ref r0, .ref tr0, .ref dh, .ref kh, .ref me0, .ref cl0, .ref pg0, .ref la0])), (me0, .inr (4, [.ref m1, .int (zI mn), .ref m2, .ref m3, .ref m4])), (m1, .inl (cI, 30, .inl (fI Ro))), (m2, .inl (cI, 30, .inl (fI Ax))), (m3, .inl (cI, 30, .inl (fI Fr))), (m4, .inl (cI, 30, .inl (fI To)))] (fun x w => x = zL (sumZ (lnM Ax Ro Fr To ax ro) mn) ∧ w = [(x0, .inr (9, [.ref b0, .ref r0, .ref tr0, .ref dh, .ref kh, .ref me0, .ref cl0, .ref pg0, .ref la0])), (me0, .inr (4, [.ref m1, .int (zI mn), .ref m2, .ref m3, .ref m4])), (m1, .inl (cI, 30, .inl (fI Ro))), (m2, .inl (cI, 30, .inl (fI Ax))), (m3, .inl (cI, 30, .inl (fI Fr))), (m4, .inl (cI, 30, .inl (fI To)))]) := by
  refine zBl (by decide) (Nat.le_of_ble_eq_true rfl) ?_
  intro p e s m args below meth c ls A H locs Q C hin hl hW hQ
  have hl : lv_has ls 3 [(0, .ref x0), (1, .int (zI ax)), (2, .int (zI ro))] := hl
  refine lv_iload_n C.1 C.2.1 dPD_total_0 rfl (lv_at hl 2 rfl) ?_
  refine zif_ge (tgt := 14) C (by omega) dPD_total_1 (by decide) (fun c1 => ?_) (fun c1 => ?_)
  · refine lv_iload_n C.1 C.2.1 dPD_total_14 rfl (lv_at hl 1 rfl) ?_
    refine zcallv (wr := [(x0, .inr (9, [.ref b0, .ref r0, .ref tr0, .ref dh, .ref kh, .ref me0, .ref cl0, .ref pg0, .ref la0])), (me0, .inr (4, [.ref m1, .int (zI mn), .ref m2, .ref m3, .ref m4])), (m1, .inl (cI, 30, .inl (fI Ro))), (m2, .inl (cI, 30, .inl (fI Ax))), (m3, .inl (cI, 30, .inl (fI Fr))), (m4, .inl (cI, 30, .inl (fI To)))]) C hW [] [0, 1, 2, 3, 4, 5] rfl rfl (by decide) (by decide) (zRunS (k := 1) (As := [.int (zI ax)]) (rest := []) C hW (c_PartDrawings_needAxis l D cI cG cL cB ax (by omega) (by omega) (by omega) H.size) [] rfl (by decide) kPD_158 (by decide +kernel) ⟨by decide, by decide⟩ rfl hl.1 (Nat.le_of_ble_eq_true rfl) dPD_total_15 ⟨by first | decide | omega, by first | decide | omega⟩) (fun w H locs hq hW => ?_)
    subst hq
    have hW : zw D zCl A s [(x0, .inr (9, [.ref b0, .ref r0, .ref tr0, .ref dh, .ref kh, .ref me0, .ref cl0, .ref pg0, .ref la0])), (me0, .inr (4, [.ref m1, .int (zI mn), .ref m2, .ref m3, .ref m4])), (m1, .inl (cI, 30, .inl (fI Ro))), (m2, .inl (cI, 30, .inl (fI Ax))), (m3, .inl (cI, 30, .inl (fI Fr))), (m4, .inl (cI, 30, .inl (fI To)))] H locs := hW
    refine lv_aload_n C.1 C.2.1 dPD_total_18 rfl (lv_at hl 0 rfl) ?_
    refine zget C hW 0 5 rfl rfl inPD (by decide) flPD_43 rfl dPD_total_19 ?_
    refine lv_iload_n C.1 C.2.1 dPD_total_22 rfl (lv_at hl 1 rfl) ?_
    refine lv_iload_n C.1 C.2.1 dPD_total_23 rfl (lv_at hl 2 rfl) ?_
    refine zcalll (wr := [(x0, .inr (9, [.ref b0, .ref r0, .ref tr0, .ref dh, .ref kh, .ref me0, .ref cl0, .ref pg0, .ref la0]))]) C hW [1, 2, 3, 4, 5] [0] rfl rfl (by decide) (by decide) (zRunV (k := 2) (As := [.int (zI ax), .int (zI ro)]) (rest := []) C hW (c_Measures_lengthOf l D cI cG cL cB me0 m1 m2 m3 m4 mn Ro Ax Fr To ax ro bRo bAx bFr bTo (by omega) (by omega) (by omega) (by omega) (fun j a b => by have := hmB j a b; omega) H.size) [1, 2, 3, 4, 5] rfl (by decide) kPD_182 (by decide +kernel) ⟨by decide, by decide⟩ 1 rfl rfl rfl hl.1 (Nat.le_of_ble_eq_true rfl) dPD_total_24 ⟨by first | decide | omega, by first | decide | omega⟩) (fun x w H locs hq hW => ?_)
    obtain ⟨rfl, rfl⟩ := hq
    have hW : zw D zCl A s [(x0, .inr (9, [.ref b0, .ref r0, .ref tr0, .ref dh, .ref kh, .ref me0, .ref cl0, .ref pg0, .ref la0])), (me0, .inr (4, [.ref m1, .int (zI mn), .ref m2, .ref m3, .ref m4])), (m1, .inl (cI, 30, .inl (fI Ro))), (m2, .inl (cI, 30, .inl (fI Ax))), (m3, .inl (cI, 30, .inl (fI Fr))), (m4, .inl (cI, 30, .inl (fI To)))] H locs := hW
    exact hQ (zL (sumZ (lnM Ax Ro Fr To ax ro) mn)) _ H locs _ _ _ ls hW ⟨rfl, rfl⟩ (by omega) (by omega) dPD_total_27
  · exact False.elim (by omega)
set_option maxHeartbeats 4000000 in
set_option maxRecDepth 100000 in
theorem c_PartDrawings_total_T1 (l : Launch) (D : va_G) (cI cG cL cB : ClassId) (x0 : Nat) (b0 : Nat) (r0 : Nat) (tr0 : Nat) (dh : Nat) (kh : Nat) (me0 : Nat) (cl0 : Nat) (pg0 : Nat) (la0 : Nat) (m1 : Nat) (m2 : Nat) (m3 : Nat) (m4 : Nat) (mn : Int) (Ro : Int → Int) (Ax : Int → Int) (Fr : Int → Int) (To : Int → Int) (ax : Int) (ro : Int) (hlt : l.stackTraces = false) (bRo : ∀ j : Int, I32 (Ro j)) (bAx : ∀ j : Int, I32 (Ax j)) (bFr : ∀ j : Int, I32 (Fr j)) (bTo : ∀ j : Int, I32 (To j)) (hmn : 0 ≤ mn ∧ mn ≤ 30) (hmB : meB mn Ro Fr To) (hIax : I32 ax) (hIro : I32 ro) (hr : ro < 0) : Ct l yPD_total cPD_total 3 (some .long) 7 1 6 D zCl (zT cI cG cL cB) [.ref x0, .int (zI ax), .int (zI ro)] [(x0, .inr (9, [.ref b0, .ref r0, .ref tr0, .ref dh, .ref kh, .ref me0, .ref cl0, .ref pg0, .ref la0])), (me0, .inr (4, [.ref m1, .int (zI mn), .ref m2, .ref m3, .ref m4])), (m1, .inl (cI, 30, .inl (fI Ro))), (m2, .inl (cI, 30, .inl (fI Ax))), (m3, .inl (cI, 30, .inl (fI Fr))), (m4, .inl (cI, 30, .inl (fI To)))] "java/lang/IllegalArgumentException" (fun w => w = [(x0, .inr (9, [.ref b0, .ref r0, .ref tr0, .ref dh, .ref kh, .ref me0, .ref cl0, .ref pg0, .ref la0])), (me0, .inr (4, [.ref m1, .int (zI mn), .ref m2, .ref m3, .ref m4])), (m1, .inl (cI, 30, .inl (fI Ro))), (m2, .inl (cI, 30, .inl (fI Ax))), (m3, .inl (cI, 30, .inl (fI Fr))), (m4, .inl (cI, 30, .inl (fI To)))]) := by
  refine zBt (by decide) (Nat.le_of_ble_eq_true rfl) ?_
  intro p e s m args below meth c ls A H locs Q C hx hl hW hQ
  have hl : lv_has ls 3 [(0, .ref x0), (1, .int (zI ax)), (2, .int (zI ro))] := hl
  refine lv_iload_n C.1 C.2.1 dPD_total_0 rfl (lv_at hl 2 rfl) ?_
  refine zif_ge (tgt := 14) C (by omega) dPD_total_1 (by decide) (fun c1 => ?_) (fun c1 => ?_)
  · exact False.elim (by omega)
  · exact zthrow C hW hx hlt hl.1 (by decide +kernel) (by decide +kernel) ktPD_85_180_89c kxPD_89 ktPD_85_180_89s hQ rfl (by omega) (by omega) (by decide) (by decide) (by decide) (Nat.le_of_ble_eq_true rfl) dPD_total_4 dPD_total_7 dPD_total_8 dPD_total_10 dPD_total_13
set_option maxHeartbeats 4000000 in
set_option maxRecDepth 100000 in
theorem c_PartDrawings_total_T2 (l : Launch) (D : va_G) (cI cG cL cB : ClassId) (x0 : Nat) (b0 : Nat) (r0 : Nat) (tr0 : Nat) (dh : Nat) (kh : Nat) (me0 : Nat) (cl0 : Nat) (pg0 : Nat) (la0 : Nat) (m1 : Nat) (m2 : Nat) (m3 : Nat) (m4 : Nat) (mn : Int) (Ro : Int → Int) (Ax : Int → Int) (Fr : Int → Int) (To : Int → Int) (ax : Int) (ro : Int) (hlt : l.stackTraces = false) (bRo : ∀ j : Int, I32 (Ro j)) (bAx : ∀ j : Int, I32 (Ax j)) (bFr : ∀ j : Int, I32 (Fr j)) (bTo : ∀ j : Int, I32 (To j)) (hmn : 0 ≤ mn ∧ mn ≤ 30) (hmB : meB mn Ro Fr To) (hIax : I32 ax) (hIro : I32 ro) (hr : 0 ≤ ro) (hax : ¬ (0 ≤ ax ∧ ax < 3)) : Ct l yPD_total cPD_total 3 (some .long) 7 1 6 D zCl (zT cI cG cL cB) [.ref x0, .int (zI ax), .int (zI ro)] [(x0, .inr (9, [.ref b0, .ref r0, .ref tr0, .ref dh, .ref kh, .ref me0, .ref cl0, .ref pg0, .ref la0])), (me0, .inr (4, [.ref m1, .int (zI mn), .ref m2, .ref m3, .ref m4])), (m1, .inl (cI, 30, .inl (fI Ro))), (m2, .inl (cI, 30, .inl (fI Ax))), (m3, .inl (cI, 30, .inl (fI Fr))), (m4, .inl (cI, 30, .inl (fI To)))] "java/lang/IllegalArgumentException" (fun w => w = [(x0, .inr (9, [.ref b0, .ref r0, .ref tr0, .ref dh, .ref kh, .ref me0, .ref cl0, .ref pg0, .ref la0])), (me0, .inr (4, [.ref m1, .int (zI mn), .ref m2, .ref m3, .ref m4])), (m1, .inl (cI, 30, .inl (fI Ro))), (m2, .inl (cI, 30, .inl (fI Ax))), (m3, .inl (cI, 30, .inl (fI Fr))), (m4, .inl (cI, 30, .inl (fI To)))]) := by
  refine zBt (by decide) (Nat.le_of_ble_eq_true rfl) ?_
  intro p e s m args below meth c ls A H locs Q C hx hl hW hQ
  have hl : lv_has ls 3 [(0, .ref x0), (1, .int (zI ax)), (2, .int (zI ro))] := hl
  refine lv_iload_n C.1 C.2.1 dPD_total_0 rfl (lv_at hl 2 rfl) ?_
  refine zif_ge (tgt := 14) C (by omega) dPD_total_1 (by decide) (fun c1 => ?_) (fun c1 => ?_)
  · refine lv_iload_n C.1 C.2.1 dPD_total_14 rfl (lv_at hl 1 rfl) ?_
    exact zpropT (wr := [(x0, .inr (9, [.ref b0, .ref r0, .ref tr0, .ref dh, .ref kh, .ref me0, .ref cl0, .ref pg0, .ref la0])), (me0, .inr (4, [.ref m1, .int (zI mn), .ref m2, .ref m3, .ref m4])), (m1, .inl (cI, 30, .inl (fI Ro))), (m2, .inl (cI, 30, .inl (fI Ax))), (m3, .inl (cI, 30, .inl (fI Fr))), (m4, .inl (cI, 30, .inl (fI To)))]) C hW hx [] [0, 1, 2, 3, 4, 5] rfl rfl (by decide) (by decide) (zRunST (k := 1) (As := [.int (zI ax)]) (rest := []) C hW (c_PartDrawings_needAxis_T l D cI cG cL cB ax (by omega) (by omega) (by omega) H.size) [] rfl (by decide) kPD_158 (by decide +kernel) ⟨by decide, by decide⟩ rfl hl.1 (Nat.le_of_ble_eq_true rfl) dPD_total_15 ⟨by first | decide | omega, by first | decide | omega⟩) (fun w hq => by obtain rfl := hq; exact rfl) hQ (by omega) (by omega)
  · exact False.elim (by omega)
set_option maxHeartbeats 4000000 in
set_option maxRecDepth 100000 in
theorem c_PartDrawings_keep (l : Launch) (D : va_G) (cI cG cL cB : ClassId) (x0 : Nat) (b0 : Nat) (r0 : Nat) (tr0 : Nat) (dh : Nat) (kh : Nat) (me0 : Nat) (cl0 : Nat) (pg0 : Nat) (la0 : Nat) (d1 : Nat) (d2 : Nat) (d3 : Nat) (d4 : Nat) (dth : Int) (dn : Int) (dac : Int) (dLi : Int → Int) (dBe : Int → Int) (dEn : Int → Int) (dSt : Int → Int) (k1 : Nat) (k2 : Nat) (k3 : Nat) (k4 : Nat) (kth : Int) (kn : Int) (kac : Int) (kLi : Int → Int) (kBe : Int → Int) (kEn : Int → Int) (kSt : Int → Int) (bdLi : ∀ j : Int, I32 (dLi j)) (bdBe : ∀ j : Int, I32 (dBe j)) (bdEn : ∀ j : Int, I32 (dEn j)) (bdSt : ∀ j : Int, I32 (dSt j)) (hn0d : 0 ≤ dn) (hn1d : dn ≤ 1200) (ha0d : 0 ≤ dac) (ha1d : dac ≤ dn) (bkLi : ∀ j : Int, I32 (kLi j)) (bkBe : ∀ j : Int, I32 (kBe j)) (bkEn : ∀ j : Int, I32 (kEn j)) (bkSt : ∀ j : Int, I32 (kSt j)) (hn0k : 0 ≤ kn) (hn1k : kn ≤ 1200) (ha0k : 0 ≤ kac) (ha1k : kac ≤ kn) (hdth : dth = 1) : Ci l yPD_keep cPD_keep 1 (some .int) 2 0 0 D zCl (zT cI cG cL cB) [.ref x0] [(x0, .inr (9, [.ref b0, .ref r0, .ref tr0, .ref dh, .ref kh, .ref me0, .ref cl0, .ref pg0, .ref la0])), (dh, .inr (7, [.int (zI dth), .int (zI dn), .int (zI dac), .ref d1, .ref d2, .ref d3, .ref d4])), (d1, .inl (cI, 1200, .inl (fI dLi))), (d2, .inl (cI, 1200, .inl (fI dBe))), (d3, .inl (cI, 1200, .inl (fI dEn))), (d4, .inl (cI, 1200, .inl (fI dSt))), (kh, .inr (7, [.int (zI kth), .int (zI kn), .int (zI kac), .ref k1, .ref k2, .ref k3, .ref k4])), (k1, .inl (cI, 1200, .inl (fI kLi))), (k2, .inl (cI, 1200, .inl (fI kBe))), (k3, .inl (cI, 1200, .inl (fI kEn))), (k4, .inl (cI, 1200, .inl (fI kSt)))] (fun x w => x = zI dn ∧ w = [(x0, .inr (9, [.ref b0, .ref r0, .ref tr0, .ref dh, .ref kh, .ref me0, .ref cl0, .ref pg0, .ref la0])), (dh, .inr (7, [.int (zI dth), .int (zI dn), .int (zI dac), .ref d1, .ref d2, .ref d3, .ref d4])), (d1, .inl (cI, 1200, .inl (fI dLi))), (d2, .inl (cI, 1200, .inl (fI dBe))), (d3, .inl (cI, 1200, .inl (fI dEn))), (d4, .inl (cI, 1200, .inl (fI dSt))), (kh, .inr (7, [.int (zI dth), .int (zI dn), .int (zI dac), .ref k1, .ref k2, .ref k3, .ref k4])), (k1, .inl (cI, 1200, .inl (fI (cpz dLi kLi dn)))), (k2, .inl (cI, 1200, .inl (fI (cpz dBe kBe dn)))), (k3, .inl (cI, 1200, .inl (fI (cpz dEn kEn dn)))), (k4, .inl (cI, 1200, .inl (fI (cpz dSt kSt dn))))]) := by
  refine zBi (by decide) (Nat.le_of_ble_eq_true rfl) ?_
  intro p e s m args below meth c ls A H locs Q C hin hl hW hQ
  have hl : lv_has ls 1 [(0, .ref x0)] := hl
  refine lv_aload_n C.1 C.2.1 dPD_keep_0 rfl (lv_at hl 0 rfl) ?_
  refine zcallv (wr := [(d1, .inl (cI, 1200, .inl (fI dLi))), (d2, .inl (cI, 1200, .inl (fI dBe))), (d3, .inl (cI, 1200, .inl (fI dEn))), (d4, .inl (cI, 1200, .inl (fI dSt))), (kh, .inr (7, [.int (zI kth), .int (zI kn), .int (zI kac), .ref k1, .ref k2, .ref k3, .ref k4])), (k1, .inl (cI, 1200, .inl (fI kLi))), (k2, .inl (cI, 1200, .inl (fI kBe))), (k3, .inl (cI, 1200, .inl (fI kEn))), (k4, .inl (cI, 1200, .inl (fI kSt)))]) C hW [0, 1] [2, 3, 4, 5, 6, 7, 8, 9, 10] rfl rfl (by decide) (by decide) (zRunV (k := 0) (As := []) (rest := []) C hW (c_PartDrawings_needDrawn l D cI cG cL cB x0 b0 r0 tr0 dh kh me0 cl0 pg0 la0 d1 d2 d3 d4 dth dn dac (by omega) H.size) [0, 1] rfl (by decide) kPD_135 (by decide +kernel) ⟨by decide, by decide⟩ 0 rfl rfl rfl hl.1 (Nat.le_of_ble_eq_true rfl) dPD_keep_1 ⟨by first | decide | omega, by first | decide | omega⟩) (fun w H locs hq hW => ?_)
  subst hq
  have hW : zw D zCl A s [(d1, .inl (cI, 1200, .inl (fI dLi))), (d2, .inl (cI, 1200, .inl (fI dBe))), (d3, .inl (cI, 1200, .inl (fI dEn))), (d4, .inl (cI, 1200, .inl (fI dSt))), (kh, .inr (7, [.int (zI kth), .int (zI kn), .int (zI kac), .ref k1, .ref k2, .ref k3, .ref k4])), (k1, .inl (cI, 1200, .inl (fI kLi))), (k2, .inl (cI, 1200, .inl (fI kBe))), (k3, .inl (cI, 1200, .inl (fI kEn))), (k4, .inl (cI, 1200, .inl (fI kSt))), (x0, .inr (9, [.ref b0, .ref r0, .ref tr0, .ref dh, .ref kh, .ref me0, .ref cl0, .ref pg0, .ref la0])), (dh, .inr (7, [.int (zI dth), .int (zI dn), .int (zI dac), .ref d1, .ref d2, .ref d3, .ref d4]))] H locs := hW
  refine lv_aload_n C.1 C.2.1 dPD_keep_4 rfl (lv_at hl 0 rfl) ?_
  refine zget C hW 9 4 rfl rfl inPD (by decide) flPD_37 rfl dPD_keep_5 ?_
  refine lv_aload_n C.1 C.2.1 dPD_keep_8 rfl (lv_at hl 0 rfl) ?_
  refine zget C hW 9 3 rfl rfl inPD (by decide) flPD_33 rfl dPD_keep_9 ?_
  refine zcallv (wr := [(x0, .inr (9, [.ref b0, .ref r0, .ref tr0, .ref dh, .ref kh, .ref me0, .ref cl0, .ref pg0, .ref la0]))]) C hW [4, 5, 6, 7, 8, 10, 0, 1, 2, 3] [9] rfl rfl (by decide) (by decide) (zRunV (k := 1) (As := [.ref dh]) (rest := []) C hW (c_Strokes_copy l D cI cG cL cB kh k1 k2 k3 k4 kth kn kac kLi kBe kEn kSt dh d1 d2 d3 d4 dth dn dac dLi dBe dEn dSt bkLi bkBe bkEn bkSt (by omega) (by omega) (by omega) (by omega) bdLi bdBe bdEn bdSt (by omega) (by omega) (by omega) (by omega) (by omega) H.size) [4, 5, 6, 7, 8, 10, 0, 1, 2, 3] rfl (by decide) kPD_240 (by decide +kernel) ⟨by decide, by decide⟩ 4 rfl rfl rfl hl.1 (Nat.le_of_ble_eq_true rfl) dPD_keep_12 ⟨by first | decide | omega, by first | decide | omega⟩) (fun w H locs hq hW => ?_)
  subst hq
  have hW : zw D zCl A s [(x0, .inr (9, [.ref b0, .ref r0, .ref tr0, .ref dh, .ref kh, .ref me0, .ref cl0, .ref pg0, .ref la0])), (kh, .inr (7, [.int (zI dth), .int (zI dn), .int (zI dac), .ref k1, .ref k2, .ref k3, .ref k4])), (k1, .inl (cI, 1200, .inl (fI (cpz dLi kLi dn)))), (k2, .inl (cI, 1200, .inl (fI (cpz dBe kBe dn)))), (k3, .inl (cI, 1200, .inl (fI (cpz dEn kEn dn)))), (k4, .inl (cI, 1200, .inl (fI (cpz dSt kSt dn)))), (dh, .inr (7, [.int (zI dth), .int (zI dn), .int (zI dac), .ref d1, .ref d2, .ref d3, .ref d4])), (d1, .inl (cI, 1200, .inl (fI dLi))), (d2, .inl (cI, 1200, .inl (fI dBe))), (d3, .inl (cI, 1200, .inl (fI dEn))), (d4, .inl (cI, 1200, .inl (fI dSt)))] H locs := hW
  refine lv_aload_n C.1 C.2.1 dPD_keep_15 rfl (lv_at hl 0 rfl) ?_
  refine zget C hW 0 4 rfl rfl inPD (by decide) flPD_37 rfl dPD_keep_16 ?_
  refine zget C hW 1 1 rfl rfl inSk (by decide) flPD_134 rfl dPD_keep_19 ?_
  have hW : zw D zCl A s [(x0, .inr (9, [.ref b0, .ref r0, .ref tr0, .ref dh, .ref kh, .ref me0, .ref cl0, .ref pg0, .ref la0])), (dh, .inr (7, [.int (zI dth), .int (zI dn), .int (zI dac), .ref d1, .ref d2, .ref d3, .ref d4])), (d1, .inl (cI, 1200, .inl (fI dLi))), (d2, .inl (cI, 1200, .inl (fI dBe))), (d3, .inl (cI, 1200, .inl (fI dEn))), (d4, .inl (cI, 1200, .inl (fI dSt))), (kh, .inr (7, [.int (zI dth), .int (zI dn), .int (zI dac), .ref k1, .ref k2, .ref k3, .ref k4])), (k1, .inl (cI, 1200, .inl (fI (cpz dLi kLi dn)))), (k2, .inl (cI, 1200, .inl (fI (cpz dBe kBe dn)))), (k3, .inl (cI, 1200, .inl (fI (cpz dEn kEn dn)))), (k4, .inl (cI, 1200, .inl (fI (cpz dSt kSt dn))))] H locs := zwp hW [0, 6, 7, 8, 9, 10, 1, 2, 3, 4, 5] rfl (by decide)
  exact hQ (zI dn) _ H locs _ _ _ ls hW ⟨rfl, rfl⟩ (by omega) (by omega) dPD_keep_22
set_option maxHeartbeats 4000000 in
set_option maxRecDepth 100000 in
theorem c_PartDrawings_keep_T (l : Launch) (D : va_G) (cI cG cL cB : ClassId) (x0 : Nat) (b0 : Nat) (r0 : Nat) (tr0 : Nat) (dh : Nat) (kh : Nat) (me0 : Nat) (cl0 : Nat) (pg0 : Nat) (la0 : Nat) (d1 : Nat) (d2 : Nat) (d3 : Nat) (d4 : Nat) (dth : Int) (dn : Int) (dac : Int) (dLi : Int → Int) (dBe : Int → Int) (dEn : Int → Int) (dSt : Int → Int) (k1 : Nat) (k2 : Nat) (k3 : Nat) (k4 : Nat) (kth : Int) (kn : Int) (kac : Int) (kLi : Int → Int) (kBe : Int → Int) (kEn : Int → Int) (kSt : Int → Int) (hlt : l.stackTraces = false) (bdLi : ∀ j : Int, I32 (dLi j)) (bdBe : ∀ j : Int, I32 (dBe j)) (bdEn : ∀ j : Int, I32 (dEn j)) (bdSt : ∀ j : Int, I32 (dSt j)) (hn0d : 0 ≤ dn) (hn1d : dn ≤ 1200) (ha0d : 0 ≤ dac) (ha1d : dac ≤ dn) (bkLi : ∀ j : Int, I32 (kLi j)) (bkBe : ∀ j : Int, I32 (kBe j)) (bkEn : ∀ j : Int, I32 (kEn j)) (bkSt : ∀ j : Int, I32 (kSt j)) (hn0k : 0 ≤ kn) (hn1k : kn ≤ 1200) (ha0k : 0 ≤ kac) (ha1k : kac ≤ kn) (hdth : dth = 0) : Ct l yPD_keep cPD_keep 1 (some .int) 7 1 6 D zCl (zT cI cG cL cB) [.ref x0] [(x0, .inr (9, [.ref b0, .ref r0, .ref tr0, .ref dh, .ref kh, .ref me0, .ref cl0, .ref pg0, .ref la0])), (dh, .inr (7, [.int (zI dth), .int (zI dn), .int (zI dac), .ref d1, .ref d2, .ref d3, .ref d4])), (d1, .inl (cI, 1200, .inl (fI dLi))), (d2, .inl (cI, 1200, .inl (fI dBe))), (d3, .inl (cI, 1200, .inl (fI dEn))), (d4, .inl (cI, 1200, .inl (fI dSt))), (kh, .inr (7, [.int (zI kth), .int (zI kn), .int (zI kac), .ref k1, .ref k2, .ref k3, .ref k4])), (k1, .inl (cI, 1200, .inl (fI kLi))), (k2, .inl (cI, 1200, .inl (fI kBe))), (k3, .inl (cI, 1200, .inl (fI kEn))), (k4, .inl (cI, 1200, .inl (fI kSt)))] "java/lang/IllegalStateException" (fun w => w = [(d1, .inl (cI, 1200, .inl (fI dLi))), (d2, .inl (cI, 1200, .inl (fI dBe))), (d3, .inl (cI, 1200, .inl (fI dEn))), (d4, .inl (cI, 1200, .inl (fI dSt))), (kh, .inr (7, [.int (zI kth), .int (zI kn), .int (zI kac), .ref k1, .ref k2, .ref k3, .ref k4])), (k1, .inl (cI, 1200, .inl (fI kLi))), (k2, .inl (cI, 1200, .inl (fI kBe))), (k3, .inl (cI, 1200, .inl (fI kEn))), (k4, .inl (cI, 1200, .inl (fI kSt))), (x0, .inr (9, [.ref b0, .ref r0, .ref tr0, .ref dh, .ref kh, .ref me0, .ref cl0, .ref pg0, .ref la0])), (dh, .inr (7, [.int (zI dth), .int (zI dn), .int (zI dac), .ref d1, .ref d2, .ref d3, .ref d4]))]) := by
  refine zBt (by decide) (Nat.le_of_ble_eq_true rfl) ?_
  intro p e s m args below meth c ls A H locs Q C hx hl hW hQ
  have hl : lv_has ls 1 [(0, .ref x0)] := hl
  refine lv_aload_n C.1 C.2.1 dPD_keep_0 rfl (lv_at hl 0 rfl) ?_
  exact zpropT (wr := [(d1, .inl (cI, 1200, .inl (fI dLi))), (d2, .inl (cI, 1200, .inl (fI dBe))), (d3, .inl (cI, 1200, .inl (fI dEn))), (d4, .inl (cI, 1200, .inl (fI dSt))), (kh, .inr (7, [.int (zI kth), .int (zI kn), .int (zI kac), .ref k1, .ref k2, .ref k3, .ref k4])), (k1, .inl (cI, 1200, .inl (fI kLi))), (k2, .inl (cI, 1200, .inl (fI kBe))), (k3, .inl (cI, 1200, .inl (fI kEn))), (k4, .inl (cI, 1200, .inl (fI kSt)))]) C hW hx [0, 1] [2, 3, 4, 5, 6, 7, 8, 9, 10] rfl rfl (by decide) (by decide) (zRunVT (k := 0) (As := []) (rest := []) C hW (c_PartDrawings_needDrawn_T l D cI cG cL cB x0 b0 r0 tr0 dh kh me0 cl0 pg0 la0 d1 d2 d3 d4 dth dn dac (by omega) (by omega) H.size) [0, 1] rfl (by decide) kPD_135 (by decide +kernel) ⟨by decide, by decide⟩ 0 rfl rfl rfl hl.1 (Nat.le_of_ble_eq_true rfl) dPD_keep_1 ⟨by first | decide | omega, by first | decide | omega⟩) (fun w hq => by obtain rfl := hq; exact rfl) hQ (by omega) (by omega)
set_option maxHeartbeats 4000000 in
set_option maxRecDepth 100000 in
theorem c_PartDrawings_changed (l : Launch) (D : va_G) (cI cG cL cB : ClassId) (x0 : Nat) (b0 : Nat) (r0 : Nat) (tr0 : Nat) (dh : Nat) (kh : Nat) (me0 : Nat) (cl0 : Nat) (pg0 : Nat) (la0 : Nat) (d1 : Nat) (d2 : Nat) (d3 : Nat) (d4 : Nat) (dth : Int) (dn : Int) (dac : Int) (dLi : Int → Int) (dBe : Int → Int) (dEn : Int → Int) (dSt : Int → Int) (k1 : Nat) (k2 : Nat) (k3 : Nat) (k4 : Nat) (kth : Int) (kn : Int) (kac : Int) (kLi : Int → Int) (kBe : Int → Int) (kEn : Int → Int) (kSt : Int → Int) (k : Int) (bdLi : ∀ j : Int, I32 (dLi j)) (bdBe : ∀ j : Int, I32 (dBe j)) (bdEn : ∀ j : Int, I32 (dEn j)) (bdSt : ∀ j : Int, I32 (dSt j)) (hn0d : 0 ≤ dn) (hn1d : dn ≤ 1200) (ha0d : 0 ≤ dac) (ha1d : dac ≤ dn) (bkLi : ∀ j : Int, I32 (kLi j)) (bkBe : ∀ j : Int, I32 (kBe j)) (bkEn : ∀ j : Int, I32 (kEn j)) (bkSt : ∀ j : Int, I32 (kSt j)) (hn0k : 0 ≤ kn) (hn1k : kn ≤ 1200) (ha0k : 0 ≤ kac) (ha1k : kac ≤ kn) (hdth : dth = 1) (hkth : kth = 1) (hIk : I32 k) (hk : 0 ≤ k) (hlx : lxA dn dac dLi dBe) (hlk : lxA kn kac kLi kBe) : Ci l yPD_changed cPD_changed 2 (some .int) 3 0 0 D zCl (zT cI cG cL cB) [.ref x0, .int (zI k)] [(x0, .inr (9, [.ref b0, .ref r0, .ref tr0, .ref dh, .ref kh, .ref me0, .ref cl0, .ref pg0, .ref la0])), (dh, .inr (7, [.int (zI dth), .int (zI dn), .int (zI dac), .ref d1, .ref d2, .ref d3, .ref d4])), (d1, .inl (cI, 1200, .inl (fI dLi))), (d2, .inl (cI, 1200, .inl (fI dBe))), (d3, .inl (cI, 1200, .inl (fI dEn))), (d4, .inl (cI, 1200, .inl (fI dSt))), (kh, .inr (7, [.int (zI kth), .int (zI kn), .int (zI kac), .ref k1, .ref k2, .ref k3, .ref k4])), (k1, .inl (cI, 1200, .inl (fI kLi))), (k2, .inl (cI, 1200, .inl (fI kBe))), (k3, .inl (cI, 1200, .inl (fI kEn))), (k4, .inl (cI, 1200, .inl (fI kSt)))] (fun x w => x = zI (kthZ (newP kn kac kLi kBe kEn kSt dac dLi dBe dEn dSt) k dn) ∧ w = [(x0, .inr (9, [.ref b0, .ref r0, .ref tr0, .ref dh, .ref kh, .ref me0, .ref cl0, .ref pg0, .ref la0])), (dh, .inr (7, [.int (zI dth), .int (zI dn), .int (zI dac), .ref d1, .ref d2, .ref d3, .ref d4])), (d1, .inl (cI, 1200, .inl (fI dLi))), (d2, .inl (cI, 1200, .inl (fI dBe))), (d3, .inl (cI, 1200, .inl (fI dEn))), (d4, .inl (cI, 1200, .inl (fI dSt))), (kh, .inr (7, [.int (zI kth), .int (zI kn), .int (zI kac), .ref k1, .ref k2, .ref k3, .ref k4])), (k1, .inl (cI, 1200, .inl (fI kLi))), (k2, .inl (cI, 1200, .inl (fI kBe))), (k3, .inl (cI, 1200, .inl (fI kEn))), (k4, .inl (cI, 1200, .inl (fI kSt)))]) := by
  refine zBi (by decide) (Nat.le_of_ble_eq_true rfl) ?_
  intro p e s m args below meth c ls A H locs Q C hin hl hW hQ
  have hl : lv_has ls 2 [(0, .ref x0), (1, .int (zI k))] := hl
  refine lv_aload_n C.1 C.2.1 dPD_changed_0 rfl (lv_at hl 0 rfl) ?_
  refine zcallv (wr := [(d1, .inl (cI, 1200, .inl (fI dLi))), (d2, .inl (cI, 1200, .inl (fI dBe))), (d3, .inl (cI, 1200, .inl (fI dEn))), (d4, .inl (cI, 1200, .inl (fI dSt))), (kh, .inr (7, [.int (zI kth), .int (zI kn), .int (zI kac), .ref k1, .ref k2, .ref k3, .ref k4])), (k1, .inl (cI, 1200, .inl (fI kLi))), (k2, .inl (cI, 1200, .inl (fI kBe))), (k3, .inl (cI, 1200, .inl (fI kEn))), (k4, .inl (cI, 1200, .inl (fI kSt)))]) C hW [0, 1] [2, 3, 4, 5, 6, 7, 8, 9, 10] rfl rfl (by decide) (by decide) (zRunV (k := 0) (As := []) (rest := []) C hW (c_PartDrawings_needDrawn l D cI cG cL cB x0 b0 r0 tr0 dh kh me0 cl0 pg0 la0 d1 d2 d3 d4 dth dn dac (by omega) H.size) [0, 1] rfl (by decide) kPD_135 (by decide +kernel) ⟨by decide, by decide⟩ 0 rfl rfl rfl hl.1 (Nat.le_of_ble_eq_true rfl) dPD_changed_1 ⟨by first | decide | omega, by first | decide | omega⟩) (fun w H locs hq hW => ?_)
  subst hq
  have hW : zw D zCl A s [(d1, .inl (cI, 1200, .inl (fI dLi))), (d2, .inl (cI, 1200, .inl (fI dBe))), (d3, .inl (cI, 1200, .inl (fI dEn))), (d4, .inl (cI, 1200, .inl (fI dSt))), (kh, .inr (7, [.int (zI kth), .int (zI kn), .int (zI kac), .ref k1, .ref k2, .ref k3, .ref k4])), (k1, .inl (cI, 1200, .inl (fI kLi))), (k2, .inl (cI, 1200, .inl (fI kBe))), (k3, .inl (cI, 1200, .inl (fI kEn))), (k4, .inl (cI, 1200, .inl (fI kSt))), (x0, .inr (9, [.ref b0, .ref r0, .ref tr0, .ref dh, .ref kh, .ref me0, .ref cl0, .ref pg0, .ref la0])), (dh, .inr (7, [.int (zI dth), .int (zI dn), .int (zI dac), .ref d1, .ref d2, .ref d3, .ref d4]))] H locs := hW
  refine lv_aload_n C.1 C.2.1 dPD_changed_4 rfl (lv_at hl 0 rfl) ?_
  refine zget C hW 9 4 rfl rfl inPD (by decide) flPD_37 rfl dPD_changed_5 ?_
  refine zget C hW 4 0 rfl rfl inSk (by decide) flPD_102 rfl dPD_changed_8 ?_
  refine zif_ne (tgt := 24) C (by omega) dPD_changed_11 (by decide) (fun c11 => ?_) (fun c11 => ?_)
  · refine lv_iload_n C.1 C.2.1 dPD_changed_24 rfl (lv_at hl 1 rfl) ?_
    refine zif_ge (tgt := 38) C (by omega) dPD_changed_25 (by decide) (fun c25 => ?_) (fun c25 => ?_)
    · refine lv_aload_n C.1 C.2.1 dPD_changed_38 rfl (lv_at hl 0 rfl) ?_
      refine zget C hW 9 3 rfl rfl inPD (by decide) flPD_33 rfl dPD_changed_39 ?_
      refine lv_aload_n C.1 C.2.1 dPD_changed_42 rfl (lv_at hl 0 rfl) ?_
      refine zget C hW 9 4 rfl rfl inPD (by decide) flPD_37 rfl dPD_changed_43 ?_
      refine lv_iload_n C.1 C.2.1 dPD_changed_46 rfl (lv_at hl 1 rfl) ?_
      refine zcalli (wr := [(x0, .inr (9, [.ref b0, .ref r0, .ref tr0, .ref dh, .ref kh, .ref me0, .ref cl0, .ref pg0, .ref la0]))]) C hW [10, 0, 1, 2, 3, 4, 5, 6, 7, 8] [9] rfl rfl (by decide) (by decide) (zRunV (k := 2) (As := [.ref kh, .int (zI k)]) (rest := []) C hW (c_Strokes_strokeNotIn l D cI cG cL cB dh d1 d2 d3 d4 dth dn dac dLi dBe dEn dSt kh k1 k2 k3 k4 kth kn kac kLi kBe kEn kSt k bdLi bdBe bdEn bdSt (by omega) (by omega) (by omega) (by omega) bkLi bkBe bkEn bkSt (by omega) (by omega) (by omega) (by omega) (by omega) (by omega) hlx hlk H.size) [10, 0, 1, 2, 3, 4, 5, 6, 7, 8] rfl (by decide) kPD_247 (by decide +kernel) ⟨by decide, by decide⟩ 10 rfl rfl rfl hl.1 (Nat.le_of_ble_eq_true rfl) dPD_changed_47 ⟨by first | decide | omega, by first | decide | omega⟩) (fun x w H locs hq hW => ?_)
      obtain ⟨rfl, rfl⟩ := hq
      have hW : zw D zCl A s [(x0, .inr (9, [.ref b0, .ref r0, .ref tr0, .ref dh, .ref kh, .ref me0, .ref cl0, .ref pg0, .ref la0])), (dh, .inr (7, [.int (zI dth), .int (zI dn), .int (zI dac), .ref d1, .ref d2, .ref d3, .ref d4])), (d1, .inl (cI, 1200, .inl (fI dLi))), (d2, .inl (cI, 1200, .inl (fI dBe))), (d3, .inl (cI, 1200, .inl (fI dEn))), (d4, .inl (cI, 1200, .inl (fI dSt))), (kh, .inr (7, [.int (zI kth), .int (zI kn), .int (zI kac), .ref k1, .ref k2, .ref k3, .ref k4])), (k1, .inl (cI, 1200, .inl (fI kLi))), (k2, .inl (cI, 1200, .inl (fI kBe))), (k3, .inl (cI, 1200, .inl (fI kEn))), (k4, .inl (cI, 1200, .inl (fI kSt)))] H locs := hW
      exact hQ (zI (kthZ (newP kn kac kLi kBe kEn kSt dac dLi dBe dEn dSt) k dn)) _ H locs _ _ _ ls hW ⟨rfl, rfl⟩ (by omega) (by omega) dPD_changed_50
    · exact False.elim (by omega)
  · exact False.elim (by omega)
set_option maxHeartbeats 4000000 in
set_option maxRecDepth 100000 in
theorem c_PartDrawings_changed_T1 (l : Launch) (D : va_G) (cI cG cL cB : ClassId) (x0 : Nat) (b0 : Nat) (r0 : Nat) (tr0 : Nat) (dh : Nat) (kh : Nat) (me0 : Nat) (cl0 : Nat) (pg0 : Nat) (la0 : Nat) (d1 : Nat) (d2 : Nat) (d3 : Nat) (d4 : Nat) (dth : Int) (dn : Int) (dac : Int) (dLi : Int → Int) (dBe : Int → Int) (dEn : Int → Int) (dSt : Int → Int) (k1 : Nat) (k2 : Nat) (k3 : Nat) (k4 : Nat) (kth : Int) (kn : Int) (kac : Int) (kLi : Int → Int) (kBe : Int → Int) (kEn : Int → Int) (kSt : Int → Int) (k : Int) (hlt : l.stackTraces = false) (bdLi : ∀ j : Int, I32 (dLi j)) (bdBe : ∀ j : Int, I32 (dBe j)) (bdEn : ∀ j : Int, I32 (dEn j)) (bdSt : ∀ j : Int, I32 (dSt j)) (hn0d : 0 ≤ dn) (hn1d : dn ≤ 1200) (ha0d : 0 ≤ dac) (ha1d : dac ≤ dn) (bkLi : ∀ j : Int, I32 (kLi j)) (bkBe : ∀ j : Int, I32 (kBe j)) (bkEn : ∀ j : Int, I32 (kEn j)) (bkSt : ∀ j : Int, I32 (kSt j)) (hn0k : 0 ≤ kn) (hn1k : kn ≤ 1200) (ha0k : 0 ≤ kac) (ha1k : kac ≤ kn) (hdth : dth = 0) (hIk : I32 k) : Ct l yPD_changed cPD_changed 2 (some .int) 7 1 6 D zCl (zT cI cG cL cB) [.ref x0, .int (zI k)] [(x0, .inr (9, [.ref b0, .ref r0, .ref tr0, .ref dh, .ref kh, .ref me0, .ref cl0, .ref pg0, .ref la0])), (dh, .inr (7, [.int (zI dth), .int (zI dn), .int (zI dac), .ref d1, .ref d2, .ref d3, .ref d4])), (d1, .inl (cI, 1200, .inl (fI dLi))), (d2, .inl (cI, 1200, .inl (fI dBe))), (d3, .inl (cI, 1200, .inl (fI dEn))), (d4, .inl (cI, 1200, .inl (fI dSt))), (kh, .inr (7, [.int (zI kth), .int (zI kn), .int (zI kac), .ref k1, .ref k2, .ref k3, .ref k4])), (k1, .inl (cI, 1200, .inl (fI kLi))), (k2, .inl (cI, 1200, .inl (fI kBe))), (k3, .inl (cI, 1200, .inl (fI kEn))), (k4, .inl (cI, 1200, .inl (fI kSt)))] "java/lang/IllegalStateException" (fun w => w = [(d1, .inl (cI, 1200, .inl (fI dLi))), (d2, .inl (cI, 1200, .inl (fI dBe))), (d3, .inl (cI, 1200, .inl (fI dEn))), (d4, .inl (cI, 1200, .inl (fI dSt))), (kh, .inr (7, [.int (zI kth), .int (zI kn), .int (zI kac), .ref k1, .ref k2, .ref k3, .ref k4])), (k1, .inl (cI, 1200, .inl (fI kLi))), (k2, .inl (cI, 1200, .inl (fI kBe))), (k3, .inl (cI, 1200, .inl (fI kEn))), (k4, .inl (cI, 1200, .inl (fI kSt))), (x0, .inr (9, [.ref b0, .ref r0, .ref tr0, .ref dh, .ref kh, .ref me0, .ref cl0, .ref pg0, .ref la0])), (dh, .inr (7, [.int (zI dth), .int (zI dn), .int (zI dac), .ref d1, .ref d2, .ref d3, .ref d4]))]) := by
  refine zBt (by decide) (Nat.le_of_ble_eq_true rfl) ?_
  intro p e s m args below meth c ls A H locs Q C hx hl hW hQ
  have hl : lv_has ls 2 [(0, .ref x0), (1, .int (zI k))] := hl
  refine lv_aload_n C.1 C.2.1 dPD_changed_0 rfl (lv_at hl 0 rfl) ?_
  exact zpropT (wr := [(d1, .inl (cI, 1200, .inl (fI dLi))), (d2, .inl (cI, 1200, .inl (fI dBe))), (d3, .inl (cI, 1200, .inl (fI dEn))), (d4, .inl (cI, 1200, .inl (fI dSt))), (kh, .inr (7, [.int (zI kth), .int (zI kn), .int (zI kac), .ref k1, .ref k2, .ref k3, .ref k4])), (k1, .inl (cI, 1200, .inl (fI kLi))), (k2, .inl (cI, 1200, .inl (fI kBe))), (k3, .inl (cI, 1200, .inl (fI kEn))), (k4, .inl (cI, 1200, .inl (fI kSt)))]) C hW hx [0, 1] [2, 3, 4, 5, 6, 7, 8, 9, 10] rfl rfl (by decide) (by decide) (zRunVT (k := 0) (As := []) (rest := []) C hW (c_PartDrawings_needDrawn_T l D cI cG cL cB x0 b0 r0 tr0 dh kh me0 cl0 pg0 la0 d1 d2 d3 d4 dth dn dac (by omega) (by omega) H.size) [0, 1] rfl (by decide) kPD_135 (by decide +kernel) ⟨by decide, by decide⟩ 0 rfl rfl rfl hl.1 (Nat.le_of_ble_eq_true rfl) dPD_changed_1 ⟨by first | decide | omega, by first | decide | omega⟩) (fun w hq => by obtain rfl := hq; exact rfl) hQ (by omega) (by omega)
set_option maxHeartbeats 4000000 in
set_option maxRecDepth 100000 in
theorem c_PartDrawings_changed_T2 (l : Launch) (D : va_G) (cI cG cL cB : ClassId) (x0 : Nat) (b0 : Nat) (r0 : Nat) (tr0 : Nat) (dh : Nat) (kh : Nat) (me0 : Nat) (cl0 : Nat) (pg0 : Nat) (la0 : Nat) (d1 : Nat) (d2 : Nat) (d3 : Nat) (d4 : Nat) (dth : Int) (dn : Int) (dac : Int) (dLi : Int → Int) (dBe : Int → Int) (dEn : Int → Int) (dSt : Int → Int) (k1 : Nat) (k2 : Nat) (k3 : Nat) (k4 : Nat) (kth : Int) (kn : Int) (kac : Int) (kLi : Int → Int) (kBe : Int → Int) (kEn : Int → Int) (kSt : Int → Int) (k : Int) (hlt : l.stackTraces = false) (bdLi : ∀ j : Int, I32 (dLi j)) (bdBe : ∀ j : Int, I32 (dBe j)) (bdEn : ∀ j : Int, I32 (dEn j)) (bdSt : ∀ j : Int, I32 (dSt j)) (hn0d : 0 ≤ dn) (hn1d : dn ≤ 1200) (ha0d : 0 ≤ dac) (ha1d : dac ≤ dn) (bkLi : ∀ j : Int, I32 (kLi j)) (bkBe : ∀ j : Int, I32 (kBe j)) (bkEn : ∀ j : Int, I32 (kEn j)) (bkSt : ∀ j : Int, I32 (kSt j)) (hn0k : 0 ≤ kn) (hn1k : kn ≤ 1200) (ha0k : 0 ≤ kac) (ha1k : kac ≤ kn) (hdth : dth = 1) (hkth : kth = 0) (hIk : I32 k) : Ct l yPD_changed cPD_changed 2 (some .int) 7 1 6 D zCl (zT cI cG cL cB) [.ref x0, .int (zI k)] [(x0, .inr (9, [.ref b0, .ref r0, .ref tr0, .ref dh, .ref kh, .ref me0, .ref cl0, .ref pg0, .ref la0])), (dh, .inr (7, [.int (zI dth), .int (zI dn), .int (zI dac), .ref d1, .ref d2, .ref d3, .ref d4])), (d1, .inl (cI, 1200, .inl (fI dLi))), (d2, .inl (cI, 1200, .inl (fI dBe))), (d3, .inl (cI, 1200, .inl (fI dEn))), (d4, .inl (cI, 1200, .inl (fI dSt))), (kh, .inr (7, [.int (zI kth), .int (zI kn), .int (zI kac), .ref k1, .ref k2, .ref k3, .ref k4])), (k1, .inl (cI, 1200, .inl (fI kLi))), (k2, .inl (cI, 1200, .inl (fI kBe))), (k3, .inl (cI, 1200, .inl (fI kEn))), (k4, .inl (cI, 1200, .inl (fI kSt)))] "java/lang/IllegalStateException" (fun w => w = [(x0, .inr (9, [.ref b0, .ref r0, .ref tr0, .ref dh, .ref kh, .ref me0, .ref cl0, .ref pg0, .ref la0])), (dh, .inr (7, [.int (zI dth), .int (zI dn), .int (zI dac), .ref d1, .ref d2, .ref d3, .ref d4])), (d1, .inl (cI, 1200, .inl (fI dLi))), (d2, .inl (cI, 1200, .inl (fI dBe))), (d3, .inl (cI, 1200, .inl (fI dEn))), (d4, .inl (cI, 1200, .inl (fI dSt))), (kh, .inr (7, [.int (zI kth), .int (zI kn), .int (zI kac), .ref k1, .ref k2, .ref k3, .ref k4])), (k1, .inl (cI, 1200, .inl (fI kLi))), (k2, .inl (cI, 1200, .inl (fI kBe))), (k3, .inl (cI, 1200, .inl (fI kEn))), (k4, .inl (cI, 1200, .inl (fI kSt)))]) := by
  refine zBt (by decide) (Nat.le_of_ble_eq_true rfl) ?_
  intro p e s m args below meth c ls A H locs Q C hx hl hW hQ
  have hl : lv_has ls 2 [(0, .ref x0), (1, .int (zI k))] := hl
  refine lv_aload_n C.1 C.2.1 dPD_changed_0 rfl (lv_at hl 0 rfl) ?_
  refine zcallv (wr := [(d1, .inl (cI, 1200, .inl (fI dLi))), (d2, .inl (cI, 1200, .inl (fI dBe))), (d3, .inl (cI, 1200, .inl (fI dEn))), (d4, .inl (cI, 1200, .inl (fI dSt))), (kh, .inr (7, [.int (zI kth), .int (zI kn), .int (zI kac), .ref k1, .ref k2, .ref k3, .ref k4])), (k1, .inl (cI, 1200, .inl (fI kLi))), (k2, .inl (cI, 1200, .inl (fI kBe))), (k3, .inl (cI, 1200, .inl (fI kEn))), (k4, .inl (cI, 1200, .inl (fI kSt)))]) C hW [0, 1] [2, 3, 4, 5, 6, 7, 8, 9, 10] rfl rfl (by decide) (by decide) (zRunV (k := 0) (As := []) (rest := []) C hW (c_PartDrawings_needDrawn l D cI cG cL cB x0 b0 r0 tr0 dh kh me0 cl0 pg0 la0 d1 d2 d3 d4 dth dn dac (by omega) H.size) [0, 1] rfl (by decide) kPD_135 (by decide +kernel) ⟨by decide, by decide⟩ 0 rfl rfl rfl hl.1 (Nat.le_of_ble_eq_true rfl) dPD_changed_1 ⟨by first | decide | omega, by first | decide | omega⟩) (fun w H locs hq hW => ?_)
  subst hq
  have hW : zw D zCl A s [(d1, .inl (cI, 1200, .inl (fI dLi))), (d2, .inl (cI, 1200, .inl (fI dBe))), (d3, .inl (cI, 1200, .inl (fI dEn))), (d4, .inl (cI, 1200, .inl (fI dSt))), (kh, .inr (7, [.int (zI kth), .int (zI kn), .int (zI kac), .ref k1, .ref k2, .ref k3, .ref k4])), (k1, .inl (cI, 1200, .inl (fI kLi))), (k2, .inl (cI, 1200, .inl (fI kBe))), (k3, .inl (cI, 1200, .inl (fI kEn))), (k4, .inl (cI, 1200, .inl (fI kSt))), (x0, .inr (9, [.ref b0, .ref r0, .ref tr0, .ref dh, .ref kh, .ref me0, .ref cl0, .ref pg0, .ref la0])), (dh, .inr (7, [.int (zI dth), .int (zI dn), .int (zI dac), .ref d1, .ref d2, .ref d3, .ref d4]))] H locs := hW
  refine lv_aload_n C.1 C.2.1 dPD_changed_4 rfl (lv_at hl 0 rfl) ?_
  refine zget C hW 9 4 rfl rfl inPD (by decide) flPD_37 rfl dPD_changed_5 ?_
  refine zget C hW 4 0 rfl rfl inSk (by decide) flPD_102 rfl dPD_changed_8 ?_
  refine zif_ne (tgt := 24) C (by omega) dPD_changed_11 (by decide) (fun c11 => ?_) (fun c11 => ?_)
  · exact False.elim (by omega)
  · have hW : zw D zCl A s [(x0, .inr (9, [.ref b0, .ref r0, .ref tr0, .ref dh, .ref kh, .ref me0, .ref cl0, .ref pg0, .ref la0])), (dh, .inr (7, [.int (zI dth), .int (zI dn), .int (zI dac), .ref d1, .ref d2, .ref d3, .ref d4])), (d1, .inl (cI, 1200, .inl (fI dLi))), (d2, .inl (cI, 1200, .inl (fI dBe))), (d3, .inl (cI, 1200, .inl (fI dEn))), (d4, .inl (cI, 1200, .inl (fI dSt))), (kh, .inr (7, [.int (zI kth), .int (zI kn), .int (zI kac), .ref k1, .ref k2, .ref k3, .ref k4])), (k1, .inl (cI, 1200, .inl (fI kLi))), (k2, .inl (cI, 1200, .inl (fI kBe))), (k3, .inl (cI, 1200, .inl (fI kEn))), (k4, .inl (cI, 1200, .inl (fI kSt)))] H locs := zwp hW [9, 10, 0, 1, 2, 3, 4, 5, 6, 7, 8] rfl (by decide)
    exact zthrow C hW hx hlt hl.1 (by decide +kernel) (by decide +kernel) ktPD_74_243_78c kxPD_78 ktPD_74_243_78s hQ rfl (by omega) (by omega) (by decide) (by decide) (by decide) (Nat.le_of_ble_eq_true rfl) dPD_changed_14 dPD_changed_17 dPD_changed_18 dPD_changed_20 dPD_changed_23
set_option maxHeartbeats 4000000 in
set_option maxRecDepth 100000 in
theorem c_PartDrawings_changed_T3 (l : Launch) (D : va_G) (cI cG cL cB : ClassId) (x0 : Nat) (b0 : Nat) (r0 : Nat) (tr0 : Nat) (dh : Nat) (kh : Nat) (me0 : Nat) (cl0 : Nat) (pg0 : Nat) (la0 : Nat) (d1 : Nat) (d2 : Nat) (d3 : Nat) (d4 : Nat) (dth : Int) (dn : Int) (dac : Int) (dLi : Int → Int) (dBe : Int → Int) (dEn : Int → Int) (dSt : Int → Int) (k1 : Nat) (k2 : Nat) (k3 : Nat) (k4 : Nat) (kth : Int) (kn : Int) (kac : Int) (kLi : Int → Int) (kBe : Int → Int) (kEn : Int → Int) (kSt : Int → Int) (k : Int) (hlt : l.stackTraces = false) (bdLi : ∀ j : Int, I32 (dLi j)) (bdBe : ∀ j : Int, I32 (dBe j)) (bdEn : ∀ j : Int, I32 (dEn j)) (bdSt : ∀ j : Int, I32 (dSt j)) (hn0d : 0 ≤ dn) (hn1d : dn ≤ 1200) (ha0d : 0 ≤ dac) (ha1d : dac ≤ dn) (bkLi : ∀ j : Int, I32 (kLi j)) (bkBe : ∀ j : Int, I32 (kBe j)) (bkEn : ∀ j : Int, I32 (kEn j)) (bkSt : ∀ j : Int, I32 (kSt j)) (hn0k : 0 ≤ kn) (hn1k : kn ≤ 1200) (ha0k : 0 ≤ kac) (ha1k : kac ≤ kn) (hdth : dth = 1) (hkth : kth = 1) (hIk : I32 k) (hk : k < 0) : Ct l yPD_changed cPD_changed 2 (some .int) 7 1 6 D zCl (zT cI cG cL cB) [.ref x0, .int (zI k)] [(x0, .inr (9, [.ref b0, .ref r0, .ref tr0, .ref dh, .ref kh, .ref me0, .ref cl0, .ref pg0, .ref la0])), (dh, .inr (7, [.int (zI dth), .int (zI dn), .int (zI dac), .ref d1, .ref d2, .ref d3, .ref d4])), (d1, .inl (cI, 1200, .inl (fI dLi))), (d2, .inl (cI, 1200, .inl (fI dBe))), (d3, .inl (cI, 1200, .inl (fI dEn))), (d4, .inl (cI, 1200, .inl (fI dSt))), (kh, .inr (7, [.int (zI kth), .int (zI kn), .int (zI kac), .ref k1, .ref k2, .ref k3, .ref k4])), (k1, .inl (cI, 1200, .inl (fI kLi))), (k2, .inl (cI, 1200, .inl (fI kBe))), (k3, .inl (cI, 1200, .inl (fI kEn))), (k4, .inl (cI, 1200, .inl (fI kSt)))] "java/lang/IllegalArgumentException" (fun w => w = [(x0, .inr (9, [.ref b0, .ref r0, .ref tr0, .ref dh, .ref kh, .ref me0, .ref cl0, .ref pg0, .ref la0])), (dh, .inr (7, [.int (zI dth), .int (zI dn), .int (zI dac), .ref d1, .ref d2, .ref d3, .ref d4])), (d1, .inl (cI, 1200, .inl (fI dLi))), (d2, .inl (cI, 1200, .inl (fI dBe))), (d3, .inl (cI, 1200, .inl (fI dEn))), (d4, .inl (cI, 1200, .inl (fI dSt))), (kh, .inr (7, [.int (zI kth), .int (zI kn), .int (zI kac), .ref k1, .ref k2, .ref k3, .ref k4])), (k1, .inl (cI, 1200, .inl (fI kLi))), (k2, .inl (cI, 1200, .inl (fI kBe))), (k3, .inl (cI, 1200, .inl (fI kEn))), (k4, .inl (cI, 1200, .inl (fI kSt)))]) := by
  refine zBt (by decide) (Nat.le_of_ble_eq_true rfl) ?_
  intro p e s m args below meth c ls A H locs Q C hx hl hW hQ
  have hl : lv_has ls 2 [(0, .ref x0), (1, .int (zI k))] := hl
  refine lv_aload_n C.1 C.2.1 dPD_changed_0 rfl (lv_at hl 0 rfl) ?_
  refine zcallv (wr := [(d1, .inl (cI, 1200, .inl (fI dLi))), (d2, .inl (cI, 1200, .inl (fI dBe))), (d3, .inl (cI, 1200, .inl (fI dEn))), (d4, .inl (cI, 1200, .inl (fI dSt))), (kh, .inr (7, [.int (zI kth), .int (zI kn), .int (zI kac), .ref k1, .ref k2, .ref k3, .ref k4])), (k1, .inl (cI, 1200, .inl (fI kLi))), (k2, .inl (cI, 1200, .inl (fI kBe))), (k3, .inl (cI, 1200, .inl (fI kEn))), (k4, .inl (cI, 1200, .inl (fI kSt)))]) C hW [0, 1] [2, 3, 4, 5, 6, 7, 8, 9, 10] rfl rfl (by decide) (by decide) (zRunV (k := 0) (As := []) (rest := []) C hW (c_PartDrawings_needDrawn l D cI cG cL cB x0 b0 r0 tr0 dh kh me0 cl0 pg0 la0 d1 d2 d3 d4 dth dn dac (by omega) H.size) [0, 1] rfl (by decide) kPD_135 (by decide +kernel) ⟨by decide, by decide⟩ 0 rfl rfl rfl hl.1 (Nat.le_of_ble_eq_true rfl) dPD_changed_1 ⟨by first | decide | omega, by first | decide | omega⟩) (fun w H locs hq hW => ?_)
  subst hq
  have hW : zw D zCl A s [(d1, .inl (cI, 1200, .inl (fI dLi))), (d2, .inl (cI, 1200, .inl (fI dBe))), (d3, .inl (cI, 1200, .inl (fI dEn))), (d4, .inl (cI, 1200, .inl (fI dSt))), (kh, .inr (7, [.int (zI kth), .int (zI kn), .int (zI kac), .ref k1, .ref k2, .ref k3, .ref k4])), (k1, .inl (cI, 1200, .inl (fI kLi))), (k2, .inl (cI, 1200, .inl (fI kBe))), (k3, .inl (cI, 1200, .inl (fI kEn))), (k4, .inl (cI, 1200, .inl (fI kSt))), (x0, .inr (9, [.ref b0, .ref r0, .ref tr0, .ref dh, .ref kh, .ref me0, .ref cl0, .ref pg0, .ref la0])), (dh, .inr (7, [.int (zI dth), .int (zI dn), .int (zI dac), .ref d1, .ref d2, .ref d3, .ref d4]))] H locs := hW
  refine lv_aload_n C.1 C.2.1 dPD_changed_4 rfl (lv_at hl 0 rfl) ?_
  refine zget C hW 9 4 rfl rfl inPD (by decide) flPD_37 rfl dPD_changed_5 ?_
  refine zget C hW 4 0 rfl rfl inSk (by decide) flPD_102 rfl dPD_changed_8 ?_
  refine zif_ne (tgt := 24) C (by omega) dPD_changed_11 (by decide) (fun c11 => ?_) (fun c11 => ?_)
  · refine lv_iload_n C.1 C.2.1 dPD_changed_24 rfl (lv_at hl 1 rfl) ?_
    refine zif_ge (tgt := 38) C (by omega) dPD_changed_25 (by decide) (fun c25 => ?_) (fun c25 => ?_)
    · exact False.elim (by omega)
    · have hW : zw D zCl A s [(x0, .inr (9, [.ref b0, .ref r0, .ref tr0, .ref dh, .ref kh, .ref me0, .ref cl0, .ref pg0, .ref la0])), (dh, .inr (7, [.int (zI dth), .int (zI dn), .int (zI dac), .ref d1, .ref d2, .ref d3, .ref d4])), (d1, .inl (cI, 1200, .inl (fI dLi))), (d2, .inl (cI, 1200, .inl (fI dBe))), (d3, .inl (cI, 1200, .inl (fI dEn))), (d4, .inl (cI, 1200, .inl (fI dSt))), (kh, .inr (7, [.int (zI kth), .int (zI kn), .int (zI kac), .ref k1, .ref k2, .ref k3, .ref k4])), (k1, .inl (cI, 1200, .inl (fI kLi))), (k2, .inl (cI, 1200, .inl (fI kBe))), (k3, .inl (cI, 1200, .inl (fI kEn))), (k4, .inl (cI, 1200, .inl (fI kSt)))] H locs := zwp hW [9, 10, 0, 1, 2, 3, 4, 5, 6, 7, 8] rfl (by decide)
      exact zthrow C hW hx hlt hl.1 (by decide +kernel) (by decide +kernel) ktPD_85_245_89c kxPD_89 ktPD_85_245_89s hQ rfl (by omega) (by omega) (by decide) (by decide) (by decide) (Nat.le_of_ble_eq_true rfl) dPD_changed_28 dPD_changed_31 dPD_changed_32 dPD_changed_34 dPD_changed_37
  · exact False.elim (by omega)

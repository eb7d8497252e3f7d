theorem dPD_isPlace_0 : decode cPD_isPlace 0 = .ok (.lload_n 0, 1) := by decide +kernel
theorem dPD_isPlace_1 : decode cPD_isPlace 1 = .ok (.ldc2_w 259, 3) := by decide +kernel
theorem dPD_isPlace_4 : decode cPD_isPlace 4 = .ok (.lcmp, 1) := by decide +kernel
theorem dPD_isPlace_5 : decode cPD_isPlace 5 = .ok (.ifCond .lt 15, 3) := by decide +kernel
theorem dPD_isPlace_8 : decode cPD_isPlace 8 = .ok (.lload_n 0, 1) := by decide +kernel
theorem dPD_isPlace_9 : decode cPD_isPlace 9 = .ok (.ldc2_w 261, 3) := by decide +kernel
theorem dPD_isPlace_12 : decode cPD_isPlace 12 = .ok (.lcmp, 1) := by decide +kernel
theorem dPD_isPlace_13 : decode cPD_isPlace 13 = .ok (.ifCond .gt 7, 3) := by decide +kernel
theorem dPD_isPlace_16 : decode cPD_isPlace 16 = .ok (.iconst 1, 1) := by decide +kernel
theorem dPD_isPlace_17 : decode cPD_isPlace 17 = .ok (.goto 4, 3) := by decide +kernel
theorem dPD_isPlace_20 : decode cPD_isPlace 20 = .ok (.iconst 0, 1) := by decide +kernel
theorem dPD_isPlace_21 : decode cPD_isPlace 21 = .ok (.ireturn, 1) := by decide +kernel
theorem dPD_isSize_0 : decode cPD_isSize 0 = .ok (.lload_n 0, 1) := by decide +kernel
theorem dPD_isSize_1 : decode cPD_isSize 1 = .ok (.lconst 1, 1) := by decide +kernel
theorem dPD_isSize_2 : decode cPD_isSize 2 = .ok (.lcmp, 1) := by decide +kernel
theorem dPD_isSize_3 : decode cPD_isSize 3 = .ok (.ifCond .lt 15, 3) := by decide +kernel
theorem dPD_isSize_6 : decode cPD_isSize 6 = .ok (.lload_n 0, 1) := by decide +kernel
theorem dPD_isSize_7 : decode cPD_isSize 7 = .ok (.ldc2_w 261, 3) := by decide +kernel
theorem dPD_isSize_10 : decode cPD_isSize 10 = .ok (.lcmp, 1) := by decide +kernel
theorem dPD_isSize_11 : decode cPD_isSize 11 = .ok (.ifCond .gt 7, 3) := by decide +kernel
theorem dPD_isSize_14 : decode cPD_isSize 14 = .ok (.iconst 1, 1) := by decide +kernel
theorem dPD_isSize_15 : decode cPD_isSize 15 = .ok (.goto 4, 3) := by decide +kernel
theorem dPD_isSize_18 : decode cPD_isSize 18 = .ok (.iconst 0, 1) := by decide +kernel
theorem dPD_isSize_19 : decode cPD_isSize 19 = .ok (.ireturn, 1) := by decide +kernel
theorem dPD_needBox_0 : decode cPD_needBox 0 = .ok (.iload_n 1, 1) := by decide +kernel
theorem dPD_needBox_1 : decode cPD_needBox 1 = .ok (.ifCond .lt 14, 3) := by decide +kernel
theorem dPD_needBox_4 : decode cPD_needBox 4 = .ok (.iload_n 1, 1) := by decide +kernel
theorem dPD_needBox_5 : decode cPD_needBox 5 = .ok (.aload_n 0, 1) := by decide +kernel
theorem dPD_needBox_6 : decode cPD_needBox 6 = .ok (.getfield 12, 3) := by decide +kernel
theorem dPD_needBox_9 : decode cPD_needBox 9 = .ok (.getfield 70, 3) := by decide +kernel
theorem dPD_needBox_12 : decode cPD_needBox 12 = .ok (.if_icmp .lt 13, 3) := by decide +kernel
theorem dPD_needBox_15 : decode cPD_needBox 15 = .ok (.new 138, 3) := by decide +kernel
theorem dPD_needBox_18 : decode cPD_needBox 18 = .ok (.dup, 1) := by decide +kernel
theorem dPD_needBox_19 : decode cPD_needBox 19 = .ok (.ldc 251, 2) := by decide +kernel
theorem dPD_needBox_21 : decode cPD_needBox 21 = .ok (.invokespecial 142, 3) := by decide +kernel
theorem dPD_needBox_24 : decode cPD_needBox 24 = .ok (.athrow, 1) := by decide +kernel
theorem dPD_needBox_25 : decode cPD_needBox 25 = .ok (.return_, 1) := by decide +kernel
theorem dPD_needView_0 : decode cPD_needView 0 = .ok (.iload_n 0, 1) := by decide +kernel
theorem dPD_needView_1 : decode cPD_needView 1 = .ok (.ifCond .lt 9, 3) := by decide +kernel
theorem dPD_needView_4 : decode cPD_needView 4 = .ok (.iload_n 0, 1) := by decide +kernel
theorem dPD_needView_5 : decode cPD_needView 5 = .ok (.bipush 6, 2) := by decide +kernel
theorem dPD_needView_7 : decode cPD_needView 7 = .ok (.if_icmp .lt 14, 3) := by decide +kernel
theorem dPD_needView_10 : decode cPD_needView 10 = .ok (.new 85, 3) := by decide +kernel
theorem dPD_needView_13 : decode cPD_needView 13 = .ok (.dup, 1) := by decide +kernel
theorem dPD_needView_14 : decode cPD_needView 14 = .ok (.ldc_w 257, 3) := by decide +kernel
theorem dPD_needView_17 : decode cPD_needView 17 = .ok (.invokespecial 89, 3) := by decide +kernel
theorem dPD_needView_20 : decode cPD_needView 20 = .ok (.athrow, 1) := by decide +kernel
theorem dPD_needView_21 : decode cPD_needView 21 = .ok (.return_, 1) := by decide +kernel
theorem dPD_needDrawn_0 : decode cPD_needDrawn 0 = .ok (.aload_n 0, 1) := by decide +kernel
theorem dPD_needDrawn_1 : decode cPD_needDrawn 1 = .ok (.getfield 33, 3) := by decide +kernel
theorem dPD_needDrawn_4 : decode cPD_needDrawn 4 = .ok (.getfield 102, 3) := by decide +kernel
theorem dPD_needDrawn_7 : decode cPD_needDrawn 7 = .ok (.ifCond .ne 13, 3) := by decide +kernel
theorem dPD_needDrawn_10 : decode cPD_needDrawn 10 = .ok (.new 74, 3) := by decide +kernel
theorem dPD_needDrawn_13 : decode cPD_needDrawn 13 = .ok (.dup, 1) := by decide +kernel
theorem dPD_needDrawn_14 : decode cPD_needDrawn 14 = .ok (.ldc 253, 2) := by decide +kernel
theorem dPD_needDrawn_16 : decode cPD_needDrawn 16 = .ok (.invokespecial 78, 3) := by decide +kernel
theorem dPD_needDrawn_19 : decode cPD_needDrawn 19 = .ok (.athrow, 1) := by decide +kernel
theorem dPD_needDrawn_20 : decode cPD_needDrawn 20 = .ok (.return_, 1) := by decide +kernel
theorem dPD_needAxis_0 : decode cPD_needAxis 0 = .ok (.iload_n 0, 1) := by decide +kernel
theorem dPD_needAxis_1 : decode cPD_needAxis 1 = .ok (.ifCond .lt 8, 3) := by decide +kernel
theorem dPD_needAxis_4 : decode cPD_needAxis 4 = .ok (.iload_n 0, 1) := by decide +kernel
theorem dPD_needAxis_5 : decode cPD_needAxis 5 = .ok (.iconst 3, 1) := by decide +kernel
theorem dPD_needAxis_6 : decode cPD_needAxis 6 = .ok (.if_icmp .lt 13, 3) := by decide +kernel
theorem dPD_needAxis_9 : decode cPD_needAxis 9 = .ok (.new 85, 3) := by decide +kernel
theorem dPD_needAxis_12 : decode cPD_needAxis 12 = .ok (.dup, 1) := by decide +kernel
theorem dPD_needAxis_13 : decode cPD_needAxis 13 = .ok (.ldc 255, 2) := by decide +kernel
theorem dPD_needAxis_15 : decode cPD_needAxis 15 = .ok (.invokespecial 89, 3) := by decide +kernel
theorem dPD_needAxis_18 : decode cPD_needAxis 18 = .ok (.athrow, 1) := by decide +kernel
theorem dPD_needAxis_19 : decode cPD_needAxis 19 = .ok (.return_, 1) := by decide +kernel
set_option maxRecDepth 100000 in
theorem flPD_12 : Cond.fieldLink "PartDrawings" 12 (TPD 0).1 (TPD 0).2.1 (TPD 0).2.2.1 ∈ gW := gW_1 353 rfl rfl
set_option maxRecDepth 100000 in
theorem inPD : ∀ w ∈ u_ws RPD TPD 9, w ∈ gW := gW_l [362, 364, 366, 368, 370, 372, 374, 376, 378] rfl (by decide +kernel)
set_option maxRecDepth 100000 in
theorem flPD_70 : Cond.fieldLink "PartDrawings" 70 (TBx 2).1 (TBx 2).2.1 (TBx 2).2.2.1 ∈ gW := gW_1 97 rfl rfl
set_option maxRecDepth 100000 in
theorem kxPD_142 : ∀ a ∈ Bundle.ownAtoms "PartDrawings" 142 "java/lang/IndexOutOfBoundsException" zNames, zAtom a := zAtoms_of (by decide +kernel)
set_option maxRecDepth 100000 in
theorem ktPD_138_251_142c : inT [.classLink "PartDrawings" 138 "java/lang/IndexOutOfBoundsException", .instantiable "java/lang/IndexOutOfBoundsException" 6, .initialized "java/lang/IndexOutOfBoundsException"] := gW_l [507, 508, 67] rfl (by decide +kernel)
set_option maxRecDepth 100000 in
theorem ktPD_138_251_142s : Cond.stringRef "PartDrawings" 251 "there is no such box" ∈ lw_tbl := List.mem_of_getElem? (i := 516) rfl
set_option maxRecDepth 100000 in
theorem flPD_33 : Cond.fieldLink "PartDrawings" 33 (TPD 3).1 (TPD 3).2.1 (TPD 3).2.2.1 ∈ gW := gW_1 356 rfl rfl
set_option maxRecDepth 100000 in
theorem flPD_102 : Cond.fieldLink "PartDrawings" 102 (TSk 0).1 (TSk 0).2.1 (TSk 0).2.2.1 ∈ gW := gW_1 187 rfl rfl
set_option maxRecDepth 100000 in
theorem kxPD_78 : ∀ a ∈ Bundle.ownAtoms "PartDrawings" 78 "java/lang/IllegalStateException" zNames, zAtom a := zAtoms_of (by decide +kernel)
set_option maxRecDepth 100000 in
theorem ktPD_74_253_78c : inT [.classLink "PartDrawings" 74 "java/lang/IllegalStateException", .instantiable "java/lang/IllegalStateException" 6, .initialized "java/lang/IllegalStateException"] := gW_l [393, 394, 65] rfl (by decide +kernel)
set_option maxRecDepth 100000 in
theorem ktPD_74_253_78s : Cond.stringRef "PartDrawings" 253 "nothing is drawn" ∈ lw_tbl := List.mem_of_getElem? (i := 628) rfl
set_option maxRecDepth 100000 in
theorem kxPD_89 : ∀ a ∈ Bundle.ownAtoms "PartDrawings" 89 "java/lang/IllegalArgumentException" zNames, zAtom a := zAtoms_of (by decide +kernel)
set_option maxRecDepth 100000 in
theorem ktPD_85_255_89c : inT [.classLink "PartDrawings" 85 "java/lang/IllegalArgumentException", .instantiable "java/lang/IllegalArgumentException" 6, .initialized "java/lang/IllegalArgumentException"] := gW_l [467, 468, 66] rfl (by decide +kernel)
set_option maxRecDepth 100000 in
theorem ktPD_85_255_89s : Cond.stringRef "PartDrawings" 255 "there is no such axis" ∈ lw_tbl := List.mem_of_getElem? (i := 672) rfl
set_option maxRecDepth 100000 in
theorem ktPD_85_257_89c : inT [.classLink "PartDrawings" 85 "java/lang/IllegalArgumentException", .instantiable "java/lang/IllegalArgumentException" 6, .initialized "java/lang/IllegalArgumentException"] := gW_l [467, 468, 66] rfl (by decide +kernel)
set_option maxRecDepth 100000 in
theorem ktPD_85_257_89s : Cond.stringRef "PartDrawings" 257 "there is no such view" ∈ lw_tbl := List.mem_of_getElem? (i := 547) rfl
set_option maxRecDepth 100000 in
theorem kcPD_259 : Cond.constantLong "PartDrawings" 259 (zL (-1000000)) ∈ gW := by
  have e : zL (-1000000) = (-1000000 : Int64) := by decide
  rw [e]; exact gW_1 465 rfl rfl
set_option maxRecDepth 100000 in
theorem kcPD_261 : Cond.constantLong "PartDrawings" 261 (zL 1000000) ∈ gW := by
  have e : zL 1000000 = (1000000 : Int64) := by decide
  rw [e]; exact gW_1 466 rfl rfl
set_option maxHeartbeats 4000000 in
set_option maxRecDepth 100000 in
theorem c_PartDrawings_needBox (l : Launch) (D : va_G) (cI cG cL cB : ClassId) (x0 : Nat) (b0 : Nat) (r0 : Nat) (tr0 : Nat) (dh : Nat) (kh : Nat) (me0 : Nat) (cl0 : Nat) (pg0 : Nat) (la0 : Nat) (hp : Nat) (hs : Nat) (bn : Int) (k : Int) (hIk : I32 k) (hIbn : I32 bn) (h0 : 0 ≤ k) (h1 : k < bn) : Cv l yPD_needBox cPD_needBox 2 none 0 0 0 D zCl (zT cI cG cL cB) [.ref x0, .int (zI k)] [(x0, .inr (9, [.ref b0, .ref r0, .ref tr0, .ref dh, .ref kh, .ref me0, .ref cl0, .ref pg0, .ref la0])), (b0, .inr (0, [.ref hp, .ref hs, .int (zI bn)]))] (fun w => w = [(x0, .inr (9, [.ref b0, .ref r0, .ref tr0, .ref dh, .ref kh, .ref me0, .ref cl0, .ref pg0, .ref la0])), (b0, .inr (0, [.ref hp, .ref hs, .int (zI bn)]))]) := by
  refine zBv (by decide) (Nat.le_of_ble_eq_true rfl) ?_
  intro p e s m args below meth c ls A H locs Q C hin hl hW hQ
  have hl : lv_has ls 2 [(0, .ref x0), (1, .int (zI k))] := hl
  refine lv_iload_n C.1 C.2.1 dPD_needBox_0 rfl (lv_at hl 1 rfl) ?_
  refine zif_lt (tgt := 15) C (by omega) dPD_needBox_1 (by decide) (fun c1 => ?_) (fun c1 => ?_)
  · exact False.elim (by omega)
  · refine lv_iload_n C.1 C.2.1 dPD_needBox_4 rfl (lv_at hl 1 rfl) ?_
    refine lv_aload_n C.1 C.2.1 dPD_needBox_5 rfl (lv_at hl 0 rfl) ?_
    refine zget C hW 0 0 rfl rfl inPD (by decide) flPD_12 rfl dPD_needBox_6 ?_
    refine zget C hW 1 2 rfl rfl inBx (by decide) flPD_70 rfl dPD_needBox_9 ?_
    refine zicmp_lt (tgt := 25) C (by omega) (by omega) dPD_needBox_12 (by decide) (fun c12 => ?_) (fun c12 => ?_)
    · exact hQ _ H locs _ _ _ ls hW rfl (by omega) (by omega) dPD_needBox_25
    · exact False.elim (by omega)
set_option maxHeartbeats 4000000 in
set_option maxRecDepth 100000 in
theorem c_PartDrawings_needBox_T (l : Launch) (D : va_G) (cI cG cL cB : ClassId) (x0 : Nat) (b0 : Nat) (r0 : Nat) (tr0 : Nat) (dh : Nat) (kh : Nat) (me0 : Nat) (cl0 : Nat) (pg0 : Nat) (la0 : Nat) (hp : Nat) (hs : Nat) (bn : Int) (k : Int) (hlt : l.stackTraces = false) (hIk : I32 k) (hIbn : I32 bn) (hb : ¬ (0 ≤ k ∧ k < bn)) : Ct l yPD_needBox cPD_needBox 2 none 6 1 6 D zCl (zT cI cG cL cB) [.ref x0, .int (zI k)] [(x0, .inr (9, [.ref b0, .ref r0, .ref tr0, .ref dh, .ref kh, .ref me0, .ref cl0, .ref pg0, .ref la0])), (b0, .inr (0, [.ref hp, .ref hs, .int (zI bn)]))] "java/lang/IndexOutOfBoundsException" (fun w => w = [(x0, .inr (9, [.ref b0, .ref r0, .ref tr0, .ref dh, .ref kh, .ref me0, .ref cl0, .ref pg0, .ref la0])), (b0, .inr (0, [.ref hp, .ref hs, .int (zI bn)]))]) := by
  refine zBt (by decide) (Nat.le_of_ble_eq_true rfl) ?_
  intro p e s m args below meth c ls A H locs Q C hx hl hW hQ
  have hl : lv_has ls 2 [(0, .ref x0), (1, .int (zI k))] := hl
  refine lv_iload_n C.1 C.2.1 dPD_needBox_0 rfl (lv_at hl 1 rfl) ?_
  refine zif_lt (tgt := 15) C (by omega) dPD_needBox_1 (by decide) (fun c1 => ?_) (fun c1 => ?_)
  · exact zthrow C hW hx hlt hl.1 (by decide +kernel) (by decide +kernel) ktPD_138_251_142c kxPD_142 ktPD_138_251_142s hQ rfl (by omega) (by omega) (by decide) (by decide) (by decide) (Nat.le_of_ble_eq_true rfl) dPD_needBox_15 dPD_needBox_18 dPD_needBox_19 dPD_needBox_21 dPD_needBox_24
  · refine lv_iload_n C.1 C.2.1 dPD_needBox_4 rfl (lv_at hl 1 rfl) ?_
    refine lv_aload_n C.1 C.2.1 dPD_needBox_5 rfl (lv_at hl 0 rfl) ?_
    refine zget C hW 0 0 rfl rfl inPD (by decide) flPD_12 rfl dPD_needBox_6 ?_
    refine zget C hW 1 2 rfl rfl inBx (by decide) flPD_70 rfl dPD_needBox_9 ?_
    refine zicmp_lt (tgt := 25) C (by omega) (by omega) dPD_needBox_12 (by decide) (fun c12 => ?_) (fun c12 => ?_)
    · exact False.elim (by omega)
    · exact zthrow C hW hx hlt hl.1 (by decide +kernel) (by decide +kernel) ktPD_138_251_142c kxPD_142 ktPD_138_251_142s hQ rfl (by omega) (by omega) (by decide) (by decide) (by decide) (Nat.le_of_ble_eq_true rfl) dPD_needBox_15 dPD_needBox_18 dPD_needBox_19 dPD_needBox_21 dPD_needBox_24
set_option maxHeartbeats 4000000 in
set_option maxRecDepth 100000 in
theorem c_PartDrawings_needDrawn (l : Launch) (D : va_G) (cI cG cL cB : ClassId) (x0 : Nat) (b0 : Nat) (r0 : Nat) (tr0 : Nat) (dh : Nat) (kh : Nat) (me0 : Nat) (cl0 : Nat) (pg0 : Nat) (la0 : Nat) (d1 : Nat) (d2 : Nat) (d3 : Nat) (d4 : Nat) (dth : Int) (dn : Int) (dac : Int) (hd : dth = 1) : Cv l yPD_needDrawn cPD_needDrawn 1 none 0 0 0 D zCl (zT cI cG cL cB) [.ref x0] [(x0, .inr (9, [.ref b0, .ref r0, .ref tr0, .ref dh, .ref kh, .ref me0, .ref cl0, .ref pg0, .ref la0])), (dh, .inr (7, [.int (zI dth), .int (zI dn), .int (zI dac), .ref d1, .ref d2, .ref d3, .ref d4]))] (fun w => w = [(x0, .inr (9, [.ref b0, .ref r0, .ref tr0, .ref dh, .ref kh, .ref me0, .ref cl0, .ref pg0, .ref la0])), (dh, .inr (7, [.int (zI dth), .int (zI dn), .int (zI dac), .ref d1, .ref d2, .ref d3, .ref d4]))]) := by
  refine zBv (by decide) (Nat.le_of_ble_eq_true rfl) ?_
  intro p e s m args below meth c ls A H locs Q C hin hl hW hQ
  have hl : lv_has ls 1 [(0, .ref x0)] := hl
  refine lv_aload_n C.1 C.2.1 dPD_needDrawn_0 rfl (lv_at hl 0 rfl) ?_
  refine zget C hW 0 3 rfl rfl inPD (by decide) flPD_33 rfl dPD_needDrawn_1 ?_
  refine zget C hW 1 0 rfl rfl inSk (by decide) flPD_102 rfl dPD_needDrawn_4 ?_
  refine zif_ne (tgt := 20) C (by omega) dPD_needDrawn_7 (by decide) (fun c7 => ?_) (fun c7 => ?_)
  · exact hQ _ H locs _ _ _ ls hW rfl (by omega) (by omega) dPD_needDrawn_20
  · exact False.elim (by omega)
set_option maxHeartbeats 4000000 in
set_option maxRecDepth 100000 in
theorem c_PartDrawings_needDrawn_T (l : Launch) (D : va_G) (cI cG cL cB : ClassId) (x0 : Nat) (b0 : Nat) (r0 : Nat) (tr0 : Nat) (dh : Nat) (kh : Nat) (me0 : Nat) (cl0 : Nat) (pg0 : Nat) (la0 : Nat) (d1 : Nat) (d2 : Nat) (d3 : Nat) (d4 : Nat) (dth : Int) (dn : Int) (dac : Int) (hlt : l.stackTraces = false) (hd : dth = 0) : Ct l yPD_needDrawn cPD_needDrawn 1 none 6 1 6 D zCl (zT cI cG cL cB) [.ref x0] [(x0, .inr (9, [.ref b0, .ref r0, .ref tr0, .ref dh, .ref kh, .ref me0, .ref cl0, .ref pg0, .ref la0])), (dh, .inr (7, [.int (zI dth), .int (zI dn), .int (zI dac), .ref d1, .ref d2, .ref d3, .ref d4]))] "java/lang/IllegalStateException" (fun w => w = [(x0, .inr (9, [.ref b0, .ref r0, .ref tr0, .ref dh, .ref kh, .ref me0, .ref cl0, .ref pg0, .ref la0])), (dh, .inr (7, [.int (zI dth), .int (zI dn), .int (zI dac), .ref d1, .ref d2, .ref d3, .ref d4]))]) := by
  refine zBt (by decide) (Nat.le_of_ble_eq_true rfl) ?_
  intro p e s m args below meth c ls A H locs Q C hx hl hW hQ
  have hl : lv_has ls 1 [(0, .ref x0)] := hl
  refine lv_aload_n C.1 C.2.1 dPD_needDrawn_0 rfl (lv_at hl 0 rfl) ?_
  refine zget C hW 0 3 rfl rfl inPD (by decide) flPD_33 rfl dPD_needDrawn_1 ?_
  refine zget C hW 1 0 rfl rfl inSk (by decide) flPD_102 rfl dPD_needDrawn_4 ?_
  refine zif_ne (tgt := 20) C (by omega) dPD_needDrawn_7 (by decide) (fun c7 => ?_) (fun c7 => ?_)
  · exact False.elim (by omega)
  · exact zthrow C hW hx hlt hl.1 (by decide +kernel) (by decide +kernel) ktPD_74_253_78c kxPD_78 ktPD_74_253_78s hQ rfl (by omega) (by omega) (by decide) (by decide) (by decide) (Nat.le_of_ble_eq_true rfl) dPD_needDrawn_10 dPD_needDrawn_13 dPD_needDrawn_14 dPD_needDrawn_16 dPD_needDrawn_19
set_option maxHeartbeats 4000000 in
set_option maxRecDepth 100000 in
theorem c_PartDrawings_needAxis (l : Launch) (D : va_G) (cI cG cL cB : ClassId) (ax : Int) (hIax : I32 ax) (h0 : 0 ≤ ax) (h1 : ax < 3) : Cv l yPD_needAxis cPD_needAxis 1 none 0 0 0 D zCl (zT cI cG cL cB) [.int (zI ax)] [] (fun w => w = []) := by
  refine zBv (by decide) (Nat.le_of_ble_eq_true rfl) ?_
  intro p e s m args below meth c ls A H locs Q C hin hl hW hQ
  have hl : lv_has ls 1 [(0, .int (zI ax))] := hl
  refine lv_iload_n C.1 C.2.1 dPD_needAxis_0 rfl (lv_at hl 0 rfl) ?_
  refine zif_lt (tgt := 9) C (by omega) dPD_needAxis_1 (by decide) (fun c1 => ?_) (fun c1 => ?_)
  · exact False.elim (by omega)
  · refine lv_iload_n C.1 C.2.1 dPD_needAxis_4 rfl (lv_at hl 0 rfl) ?_
    refine lv_iconst (v := zI 3) C.1 C.2.1 dPD_needAxis_5 (by decide) ?_
    refine zicmp_lt (tgt := 19) C (by omega) (by omega) dPD_needAxis_6 (by decide) (fun c6 => ?_) (fun c6 => ?_)
    · exact hQ _ H locs _ _ _ ls hW rfl (by omega) (by omega) dPD_needAxis_19
    · exact False.elim (by omega)
set_option maxHeartbeats 4000000 in
set_option maxRecDepth 100000 in
theorem c_PartDrawings_needAxis_T (l : Launch) (D : va_G) (cI cG cL cB : ClassId) (ax : Int) (hlt : l.stackTraces = false) (hIax : I32 ax) (hb : ¬ (0 ≤ ax ∧ ax < 3)) : Ct l yPD_needAxis cPD_needAxis 1 none 6 1 6 D zCl (zT cI cG cL cB) [.int (zI ax)] [] "java/lang/IllegalArgumentException" (fun w => w = []) := by
  refine zBt (by decide) (Nat.le_of_ble_eq_true rfl) ?_
  intro p e s m args below meth c ls A H locs Q C hx hl hW hQ
  have hl : lv_has ls 1 [(0, .int (zI ax))] := hl
  refine lv_iload_n C.1 C.2.1 dPD_needAxis_0 rfl (lv_at hl 0 rfl) ?_
  refine zif_lt (tgt := 9) C (by omega) dPD_needAxis_1 (by decide) (fun c1 => ?_) (fun c1 => ?_)
  · exact zthrow C hW hx hlt hl.1 (by decide +kernel) (by decide +kernel) ktPD_85_255_89c kxPD_89 ktPD_85_255_89s hQ rfl (by omega) (by omega) (by decide) (by decide) (by decide) (Nat.le_of_ble_eq_true rfl) dPD_needAxis_9 dPD_needAxis_12 dPD_needAxis_13 dPD_needAxis_15 dPD_needAxis_18
  · refine lv_iload_n C.1 C.2.1 dPD_needAxis_4 rfl (lv_at hl 0 rfl) ?_
    refine lv_iconst (v := zI 3) C.1 C.2.1 dPD_needAxis_5 (by decide) ?_
    refine zicmp_lt (tgt := 19) C (by omega) (by omega) dPD_needAxis_6 (by decide) (fun c6 => ?_) (fun c6 => ?_)
    · exact False.elim (by omega)
    · exact zthrow C hW hx hlt hl.1 (by decide +kernel) (by decide +kernel) ktPD_85_255_89c kxPD_89 ktPD_85_255_89s hQ rfl (by omega) (by omega) (by decide) (by decide) (by decide) (Nat.le_of_ble_eq_true rfl) dPD_needAxis_9 dPD_needAxis_12 dPD_needAxis_13 dPD_needAxis_15 dPD_needAxis_18
set_option maxHeartbeats 4000000 in
set_option maxRecDepth 100000 in
theorem c_PartDrawings_needView (l : Launch) (D : va_G) (cI cG cL cB : ClassId) (vw : Int) (hIvw : I32 vw) (h0 : 0 ≤ vw) (h1 : vw < 6) : Cv l yPD_needView cPD_needView 1 none 0 0 0 D zCl (zT cI cG cL cB) [.int (zI vw)] [] (fun w => w = []) := by
  refine zBv (by decide) (Nat.le_of_ble_eq_true rfl) ?_
  intro p e s m args below meth c ls A H locs Q C hin hl hW hQ
  have hl : lv_has ls 1 [(0, .int (zI vw))] := hl
  refine lv_iload_n C.1 C.2.1 dPD_needView_0 rfl (lv_at hl 0 rfl) ?_
  refine zif_lt (tgt := 10) C (by omega) dPD_needView_1 (by decide) (fun c1 => ?_) (fun c1 => ?_)
  · exact False.elim (by omega)
  · refine lv_iload_n C.1 C.2.1 dPD_needView_4 rfl (lv_at hl 0 rfl) ?_
    refine lv_bipush (v := zI 6) C.1 C.2.1 dPD_needView_5 (by decide) ?_
    refine zicmp_lt (tgt := 21) C (by omega) (by omega) dPD_needView_7 (by decide) (fun c7 => ?_) (fun c7 => ?_)
    · exact hQ _ H locs _ _ _ ls hW rfl (by omega) (by omega) dPD_needView_21
    · exact False.elim (by omega)
set_option maxHeartbeats 4000000 in
set_option maxRecDepth 100000 in
theorem c_PartDrawings_needView_T (l : Launch) (D : va_G) (cI cG cL cB : ClassId) (vw : Int) (hlt : l.stackTraces = false) (hIvw : I32 vw) (hb : ¬ (0 ≤ vw ∧ vw < 6)) : Ct l yPD_needView cPD_needView 1 none 6 1 6 D zCl (zT cI cG cL cB) [.int (zI vw)] [] "java/lang/IllegalArgumentException" (fun w => w = []) := by
  refine zBt (by decide) (Nat.le_of_ble_eq_true rfl) ?_
  intro p e s m args below meth c ls A H locs Q C hx hl hW hQ
  have hl : lv_has ls 1 [(0, .int (zI vw))] := hl
  refine lv_iload_n C.1 C.2.1 dPD_needView_0 rfl (lv_at hl 0 rfl) ?_
  refine zif_lt (tgt := 10) C (by omega) dPD_needView_1 (by decide) (fun c1 => ?_) (fun c1 => ?_)
  · exact zthroww C hW hx hlt hl.1 (by decide +kernel) (by decide +kernel) ktPD_85_257_89c kxPD_89 ktPD_85_257_89s hQ rfl (by omega) (by omega) (by decide) (by decide) (by decide) (Nat.le_of_ble_eq_true rfl) dPD_needView_10 dPD_needView_13 dPD_needView_14 dPD_needView_17 dPD_needView_20
  · refine lv_iload_n C.1 C.2.1 dPD_needView_4 rfl (lv_at hl 0 rfl) ?_
    refine lv_bipush (v := zI 6) C.1 C.2.1 dPD_needView_5 (by decide) ?_
    refine zicmp_lt (tgt := 21) C (by omega) (by omega) dPD_needView_7 (by decide) (fun c7 => ?_) (fun c7 => ?_)
    · exact False.elim (by omega)
    · exact zthroww C hW hx hlt hl.1 (by decide +kernel) (by decide +kernel) ktPD_85_257_89c kxPD_89 ktPD_85_257_89s hQ rfl (by omega) (by omega) (by decide) (by decide) (by decide) (Nat.le_of_ble_eq_true rfl) dPD_needView_10 dPD_needView_13 dPD_needView_14 dPD_needView_17 dPD_needView_20
set_option maxHeartbeats 4000000 in
set_option maxRecDepth 100000 in
theorem c_PartDrawings_isPlace (l : Launch) (D : va_G) (cI cG cL cB : ClassId) (v : Int) (hJv : I64 v) : Ci l yPD_isPlace cPD_isPlace 2 (some .boolean) 0 0 0 D zCl (zT cI cG cL cB) [.long (zL v)] [] (fun x w => x = zI (bz (inR v (-1000000) 1000000)) ∧ w = []) := by
  refine zBz (by decide) (Nat.le_of_ble_eq_true rfl) ?_
  intro p e s m args below meth c ls A H locs Q C hin hl hW hQ
  have hl : lv_has ls 2 [(0, .long (zL v))] := hl
  refine lv_lload_n C.1 C.2.1 dPD_isPlace_0 rfl (lv_at hl 0 rfl) ?_
  refine zldc2 C kcPD_259 dPD_isPlace_1 ?_
  refine zlcmp_lt (tgt := 20) C (by omega) (by omega) dPD_isPlace_4 dPD_isPlace_5 (by decide) (fun c4 => ?_) (fun c4 => ?_)
  · refine lv_iconst (v := zI 0) C.1 C.2.1 dPD_isPlace_20 (by decide) ?_
    exact hQ (zI 0) _ H locs _ _ _ ls hW (by decide) ⟨congrArg zI (by unfold inR; exact bzd (fun h => by omega) (fun h => by omega)), rfl⟩ (by omega) (by omega) dPD_isPlace_21
  · refine lv_lload_n C.1 C.2.1 dPD_isPlace_8 rfl (lv_at hl 0 rfl) ?_
    refine zldc2 C kcPD_261 dPD_isPlace_9 ?_
    refine zlcmp_gt (tgt := 20) C (by omega) (by omega) dPD_isPlace_12 dPD_isPlace_13 (by decide) (fun c12 => ?_) (fun c12 => ?_)
    · refine lv_iconst (v := zI 0) C.1 C.2.1 dPD_isPlace_20 (by decide) ?_
      exact hQ (zI 0) _ H locs _ _ _ ls hW (by decide) ⟨congrArg zI (by unfold inR; exact bzd (fun h => by omega) (fun h => by omega)), rfl⟩ (by omega) (by omega) dPD_isPlace_21
    · refine lv_iconst (v := zI 1) C.1 C.2.1 dPD_isPlace_16 (by decide) ?_
      refine lv_goto (tgt := 21) C.1 C.2.1 dPD_isPlace_17 (by decide) ?_
      exact hQ (zI 1) _ H locs _ _ _ ls hW (by decide) ⟨congrArg zI (by unfold inR; exact bzd (fun h => by omega) (fun h => by omega)), rfl⟩ (by omega) (by omega) dPD_isPlace_21
set_option maxHeartbeats 4000000 in
set_option maxRecDepth 100000 in
theorem c_PartDrawings_isSize (l : Launch) (D : va_G) (cI cG cL cB : ClassId) (v : Int) (hJv : I64 v) : Ci l yPD_isSize cPD_isSize 2 (some .boolean) 0 0 0 D zCl (zT cI cG cL cB) [.long (zL v)] [] (fun x w => x = zI (bz (inR v 1 1000000)) ∧ w = []) := by
  refine zBz (by decide) (Nat.le_of_ble_eq_true rfl) ?_
  intro p e s m args below meth c ls A H locs Q C hin hl hW hQ
  have hl : lv_has ls 2 [(0, .long (zL v))] := hl
  refine lv_lload_n C.1 C.2.1 dPD_isSize_0 rfl (lv_at hl 0 rfl) ?_
  refine lv_lconst (v := zL 1) C.1 C.2.1 dPD_isSize_1 (by decide) ?_
  refine zlcmp_lt (tgt := 18) C (by omega) (by omega) dPD_isSize_2 dPD_isSize_3 (by decide) (fun c2 => ?_) (fun c2 => ?_)
  · refine lv_iconst (v := zI 0) C.1 C.2.1 dPD_isSize_18 (by decide) ?_
    exact hQ (zI 0) _ H locs _ _ _ ls hW (by decide) ⟨congrArg zI (by unfold inR; exact bzd (fun h => by omega) (fun h => by omega)), rfl⟩ (by omega) (by omega) dPD_isSize_19
  · refine lv_lload_n C.1 C.2.1 dPD_isSize_6 rfl (lv_at hl 0 rfl) ?_
    refine zldc2 C kcPD_261 dPD_isSize_7 ?_
    refine zlcmp_gt (tgt := 18) C (by omega) (by omega) dPD_isSize_10 dPD_isSize_11 (by decide) (fun c10 => ?_) (fun c10 => ?_)
    · refine lv_iconst (v := zI 0) C.1 C.2.1 dPD_isSize_18 (by decide) ?_
      exact hQ (zI 0) _ H locs _ _ _ ls hW (by decide) ⟨congrArg zI (by unfold inR; exact bzd (fun h => by omega) (fun h => by omega)), rfl⟩ (by omega) (by omega) dPD_isSize_19
    · refine lv_iconst (v := zI 1) C.1 C.2.1 dPD_isSize_14 (by decide) ?_
      refine lv_goto (tgt := 19) C.1 C.2.1 dPD_isSize_15 (by decide) ?_
      exact hQ (zI 1) _ H locs _ _ _ ls hW (by decide) ⟨congrArg zI (by unfold inR; exact bzd (fun h => by omega) (fun h => by omega)), rfl⟩ (by omega) (by omega) dPD_isSize_19

theorem dPD_page_0 : decode cPD_page 0 = .ok (.aload_n 0, 1) := by decide +kernel
theorem dPD_page_1 : decode cPD_page 1 = .ok (.invokevirtual 135, 3) := by decide +kernel
theorem dPD_page_4 : decode cPD_page 4 = .ok (.aload_n 0, 1) := by decide +kernel
theorem dPD_page_5 : decode cPD_page 5 = .ok (.getfield 59, 3) := by decide +kernel
theorem dPD_page_8 : decode cPD_page 8 = .ok (.aload_n 0, 1) := by decide +kernel
theorem dPD_page_9 : decode cPD_page 9 = .ok (.getfield 33, 3) := by decide +kernel
theorem dPD_page_12 : decode cPD_page 12 = .ok (.invokevirtual 205, 3) := by decide +kernel
theorem dPD_page_15 : decode cPD_page 15 = .ok (.iload_n 1, 1) := by decide +kernel
theorem dPD_page_16 : decode cPD_page 16 = .ok (.iconst (-1), 1) := by decide +kernel
theorem dPD_page_17 : decode cPD_page 17 = .ok (.if_icmp .eq 30, 3) := by decide +kernel
theorem dPD_page_20 : decode cPD_page 20 = .ok (.iload_n 1, 1) := by decide +kernel
theorem dPD_page_21 : decode cPD_page 21 = .ok (.ifCond .lt 16, 3) := by decide +kernel
theorem dPD_page_24 : decode cPD_page 24 = .ok (.iload_n 1, 1) := by decide +kernel
theorem dPD_page_25 : decode cPD_page 25 = .ok (.i2l, 1) := by decide +kernel
theorem dPD_page_26 : decode cPD_page 26 = .ok (.aload_n 0, 1) := by decide +kernel
theorem dPD_page_27 : decode cPD_page 27 = .ok (.getfield 59, 3) := by decide +kernel
theorem dPD_page_30 : decode cPD_page 30 = .ok (.invokevirtual 209, 3) := by decide +kernel
theorem dPD_page_33 : decode cPD_page 33 = .ok (.lcmp, 1) := by decide +kernel
theorem dPD_page_34 : decode cPD_page 34 = .ok (.ifCond .lt 13, 3) := by decide +kernel
theorem dPD_page_37 : decode cPD_page 37 = .ok (.new 138, 3) := by decide +kernel
theorem dPD_page_40 : decode cPD_page 40 = .ok (.dup, 1) := by decide +kernel
theorem dPD_page_41 : decode cPD_page 41 = .ok (.ldc 211, 2) := by decide +kernel
theorem dPD_page_43 : decode cPD_page 43 = .ok (.invokespecial 142, 3) := by decide +kernel
theorem dPD_page_46 : decode cPD_page 46 = .ok (.athrow, 1) := by decide +kernel
theorem dPD_page_47 : decode cPD_page 47 = .ok (.iload_n 2, 1) := by decide +kernel
theorem dPD_page_48 : decode cPD_page 48 = .ok (.ifCond .lt 8, 3) := by decide +kernel
theorem dPD_page_51 : decode cPD_page 51 = .ok (.iload_n 2, 1) := by decide +kernel
theorem dPD_page_52 : decode cPD_page 52 = .ok (.iconst 1, 1) := by decide +kernel
theorem dPD_page_53 : decode cPD_page 53 = .ok (.if_icmp .le 13, 3) := by decide +kernel
theorem dPD_page_56 : decode cPD_page 56 = .ok (.new 85, 3) := by decide +kernel
theorem dPD_page_59 : decode cPD_page 59 = .ok (.dup, 1) := by decide +kernel
theorem dPD_page_60 : decode cPD_page 60 = .ok (.ldc 213, 2) := by decide +kernel
theorem dPD_page_62 : decode cPD_page 62 = .ok (.invokespecial 89, 3) := by decide +kernel
theorem dPD_page_65 : decode cPD_page 65 = .ok (.athrow, 1) := by decide +kernel
theorem dPD_page_66 : decode cPD_page 66 = .ok (.iload_n 1, 1) := by decide +kernel
theorem dPD_page_67 : decode cPD_page 67 = .ok (.iconst (-1), 1) := by decide +kernel
theorem dPD_page_68 : decode cPD_page 68 = .ok (.if_icmp .ne 18, 3) := by decide +kernel
theorem dPD_page_71 : decode cPD_page 71 = .ok (.aload_n 0, 1) := by decide +kernel
theorem dPD_page_72 : decode cPD_page 72 = .ok (.getfield 59, 3) := by decide +kernel
theorem dPD_page_75 : decode cPD_page 75 = .ok (.invokevirtual 209, 3) := by decide +kernel
theorem dPD_page_78 : decode cPD_page 78 = .ok (.ldc2_w 215, 3) := by decide +kernel
theorem dPD_page_81 : decode cPD_page 81 = .ok (.invokestatic 217, 3) := by decide +kernel
theorem dPD_page_84 : decode cPD_page 84 = .ok (.l2i, 1) := by decide +kernel
theorem dPD_page_85 : decode cPD_page 85 = .ok (.ireturn, 1) := by decide +kernel
theorem dPD_page_86 : decode cPD_page 86 = .ok (.aload_n 0, 1) := by decide +kernel
theorem dPD_page_87 : decode cPD_page 87 = .ok (.getfield 59, 3) := by decide +kernel
theorem dPD_page_90 : decode cPD_page 90 = .ok (.iload_n 1, 1) := by decide +kernel
theorem dPD_page_91 : decode cPD_page 91 = .ok (.invokevirtual 220, 3) := by decide +kernel
theorem dPD_page_94 : decode cPD_page 94 = .ok (.iload_n 2, 1) := by decide +kernel
theorem dPD_page_95 : decode cPD_page 95 = .ok (.ifCond .ne 17, 3) := by decide +kernel
theorem dPD_page_98 : decode cPD_page 98 = .ok (.aload_n 0, 1) := by decide +kernel
theorem dPD_page_99 : decode cPD_page 99 = .ok (.getfield 59, 3) := by decide +kernel
theorem dPD_page_102 : decode cPD_page 102 = .ok (.aload_n 0, 1) := by decide +kernel
theorem dPD_page_103 : decode cPD_page 103 = .ok (.getfield 33, 3) := by decide +kernel
theorem dPD_page_106 : decode cPD_page 106 = .ok (.invokevirtual 223, 3) := by decide +kernel
theorem dPD_page_109 : decode cPD_page 109 = .ok (.goto 14, 3) := by decide +kernel
theorem dPD_page_112 : decode cPD_page 112 = .ok (.aload_n 0, 1) := by decide +kernel
theorem dPD_page_113 : decode cPD_page 113 = .ok (.getfield 59, 3) := by decide +kernel
theorem dPD_page_116 : decode cPD_page 116 = .ok (.aload_n 0, 1) := by decide +kernel
theorem dPD_page_117 : decode cPD_page 117 = .ok (.getfield 33, 3) := by decide +kernel
theorem dPD_page_120 : decode cPD_page 120 = .ok (.invokevirtual 227, 3) := by decide +kernel
theorem dPD_page_123 : decode cPD_page 123 = .ok (.ireturn, 1) := by decide +kernel
set_option maxRecDepth 100000 in
theorem flPD_59 : Cond.fieldLink "PartDrawings" 59 (TPD 7).1 (TPD 7).2.1 (TPD 7).2.2.1 ∈ gW := gW_1 360 rfl rfl
set_option maxRecDepth 100000 in
theorem kPD_205 : inT (kV "PartDrawings" 205 yPg_layOver cPg_layOver 2 none) := gW_l [784, 785, 786, 54, 787] rfl (by decide +kernel)
set_option maxRecDepth 100000 in
theorem kPD_209 : inT (kV "PartDrawings" 209 yPg_count cPg_count 1 (some .long)) := gW_l [814, 815, 816, 54, 817] rfl (by decide +kernel)
set_option maxRecDepth 100000 in
theorem kcPD_215 : Cond.constantLong "PartDrawings" 215 (zL 2147483647) ∈ gW := by
  have e : zL 2147483647 = (2147483647 : Int64) := by decide
  rw [e]; exact gW_1 820 rfl rfl
set_option maxRecDepth 100000 in
theorem kmPD_217 : inT (kMinL "PartDrawings" 217) := gW_l [821, 822, 55, 823] rfl (by decide +kernel)
set_option maxRecDepth 100000 in
theorem kPD_220 : inT (kV "PartDrawings" 220 yPg_turnTo cPg_turnTo 6 none) := gW_l [824, 825, 826, 54, 827] rfl (by decide +kernel)
set_option maxRecDepth 100000 in
theorem kPD_223 : inT (kV "PartDrawings" 223 yPg_strokesOn cPg_strokesOn 5 (some .int)) := gW_l [828, 829, 830, 54, 831] rfl (by decide +kernel)
set_option maxRecDepth 100000 in
theorem kPD_227 : inT (kV "PartDrawings" 227 yPg_marks cPg_marks 4 (some .int)) := gW_l [839, 840, 841, 54, 842] rfl (by decide +kernel)
set_option maxRecDepth 100000 in
theorem ktPD_138_211_142c : inT [.classLink "PartDrawings" 138 "java/lang/IndexOutOfBoundsException", .instantiable "java/lang/IndexOutOfBoundsException" 6, .initialized "java/lang/IndexOutOfBoundsException"] := gW_l [507, 508, 67] rfl (by decide +kernel)
set_option maxRecDepth 100000 in
theorem ktPD_138_211_142s : Cond.stringRef "PartDrawings" 211 "there is no such page" ∈ lw_tbl := List.mem_of_getElem? (i := 818) rfl
set_option maxRecDepth 100000 in
theorem ktPD_85_213_89c : inT [.classLink "PartDrawings" 85 "java/lang/IllegalArgumentException", .instantiable "java/lang/IllegalArgumentException" 6, .initialized "java/lang/IllegalArgumentException"] := gW_l [467, 468, 66] rfl (by decide +kernel)
set_option maxRecDepth 100000 in
theorem ktPD_85_213_89s : Cond.stringRef "PartDrawings" 213 "a page has but strokes and marks" ∈ lw_tbl := List.mem_of_getElem? (i := 819) rfl
set_option maxHeartbeats 4000000 in
set_option maxRecDepth 100000 in
theorem c_PartDrawings_page_A (l : Launch) (D : va_G) (cI cG cL cB : ClassId) (x0 : Nat) (b0 : Nat) (r0 : Nat) (tr0 : Nat) (dh : Nat) (kh : Nat) (me0 : Nat) (cl0 : Nat) (pg0 : Nat) (la0 : Nat) (d1 : Nat) (d2 : Nat) (d3 : Nat) (d4 : Nat) (dth : Int) (dn : Int) (dac : Int) (dLi : Int → Int) (dBe : Int → Int) (dEn : Int → Int) (dSt : Int → Int) (wd : Int) (hg : Int) (co : Int) (ro : Int) (oa : Int) (ou : Int) (lf : Int) (rt : Int) (lw : Int) (up_ : Int) (tp : Int) (k : Int) (wh : Int) (bdLi : ∀ j : Int, I32 (dLi j)) (bdBe : ∀ j : Int, I32 (dBe j)) (bdEn : ∀ j : Int, I32 (dEn j)) (bdSt : ∀ j : Int, I32 (dSt j)) (hn0d : 0 ≤ dn) (hn1d : dn ≤ 1200) (ha0d : 0 ≤ dac) (ha1d : dac ≤ dn) (hIk : I32 k) (hIwh : I32 wh) (hdB : bdA dn dLi dBe dEn dSt) (hwd : 1 ≤ wd ∧ wd ≤ 65536) (hhg : 1 ≤ hg ∧ hg ≤ 65536) (hdth : dth = 1) (hw : 0 ≤ wh ∧ wh ≤ 1) (hk1 : k = -1) : Ci l yPD_page cPD_page 3 (some .int) 4 0 0 D zCl (zT cI cG cL cB) [.ref x0, .int (zI k), .int (zI wh)] [(x0, .inr (9, [.ref b0, .ref r0, .ref tr0, .ref dh, .ref kh, .ref me0, .ref cl0, .ref pg0, .ref la0])), (dh, .inr (7, [.int (zI dth), .int (zI dn), .int (zI dac), .ref d1, .ref d2, .ref d3, .ref d4])), (d1, .inl (cI, 1200, .inl (fI dLi))), (d2, .inl (cI, 1200, .inl (fI dBe))), (d3, .inl (cI, 1200, .inl (fI dEn))), (d4, .inl (cI, 1200, .inl (fI dSt))), (pg0, .inr (5, [.int (zI wd), .int (zI hg), .long (zL co), .long (zL ro), .long (zL oa), .long (zL ou), .long (zL lf), .long (zL rt), .long (zL lw), .long (zL up_), .int (zI tp)]))] (fun x w => ∃ co2 : Int, ∃ ro2 : Int, ∃ oa2 : Int, ∃ ou2 : Int, (layP dac dn dLi wd hg co2 ro2 oa2 ou2) ∧ x = zI (min (co2 * ro2) 2147483647) ∧ w = [(x0, .inr (9, [.ref b0, .ref r0, .ref tr0, .ref dh, .ref kh, .ref me0, .ref cl0, .ref pg0, .ref la0])), (dh, .inr (7, [.int (zI dth), .int (zI dn), .int (zI dac), .ref d1, .ref d2, .ref d3, .ref d4])), (d1, .inl (cI, 1200, .inl (fI dLi))), (d2, .inl (cI, 1200, .inl (fI dBe))), (d3, .inl (cI, 1200, .inl (fI dEn))), (d4, .inl (cI, 1200, .inl (fI dSt))), (pg0, .inr (5, [.int (zI wd), .int (zI hg), .long (zL co2), .long (zL ro2), .long (zL oa2), .long (zL ou2), .long (zL lf), .long (zL rt), .long (zL lw), .long (zL up_), .int (zI tp)]))]) := by
  refine zBi (by decide) (Nat.le_of_ble_eq_true rfl) ?_
  intro p e s m args below meth c ls A H locs Q C hin hl hW hQ
  have hl : lv_has ls 3 [(0, .ref x0), (1, .int (zI k)), (2, .int (zI wh))] := hl
  refine lv_aload_n C.1 C.2.1 dPD_page_0 rfl (lv_at hl 0 rfl) ?_
  refine zcallv (wr := [(d1, .inl (cI, 1200, .inl (fI dLi))), (d2, .inl (cI, 1200, .inl (fI dBe))), (d3, .inl (cI, 1200, .inl (fI dEn))), (d4, .inl (cI, 1200, .inl (fI dSt))), (pg0, .inr (5, [.int (zI wd), .int (zI hg), .long (zL co), .long (zL ro), .long (zL oa), .long (zL ou), .long (zL lf), .long (zL rt), .long (zL lw), .long (zL up_), .int (zI tp)]))]) C hW [0, 1] [2, 3, 4, 5, 6] rfl rfl (by decide) (by decide) (zRunV (k := 0) (As := []) (rest := []) C hW (c_PartDrawings_needDrawn l D cI cG cL cB x0 b0 r0 tr0 dh kh me0 cl0 pg0 la0 d1 d2 d3 d4 dth dn dac (by omega) H.size) [0, 1] rfl (by decide) kPD_135 (by decide +kernel) ⟨by decide, by decide⟩ 0 rfl rfl rfl hl.1 (Nat.le_of_ble_eq_true rfl) dPD_page_1 ⟨by first | decide | omega, by first | decide | omega⟩) (fun w H locs hq hW => ?_)
  subst hq
  have hW : zw D zCl A s [(d1, .inl (cI, 1200, .inl (fI dLi))), (d2, .inl (cI, 1200, .inl (fI dBe))), (d3, .inl (cI, 1200, .inl (fI dEn))), (d4, .inl (cI, 1200, .inl (fI dSt))), (pg0, .inr (5, [.int (zI wd), .int (zI hg), .long (zL co), .long (zL ro), .long (zL oa), .long (zL ou), .long (zL lf), .long (zL rt), .long (zL lw), .long (zL up_), .int (zI tp)])), (x0, .inr (9, [.ref b0, .ref r0, .ref tr0, .ref dh, .ref kh, .ref me0, .ref cl0, .ref pg0, .ref la0])), (dh, .inr (7, [.int (zI dth), .int (zI dn), .int (zI dac), .ref d1, .ref d2, .ref d3, .ref d4]))] H locs := hW
  refine lv_aload_n C.1 C.2.1 dPD_page_4 rfl (lv_at hl 0 rfl) ?_
  refine zget C hW 5 7 rfl rfl inPD (by decide) flPD_59 rfl dPD_page_5 ?_
  refine lv_aload_n C.1 C.2.1 dPD_page_8 rfl (lv_at hl 0 rfl) ?_
  refine zget C hW 5 3 rfl rfl inPD (by decide) flPD_33 rfl dPD_page_9 ?_
  refine zcallv (wr := [(x0, .inr (9, [.ref b0, .ref r0, .ref tr0, .ref dh, .ref kh, .ref me0, .ref cl0, .ref pg0, .ref la0]))]) C hW [4, 6, 0, 1, 2, 3] [5] rfl rfl (by decide) (by decide) (zRunV (k := 1) (As := [.ref dh]) (rest := []) C hW (c_Pages_layOver l D cI cG cL cB pg0 wd hg co ro oa ou lf rt lw up_ tp dh d1 d2 d3 d4 dth dn dac dLi dBe dEn dSt bdLi bdBe bdEn bdSt (by omega) (by omega) (by omega) (by omega) (fun j a b => by have := hdB j a b; omega) hwd hhg H.size) [4, 6, 0, 1, 2, 3] rfl (by decide) kPD_205 (by decide +kernel) ⟨by decide, by decide⟩ 4 rfl rfl rfl hl.1 (Nat.le_of_ble_eq_true rfl) dPD_page_12 ⟨by first | decide | omega, by first | decide | omega⟩) (fun w H locs hq hW => ?_)
  obtain ⟨co21, ro22, oa23, ou24, hf5, rfl⟩ := hq
  have hW : zw D zCl A s [(x0, .inr (9, [.ref b0, .ref r0, .ref tr0, .ref dh, .ref kh, .ref me0, .ref cl0, .ref pg0, .ref la0])), (pg0, .inr (5, [.int (zI wd), .int (zI hg), .long (zL co21), .long (zL ro22), .long (zL oa23), .long (zL ou24), .long (zL lf), .long (zL rt), .long (zL lw), .long (zL up_), .int (zI tp)])), (dh, .inr (7, [.int (zI dth), .int (zI dn), .int (zI dac), .ref d1, .ref d2, .ref d3, .ref d4])), (d1, .inl (cI, 1200, .inl (fI dLi))), (d2, .inl (cI, 1200, .inl (fI dBe))), (d3, .inl (cI, 1200, .inl (fI dEn))), (d4, .inl (cI, 1200, .inl (fI dSt)))] H locs := hW
  have hln := lay_in hf5 (fun j a b => by have := hdB j a b; omega) hwd hhg
  have hcr := mul_in (a := co21) (b := ro22) (A := 20000000) (B := 20000000) (by omega) (by omega) (by omega) (by omega)
  refine lv_iload_n C.1 C.2.1 dPD_page_15 rfl (lv_at hl 1 rfl) ?_
  refine lv_iconst (v := zI (-1)) C.1 C.2.1 dPD_page_16 (by decide) ?_
  refine zicmp_eq (tgt := 47) C (by omega) (by omega) dPD_page_17 (by decide) (fun c17 => ?_) (fun c17 => ?_)
  · refine lv_iload_n C.1 C.2.1 dPD_page_47 rfl (lv_at hl 2 rfl) ?_
    refine zif_lt (tgt := 56) C (by omega) dPD_page_48 (by decide) (fun c48 => ?_) (fun c48 => ?_)
    · exact False.elim (by omega)
    · refine lv_iload_n C.1 C.2.1 dPD_page_51 rfl (lv_at hl 2 rfl) ?_
      refine lv_iconst (v := zI 1) C.1 C.2.1 dPD_page_52 (by decide) ?_
      refine zicmp_le (tgt := 66) C (by omega) (by omega) dPD_page_53 (by decide) (fun c53 => ?_) (fun c53 => ?_)
      · refine lv_iload_n C.1 C.2.1 dPD_page_66 rfl (lv_at hl 1 rfl) ?_
        refine lv_iconst (v := zI (-1)) C.1 C.2.1 dPD_page_67 (by decide) ?_
        refine zicmp_ne (tgt := 86) C (by omega) (by omega) dPD_page_68 (by decide) (fun c68 => ?_) (fun c68 => ?_)
        · exact False.elim (by omega)
        · refine lv_aload_n C.1 C.2.1 dPD_page_71 rfl (lv_at hl 0 rfl) ?_
          refine zget C hW 0 7 rfl rfl inPD (by decide) flPD_59 rfl dPD_page_72 ?_
          refine zcalll (wr := [(x0, .inr (9, [.ref b0, .ref r0, .ref tr0, .ref dh, .ref kh, .ref me0, .ref cl0, .ref pg0, .ref la0])), (dh, .inr (7, [.int (zI dth), .int (zI dn), .int (zI dac), .ref d1, .ref d2, .ref d3, .ref d4])), (d1, .inl (cI, 1200, .inl (fI dLi))), (d2, .inl (cI, 1200, .inl (fI dBe))), (d3, .inl (cI, 1200, .inl (fI dEn))), (d4, .inl (cI, 1200, .inl (fI dSt)))]) C hW [1] [0, 2, 3, 4, 5, 6] rfl rfl (by decide) (by decide) (zRunV (k := 0) (As := []) (rest := []) C hW (c_Pages_count l D cI cG cL cB pg0 wd hg co21 ro22 oa23 ou24 lf rt lw up_ tp  H.size) [1] rfl (by decide) kPD_209 (by decide +kernel) ⟨by decide, by decide⟩ 1 rfl rfl rfl hl.1 (Nat.le_of_ble_eq_true rfl) dPD_page_75 ⟨by first | decide | omega, by first | decide | omega⟩) (fun x w H locs hq hW => ?_)
          obtain ⟨rfl, rfl⟩ := hq
          have hW : zw D zCl A s [(x0, .inr (9, [.ref b0, .ref r0, .ref tr0, .ref dh, .ref kh, .ref me0, .ref cl0, .ref pg0, .ref la0])), (dh, .inr (7, [.int (zI dth), .int (zI dn), .int (zI dac), .ref d1, .ref d2, .ref d3, .ref d4])), (d1, .inl (cI, 1200, .inl (fI dLi))), (d2, .inl (cI, 1200, .inl (fI dBe))), (d3, .inl (cI, 1200, .inl (fI dEn))), (d4, .inl (cI, 1200, .inl (fI dSt))), (pg0, .inr (5, [.int (zI wd), .int (zI hg), .long (zL co21), .long (zL ro22), .long (zL oa23), .long (zL ou24), .long (zL lf), .long (zL rt), .long (zL lw), .long (zL up_), .int (zI tp)]))] H locs := hW
          refine zldc2 C kcPD_215 dPD_page_78 ?_
          refine zminl C kmPD_217 hl.1 (by decide) (Nat.le_of_ble_eq_true rfl) (by first | decide | omega) (by first | decide | omega) (by omega) (by omega) dPD_page_81 ?_
          refine zl2i C dPD_page_84 ?_
          exact hQ (zI (min (co21 * ro22) 2147483647)) _ H locs _ _ _ ls hW ⟨_, _, _, _, hf5, rfl, rfl⟩ (by omega) (by omega) dPD_page_85
      · exact False.elim (by omega)
  · exact False.elim (by omega)
set_option maxHeartbeats 4000000 in
set_option maxRecDepth 100000 in
theorem c_PartDrawings_page_B (l : Launch) (D : va_G) (cI cG cL cB : ClassId) (x0 : Nat) (b0 : Nat) (r0 : Nat) (tr0 : Nat) (dh : Nat) (kh : Nat) (me0 : Nat) (cl0 : Nat) (pg0 : Nat) (la0 : Nat) (d1 : Nat) (d2 : Nat) (d3 : Nat) (d4 : Nat) (dth : Int) (dn : Int) (dac : Int) (dLi : Int → Int) (dBe : Int → Int) (dEn : Int → Int) (dSt : Int → Int) (wd : Int) (hg : Int) (co : Int) (ro : Int) (oa : Int) (ou : Int) (lf : Int) (rt : Int) (lw : Int) (up_ : Int) (tp : Int) (k : Int) (wh : Int) (bdLi : ∀ j : Int, I32 (dLi j)) (bdBe : ∀ j : Int, I32 (dBe j)) (bdEn : ∀ j : Int, I32 (dEn j)) (bdSt : ∀ j : Int, I32 (dSt j)) (hn0d : 0 ≤ dn) (hn1d : dn ≤ 1200) (ha0d : 0 ≤ dac) (ha1d : dac ≤ dn) (hIk : I32 k) (hIwh : I32 wh) (hdB : bdA dn dLi dBe dEn dSt) (hwd : 1 ≤ wd ∧ wd ≤ 65536) (hhg : 1 ≤ hg ∧ hg ≤ 65536) (hdth : dth = 1) (hw : wh = 0) (hk : (∀ co3 ro3 oa3 ou3 : Int, layP dac dn dLi wd hg co3 ro3 oa3 ou3 → 0 ≤ k ∧ k < co3 * ro3)) : Ci l yPD_page cPD_page 3 (some .int) 4 0 0 D zCl (zT cI cG cL cB) [.ref x0, .int (zI k), .int (zI wh)] [(x0, .inr (9, [.ref b0, .ref r0, .ref tr0, .ref dh, .ref kh, .ref me0, .ref cl0, .ref pg0, .ref la0])), (dh, .inr (7, [.int (zI dth), .int (zI dn), .int (zI dac), .ref d1, .ref d2, .ref d3, .ref d4])), (d1, .inl (cI, 1200, .inl (fI dLi))), (d2, .inl (cI, 1200, .inl (fI dBe))), (d3, .inl (cI, 1200, .inl (fI dEn))), (d4, .inl (cI, 1200, .inl (fI dSt))), (pg0, .inr (5, [.int (zI wd), .int (zI hg), .long (zL co), .long (zL ro), .long (zL oa), .long (zL ou), .long (zL lf), .long (zL rt), .long (zL lw), .long (zL up_), .int (zI tp)]))] (fun x w => ∃ co2 : Int, ∃ ro2 : Int, ∃ oa2 : Int, ∃ ou2 : Int, (layP dac dn dLi wd hg co2 ro2 oa2 ou2) ∧ x = zI (cntZ (onPg dac dLi dBe dEn (oa2 + (k - (k.tdiv co2) * co2) * wd) (oa2 + (k - (k.tdiv co2) * co2) * wd + wd) (ou2 + (k.tdiv co2) * hg) (ou2 + (k.tdiv co2) * hg + hg)) dn) ∧ w = [(x0, .inr (9, [.ref b0, .ref r0, .ref tr0, .ref dh, .ref kh, .ref me0, .ref cl0, .ref pg0, .ref la0])), (dh, .inr (7, [.int (zI dth), .int (zI dn), .int (zI dac), .ref d1, .ref d2, .ref d3, .ref d4])), (d1, .inl (cI, 1200, .inl (fI dLi))), (d2, .inl (cI, 1200, .inl (fI dBe))), (d3, .inl (cI, 1200, .inl (fI dEn))), (d4, .inl (cI, 1200, .inl (fI dSt))), (pg0, .inr (5, [.int (zI wd), .int (zI hg), .long (zL co2), .long (zL ro2), .long (zL oa2), .long (zL ou2), .long (zL (oa2 + (k - (k.tdiv co2) * co2) * wd)), .long (zL (oa2 + (k - (k.tdiv co2) * co2) * wd + wd)), .long (zL (ou2 + (k.tdiv co2) * hg)), .long (zL (ou2 + (k.tdiv co2) * hg + hg)), .int (zI (bz (decide ((k.tdiv co2) + 1 = ro2))))]))]) := by
  refine zBi (by decide) (Nat.le_of_ble_eq_true rfl) ?_
  intro p e s m args below meth c ls A H locs Q C hin hl hW hQ
  have hl : lv_has ls 3 [(0, .ref x0), (1, .int (zI k)), (2, .int (zI wh))] := hl
  refine lv_aload_n C.1 C.2.1 dPD_page_0 rfl (lv_at hl 0 rfl) ?_
  refine zcallv (wr := [(d1, .inl (cI, 1200, .inl (fI dLi))), (d2, .inl (cI, 1200, .inl (fI dBe))), (d3, .inl (cI, 1200, .inl (fI dEn))), (d4, .inl (cI, 1200, .inl (fI dSt))), (pg0, .inr (5, [.int (zI wd), .int (zI hg), .long (zL co), .long (zL ro), .long (zL oa), .long (zL ou), .long (zL lf), .long (zL rt), .long (zL lw), .long (zL up_), .int (zI tp)]))]) C hW [0, 1] [2, 3, 4, 5, 6] rfl rfl (by decide) (by decide) (zRunV (k := 0) (As := []) (rest := []) C hW (c_PartDrawings_needDrawn l D cI cG cL cB x0 b0 r0 tr0 dh kh me0 cl0 pg0 la0 d1 d2 d3 d4 dth dn dac (by omega) H.size) [0, 1] rfl (by decide) kPD_135 (by decide +kernel) ⟨by decide, by decide⟩ 0 rfl rfl rfl hl.1 (Nat.le_of_ble_eq_true rfl) dPD_page_1 ⟨by first | decide | omega, by first | decide | omega⟩) (fun w H locs hq hW => ?_)
  subst hq
  have hW : zw D zCl A s [(d1, .inl (cI, 1200, .inl (fI dLi))), (d2, .inl (cI, 1200, .inl (fI dBe))), (d3, .inl (cI, 1200, .inl (fI dEn))), (d4, .inl (cI, 1200, .inl (fI dSt))), (pg0, .inr (5, [.int (zI wd), .int (zI hg), .long (zL co), .long (zL ro), .long (zL oa), .long (zL ou), .long (zL lf), .long (zL rt), .long (zL lw), .long (zL up_), .int (zI tp)])), (x0, .inr (9, [.ref b0, .ref r0, .ref tr0, .ref dh, .ref kh, .ref me0, .ref cl0, .ref pg0, .ref la0])), (dh, .inr (7, [.int (zI dth), .int (zI dn), .int (zI dac), .ref d1, .ref d2, .ref d3, .ref d4]))] H locs := hW
  refine lv_aload_n C.1 C.2.1 dPD_page_4 rfl (lv_at hl 0 rfl) ?_
  refine zget C hW 5 7 rfl rfl inPD (by decide) flPD_59 rfl dPD_page_5 ?_
  refine lv_aload_n C.1 C.2.1 dPD_page_8 rfl (lv_at hl 0 rfl) ?_
  refine zget C hW 5 3 rfl rfl inPD (by decide) flPD_33 rfl dPD_page_9 ?_
  refine zcallv (wr := [(x0, .inr (9, [.ref b0, .ref r0, .ref tr0, .ref dh, .ref kh, .ref me0, .ref cl0, .ref pg0, .ref la0]))]) C hW [4, 6, 0, 1, 2, 3] [5] rfl rfl (by decide) (by decide) (zRunV (k := 1) (As := [.ref dh]) (rest := []) C hW (c_Pages_layOver l D cI cG cL cB pg0 wd hg co ro oa ou lf rt lw up_ tp dh d1 d2 d3 d4 dth dn dac dLi dBe dEn dSt bdLi bdBe bdEn bdSt (by omega) (by omega) (by omega) (by omega) (fun j a b => by have := hdB j a b; omega) hwd hhg H.size) [4, 6, 0, 1, 2, 3] rfl (by decide) kPD_205 (by decide +kernel) ⟨by decide, by decide⟩ 4 rfl rfl rfl hl.1 (Nat.le_of_ble_eq_true rfl) dPD_page_12 ⟨by first | decide | omega, by first | decide | omega⟩) (fun w H locs hq hW => ?_)
  obtain ⟨co21, ro22, oa23, ou24, hf5, rfl⟩ := hq
  have hW : zw D zCl A s [(x0, .inr (9, [.ref b0, .ref r0, .ref tr0, .ref dh, .ref kh, .ref me0, .ref cl0, .ref pg0, .ref la0])), (pg0, .inr (5, [.int (zI wd), .int (zI hg), .long (zL co21), .long (zL ro22), .long (zL oa23), .long (zL ou24), .long (zL lf), .long (zL rt), .long (zL lw), .long (zL up_), .int (zI tp)])), (dh, .inr (7, [.int (zI dth), .int (zI dn), .int (zI dac), .ref d1, .ref d2, .ref d3, .ref d4])), (d1, .inl (cI, 1200, .inl (fI dLi))), (d2, .inl (cI, 1200, .inl (fI dBe))), (d3, .inl (cI, 1200, .inl (fI dEn))), (d4, .inl (cI, 1200, .inl (fI dSt)))] H locs := hW
  have hln := lay_in hf5 (fun j a b => by have := hdB j a b; omega) hwd hhg
  have hcr := mul_in (a := co21) (b := ro22) (A := 20000000) (B := 20000000) (by omega) (by omega) (by omega) (by omega)
  have hk2 := hk _ _ _ _ hf5
  refine lv_iload_n C.1 C.2.1 dPD_page_15 rfl (lv_at hl 1 rfl) ?_
  refine lv_iconst (v := zI (-1)) C.1 C.2.1 dPD_page_16 (by decide) ?_
  refine zicmp_eq (tgt := 47) C (by omega) (by omega) dPD_page_17 (by decide) (fun c17 => ?_) (fun c17 => ?_)
  · exact False.elim (by omega)
  · refine lv_iload_n C.1 C.2.1 dPD_page_20 rfl (lv_at hl 1 rfl) ?_
    refine zif_lt (tgt := 37) C (by omega) dPD_page_21 (by decide) (fun c21 => ?_) (fun c21 => ?_)
    · exact False.elim (by omega)
    · refine lv_iload_n C.1 C.2.1 dPD_page_24 rfl (lv_at hl 1 rfl) ?_
      refine zi2l C (by omega) dPD_page_25 ?_
      refine lv_aload_n C.1 C.2.1 dPD_page_26 rfl (lv_at hl 0 rfl) ?_
      refine zget C hW 0 7 rfl rfl inPD (by decide) flPD_59 rfl dPD_page_27 ?_
      refine zcalll (wr := [(x0, .inr (9, [.ref b0, .ref r0, .ref tr0, .ref dh, .ref kh, .ref me0, .ref cl0, .ref pg0, .ref la0])), (dh, .inr (7, [.int (zI dth), .int (zI dn), .int (zI dac), .ref d1, .ref d2, .ref d3, .ref d4])), (d1, .inl (cI, 1200, .inl (fI dLi))), (d2, .inl (cI, 1200, .inl (fI dBe))), (d3, .inl (cI, 1200, .inl (fI dEn))), (d4, .inl (cI, 1200, .inl (fI dSt)))]) C hW [1] [0, 2, 3, 4, 5, 6] rfl rfl (by decide) (by decide) (zRunV (k := 0) (As := []) (rest := [.long (zL k)]) C hW (c_Pages_count l D cI cG cL cB pg0 wd hg co21 ro22 oa23 ou24 lf rt lw up_ tp  H.size) [1] rfl (by decide) kPD_209 (by decide +kernel) ⟨by decide, by decide⟩ 1 rfl rfl rfl hl.1 (Nat.le_of_ble_eq_true rfl) dPD_page_30 ⟨by first | decide | omega, by first | decide | omega⟩) (fun x w H locs hq hW => ?_)
      obtain ⟨rfl, rfl⟩ := hq
      have hW : zw D zCl A s [(x0, .inr (9, [.ref b0, .ref r0, .ref tr0, .ref dh, .ref kh, .ref me0, .ref cl0, .ref pg0, .ref la0])), (dh, .inr (7, [.int (zI dth), .int (zI dn), .int (zI dac), .ref d1, .ref d2, .ref d3, .ref d4])), (d1, .inl (cI, 1200, .inl (fI dLi))), (d2, .inl (cI, 1200, .inl (fI dBe))), (d3, .inl (cI, 1200, .inl (fI dEn))), (d4, .inl (cI, 1200, .inl (fI dSt))), (pg0, .inr (5, [.int (zI wd), .int (zI hg), .long (zL co21), .long (zL ro22), .long (zL oa23), .long (zL ou24), .long (zL lf), .long (zL rt), .long (zL lw), .long (zL up_), .int (zI tp)]))] H locs := hW
      refine zlcmp_lt (tgt := 47) C (by omega) (by omega) dPD_page_33 dPD_page_34 (by decide) (fun c33 => ?_) (fun c33 => ?_)
      · refine lv_iload_n C.1 C.2.1 dPD_page_47 rfl (lv_at hl 2 rfl) ?_
        refine zif_lt (tgt := 56) C (by omega) dPD_page_48 (by decide) (fun c48 => ?_) (fun c48 => ?_)
        · exact False.elim (by omega)
        · refine lv_iload_n C.1 C.2.1 dPD_page_51 rfl (lv_at hl 2 rfl) ?_
          refine lv_iconst (v := zI 1) C.1 C.2.1 dPD_page_52 (by decide) ?_
          refine zicmp_le (tgt := 66) C (by omega) (by omega) dPD_page_53 (by decide) (fun c53 => ?_) (fun c53 => ?_)
          · refine lv_iload_n C.1 C.2.1 dPD_page_66 rfl (lv_at hl 1 rfl) ?_
            refine lv_iconst (v := zI (-1)) C.1 C.2.1 dPD_page_67 (by decide) ?_
            refine zicmp_ne (tgt := 86) C (by omega) (by omega) dPD_page_68 (by decide) (fun c68 => ?_) (fun c68 => ?_)
            · refine lv_aload_n C.1 C.2.1 dPD_page_86 rfl (lv_at hl 0 rfl) ?_
              refine zget C hW 0 7 rfl rfl inPD (by decide) flPD_59 rfl dPD_page_87 ?_
              refine lv_iload_n C.1 C.2.1 dPD_page_90 rfl (lv_at hl 1 rfl) ?_
              refine zcallv (wr := [(x0, .inr (9, [.ref b0, .ref r0, .ref tr0, .ref dh, .ref kh, .ref me0, .ref cl0, .ref pg0, .ref la0])), (dh, .inr (7, [.int (zI dth), .int (zI dn), .int (zI dac), .ref d1, .ref d2, .ref d3, .ref d4])), (d1, .inl (cI, 1200, .inl (fI dLi))), (d2, .inl (cI, 1200, .inl (fI dBe))), (d3, .inl (cI, 1200, .inl (fI dEn))), (d4, .inl (cI, 1200, .inl (fI dSt)))]) C hW [6] [0, 1, 2, 3, 4, 5] rfl rfl (by decide) (by decide) (zRunV (k := 1) (As := [.int (zI k)]) (rest := []) C hW (c_Pages_turnTo l D cI cG cL cB pg0 wd hg co21 ro22 oa23 ou24 lf rt lw up_ tp k (by omega) (by omega) (by omega) hwd hhg (by omega) (by omega) H.size) [6] rfl (by decide) kPD_220 (by decide +kernel) ⟨by decide, by decide⟩ 6 rfl rfl rfl hl.1 (Nat.le_of_ble_eq_true rfl) dPD_page_91 ⟨by first | decide | omega, by first | decide | omega⟩) (fun w H locs hq hW => ?_)
              subst hq
              have hW : zw D zCl A s [(x0, .inr (9, [.ref b0, .ref r0, .ref tr0, .ref dh, .ref kh, .ref me0, .ref cl0, .ref pg0, .ref la0])), (dh, .inr (7, [.int (zI dth), .int (zI dn), .int (zI dac), .ref d1, .ref d2, .ref d3, .ref d4])), (d1, .inl (cI, 1200, .inl (fI dLi))), (d2, .inl (cI, 1200, .inl (fI dBe))), (d3, .inl (cI, 1200, .inl (fI dEn))), (d4, .inl (cI, 1200, .inl (fI dSt))), (pg0, .inr (5, [.int (zI wd), .int (zI hg), .long (zL co21), .long (zL ro22), .long (zL oa23), .long (zL ou24), .long (zL (oa23 + (k - (k.tdiv co21) * co21) * wd)), .long (zL (oa23 + (k - (k.tdiv co21) * co21) * wd + wd)), .long (zL (ou24 + (k.tdiv co21) * hg)), .long (zL (ou24 + (k.tdiv co21) * hg + hg)), .int (zI (bz (decide ((k.tdiv co21) + 1 = ro22))))]))] H locs := hW
              have htk := pg_k k co21
              have htm0 := Int.tmod_nonneg co21 (show 0 ≤ k by omega)
              have htm1 := Int.tmod_lt_of_pos k (show 0 < co21 by omega)
              have htd := tdiv_b (a := k) (b := co21) (M := 2147483648) (by omega) (by omega) (by omega)
              have htd0 := Int.tdiv_nonneg (a := k) (b := co21) (by omega) (by omega)
              have hx1 := mul_in (a := k - k.tdiv co21 * co21) (b := wd) (A := 20000000) (B := 65536) (by omega) (by omega) (by omega) (by omega)
              have hy1 := mul_in (a := k.tdiv co21) (b := hg) (A := 2147483648) (B := 65536) (by omega) (by omega) (by omega) (by omega)
              have htp := bz_01 (decide (k.tdiv co21 + 1 = ro22))
              refine lv_iload_n C.1 C.2.1 dPD_page_94 rfl (lv_at hl 2 rfl) ?_
              refine zif_ne (tgt := 112) C (by omega) dPD_page_95 (by decide) (fun c95 => ?_) (fun c95 => ?_)
              · exact False.elim (by omega)
              · refine lv_aload_n C.1 C.2.1 dPD_page_98 rfl (lv_at hl 0 rfl) ?_
                refine zget C hW 0 7 rfl rfl inPD (by decide) flPD_59 rfl dPD_page_99 ?_
                refine lv_aload_n C.1 C.2.1 dPD_page_102 rfl (lv_at hl 0 rfl) ?_
                refine zget C hW 0 3 rfl rfl inPD (by decide) flPD_33 rfl dPD_page_103 ?_
                refine zcalli (wr := [(x0, .inr (9, [.ref b0, .ref r0, .ref tr0, .ref dh, .ref kh, .ref me0, .ref cl0, .ref pg0, .ref la0]))]) C hW [6, 1, 2, 3, 4, 5] [0] rfl rfl (by decide) (by decide) (zRunV (k := 1) (As := [.ref dh]) (rest := []) C hW (c_Pages_strokesOn l D cI cG cL cB pg0 wd hg co21 ro22 oa23 ou24 (oa23 + (k - (k.tdiv co21) * co21) * wd) (oa23 + (k - (k.tdiv co21) * co21) * wd + wd) (ou24 + (k.tdiv co21) * hg) (ou24 + (k.tdiv co21) * hg + hg) (bz (decide ((k.tdiv co21) + 1 = ro22))) dh d1 d2 d3 d4 dth dn dac dLi dBe dEn dSt bdLi bdBe bdEn bdSt (by omega) (by omega) (by omega) (by omega) (by omega) (by omega) (by omega) (by omega) H.size) [6, 1, 2, 3, 4, 5] rfl (by decide) kPD_223 (by decide +kernel) ⟨by decide, by decide⟩ 6 rfl rfl rfl hl.1 (Nat.le_of_ble_eq_true rfl) dPD_page_106 ⟨by first | decide | omega, by first | decide | omega⟩) (fun x w H locs hq hW => ?_)
                obtain ⟨rfl, rfl⟩ := hq
                have hW : zw D zCl A s [(x0, .inr (9, [.ref b0, .ref r0, .ref tr0, .ref dh, .ref kh, .ref me0, .ref cl0, .ref pg0, .ref la0])), (pg0, .inr (5, [.int (zI wd), .int (zI hg), .long (zL co21), .long (zL ro22), .long (zL oa23), .long (zL ou24), .long (zL (oa23 + (k - (k.tdiv co21) * co21) * wd)), .long (zL (oa23 + (k - (k.tdiv co21) * co21) * wd + wd)), .long (zL (ou24 + (k.tdiv co21) * hg)), .long (zL (ou24 + (k.tdiv co21) * hg + hg)), .int (zI (bz (decide ((k.tdiv co21) + 1 = ro22))))])), (dh, .inr (7, [.int (zI dth), .int (zI dn), .int (zI dac), .ref d1, .ref d2, .ref d3, .ref d4])), (d1, .inl (cI, 1200, .inl (fI dLi))), (d2, .inl (cI, 1200, .inl (fI dBe))), (d3, .inl (cI, 1200, .inl (fI dEn))), (d4, .inl (cI, 1200, .inl (fI dSt)))] H locs := hW
                refine lv_goto (tgt := 123) C.1 C.2.1 dPD_page_109 (by decide) ?_
                have hW : zw D zCl A s [(x0, .inr (9, [.ref b0, .ref r0, .ref tr0, .ref dh, .ref kh, .ref me0, .ref cl0, .ref pg0, .ref la0])), (dh, .inr (7, [.int (zI dth), .int (zI dn), .int (zI dac), .ref d1, .ref d2, .ref d3, .ref d4])), (d1, .inl (cI, 1200, .inl (fI dLi))), (d2, .inl (cI, 1200, .inl (fI dBe))), (d3, .inl (cI, 1200, .inl (fI dEn))), (d4, .inl (cI, 1200, .inl (fI dSt))), (pg0, .inr (5, [.int (zI wd), .int (zI hg), .long (zL co21), .long (zL ro22), .long (zL oa23), .long (zL ou24), .long (zL (oa23 + (k - (k.tdiv co21) * co21) * wd)), .long (zL (oa23 + (k - (k.tdiv co21) * co21) * wd + wd)), .long (zL (ou24 + (k.tdiv co21) * hg)), .long (zL (ou24 + (k.tdiv co21) * hg + hg)), .int (zI (bz (decide ((k.tdiv co21) + 1 = ro22))))]))] H locs := zwp hW [0, 2, 3, 4, 5, 6, 1] rfl (by decide)
                exact hQ (zI (cntZ (onPg dac dLi dBe dEn (oa23 + (k - (k.tdiv co21) * co21) * wd) (oa23 + (k - (k.tdiv co21) * co21) * wd + wd) (ou24 + (k.tdiv co21) * hg) (ou24 + (k.tdiv co21) * hg + hg)) dn)) _ H locs _ _ _ ls hW ⟨_, _, _, _, hf5, rfl, rfl⟩ (by omega) (by omega) dPD_page_123
            · exact False.elim (by omega)
          · exact False.elim (by omega)
      · exact False.elim (by omega)
set_option maxHeartbeats 4000000 in
set_option maxRecDepth 100000 in
theorem c_PartDrawings_page_C (l : Launch) (D : va_G) (cI cG cL cB : ClassId) (x0 : Nat) (b0 : Nat) (r0 : Nat) (tr0 : Nat) (dh : Nat) (kh : Nat) (me0 : Nat) (cl0 : Nat) (pg0 : Nat) (la0 : Nat) (d1 : Nat) (d2 : Nat) (d3 : Nat) (d4 : Nat) (dth : Int) (dn : Int) (dac : Int) (dLi : Int → Int) (dBe : Int → Int) (dEn : Int → Int) (dSt : Int → Int) (wd : Int) (hg : Int) (co : Int) (ro : Int) (oa : Int) (ou : Int) (lf : Int) (rt : Int) (lw : Int) (up_ : Int) (tp : Int) (k : Int) (wh : Int) (bdLi : ∀ j : Int, I32 (dLi j)) (bdBe : ∀ j : Int, I32 (dBe j)) (bdEn : ∀ j : Int, I32 (dEn j)) (bdSt : ∀ j : Int, I32 (dSt j)) (hn0d : 0 ≤ dn) (hn1d : dn ≤ 1200) (ha0d : 0 ≤ dac) (ha1d : dac ≤ dn) (hIk : I32 k) (hIwh : I32 wh) (hdB : bdA dn dLi dBe dEn dSt) (hwd : 1 ≤ wd ∧ wd ≤ 65536) (hhg : 1 ≤ hg ∧ hg ≤ 65536) (hdth : dth = 1) (hw : wh = 1) (hk : (∀ co3 ro3 oa3 ou3 : Int, layP dac dn dLi wd hg co3 ro3 oa3 ou3 → 0 ≤ k ∧ k < co3 * ro3)) : Ci l yPD_page cPD_page 3 (some .int) 4 0 0 D zCl (zT cI cG cL cB) [.ref x0, .int (zI k), .int (zI wh)] [(x0, .inr (9, [.ref b0, .ref r0, .ref tr0, .ref dh, .ref kh, .ref me0, .ref cl0, .ref pg0, .ref la0])), (dh, .inr (7, [.int (zI dth), .int (zI dn), .int (zI dac), .ref d1, .ref d2, .ref d3, .ref d4])), (d1, .inl (cI, 1200, .inl (fI dLi))), (d2, .inl (cI, 1200, .inl (fI dBe))), (d3, .inl (cI, 1200, .inl (fI dEn))), (d4, .inl (cI, 1200, .inl (fI dSt))), (pg0, .inr (5, [.int (zI wd), .int (zI hg), .long (zL co), .long (zL ro), .long (zL oa), .long (zL ou), .long (zL lf), .long (zL rt), .long (zL lw), .long (zL up_), .int (zI tp)]))] (fun x w => ∃ co2 : Int, ∃ ro2 : Int, ∃ oa2 : Int, ∃ ou2 : Int, (layP dac dn dLi wd hg co2 ro2 oa2 ou2) ∧ x = zI (cntZ (mkPg dLi dBe dEn (oa2 + (k - (k.tdiv co2) * co2) * wd + wd) (ou2 + (k.tdiv co2) * hg) (ou2 + (k.tdiv co2) * hg + hg) (bz (decide ((k.tdiv co2) + 1 = ro2)))) dac) ∧ w = [(x0, .inr (9, [.ref b0, .ref r0, .ref tr0, .ref dh, .ref kh, .ref me0, .ref cl0, .ref pg0, .ref la0])), (dh, .inr (7, [.int (zI dth), .int (zI dn), .int (zI dac), .ref d1, .ref d2, .ref d3, .ref d4])), (d1, .inl (cI, 1200, .inl (fI dLi))), (d2, .inl (cI, 1200, .inl (fI dBe))), (d3, .inl (cI, 1200, .inl (fI dEn))), (d4, .inl (cI, 1200, .inl (fI dSt))), (pg0, .inr (5, [.int (zI wd), .int (zI hg), .long (zL co2), .long (zL ro2), .long (zL oa2), .long (zL ou2), .long (zL (oa2 + (k - (k.tdiv co2) * co2) * wd)), .long (zL (oa2 + (k - (k.tdiv co2) * co2) * wd + wd)), .long (zL (ou2 + (k.tdiv co2) * hg)), .long (zL (ou2 + (k.tdiv co2) * hg + hg)), .int (zI (bz (decide ((k.tdiv co2) + 1 = ro2))))]))]) := by
  refine zBi (by decide) (Nat.le_of_ble_eq_true rfl) ?_
  intro p e s m args below meth c ls A H locs Q C hin hl hW hQ
  have hl : lv_has ls 3 [(0, .ref x0), (1, .int (zI k)), (2, .int (zI wh))] := hl
  refine lv_aload_n C.1 C.2.1 dPD_page_0 rfl (lv_at hl 0 rfl) ?_
  refine zcallv (wr := [(d1, .inl (cI, 1200, .inl (fI dLi))), (d2, .inl (cI, 1200, .inl (fI dBe))), (d3, .inl (cI, 1200, .inl (fI dEn))), (d4, .inl (cI, 1200, .inl (fI dSt))), (pg0, .inr (5, [.int (zI wd), .int (zI hg), .long (zL co), .long (zL ro), .long (zL oa), .long (zL ou), .long (zL lf), .long (zL rt), .long (zL lw), .long (zL up_), .int (zI tp)]))]) C hW [0, 1] [2, 3, 4, 5, 6] rfl rfl (by decide) (by decide) (zRunV (k := 0) (As := []) (rest := []) C hW (c_PartDrawings_needDrawn l D cI cG cL cB x0 b0 r0 tr0 dh kh me0 cl0 pg0 la0 d1 d2 d3 d4 dth dn dac (by omega) H.size) [0, 1] rfl (by decide) kPD_135 (by decide +kernel) ⟨by decide, by decide⟩ 0 rfl rfl rfl hl.1 (Nat.le_of_ble_eq_true rfl) dPD_page_1 ⟨by first | decide | omega, by first | decide | omega⟩) (fun w H locs hq hW => ?_)
  subst hq
  have hW : zw D zCl A s [(d1, .inl (cI, 1200, .inl (fI dLi))), (d2, .inl (cI, 1200, .inl (fI dBe))), (d3, .inl (cI, 1200, .inl (fI dEn))), (d4, .inl (cI, 1200, .inl (fI dSt))), (pg0, .inr (5, [.int (zI wd), .int (zI hg), .long (zL co), .long (zL ro), .long (zL oa), .long (zL ou), .long (zL lf), .long (zL rt), .long (zL lw), .long (zL up_), .int (zI tp)])), (x0, .inr (9, [.ref b0, .ref r0, .ref tr0, .ref dh, .ref kh, .ref me0, .ref cl0, .ref pg0, .ref la0])), (dh, .inr (7, [.int (zI dth), .int (zI dn), .int (zI dac), .ref d1, .ref d2, .ref d3, .ref d4]))] H locs := hW
  refine lv_aload_n C.1 C.2.1 dPD_page_4 rfl (lv_at hl 0 rfl) ?_
  refine zget C hW 5 7 rfl rfl inPD (by decide) flPD_59 rfl dPD_page_5 ?_
  refine lv_aload_n C.1 C.2.1 dPD_page_8 rfl (lv_at hl 0 rfl) ?_
  refine zget C hW 5 3 rfl rfl inPD (by decide) flPD_33 rfl dPD_page_9 ?_
  refine zcallv (wr := [(x0, .inr (9, [.ref b0, .ref r0, .ref tr0, .ref dh, .ref kh, .ref me0, .ref cl0, .ref pg0, .ref la0]))]) C hW [4, 6, 0, 1, 2, 3] [5] rfl rfl (by decide) (by decide) (zRunV (k := 1) (As := [.ref dh]) (rest := []) C hW (c_Pages_layOver l D cI cG cL cB pg0 wd hg co ro oa ou lf rt lw up_ tp dh d1 d2 d3 d4 dth dn dac dLi dBe dEn dSt bdLi bdBe bdEn bdSt (by omega) (by omega) (by omega) (by omega) (fun j a b => by have := hdB j a b; omega) hwd hhg H.size) [4, 6, 0, 1, 2, 3] rfl (by decide) kPD_205 (by decide +kernel) ⟨by decide, by decide⟩ 4 rfl rfl rfl hl.1 (Nat.le_of_ble_eq_true rfl) dPD_page_12 ⟨by first | decide | omega, by first | decide | omega⟩) (fun w H locs hq hW => ?_)
  obtain ⟨co21, ro22, oa23, ou24, hf5, rfl⟩ := hq
  have hW : zw D zCl A s [(x0, .inr (9, [.ref b0, .ref r0, .ref tr0, .ref dh, .ref kh, .ref me0, .ref cl0, .ref pg0, .ref la0])), (pg0, .inr (5, [.int (zI wd), .int (zI hg), .long (zL co21), .long (zL ro22), .long (zL oa23), .long (zL ou24), .long (zL lf), .long (zL rt), .long (zL lw), .long (zL up_), .int (zI tp)])), (dh, .inr (7, [.int (zI dth), .int (zI dn), .int (zI dac), .ref d1, .ref d2, .ref d3, .ref d4])), (d1, .inl (cI, 1200, .inl (fI dLi))), (d2, .inl (cI, 1200, .inl (fI dBe))), (d3, .inl (cI, 1200, .inl (fI dEn))), (d4, .inl (cI, 1200, .inl (fI dSt)))] H locs := hW
  have hln := lay_in hf5 (fun j a b => by have := hdB j a b; omega) hwd hhg
  have hcr := mul_in (a := co21) (b := ro22) (A := 20000000) (B := 20000000) (by omega) (by omega) (by omega) (by omega)
  have hk2 := hk _ _ _ _ hf5
  refine lv_iload_n C.1 C.2.1 dPD_page_15 rfl (lv_at hl 1 rfl) ?_
  refine lv_iconst (v := zI (-1)) C.1 C.2.1 dPD_page_16 (by decide) ?_
  refine zicmp_eq (tgt := 47) C (by omega) (by omega) dPD_page_17 (by decide) (fun c17 => ?_) (fun c17 => ?_)
  · exact False.elim (by omega)
  · refine lv_iload_n C.1 C.2.1 dPD_page_20 rfl (lv_at hl 1 rfl) ?_
    refine zif_lt (tgt := 37) C (by omega) dPD_page_21 (by decide) (fun c21 => ?_) (fun c21 => ?_)
    · exact False.elim (by omega)
    · refine lv_iload_n C.1 C.2.1 dPD_page_24 rfl (lv_at hl 1 rfl) ?_
      refine zi2l C (by omega) dPD_page_25 ?_
      refine lv_aload_n C.1 C.2.1 dPD_page_26 rfl (lv_at hl 0 rfl) ?_
      refine zget C hW 0 7 rfl rfl inPD (by decide) flPD_59 rfl dPD_page_27 ?_
      refine zcalll (wr := [(x0, .inr (9, [.ref b0, .ref r0, .ref tr0, .ref dh, .ref kh, .ref me0, .ref cl0, .ref pg0, .ref la0])), (dh, .inr (7, [.int (zI dth), .int (zI dn), .int (zI dac), .ref d1, .ref d2, .ref d3, .ref d4])), (d1, .inl (cI, 1200, .inl (fI dLi))), (d2, .inl (cI, 1200, .inl (fI dBe))), (d3, .inl (cI, 1200, .inl (fI dEn))), (d4, .inl (cI, 1200, .inl (fI dSt)))]) C hW [1] [0, 2, 3, 4, 5, 6] rfl rfl (by decide) (by decide) (zRunV (k := 0) (As := []) (rest := [.long (zL k)]) C hW (c_Pages_count l D cI cG cL cB pg0 wd hg co21 ro22 oa23 ou24 lf rt lw up_ tp  H.size) [1] rfl (by decide) kPD_209 (by decide +kernel) ⟨by decide, by decide⟩ 1 rfl rfl rfl hl.1 (Nat.le_of_ble_eq_true rfl) dPD_page_30 ⟨by first | decide | omega, by first | decide | omega⟩) (fun x w H locs hq hW => ?_)
      obtain ⟨rfl, rfl⟩ := hq
      have hW : zw D zCl A s [(x0, .inr (9, [.ref b0, .ref r0, .ref tr0, .ref dh, .ref kh, .ref me0, .ref cl0, .ref pg0, .ref la0])), (dh, .inr (7, [.int (zI dth), .int (zI dn), .int (zI dac), .ref d1, .ref d2, .ref d3, .ref d4])), (d1, .inl (cI, 1200, .inl (fI dLi))), (d2, .inl (cI, 1200, .inl (fI dBe))), (d3, .inl (cI, 1200, .inl (fI dEn))), (d4, .inl (cI, 1200, .inl (fI dSt))), (pg0, .inr (5, [.int (zI wd), .int (zI hg), .long (zL co21), .long (zL ro22), .long (zL oa23), .long (zL ou24), .long (zL lf), .long (zL rt), .long (zL lw), .long (zL up_), .int (zI tp)]))] H locs := hW
      refine zlcmp_lt (tgt := 47) C (by omega) (by omega) dPD_page_33 dPD_page_34 (by decide) (fun c33 => ?_) (fun c33 => ?_)
      · refine lv_iload_n C.1 C.2.1 dPD_page_47 rfl (lv_at hl 2 rfl) ?_
        refine zif_lt (tgt := 56) C (by omega) dPD_page_48 (by decide) (fun c48 => ?_) (fun c48 => ?_)
        · exact False.elim (by omega)
        · refine lv_iload_n C.1 C.2.1 dPD_page_51 rfl (lv_at hl 2 rfl) ?_
          refine lv_iconst (v := zI 1) C.1 C.2.1 dPD_page_52 (by decide) ?_
          refine zicmp_le (tgt := 66) C (by omega) (by omega) dPD_page_53 (by decide) (fun c53 => ?_) (fun c53 => ?_)
          · refine lv_iload_n C.1 C.2.1 dPD_page_66 rfl (lv_at hl 1 rfl) ?_
            refine lv_iconst (v := zI (-1)) C.1 C.2.1 dPD_page_67 (by decide) ?_
            refine zicmp_ne (tgt := 86) C (by omega) (by omega) dPD_page_68 (by decide) (fun c68 => ?_) (fun c68 => ?_)
            · refine lv_aload_n C.1 C.2.1 dPD_page_86 rfl (lv_at hl 0 rfl) ?_
              refine zget C hW 0 7 rfl rfl inPD (by decide) flPD_59 rfl dPD_page_87 ?_
              refine lv_iload_n C.1 C.2.1 dPD_page_90 rfl (lv_at hl 1 rfl) ?_
              refine zcallv (wr := [(x0, .inr (9, [.ref b0, .ref r0, .ref tr0, .ref dh, .ref kh, .ref me0, .ref cl0, .ref pg0, .ref la0])), (dh, .inr (7, [.int (zI dth), .int (zI dn), .int (zI dac), .ref d1, .ref d2, .ref d3, .ref d4])), (d1, .inl (cI, 1200, .inl (fI dLi))), (d2, .inl (cI, 1200, .inl (fI dBe))), (d3, .inl (cI, 1200, .inl (fI dEn))), (d4, .inl (cI, 1200, .inl (fI dSt)))]) C hW [6] [0, 1, 2, 3, 4, 5] rfl rfl (by decide) (by decide) (zRunV (k := 1) (As := [.int (zI k)]) (rest := []) C hW (c_Pages_turnTo l D cI cG cL cB pg0 wd hg co21 ro22 oa23 ou24 lf rt lw up_ tp k (by omega) (by omega) (by omega) hwd hhg (by omega) (by omega) H.size) [6] rfl (by decide) kPD_220 (by decide +kernel) ⟨by decide, by decide⟩ 6 rfl rfl rfl hl.1 (Nat.le_of_ble_eq_true rfl) dPD_page_91 ⟨by first | decide | omega, by first | decide | omega⟩) (fun w H locs hq hW => ?_)
              subst hq
              have hW : zw D zCl A s [(x0, .inr (9, [.ref b0, .ref r0, .ref tr0, .ref dh, .ref kh, .ref me0, .ref cl0, .ref pg0, .ref la0])), (dh, .inr (7, [.int (zI dth), .int (zI dn), .int (zI dac), .ref d1, .ref d2, .ref d3, .ref d4])), (d1, .inl (cI, 1200, .inl (fI dLi))), (d2, .inl (cI, 1200, .inl (fI dBe))), (d3, .inl (cI, 1200, .inl (fI dEn))), (d4, .inl (cI, 1200, .inl (fI dSt))), (pg0, .inr (5, [.int (zI wd), .int (zI hg), .long (zL co21), .long (zL ro22), .long (zL oa23), .long (zL ou24), .long (zL (oa23 + (k - (k.tdiv co21) * co21) * wd)), .long (zL (oa23 + (k - (k.tdiv co21) * co21) * wd + wd)), .long (zL (ou24 + (k.tdiv co21) * hg)), .long (zL (ou24 + (k.tdiv co21) * hg + hg)), .int (zI (bz (decide ((k.tdiv co21) + 1 = ro22))))]))] H locs := hW
              have htk := pg_k k co21
              have htm0 := Int.tmod_nonneg co21 (show 0 ≤ k by omega)
              have htm1 := Int.tmod_lt_of_pos k (show 0 < co21 by omega)
              have htd := tdiv_b (a := k) (b := co21) (M := 2147483648) (by omega) (by omega) (by omega)
              have htd0 := Int.tdiv_nonneg (a := k) (b := co21) (by omega) (by omega)
              have hx1 := mul_in (a := k - k.tdiv co21 * co21) (b := wd) (A := 20000000) (B := 65536) (by omega) (by omega) (by omega) (by omega)
              have hy1 := mul_in (a := k.tdiv co21) (b := hg) (A := 2147483648) (B := 65536) (by omega) (by omega) (by omega) (by omega)
              have htp := bz_01 (decide (k.tdiv co21 + 1 = ro22))
              refine lv_iload_n C.1 C.2.1 dPD_page_94 rfl (lv_at hl 2 rfl) ?_
              refine zif_ne (tgt := 112) C (by omega) dPD_page_95 (by decide) (fun c95 => ?_) (fun c95 => ?_)
              · refine lv_aload_n C.1 C.2.1 dPD_page_112 rfl (lv_at hl 0 rfl) ?_
                refine zget C hW 0 7 rfl rfl inPD (by decide) flPD_59 rfl dPD_page_113 ?_
                refine lv_aload_n C.1 C.2.1 dPD_page_116 rfl (lv_at hl 0 rfl) ?_
                refine zget C hW 0 3 rfl rfl inPD (by decide) flPD_33 rfl dPD_page_117 ?_
                refine zcalli (wr := [(x0, .inr (9, [.ref b0, .ref r0, .ref tr0, .ref dh, .ref kh, .ref me0, .ref cl0, .ref pg0, .ref la0]))]) C hW [6, 1, 2, 3, 4, 5] [0] rfl rfl (by decide) (by decide) (zRunV (k := 1) (As := [.ref dh]) (rest := []) C hW (c_Pages_marks l D cI cG cL cB pg0 wd hg co21 ro22 oa23 ou24 (oa23 + (k - (k.tdiv co21) * co21) * wd) (oa23 + (k - (k.tdiv co21) * co21) * wd + wd) (ou24 + (k.tdiv co21) * hg) (ou24 + (k.tdiv co21) * hg + hg) (bz (decide ((k.tdiv co21) + 1 = ro22))) dh d1 d2 d3 d4 dth dn dac dLi dBe dEn dSt bdLi bdBe bdEn bdSt (by omega) (by omega) (by omega) (by omega) (by omega) (by omega) (by omega) (by omega) H.size) [6, 1, 2, 3, 4, 5] rfl (by decide) kPD_227 (by decide +kernel) ⟨by decide, by decide⟩ 6 rfl rfl rfl hl.1 (Nat.le_of_ble_eq_true rfl) dPD_page_120 ⟨by first | decide | omega, by first | decide | omega⟩) (fun x w H locs hq hW => ?_)
                obtain ⟨rfl, rfl⟩ := hq
                have hW : zw D zCl A s [(x0, .inr (9, [.ref b0, .ref r0, .ref tr0, .ref dh, .ref kh, .ref me0, .ref cl0, .ref pg0, .ref la0])), (pg0, .inr (5, [.int (zI wd), .int (zI hg), .long (zL co21), .long (zL ro22), .long (zL oa23), .long (zL ou24), .long (zL (oa23 + (k - (k.tdiv co21) * co21) * wd)), .long (zL (oa23 + (k - (k.tdiv co21) * co21) * wd + wd)), .long (zL (ou24 + (k.tdiv co21) * hg)), .long (zL (ou24 + (k.tdiv co21) * hg + hg)), .int (zI (bz (decide ((k.tdiv co21) + 1 = ro22))))])), (dh, .inr (7, [.int (zI dth), .int (zI dn), .int (zI dac), .ref d1, .ref d2, .ref d3, .ref d4])), (d1, .inl (cI, 1200, .inl (fI dLi))), (d2, .inl (cI, 1200, .inl (fI dBe))), (d3, .inl (cI, 1200, .inl (fI dEn))), (d4, .inl (cI, 1200, .inl (fI dSt)))] H locs := hW
                have hW : zw D zCl A s [(x0, .inr (9, [.ref b0, .ref r0, .ref tr0, .ref dh, .ref kh, .ref me0, .ref cl0, .ref pg0, .ref la0])), (dh, .inr (7, [.int (zI dth), .int (zI dn), .int (zI dac), .ref d1, .ref d2, .ref d3, .ref d4])), (d1, .inl (cI, 1200, .inl (fI dLi))), (d2, .inl (cI, 1200, .inl (fI dBe))), (d3, .inl (cI, 1200, .inl (fI dEn))), (d4, .inl (cI, 1200, .inl (fI dSt))), (pg0, .inr (5, [.int (zI wd), .int (zI hg), .long (zL co21), .long (zL ro22), .long (zL oa23), .long (zL ou24), .long (zL (oa23 + (k - (k.tdiv co21) * co21) * wd)), .long (zL (oa23 + (k - (k.tdiv co21) * co21) * wd + wd)), .long (zL (ou24 + (k.tdiv co21) * hg)), .long (zL (ou24 + (k.tdiv co21) * hg + hg)), .int (zI (bz (decide ((k.tdiv co21) + 1 = ro22))))]))] H locs := zwp hW [0, 2, 3, 4, 5, 6, 1] rfl (by decide)
                exact hQ (zI (cntZ (mkPg dLi dBe dEn (oa23 + (k - (k.tdiv co21) * co21) * wd + wd) (ou24 + (k.tdiv co21) * hg) (ou24 + (k.tdiv co21) * hg + hg) (bz (decide ((k.tdiv co21) + 1 = ro22)))) dac)) _ H locs _ _ _ ls hW ⟨_, _, _, _, hf5, rfl, rfl⟩ (by omega) (by omega) dPD_page_123
              · exact False.elim (by omega)
            · exact False.elim (by omega)
          · exact False.elim (by omega)
      · exact False.elim (by omega)
set_option maxHeartbeats 4000000 in
set_option maxRecDepth 100000 in
theorem c_PartDrawings_page_T1 (l : Launch) (D : va_G) (cI cG cL cB : ClassId) (x0 : Nat) (b0 : Nat) (r0 : Nat) (tr0 : Nat) (dh : Nat) (kh : Nat) (me0 : Nat) (cl0 : Nat) (pg0 : Nat) (la0 : Nat) (d1 : Nat) (d2 : Nat) (d3 : Nat) (d4 : Nat) (dth : Int) (dn : Int) (dac : Int) (dLi : Int → Int) (dBe : Int → Int) (dEn : Int → Int) (dSt : Int → Int) (wd : Int) (hg : Int) (co : Int) (ro : Int) (oa : Int) (ou : Int) (lf : Int) (rt : Int) (lw : Int) (up_ : Int) (tp : Int) (k : Int) (wh : Int) (hlt : l.stackTraces = false) (bdLi : ∀ j : Int, I32 (dLi j)) (bdBe : ∀ j : Int, I32 (dBe j)) (bdEn : ∀ j : Int, I32 (dEn j)) (bdSt : ∀ j : Int, I32 (dSt j)) (hn0d : 0 ≤ dn) (hn1d : dn ≤ 1200) (ha0d : 0 ≤ dac) (ha1d : dac ≤ dn) (hIk : I32 k) (hIwh : I32 wh) (hdB : bdA dn dLi dBe dEn dSt) (hwd : 1 ≤ wd ∧ wd ≤ 65536) (hhg : 1 ≤ hg ∧ hg ≤ 65536) (hdth : dth = 0) : Ct l yPD_page cPD_page 3 (some .int) 7 1 6 D zCl (zT cI cG cL cB) [.ref x0, .int (zI k), .int (zI wh)] [(x0, .inr (9, [.ref b0, .ref r0, .ref tr0, .ref dh, .ref kh, .ref me0, .ref cl0, .ref pg0, .ref la0])), (dh, .inr (7, [.int (zI dth), .int (zI dn), .int (zI dac), .ref d1, .ref d2, .ref d3, .ref d4])), (d1, .inl (cI, 1200, .inl (fI dLi))), (d2, .inl (cI, 1200, .inl (fI dBe))), (d3, .inl (cI, 1200, .inl (fI dEn))), (d4, .inl (cI, 1200, .inl (fI dSt))), (pg0, .inr (5, [.int (zI wd), .int (zI hg), .long (zL co), .long (zL ro), .long (zL oa), .long (zL ou), .long (zL lf), .long (zL rt), .long (zL lw), .long (zL up_), .int (zI tp)]))] "java/lang/IllegalStateException" (fun w => w = [(d1, .inl (cI, 1200, .inl (fI dLi))), (d2, .inl (cI, 1200, .inl (fI dBe))), (d3, .inl (cI, 1200, .inl (fI dEn))), (d4, .inl (cI, 1200, .inl (fI dSt))), (pg0, .inr (5, [.int (zI wd), .int (zI hg), .long (zL co), .long (zL ro), .long (zL oa), .long (zL ou), .long (zL lf), .long (zL rt), .long (zL lw), .long (zL up_), .int (zI tp)])), (x0, .inr (9, [.ref b0, .ref r0, .ref tr0, .ref dh, .ref kh, .ref me0, .ref cl0, .ref pg0, .ref la0])), (dh, .inr (7, [.int (zI dth), .int (zI dn), .int (zI dac), .ref d1, .ref d2, .ref d3, .ref d4]))]) := by
  refine zBt (by decide) (Nat.le_of_ble_eq_true rfl) ?_
  intro p e s m args below meth c ls A H locs Q C hx hl hW hQ
  have hl : lv_has ls 3 [(0, .ref x0), (1, .int (zI k)), (2, .int (zI wh))] := hl
  refine lv_aload_n C.1 C.2.1 dPD_page_0 rfl (lv_at hl 0 rfl) ?_
  exact zpropT (wr := [(d1, .inl (cI, 1200, .inl (fI dLi))), (d2, .inl (cI, 1200, .inl (fI dBe))), (d3, .inl (cI, 1200, .inl (fI dEn))), (d4, .inl (cI, 1200, .inl (fI dSt))), (pg0, .inr (5, [.int (zI wd), .int (zI hg), .long (zL co), .long (zL ro), .long (zL oa), .long (zL ou), .long (zL lf), .long (zL rt), .long (zL lw), .long (zL up_), .int (zI tp)]))]) C hW hx [0, 1] [2, 3, 4, 5, 6] rfl rfl (by decide) (by decide) (zRunVT (k := 0) (As := []) (rest := []) C hW (c_PartDrawings_needDrawn_T l D cI cG cL cB x0 b0 r0 tr0 dh kh me0 cl0 pg0 la0 d1 d2 d3 d4 dth dn dac (by omega) (by omega) H.size) [0, 1] rfl (by decide) kPD_135 (by decide +kernel) ⟨by decide, by decide⟩ 0 rfl rfl rfl hl.1 (Nat.le_of_ble_eq_true rfl) dPD_page_1 ⟨by first | decide | omega, by first | decide | omega⟩) (fun w hq => by obtain rfl := hq; exact rfl) hQ (by omega) (by omega)
set_option maxHeartbeats 4000000 in
set_option maxRecDepth 100000 in
theorem c_PartDrawings_page_T2 (l : Launch) (D : va_G) (cI cG cL cB : ClassId) (x0 : Nat) (b0 : Nat) (r0 : Nat) (tr0 : Nat) (dh : Nat) (kh : Nat) (me0 : Nat) (cl0 : Nat) (pg0 : Nat) (la0 : Nat) (d1 : Nat) (d2 : Nat) (d3 : Nat) (d4 : Nat) (dth : Int) (dn : Int) (dac : Int) (dLi : Int → Int) (dBe : Int → Int) (dEn : Int → Int) (dSt : Int → Int) (wd : Int) (hg : Int) (co : Int) (ro : Int) (oa : Int) (ou : Int) (lf : Int) (rt : Int) (lw : Int) (up_ : Int) (tp : Int) (k : Int) (wh : Int) (hlt : l.stackTraces = false) (bdLi : ∀ j : Int, I32 (dLi j)) (bdBe : ∀ j : Int, I32 (dBe j)) (bdEn : ∀ j : Int, I32 (dEn j)) (bdSt : ∀ j : Int, I32 (dSt j)) (hn0d : 0 ≤ dn) (hn1d : dn ≤ 1200) (ha0d : 0 ≤ dac) (ha1d : dac ≤ dn) (hIk : I32 k) (hIwh : I32 wh) (hdB : bdA dn dLi dBe dEn dSt) (hwd : 1 ≤ wd ∧ wd ≤ 65536) (hhg : 1 ≤ hg ∧ hg ≤ 65536) (hdth : dth = 1) (hk : (∀ co3 ro3 oa3 ou3 : Int, layP dac dn dLi wd hg co3 ro3 oa3 ou3 → ¬ (k = -1 ∨ 0 ≤ k ∧ k < co3 * ro3))) : Ct l yPD_page cPD_page 3 (some .int) 7 1 6 D zCl (zT cI cG cL cB) [.ref x0, .int (zI k), .int (zI wh)] [(x0, .inr (9, [.ref b0, .ref r0, .ref tr0, .ref dh, .ref kh, .ref me0, .ref cl0, .ref pg0, .ref la0])), (dh, .inr (7, [.int (zI dth), .int (zI dn), .int (zI dac), .ref d1, .ref d2, .ref d3, .ref d4])), (d1, .inl (cI, 1200, .inl (fI dLi))), (d2, .inl (cI, 1200, .inl (fI dBe))), (d3, .inl (cI, 1200, .inl (fI dEn))), (d4, .inl (cI, 1200, .inl (fI dSt))), (pg0, .inr (5, [.int (zI wd), .int (zI hg), .long (zL co), .long (zL ro), .long (zL oa), .long (zL ou), .long (zL lf), .long (zL rt), .long (zL lw), .long (zL up_), .int (zI tp)]))] "java/lang/IndexOutOfBoundsException" (fun w => ∃ co2 : Int, ∃ ro2 : Int, ∃ oa2 : Int, ∃ ou2 : Int, (layP dac dn dLi wd hg co2 ro2 oa2 ou2) ∧ w = [(x0, .inr (9, [.ref b0, .ref r0, .ref tr0, .ref dh, .ref kh, .ref me0, .ref cl0, .ref pg0, .ref la0])), (dh, .inr (7, [.int (zI dth), .int (zI dn), .int (zI dac), .ref d1, .ref d2, .ref d3, .ref d4])), (d1, .inl (cI, 1200, .inl (fI dLi))), (d2, .inl (cI, 1200, .inl (fI dBe))), (d3, .inl (cI, 1200, .inl (fI dEn))), (d4, .inl (cI, 1200, .inl (fI dSt))), (pg0, .inr (5, [.int (zI wd), .int (zI hg), .long (zL co2), .long (zL ro2), .long (zL oa2), .long (zL ou2), .long (zL lf), .long (zL rt), .long (zL lw), .long (zL up_), .int (zI tp)]))]) := by
  refine zBt (by decide) (Nat.le_of_ble_eq_true rfl) ?_
  intro p e s m args below meth c ls A H locs Q C hx hl hW hQ
  have hl : lv_has ls 3 [(0, .ref x0), (1, .int (zI k)), (2, .int (zI wh))] := hl
  refine lv_aload_n C.1 C.2.1 dPD_page_0 rfl (lv_at hl 0 rfl) ?_
  refine zcallv (wr := [(d1, .inl (cI, 1200, .inl (fI dLi))), (d2, .inl (cI, 1200, .inl (fI dBe))), (d3, .inl (cI, 1200, .inl (fI dEn))), (d4, .inl (cI, 1200, .inl (fI dSt))), (pg0, .inr (5, [.int (zI wd), .int (zI hg), .long (zL co), .long (zL ro), .long (zL oa), .long (zL ou), .long (zL lf), .long (zL rt), .long (zL lw), .long (zL up_), .int (zI tp)]))]) C hW [0, 1] [2, 3, 4, 5, 6] rfl rfl (by decide) (by decide) (zRunV (k := 0) (As := []) (rest := []) C hW (c_PartDrawings_needDrawn l D cI cG cL cB x0 b0 r0 tr0 dh kh me0 cl0 pg0 la0 d1 d2 d3 d4 dth dn dac (by omega) H.size) [0, 1] rfl (by decide) kPD_135 (by decide +kernel) ⟨by decide, by decide⟩ 0 rfl rfl rfl hl.1 (Nat.le_of_ble_eq_true rfl) dPD_page_1 ⟨by first | decide | omega, by first | decide | omega⟩) (fun w H locs hq hW => ?_)
  subst hq
  have hW : zw D zCl A s [(d1, .inl (cI, 1200, .inl (fI dLi))), (d2, .inl (cI, 1200, .inl (fI dBe))), (d3, .inl (cI, 1200, .inl (fI dEn))), (d4, .inl (cI, 1200, .inl (fI dSt))), (pg0, .inr (5, [.int (zI wd), .int (zI hg), .long (zL co), .long (zL ro), .long (zL oa), .long (zL ou), .long (zL lf), .long (zL rt), .long (zL lw), .long (zL up_), .int (zI tp)])), (x0, .inr (9, [.ref b0, .ref r0, .ref tr0, .ref dh, .ref kh, .ref me0, .ref cl0, .ref pg0, .ref la0])), (dh, .inr (7, [.int (zI dth), .int (zI dn), .int (zI dac), .ref d1, .ref d2, .ref d3, .ref d4]))] H locs := hW
  refine lv_aload_n C.1 C.2.1 dPD_page_4 rfl (lv_at hl 0 rfl) ?_
  refine zget C hW 5 7 rfl rfl inPD (by decide) flPD_59 rfl dPD_page_5 ?_
  refine lv_aload_n C.1 C.2.1 dPD_page_8 rfl (lv_at hl 0 rfl) ?_
  refine zget C hW 5 3 rfl rfl inPD (by decide) flPD_33 rfl dPD_page_9 ?_
  refine zcallv (wr := [(x0, .inr (9, [.ref b0, .ref r0, .ref tr0, .ref dh, .ref kh, .ref me0, .ref cl0, .ref pg0, .ref la0]))]) C hW [4, 6, 0, 1, 2, 3] [5] rfl rfl (by decide) (by decide) (zRunV (k := 1) (As := [.ref dh]) (rest := []) C hW (c_Pages_layOver l D cI cG cL cB pg0 wd hg co ro oa ou lf rt lw up_ tp dh d1 d2 d3 d4 dth dn dac dLi dBe dEn dSt bdLi bdBe bdEn bdSt (by omega) (by omega) (by omega) (by omega) (fun j a b => by have := hdB j a b; omega) hwd hhg H.size) [4, 6, 0, 1, 2, 3] rfl (by decide) kPD_205 (by decide +kernel) ⟨by decide, by decide⟩ 4 rfl rfl rfl hl.1 (Nat.le_of_ble_eq_true rfl) dPD_page_12 ⟨by first | decide | omega, by first | decide | omega⟩) (fun w H locs hq hW => ?_)
  obtain ⟨co21, ro22, oa23, ou24, hf5, rfl⟩ := hq
  have hW : zw D zCl A s [(x0, .inr (9, [.ref b0, .ref r0, .ref tr0, .ref dh, .ref kh, .ref me0, .ref cl0, .ref pg0, .ref la0])), (pg0, .inr (5, [.int (zI wd), .int (zI hg), .long (zL co21), .long (zL ro22), .long (zL oa23), .long (zL ou24), .long (zL lf), .long (zL rt), .long (zL lw), .long (zL up_), .int (zI tp)])), (dh, .inr (7, [.int (zI dth), .int (zI dn), .int (zI dac), .ref d1, .ref d2, .ref d3, .ref d4])), (d1, .inl (cI, 1200, .inl (fI dLi))), (d2, .inl (cI, 1200, .inl (fI dBe))), (d3, .inl (cI, 1200, .inl (fI dEn))), (d4, .inl (cI, 1200, .inl (fI dSt)))] H locs := hW
  have hln := lay_in hf5 (fun j a b => by have := hdB j a b; omega) hwd hhg
  have hcr := mul_in (a := co21) (b := ro22) (A := 20000000) (B := 20000000) (by omega) (by omega) (by omega) (by omega)
  have hk2 := hk _ _ _ _ hf5
  refine lv_iload_n C.1 C.2.1 dPD_page_15 rfl (lv_at hl 1 rfl) ?_
  refine lv_iconst (v := zI (-1)) C.1 C.2.1 dPD_page_16 (by decide) ?_
  refine zicmp_eq (tgt := 47) C (by omega) (by omega) dPD_page_17 (by decide) (fun c17 => ?_) (fun c17 => ?_)
  · exact False.elim (by omega)
  · refine lv_iload_n C.1 C.2.1 dPD_page_20 rfl (lv_at hl 1 rfl) ?_
    refine zif_lt (tgt := 37) C (by omega) dPD_page_21 (by decide) (fun c21 => ?_) (fun c21 => ?_)
    · have hW : zw D zCl A s [(x0, .inr (9, [.ref b0, .ref r0, .ref tr0, .ref dh, .ref kh, .ref me0, .ref cl0, .ref pg0, .ref la0])), (dh, .inr (7, [.int (zI dth), .int (zI dn), .int (zI dac), .ref d1, .ref d2, .ref d3, .ref d4])), (d1, .inl (cI, 1200, .inl (fI dLi))), (d2, .inl (cI, 1200, .inl (fI dBe))), (d3, .inl (cI, 1200, .inl (fI dEn))), (d4, .inl (cI, 1200, .inl (fI dSt))), (pg0, .inr (5, [.int (zI wd), .int (zI hg), .long (zL co21), .long (zL ro22), .long (zL oa23), .long (zL ou24), .long (zL lf), .long (zL rt), .long (zL lw), .long (zL up_), .int (zI tp)]))] H locs := zwp hW [0, 2, 3, 4, 5, 6, 1] rfl (by decide)
      exact zthrow C hW hx hlt hl.1 (by decide +kernel) (by decide +kernel) ktPD_138_211_142c kxPD_142 ktPD_138_211_142s hQ ⟨_, _, _, _, hf5, rfl⟩ (by omega) (by omega) (by decide) (by decide) (by decide) (Nat.le_of_ble_eq_true rfl) dPD_page_37 dPD_page_40 dPD_page_41 dPD_page_43 dPD_page_46
    · refine lv_iload_n C.1 C.2.1 dPD_page_24 rfl (lv_at hl 1 rfl) ?_
      refine zi2l C (by omega) dPD_page_25 ?_
      refine lv_aload_n C.1 C.2.1 dPD_page_26 rfl (lv_at hl 0 rfl) ?_
      refine zget C hW 0 7 rfl rfl inPD (by decide) flPD_59 rfl dPD_page_27 ?_
      refine zcalll (wr := [(x0, .inr (9, [.ref b0, .ref r0, .ref tr0, .ref dh, .ref kh, .ref me0, .ref cl0, .ref pg0, .ref la0])), (dh, .inr (7, [.int (zI dth), .int (zI dn), .int (zI dac), .ref d1, .ref d2, .ref d3, .ref d4])), (d1, .inl (cI, 1200, .inl (fI dLi))), (d2, .inl (cI, 1200, .inl (fI dBe))), (d3, .inl (cI, 1200, .inl (fI dEn))), (d4, .inl (cI, 1200, .inl (fI dSt)))]) C hW [1] [0, 2, 3, 4, 5, 6] rfl rfl (by decide) (by decide) (zRunV (k := 0) (As := []) (rest := [.long (zL k)]) C hW (c_Pages_count l D cI cG cL cB pg0 wd hg co21 ro22 oa23 ou24 lf rt lw up_ tp  H.size) [1] rfl (by decide) kPD_209 (by decide +kernel) ⟨by decide, by decide⟩ 1 rfl rfl rfl hl.1 (Nat.le_of_ble_eq_true rfl) dPD_page_30 ⟨by first | decide | omega, by first | decide | omega⟩) (fun x w H locs hq hW => ?_)
      obtain ⟨rfl, rfl⟩ := hq
      have hW : zw D zCl A s [(x0, .inr (9, [.ref b0, .ref r0, .ref tr0, .ref dh, .ref kh, .ref me0, .ref cl0, .ref pg0, .ref la0])), (dh, .inr (7, [.int (zI dth), .int (zI dn), .int (zI dac), .ref d1, .ref d2, .ref d3, .ref d4])), (d1, .inl (cI, 1200, .inl (fI dLi))), (d2, .inl (cI, 1200, .inl (fI dBe))), (d3, .inl (cI, 1200, .inl (fI dEn))), (d4, .inl (cI, 1200, .inl (fI dSt))), (pg0, .inr (5, [.int (zI wd), .int (zI hg), .long (zL co21), .long (zL ro22), .long (zL oa23), .long (zL ou24), .long (zL lf), .long (zL rt), .long (zL lw), .long (zL up_), .int (zI tp)]))] H locs := hW
      refine zlcmp_lt (tgt := 47) C (by omega) (by omega) dPD_page_33 dPD_page_34 (by decide) (fun c33 => ?_) (fun c33 => ?_)
      · exact False.elim (by omega)
      · exact zthrow C hW hx hlt hl.1 (by decide +kernel) (by decide +kernel) ktPD_138_211_142c kxPD_142 ktPD_138_211_142s hQ ⟨_, _, _, _, hf5, rfl⟩ (by omega) (by omega) (by decide) (by decide) (by decide) (Nat.le_of_ble_eq_true rfl) dPD_page_37 dPD_page_40 dPD_page_41 dPD_page_43 dPD_page_46
set_option maxHeartbeats 4000000 in
set_option maxRecDepth 100000 in
theorem c_PartDrawings_page_T3 (l : Launch) (D : va_G) (cI cG cL cB : ClassId) (x0 : Nat) (b0 : Nat) (r0 : Nat) (tr0 : Nat) (dh : Nat) (kh : Nat) (me0 : Nat) (cl0 : Nat) (pg0 : Nat) (la0 : Nat) (d1 : Nat) (d2 : Nat) (d3 : Nat) (d4 : Nat) (dth : Int) (dn : Int) (dac : Int) (dLi : Int → Int) (dBe : Int → Int) (dEn : Int → Int) (dSt : Int → Int) (wd : Int) (hg : Int) (co : Int) (ro : Int) (oa : Int) (ou : Int) (lf : Int) (rt : Int) (lw : Int) (up_ : Int) (tp : Int) (k : Int) (wh : Int) (hlt : l.stackTraces = false) (bdLi : ∀ j : Int, I32 (dLi j)) (bdBe : ∀ j : Int, I32 (dBe j)) (bdEn : ∀ j : Int, I32 (dEn j)) (bdSt : ∀ j : Int, I32 (dSt j)) (hn0d : 0 ≤ dn) (hn1d : dn ≤ 1200) (ha0d : 0 ≤ dac) (ha1d : dac ≤ dn) (hIk : I32 k) (hIwh : I32 wh) (hdB : bdA dn dLi dBe dEn dSt) (hwd : 1 ≤ wd ∧ wd ≤ 65536) (hhg : 1 ≤ hg ∧ hg ≤ 65536) (hdth : dth = 1) (hw : ¬ (0 ≤ wh ∧ wh ≤ 1)) (hk : (∀ co3 ro3 oa3 ou3 : Int, layP dac dn dLi wd hg co3 ro3 oa3 ou3 → (k = -1 ∨ 0 ≤ k ∧ k < co3 * ro3))) : Ct l yPD_page cPD_page 3 (some .int) 7 1 6 D zCl (zT cI cG cL cB) [.ref x0, .int (zI k), .int (zI wh)] [(x0, .inr (9, [.ref b0, .ref r0, .ref tr0, .ref dh, .ref kh, .ref me0, .ref cl0, .ref pg0, .ref la0])), (dh, .inr (7, [.int (zI dth), .int (zI dn), .int (zI dac), .ref d1, .ref d2, .ref d3, .ref d4])), (d1, .inl (cI, 1200, .inl (fI dLi))), (d2, .inl (cI, 1200, .inl (fI dBe))), (d3, .inl (cI, 1200, .inl (fI dEn))), (d4, .inl (cI, 1200, .inl (fI dSt))), (pg0, .inr (5, [.int (zI wd), .int (zI hg), .long (zL co), .long (zL ro), .long (zL oa), .long (zL ou), .long (zL lf), .long (zL rt), .long (zL lw), .long (zL up_), .int (zI tp)]))] "java/lang/IllegalArgumentException" (fun w => ∃ co2 : Int, ∃ ro2 : Int, ∃ oa2 : Int, ∃ ou2 : Int, (layP dac dn dLi wd hg co2 ro2 oa2 ou2) ∧ w = [(x0, .inr (9, [.ref b0, .ref r0, .ref tr0, .ref dh, .ref kh, .ref me0, .ref cl0, .ref pg0, .ref la0])), (dh, .inr (7, [.int (zI dth), .int (zI dn), .int (zI dac), .ref d1, .ref d2, .ref d3, .ref d4])), (d1, .inl (cI, 1200, .inl (fI dLi))), (d2, .inl (cI, 1200, .inl (fI dBe))), (d3, .inl (cI, 1200, .inl (fI dEn))), (d4, .inl (cI, 1200, .inl (fI dSt))), (pg0, .inr (5, [.int (zI wd), .int (zI hg), .long (zL co2), .long (zL ro2), .long (zL oa2), .long (zL ou2), .long (zL lf), .long (zL rt), .long (zL lw), .long (zL up_), .int (zI tp)]))]) := by
  refine zBt (by decide) (Nat.le_of_ble_eq_true rfl) ?_
  intro p e s m args below meth c ls A H locs Q C hx hl hW hQ
  have hl : lv_has ls 3 [(0, .ref x0), (1, .int (zI k)), (2, .int (zI wh))] := hl
  refine lv_aload_n C.1 C.2.1 dPD_page_0 rfl (lv_at hl 0 rfl) ?_
  refine zcallv (wr := [(d1, .inl (cI, 1200, .inl (fI dLi))), (d2, .inl (cI, 1200, .inl (fI dBe))), (d3, .inl (cI, 1200, .inl (fI dEn))), (d4, .inl (cI, 1200, .inl (fI dSt))), (pg0, .inr (5, [.int (zI wd), .int (zI hg), .long (zL co), .long (zL ro), .long (zL oa), .long (zL ou), .long (zL lf), .long (zL rt), .long (zL lw), .long (zL up_), .int (zI tp)]))]) C hW [0, 1] [2, 3, 4, 5, 6] rfl rfl (by decide) (by decide) (zRunV (k := 0) (As := []) (rest := []) C hW (c_PartDrawings_needDrawn l D cI cG cL cB x0 b0 r0 tr0 dh kh me0 cl0 pg0 la0 d1 d2 d3 d4 dth dn dac (by omega) H.size) [0, 1] rfl (by decide) kPD_135 (by decide +kernel) ⟨by decide, by decide⟩ 0 rfl rfl rfl hl.1 (Nat.le_of_ble_eq_true rfl) dPD_page_1 ⟨by first | decide | omega, by first | decide | omega⟩) (fun w H locs hq hW => ?_)
  subst hq
  have hW : zw D zCl A s [(d1, .inl (cI, 1200, .inl (fI dLi))), (d2, .inl (cI, 1200, .inl (fI dBe))), (d3, .inl (cI, 1200, .inl (fI dEn))), (d4, .inl (cI, 1200, .inl (fI dSt))), (pg0, .inr (5, [.int (zI wd), .int (zI hg), .long (zL co), .long (zL ro), .long (zL oa), .long (zL ou), .long (zL lf), .long (zL rt), .long (zL lw), .long (zL up_), .int (zI tp)])), (x0, .inr (9, [.ref b0, .ref r0, .ref tr0, .ref dh, .ref kh, .ref me0, .ref cl0, .ref pg0, .ref la0])), (dh, .inr (7, [.int (zI dth), .int (zI dn), .int (zI dac), .ref d1, .ref d2, .ref d3, .ref d4]))] H locs := hW
  refine lv_aload_n C.1 C.2.1 dPD_page_4 rfl (lv_at hl 0 rfl) ?_
  refine zget C hW 5 7 rfl rfl inPD (by decide) flPD_59 rfl dPD_page_5 ?_
  refine lv_aload_n C.1 C.2.1 dPD_page_8 rfl (lv_at hl 0 rfl) ?_
  refine zget C hW 5 3 rfl rfl inPD (by decide) flPD_33 rfl dPD_page_9 ?_
  refine zcallv (wr := [(x0, .inr (9, [.ref b0, .ref r0, .ref tr0, .ref dh, .ref kh, .ref me0, .ref cl0, .ref pg0, .ref la0]))]) C hW [4, 6, 0, 1, 2, 3] [5] rfl rfl (by decide) (by decide) (zRunV (k := 1) (As := [.ref dh]) (rest := []) C hW (c_Pages_layOver l D cI cG cL cB pg0 wd hg co ro oa ou lf rt lw up_ tp dh d1 d2 d3 d4 dth dn dac dLi dBe dEn dSt bdLi bdBe bdEn bdSt (by omega) (by omega) (by omega) (by omega) (fun j a b => by have := hdB j a b; omega) hwd hhg H.size) [4, 6, 0, 1, 2, 3] rfl (by decide) kPD_205 (by decide +kernel) ⟨by decide, by decide⟩ 4 rfl rfl rfl hl.1 (Nat.le_of_ble_eq_true rfl) dPD_page_12 ⟨by first | decide | omega, by first | decide | omega⟩) (fun w H locs hq hW => ?_)
  obtain ⟨co21, ro22, oa23, ou24, hf5, rfl⟩ := hq
  have hW : zw D zCl A s [(x0, .inr (9, [.ref b0, .ref r0, .ref tr0, .ref dh, .ref kh, .ref me0, .ref cl0, .ref pg0, .ref la0])), (pg0, .inr (5, [.int (zI wd), .int (zI hg), .long (zL co21), .long (zL ro22), .long (zL oa23), .long (zL ou24), .long (zL lf), .long (zL rt), .long (zL lw), .long (zL up_), .int (zI tp)])), (dh, .inr (7, [.int (zI dth), .int (zI dn), .int (zI dac), .ref d1, .ref d2, .ref d3, .ref d4])), (d1, .inl (cI, 1200, .inl (fI dLi))), (d2, .inl (cI, 1200, .inl (fI dBe))), (d3, .inl (cI, 1200, .inl (fI dEn))), (d4, .inl (cI, 1200, .inl (fI dSt)))] H locs := hW
  have hln := lay_in hf5 (fun j a b => by have := hdB j a b; omega) hwd hhg
  have hcr := mul_in (a := co21) (b := ro22) (A := 20000000) (B := 20000000) (by omega) (by omega) (by omega) (by omega)
  have hk2 := hk _ _ _ _ hf5
  refine lv_iload_n C.1 C.2.1 dPD_page_15 rfl (lv_at hl 1 rfl) ?_
  refine lv_iconst (v := zI (-1)) C.1 C.2.1 dPD_page_16 (by decide) ?_
  refine zicmp_eq (tgt := 47) C (by omega) (by omega) dPD_page_17 (by decide) (fun c17 => ?_) (fun c17 => ?_)
  · refine lv_iload_n C.1 C.2.1 dPD_page_47 rfl (lv_at hl 2 rfl) ?_
    refine zif_lt (tgt := 56) C (by omega) dPD_page_48 (by decide) (fun c48 => ?_) (fun c48 => ?_)
    · have hW : zw D zCl A s [(x0, .inr (9, [.ref b0, .ref r0, .ref tr0, .ref dh, .ref kh, .ref me0, .ref cl0, .ref pg0, .ref la0])), (dh, .inr (7, [.int (zI dth), .int (zI dn), .int (zI dac), .ref d1, .ref d2, .ref d3, .ref d4])), (d1, .inl (cI, 1200, .inl (fI dLi))), (d2, .inl (cI, 1200, .inl (fI dBe))), (d3, .inl (cI, 1200, .inl (fI dEn))), (d4, .inl (cI, 1200, .inl (fI dSt))), (pg0, .inr (5, [.int (zI wd), .int (zI hg), .long (zL co21), .long (zL ro22), .long (zL oa23), .long (zL ou24), .long (zL lf), .long (zL rt), .long (zL lw), .long (zL up_), .int (zI tp)]))] H locs := zwp hW [0, 2, 3, 4, 5, 6, 1] rfl (by decide)
      exact zthrow C hW hx hlt hl.1 (by decide +kernel) (by decide +kernel) ktPD_85_213_89c kxPD_89 ktPD_85_213_89s hQ ⟨_, _, _, _, hf5, rfl⟩ (by omega) (by omega) (by decide) (by decide) (by decide) (Nat.le_of_ble_eq_true rfl) dPD_page_56 dPD_page_59 dPD_page_60 dPD_page_62 dPD_page_65
    · refine lv_iload_n C.1 C.2.1 dPD_page_51 rfl (lv_at hl 2 rfl) ?_
      refine lv_iconst (v := zI 1) C.1 C.2.1 dPD_page_52 (by decide) ?_
      refine zicmp_le (tgt := 66) C (by omega) (by omega) dPD_page_53 (by decide) (fun c53 => ?_) (fun c53 => ?_)
      · exact False.elim (by omega)
      · have hW : zw D zCl A s [(x0, .inr (9, [.ref b0, .ref r0, .ref tr0, .ref dh, .ref kh, .ref me0, .ref cl0, .ref pg0, .ref la0])), (dh, .inr (7, [.int (zI dth), .int (zI dn), .int (zI dac), .ref d1, .ref d2, .ref d3, .ref d4])), (d1, .inl (cI, 1200, .inl (fI dLi))), (d2, .inl (cI, 1200, .inl (fI dBe))), (d3, .inl (cI, 1200, .inl (fI dEn))), (d4, .inl (cI, 1200, .inl (fI dSt))), (pg0, .inr (5, [.int (zI wd), .int (zI hg), .long (zL co21), .long (zL ro22), .long (zL oa23), .long (zL ou24), .long (zL lf), .long (zL rt), .long (zL lw), .long (zL up_), .int (zI tp)]))] H locs := zwp hW [0, 2, 3, 4, 5, 6, 1] rfl (by decide)
        exact zthrow C hW hx hlt hl.1 (by decide +kernel) (by decide +kernel) ktPD_85_213_89c kxPD_89 ktPD_85_213_89s hQ ⟨_, _, _, _, hf5, rfl⟩ (by omega) (by omega) (by decide) (by decide) (by decide) (Nat.le_of_ble_eq_true rfl) dPD_page_56 dPD_page_59 dPD_page_60 dPD_page_62 dPD_page_65
  · refine lv_iload_n C.1 C.2.1 dPD_page_20 rfl (lv_at hl 1 rfl) ?_
    refine zif_lt (tgt := 37) C (by omega) dPD_page_21 (by decide) (fun c21 => ?_) (fun c21 => ?_)
    · exact False.elim (by omega)
    · refine lv_iload_n C.1 C.2.1 dPD_page_24 rfl (lv_at hl 1 rfl) ?_
      refine zi2l C (by omega) dPD_page_25 ?_
      refine lv_aload_n C.1 C.2.1 dPD_page_26 rfl (lv_at hl 0 rfl) ?_
      refine zget C hW 0 7 rfl rfl inPD (by decide) flPD_59 rfl dPD_page_27 ?_
      refine zcalll (wr := [(x0, .inr (9, [.ref b0, .ref r0, .ref tr0, .ref dh, .ref kh, .ref me0, .ref cl0, .ref pg0, .ref la0])), (dh, .inr (7, [.int (zI dth), .int (zI dn), .int (zI dac), .ref d1, .ref d2, .ref d3, .ref d4])), (d1, .inl (cI, 1200, .inl (fI dLi))), (d2, .inl (cI, 1200, .inl (fI dBe))), (d3, .inl (cI, 1200, .inl (fI dEn))), (d4, .inl (cI, 1200, .inl (fI dSt)))]) C hW [1] [0, 2, 3, 4, 5, 6] rfl rfl (by decide) (by decide) (zRunV (k := 0) (As := []) (rest := [.long (zL k)]) C hW (c_Pages_count l D cI cG cL cB pg0 wd hg co21 ro22 oa23 ou24 lf rt lw up_ tp  H.size) [1] rfl (by decide) kPD_209 (by decide +kernel) ⟨by decide, by decide⟩ 1 rfl rfl rfl hl.1 (Nat.le_of_ble_eq_true rfl) dPD_page_30 ⟨by first | decide | omega, by first | decide | omega⟩) (fun x w H locs hq hW => ?_)
      obtain ⟨rfl, rfl⟩ := hq
      have hW : zw D zCl A s [(x0, .inr (9, [.ref b0, .ref r0, .ref tr0, .ref dh, .ref kh, .ref me0, .ref cl0, .ref pg0, .ref la0])), (dh, .inr (7, [.int (zI dth), .int (zI dn), .int (zI dac), .ref d1, .ref d2, .ref d3, .ref d4])), (d1, .inl (cI, 1200, .inl (fI dLi))), (d2, .inl (cI, 1200, .inl (fI dBe))), (d3, .inl (cI, 1200, .inl (fI dEn))), (d4, .inl (cI, 1200, .inl (fI dSt))), (pg0, .inr (5, [.int (zI wd), .int (zI hg), .long (zL co21), .long (zL ro22), .long (zL oa23), .long (zL ou24), .long (zL lf), .long (zL rt), .long (zL lw), .long (zL up_), .int (zI tp)]))] H locs := hW
      refine zlcmp_lt (tgt := 47) C (by omega) (by omega) dPD_page_33 dPD_page_34 (by decide) (fun c33 => ?_) (fun c33 => ?_)
      · refine lv_iload_n C.1 C.2.1 dPD_page_47 rfl (lv_at hl 2 rfl) ?_
        refine zif_lt (tgt := 56) C (by omega) dPD_page_48 (by decide) (fun c48 => ?_) (fun c48 => ?_)
        · exact zthrow C hW hx hlt hl.1 (by decide +kernel) (by decide +kernel) ktPD_85_213_89c kxPD_89 ktPD_85_213_89s hQ ⟨_, _, _, _, hf5, rfl⟩ (by omega) (by omega) (by decide) (by decide) (by decide) (Nat.le_of_ble_eq_true rfl) dPD_page_56 dPD_page_59 dPD_page_60 dPD_page_62 dPD_page_65
        · refine lv_iload_n C.1 C.2.1 dPD_page_51 rfl (lv_at hl 2 rfl) ?_
          refine lv_iconst (v := zI 1) C.1 C.2.1 dPD_page_52 (by decide) ?_
          refine zicmp_le (tgt := 66) C (by omega) (by omega) dPD_page_53 (by decide) (fun c53 => ?_) (fun c53 => ?_)
          · exact False.elim (by omega)
          · exact zthrow C hW hx hlt hl.1 (by decide +kernel) (by decide +kernel) ktPD_85_213_89c kxPD_89 ktPD_85_213_89s hQ ⟨_, _, _, _, hf5, rfl⟩ (by omega) (by omega) (by decide) (by decide) (by decide) (Nat.le_of_ble_eq_true rfl) dPD_page_56 dPD_page_59 dPD_page_60 dPD_page_62 dPD_page_65
      · exact False.elim (by omega)

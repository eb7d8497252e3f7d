theorem dIg_compare_0 : decode cIg_compare 0 = .ok (.iload_n 0, 1) := by decide +kernel
theorem dIg_compare_1 : decode cIg_compare 1 = .ok (.iload_n 1, 1) := by decide +kernel
theorem dIg_compare_2 : decode cIg_compare 2 = .ok (.if_icmp .ge 7, 3) := by decide +kernel
theorem dIg_compare_5 : decode cIg_compare 5 = .ok (.iconst (-1), 1) := by decide +kernel
theorem dIg_compare_6 : decode cIg_compare 6 = .ok (.goto 13, 3) := by decide +kernel
theorem dIg_compare_9 : decode cIg_compare 9 = .ok (.iload_n 0, 1) := by decide +kernel
theorem dIg_compare_10 : decode cIg_compare 10 = .ok (.iload_n 1, 1) := by decide +kernel
theorem dIg_compare_11 : decode cIg_compare 11 = .ok (.if_icmp .ne 7, 3) := by decide +kernel
theorem dIg_compare_14 : decode cIg_compare 14 = .ok (.iconst 0, 1) := by decide +kernel
theorem dIg_compare_15 : decode cIg_compare 15 = .ok (.goto 4, 3) := by decide +kernel
theorem dIg_compare_18 : decode cIg_compare 18 = .ok (.iconst 1, 1) := by decide +kernel
theorem dIg_compare_19 : decode cIg_compare 19 = .ok (.ireturn, 1) := by decide +kernel
set_option maxRecDepth 100000 in
theorem kSk_55 : inT (kS "PartDrawings$Strokes" 55 yIg_compare cIg_compare 2 (some .int)) := gW_l [1197, 765, 68, 766] rfl (by decide +kernel)
set_option maxHeartbeats 4000000 in
set_option maxRecDepth 100000 in
theorem c_Integer_compare (l : Launch) (D : va_G) (cI cG cL cB : ClassId) (a : Int) (b : Int) (hIa : I32 a) (hIb : I32 b) : Ci l yIg_compare cIg_compare 2 (some .int) 0 0 0 D zCl (zT cI cG cL cB) [.int (zI a), .int (zI b)] [] (fun x w => x = zI (cmpZ a b) ∧ w = []) := by
  refine zBi (by decide) (Nat.le_of_ble_eq_true rfl) ?_
  intro p e s m args below meth c ls A H locs Q C hin hl hW hQ
  have hl : lv_has ls 2 [(0, .int (zI a)), (1, .int (zI b))] := hl
  refine lv_iload_n C.1 C.2.1 dIg_compare_0 rfl (lv_at hl 0 rfl) ?_
  refine lv_iload_n C.1 C.2.1 dIg_compare_1 rfl (lv_at hl 1 rfl) ?_
  refine zicmp_ge (tgt := 9) C (by omega) (by omega) dIg_compare_2 (by decide) (fun c2 => ?_) (fun c2 => ?_)
  · refine lv_iload_n C.1 C.2.1 dIg_compare_9 rfl (lv_at hl 0 rfl) ?_
    refine lv_iload_n C.1 C.2.1 dIg_compare_10 rfl (lv_at hl 1 rfl) ?_
    refine zicmp_ne (tgt := 18) C (by omega) (by omega) dIg_compare_11 (by decide) (fun c11 => ?_) (fun c11 => ?_)
    · refine lv_iconst (v := zI 1) C.1 C.2.1 dIg_compare_18 (by decide) ?_
      exact hQ (zI 1) _ H locs _ _ _ ls hW ⟨congrArg zI (by have := cmpZ_in a b; omega), rfl⟩ (by omega) (by omega) dIg_compare_19
    · refine lv_iconst (v := zI 0) C.1 C.2.1 dIg_compare_14 (by decide) ?_
      refine lv_goto (tgt := 19) C.1 C.2.1 dIg_compare_15 (by decide) ?_
      exact hQ (zI 0) _ H locs _ _ _ ls hW ⟨congrArg zI (by have := cmpZ_in a b; omega), rfl⟩ (by omega) (by omega) dIg_compare_19
  · refine lv_iconst (v := zI (-1)) C.1 C.2.1 dIg_compare_5 (by decide) ?_
    refine lv_goto (tgt := 19) C.1 C.2.1 dIg_compare_6 (by decide) ?_
    exact hQ (zI (-1)) _ H locs _ _ _ ls hW ⟨congrArg zI (by have := cmpZ_in a b; omega), rfl⟩ (by omega) (by omega) dIg_compare_19
set_option maxHeartbeats 4000000 in
set_option maxRecDepth 100000 in
theorem c_Strokes_compare (l : Launch) (D : va_G) (cI cG cL cB : ClassId) (th : Nat) (t1 : Nat) (t2 : Nat) (t3 : Nat) (t4 : Nat) (tth : Int) (tn : Int) (tac : Int) (tLi : Int → Int) (tBe : Int → Int) (tEn : Int → Int) (tSt : Int → Int) (oh : Nat) (o1 : Nat) (o2 : Nat) (o3 : Nat) (o4 : Nat) (oth : Int) (on : Int) (oac : Int) (oLi : Int → Int) (oBe : Int → Int) (oEn : Int → Int) (oSt : Int → Int) (at_ : Int) (i : Int) (btLi : ∀ j : Int, I32 (tLi j)) (btBe : ∀ j : Int, I32 (tBe j)) (btEn : ∀ j : Int, I32 (tEn j)) (btSt : ∀ j : Int, I32 (tSt j)) (hn0t : 0 ≤ tn) (hn1t : tn ≤ 1200) (ha0t : 0 ≤ tac) (ha1t : tac ≤ tn) (boLi : ∀ j : Int, I32 (oLi j)) (boBe : ∀ j : Int, I32 (oBe j)) (boEn : ∀ j : Int, I32 (oEn j)) (boSt : ∀ j : Int, I32 (oSt j)) (hn0o : 0 ≤ on) (hn1o : on ≤ 1200) (ha0o : 0 ≤ oac) (ha1o : oac ≤ on) (h1 : 0 ≤ at_) (h2 : at_ < on) (h3 : 0 ≤ i) (h4 : i < tn) : Ci l ySk_compare cSk_compare 4 (some .int) 1 0 0 D zCl (zT cI cG cL cB) [.ref th, .ref oh, .int (zI at_), .int (zI i)] [(th, .inr (7, [.int (zI tth), .int (zI tn), .int (zI tac), .ref t1, .ref t2, .ref t3, .ref t4])), (t1, .inl (cI, 1200, .inl (fI tLi))), (t2, .inl (cI, 1200, .inl (fI tBe))), (t3, .inl (cI, 1200, .inl (fI tEn))), (t4, .inl (cI, 1200, .inl (fI tSt))), (oh, .inr (7, [.int (zI oth), .int (zI on), .int (zI oac), .ref o1, .ref o2, .ref o3, .ref o4])), (o1, .inl (cI, 1200, .inl (fI oLi))), (o2, .inl (cI, 1200, .inl (fI oBe))), (o3, .inl (cI, 1200, .inl (fI oEn))), (o4, .inl (cI, 1200, .inl (fI oSt)))] (fun x w => x = zI (cmpS (wayZ oac at_) (oLi at_) (oBe at_) (wayZ tac i) (tLi i) (tBe i)) ∧ w = [(th, .inr (7, [.int (zI tth), .int (zI tn), .int (zI tac), .ref t1, .ref t2, .ref t3, .ref t4])), (t1, .inl (cI, 1200, .inl (fI tLi))), (t2, .inl (cI, 1200, .inl (fI tBe))), (t3, .inl (cI, 1200, .inl (fI tEn))), (t4, .inl (cI, 1200, .inl (fI tSt))), (oh, .inr (7, [.int (zI oth), .int (zI on), .int (zI oac), .ref o1, .ref o2, .ref o3, .ref o4])), (o1, .inl (cI, 1200, .inl (fI oLi))), (o2, .inl (cI, 1200, .inl (fI oBe))), (o3, .inl (cI, 1200, .inl (fI oEn))), (o4, .inl (cI, 1200, .inl (fI oSt)))]) := by
  refine zBi (by decide) (Nat.le_of_ble_eq_true rfl) ?_
  intro p e s m args below meth c ls A H locs Q C hin hl hW hQ
  have hl : lv_has ls 4 [(0, .ref th), (1, .ref oh), (2, .int (zI at_)), (3, .int (zI i))] := hl
  refine lv_aload_n C.1 C.2.1 dSk_compare_0 rfl (lv_at hl 1 rfl) ?_
  refine lv_iload_n C.1 C.2.1 dSk_compare_1 rfl (lv_at hl 2 rfl) ?_
  refine zcalli (wr := [(th, .inr (7, [.int (zI tth), .int (zI tn), .int (zI tac), .ref t1, .ref t2, .ref t3, .ref t4])), (t1, .inl (cI, 1200, .inl (fI tLi))), (t2, .inl (cI, 1200, .inl (fI tBe))), (t3, .inl (cI, 1200, .inl (fI tEn))), (t4, .inl (cI, 1200, .inl (fI tSt)))]) C hW [5, 6, 7, 8, 9] [0, 1, 2, 3, 4] rfl rfl (by decide) (by decide) (zRunV (k := 1) (As := [.int (zI at_)]) (rest := []) C hW (c_Strokes_wayOf l D cI cG cL cB oh o1 o2 o3 o4 oth on oac oLi oBe oEn oSt at_ boLi boBe boEn boSt (by omega) (by omega) (by omega) (by omega) (by omega) H.size) [5, 6, 7, 8, 9] rfl (by decide) kSk_41 (by decide +kernel) ⟨by decide, by decide⟩ 5 rfl rfl rfl hl.1 (Nat.le_of_ble_eq_true rfl) dSk_compare_2 ⟨by first | decide | omega, by first | decide | omega⟩) (fun x w H locs hq hW => ?_)
  obtain ⟨rfl, rfl⟩ := hq
  have hW : zw D zCl A s [(th, .inr (7, [.int (zI tth), .int (zI tn), .int (zI tac), .ref t1, .ref t2, .ref t3, .ref t4])), (t1, .inl (cI, 1200, .inl (fI tLi))), (t2, .inl (cI, 1200, .inl (fI tBe))), (t3, .inl (cI, 1200, .inl (fI tEn))), (t4, .inl (cI, 1200, .inl (fI tSt))), (oh, .inr (7, [.int (zI oth), .int (zI on), .int (zI oac), .ref o1, .ref o2, .ref o3, .ref o4])), (o1, .inl (cI, 1200, .inl (fI oLi))), (o2, .inl (cI, 1200, .inl (fI oBe))), (o3, .inl (cI, 1200, .inl (fI oEn))), (o4, .inl (cI, 1200, .inl (fI oSt)))] H locs := hW
  have hr1 := wayZ_01 oac at_
  refine lv_aload_n C.1 C.2.1 dSk_compare_5 rfl (lv_at hl 0 rfl) ?_
  refine lv_iload_n C.1 C.2.1 dSk_compare_6 rfl (lv_at hl 3 rfl) ?_
  refine zcalli (wr := [(oh, .inr (7, [.int (zI oth), .int (zI on), .int (zI oac), .ref o1, .ref o2, .ref o3, .ref o4])), (o1, .inl (cI, 1200, .inl (fI oLi))), (o2, .inl (cI, 1200, .inl (fI oBe))), (o3, .inl (cI, 1200, .inl (fI oEn))), (o4, .inl (cI, 1200, .inl (fI oSt)))]) C hW [0, 1, 2, 3, 4] [5, 6, 7, 8, 9] rfl rfl (by decide) (by decide) (zRunV (k := 1) (As := [.int (zI i)]) (rest := [.int (zI (wayZ oac at_))]) C hW (c_Strokes_wayOf l D cI cG cL cB th t1 t2 t3 t4 tth tn tac tLi tBe tEn tSt i btLi btBe btEn btSt (by omega) (by omega) (by omega) (by omega) (by omega) H.size) [0, 1, 2, 3, 4] rfl (by decide) kSk_41 (by decide +kernel) ⟨by decide, by decide⟩ 0 rfl rfl rfl hl.1 (Nat.le_of_ble_eq_true rfl) dSk_compare_7 ⟨by first | decide | omega, by first | decide | omega⟩) (fun x w H locs hq hW => ?_)
  obtain ⟨rfl, rfl⟩ := hq
  have hW : zw D zCl A s [(oh, .inr (7, [.int (zI oth), .int (zI on), .int (zI oac), .ref o1, .ref o2, .ref o3, .ref o4])), (o1, .inl (cI, 1200, .inl (fI oLi))), (o2, .inl (cI, 1200, .inl (fI oBe))), (o3, .inl (cI, 1200, .inl (fI oEn))), (o4, .inl (cI, 1200, .inl (fI oSt))), (th, .inr (7, [.int (zI tth), .int (zI tn), .int (zI tac), .ref t1, .ref t2, .ref t3, .ref t4])), (t1, .inl (cI, 1200, .inl (fI tLi))), (t2, .inl (cI, 1200, .inl (fI tBe))), (t3, .inl (cI, 1200, .inl (fI tEn))), (t4, .inl (cI, 1200, .inl (fI tSt)))] H locs := hW
  have hr2 := wayZ_01 tac i
  refine zicmp_eq (tgt := 27) C (by omega) (by omega) dSk_compare_10 (by decide) (fun c10 => ?_) (fun c10 => ?_)
  · refine lv_aload_n C.1 C.2.1 dSk_compare_27 rfl (lv_at hl 1 rfl) ?_
    refine zget C hW 0 3 rfl rfl inSk (by decide) flSk_9 rfl dSk_compare_28 ?_
    refine lv_iload_n C.1 C.2.1 dSk_compare_31 rfl (lv_at hl 2 rfl) ?_
    refine ziald C hW 1 0 rfl rfl (by omega) (by omega) (by decide) dSk_compare_32 ?_
    have hb3 := boLi at_
    refine lv_aload_n C.1 C.2.1 dSk_compare_33 rfl (lv_at hl 0 rfl) ?_
    refine zget C hW 5 3 rfl rfl inSk (by decide) flSk_9 rfl dSk_compare_34 ?_
    refine lv_iload_n C.1 C.2.1 dSk_compare_37 rfl (lv_at hl 3 rfl) ?_
    refine ziald C hW 6 0 rfl rfl (by omega) (by omega) (by decide) dSk_compare_38 ?_
    have hb4 := btLi i
    refine zicmp_eq (tgt := 58) C (by omega) (by omega) dSk_compare_39 (by decide) (fun c39 => ?_) (fun c39 => ?_)
    · refine lv_aload_n C.1 C.2.1 dSk_compare_58 rfl (lv_at hl 1 rfl) ?_
      refine zget C hW 0 4 rfl rfl inSk (by decide) flSk_15 rfl dSk_compare_59 ?_
      refine lv_iload_n C.1 C.2.1 dSk_compare_62 rfl (lv_at hl 2 rfl) ?_
      refine ziald C hW 2 0 rfl rfl (by omega) (by omega) (by decide) dSk_compare_63 ?_
      have hb5 := boBe at_
      refine lv_aload_n C.1 C.2.1 dSk_compare_64 rfl (lv_at hl 0 rfl) ?_
      refine zget C hW 5 4 rfl rfl inSk (by decide) flSk_15 rfl dSk_compare_65 ?_
      refine lv_iload_n C.1 C.2.1 dSk_compare_68 rfl (lv_at hl 3 rfl) ?_
      refine ziald C hW 7 0 rfl rfl (by omega) (by omega) (by decide) dSk_compare_69 ?_
      have hb6 := btBe i
      refine zcalli (wr := [(oh, .inr (7, [.int (zI oth), .int (zI on), .int (zI oac), .ref o1, .ref o2, .ref o3, .ref o4])), (o1, .inl (cI, 1200, .inl (fI oLi))), (o2, .inl (cI, 1200, .inl (fI oBe))), (o3, .inl (cI, 1200, .inl (fI oEn))), (o4, .inl (cI, 1200, .inl (fI oSt))), (th, .inr (7, [.int (zI tth), .int (zI tn), .int (zI tac), .ref t1, .ref t2, .ref t3, .ref t4])), (t1, .inl (cI, 1200, .inl (fI tLi))), (t2, .inl (cI, 1200, .inl (fI tBe))), (t3, .inl (cI, 1200, .inl (fI tEn))), (t4, .inl (cI, 1200, .inl (fI tSt)))]) C hW [] [0, 1, 2, 3, 4, 5, 6, 7, 8, 9] rfl rfl (by decide) (by decide) (zRunS (k := 2) (As := [.int (zI (oBe at_)), .int (zI (tBe i))]) (rest := []) C hW (c_Integer_compare l D cI cG cL cB (oBe at_) (tBe i) (by omega) (by omega) H.size) [] rfl (by decide) kSk_55 (by decide +kernel) ⟨by decide, by decide⟩ rfl hl.1 (Nat.le_of_ble_eq_true rfl) dSk_compare_70 ⟨by first | decide | omega, by first | decide | omega⟩) (fun x w H locs hq hW => ?_)
      obtain ⟨rfl, rfl⟩ := hq
      have hW : zw D zCl A s [(oh, .inr (7, [.int (zI oth), .int (zI on), .int (zI oac), .ref o1, .ref o2, .ref o3, .ref o4])), (o1, .inl (cI, 1200, .inl (fI oLi))), (o2, .inl (cI, 1200, .inl (fI oBe))), (o3, .inl (cI, 1200, .inl (fI oEn))), (o4, .inl (cI, 1200, .inl (fI oSt))), (th, .inr (7, [.int (zI tth), .int (zI tn), .int (zI tac), .ref t1, .ref t2, .ref t3, .ref t4])), (t1, .inl (cI, 1200, .inl (fI tLi))), (t2, .inl (cI, 1200, .inl (fI tBe))), (t3, .inl (cI, 1200, .inl (fI tEn))), (t4, .inl (cI, 1200, .inl (fI tSt)))] H locs := hW
      have hr7 := cmpZ_in (oBe at_) (tBe i)
      have hW : zw D zCl A s [(th, .inr (7, [.int (zI tth), .int (zI tn), .int (zI tac), .ref t1, .ref t2, .ref t3, .ref t4])), (t1, .inl (cI, 1200, .inl (fI tLi))), (t2, .inl (cI, 1200, .inl (fI tBe))), (t3, .inl (cI, 1200, .inl (fI tEn))), (t4, .inl (cI, 1200, .inl (fI tSt))), (oh, .inr (7, [.int (zI oth), .int (zI on), .int (zI oac), .ref o1, .ref o2, .ref o3, .ref o4])), (o1, .inl (cI, 1200, .inl (fI oLi))), (o2, .inl (cI, 1200, .inl (fI oBe))), (o3, .inl (cI, 1200, .inl (fI oEn))), (o4, .inl (cI, 1200, .inl (fI oSt)))] H locs := zwp hW [5, 6, 7, 8, 9, 0, 1, 2, 3, 4] rfl (by decide)
      exact hQ (zI (cmpZ (oBe at_) (tBe i))) _ H locs _ _ _ ls hW ⟨congrArg zI (by unfold cmpS; rw [if_pos c10, if_pos c39]), rfl⟩ (by omega) (by omega) dSk_compare_73
    · refine lv_aload_n C.1 C.2.1 dSk_compare_42 rfl (lv_at hl 1 rfl) ?_
      refine zget C hW 0 3 rfl rfl inSk (by decide) flSk_9 rfl dSk_compare_43 ?_
      refine lv_iload_n C.1 C.2.1 dSk_compare_46 rfl (lv_at hl 2 rfl) ?_
      refine ziald C hW 1 0 rfl rfl (by omega) (by omega) (by decide) dSk_compare_47 ?_
      have hb8 := boLi at_
      refine lv_aload_n C.1 C.2.1 dSk_compare_48 rfl (lv_at hl 0 rfl) ?_
      refine zget C hW 5 3 rfl rfl inSk (by decide) flSk_9 rfl dSk_compare_49 ?_
      refine lv_iload_n C.1 C.2.1 dSk_compare_52 rfl (lv_at hl 3 rfl) ?_
      refine ziald C hW 6 0 rfl rfl (by omega) (by omega) (by decide) dSk_compare_53 ?_
      have hb9 := btLi i
      refine zcalli (wr := [(oh, .inr (7, [.int (zI oth), .int (zI on), .int (zI oac), .ref o1, .ref o2, .ref o3, .ref o4])), (o1, .inl (cI, 1200, .inl (fI oLi))), (o2, .inl (cI, 1200, .inl (fI oBe))), (o3, .inl (cI, 1200, .inl (fI oEn))), (o4, .inl (cI, 1200, .inl (fI oSt))), (th, .inr (7, [.int (zI tth), .int (zI tn), .int (zI tac), .ref t1, .ref t2, .ref t3, .ref t4])), (t1, .inl (cI, 1200, .inl (fI tLi))), (t2, .inl (cI, 1200, .inl (fI tBe))), (t3, .inl (cI, 1200, .inl (fI tEn))), (t4, .inl (cI, 1200, .inl (fI tSt)))]) C hW [] [0, 1, 2, 3, 4, 5, 6, 7, 8, 9] rfl rfl (by decide) (by decide) (zRunS (k := 2) (As := [.int (zI (oLi at_)), .int (zI (tLi i))]) (rest := []) C hW (c_Integer_compare l D cI cG cL cB (oLi at_) (tLi i) (by omega) (by omega) H.size) [] rfl (by decide) kSk_55 (by decide +kernel) ⟨by decide, by decide⟩ rfl hl.1 (Nat.le_of_ble_eq_true rfl) dSk_compare_54 ⟨by first | decide | omega, by first | decide | omega⟩) (fun x w H locs hq hW => ?_)
      obtain ⟨rfl, rfl⟩ := hq
      have hW : zw D zCl A s [(oh, .inr (7, [.int (zI oth), .int (zI on), .int (zI oac), .ref o1, .ref o2, .ref o3, .ref o4])), (o1, .inl (cI, 1200, .inl (fI oLi))), (o2, .inl (cI, 1200, .inl (fI oBe))), (o3, .inl (cI, 1200, .inl (fI oEn))), (o4, .inl (cI, 1200, .inl (fI oSt))), (th, .inr (7, [.int (zI tth), .int (zI tn), .int (zI tac), .ref t1, .ref t2, .ref t3, .ref t4])), (t1, .inl (cI, 1200, .inl (fI tLi))), (t2, .inl (cI, 1200, .inl (fI tBe))), (t3, .inl (cI, 1200, .inl (fI tEn))), (t4, .inl (cI, 1200, .inl (fI tSt)))] H locs := hW
      have hr10 := cmpZ_in (oLi at_) (tLi i)
      have hW : zw D zCl A s [(th, .inr (7, [.int (zI tth), .int (zI tn), .int (zI tac), .ref t1, .ref t2, .ref t3, .ref t4])), (t1, .inl (cI, 1200, .inl (fI tLi))), (t2, .inl (cI, 1200, .inl (fI tBe))), (t3, .inl (cI, 1200, .inl (fI tEn))), (t4, .inl (cI, 1200, .inl (fI tSt))), (oh, .inr (7, [.int (zI oth), .int (zI on), .int (zI oac), .ref o1, .ref o2, .ref o3, .ref o4])), (o1, .inl (cI, 1200, .inl (fI oLi))), (o2, .inl (cI, 1200, .inl (fI oBe))), (o3, .inl (cI, 1200, .inl (fI oEn))), (o4, .inl (cI, 1200, .inl (fI oSt)))] H locs := zwp hW [5, 6, 7, 8, 9, 0, 1, 2, 3, 4] rfl (by decide)
      exact hQ (zI (cmpZ (oLi at_) (tLi i))) _ H locs _ _ _ ls hW ⟨congrArg zI (by unfold cmpS; rw [if_pos c10, if_neg c39]), rfl⟩ (by omega) (by omega) dSk_compare_57
  · refine lv_aload_n C.1 C.2.1 dSk_compare_13 rfl (lv_at hl 1 rfl) ?_
    refine lv_iload_n C.1 C.2.1 dSk_compare_14 rfl (lv_at hl 2 rfl) ?_
    refine zcalli (wr := [(th, .inr (7, [.int (zI tth), .int (zI tn), .int (zI tac), .ref t1, .ref t2, .ref t3, .ref t4])), (t1, .inl (cI, 1200, .inl (fI tLi))), (t2, .inl (cI, 1200, .inl (fI tBe))), (t3, .inl (cI, 1200, .inl (fI tEn))), (t4, .inl (cI, 1200, .inl (fI tSt)))]) C hW [0, 1, 2, 3, 4] [5, 6, 7, 8, 9] rfl rfl (by decide) (by decide) (zRunV (k := 1) (As := [.int (zI at_)]) (rest := []) C hW (c_Strokes_wayOf l D cI cG cL cB oh o1 o2 o3 o4 oth on oac oLi oBe oEn oSt at_ boLi boBe boEn boSt (by omega) (by omega) (by omega) (by omega) (by omega) H.size) [0, 1, 2, 3, 4] rfl (by decide) kSk_41 (by decide +kernel) ⟨by decide, by decide⟩ 0 rfl rfl rfl hl.1 (Nat.le_of_ble_eq_true rfl) dSk_compare_15 ⟨by first | decide | omega, by first | decide | omega⟩) (fun x w H locs hq hW => ?_)
    obtain ⟨rfl, rfl⟩ := hq
    have hW : zw D zCl A s [(th, .inr (7, [.int (zI tth), .int (zI tn), .int (zI tac), .ref t1, .ref t2, .ref t3, .ref t4])), (t1, .inl (cI, 1200, .inl (fI tLi))), (t2, .inl (cI, 1200, .inl (fI tBe))), (t3, .inl (cI, 1200, .inl (fI tEn))), (t4, .inl (cI, 1200, .inl (fI tSt))), (oh, .inr (7, [.int (zI oth), .int (zI on), .int (zI oac), .ref o1, .ref o2, .ref o3, .ref o4])), (o1, .inl (cI, 1200, .inl (fI oLi))), (o2, .inl (cI, 1200, .inl (fI oBe))), (o3, .inl (cI, 1200, .inl (fI oEn))), (o4, .inl (cI, 1200, .inl (fI oSt)))] H locs := hW
    have hr11 := wayZ_01 oac at_
    refine lv_aload_n C.1 C.2.1 dSk_compare_18 rfl (lv_at hl 0 rfl) ?_
    refine lv_iload_n C.1 C.2.1 dSk_compare_19 rfl (lv_at hl 3 rfl) ?_
    refine zcalli (wr := [(oh, .inr (7, [.int (zI oth), .int (zI on), .int (zI oac), .ref o1, .ref o2, .ref o3, .ref o4])), (o1, .inl (cI, 1200, .inl (fI oLi))), (o2, .inl (cI, 1200, .inl (fI oBe))), (o3, .inl (cI, 1200, .inl (fI oEn))), (o4, .inl (cI, 1200, .inl (fI oSt)))]) C hW [0, 1, 2, 3, 4] [5, 6, 7, 8, 9] rfl rfl (by decide) (by decide) (zRunV (k := 1) (As := [.int (zI i)]) (rest := [.int (zI (wayZ oac at_))]) C hW (c_Strokes_wayOf l D cI cG cL cB th t1 t2 t3 t4 tth tn tac tLi tBe tEn tSt i btLi btBe btEn btSt (by omega) (by omega) (by omega) (by omega) (by omega) H.size) [0, 1, 2, 3, 4] rfl (by decide) kSk_41 (by decide +kernel) ⟨by decide, by decide⟩ 0 rfl rfl rfl hl.1 (Nat.le_of_ble_eq_true rfl) dSk_compare_20 ⟨by first | decide | omega, by first | decide | omega⟩) (fun x w H locs hq hW => ?_)
    obtain ⟨rfl, rfl⟩ := hq
    have hW : zw D zCl A s [(oh, .inr (7, [.int (zI oth), .int (zI on), .int (zI oac), .ref o1, .ref o2, .ref o3, .ref o4])), (o1, .inl (cI, 1200, .inl (fI oLi))), (o2, .inl (cI, 1200, .inl (fI oBe))), (o3, .inl (cI, 1200, .inl (fI oEn))), (o4, .inl (cI, 1200, .inl (fI oSt))), (th, .inr (7, [.int (zI tth), .int (zI tn), .int (zI tac), .ref t1, .ref t2, .ref t3, .ref t4])), (t1, .inl (cI, 1200, .inl (fI tLi))), (t2, .inl (cI, 1200, .inl (fI tBe))), (t3, .inl (cI, 1200, .inl (fI tEn))), (t4, .inl (cI, 1200, .inl (fI tSt)))] H locs := hW
    have hr12 := wayZ_01 tac i
    refine zcalli (wr := [(oh, .inr (7, [.int (zI oth), .int (zI on), .int (zI oac), .ref o1, .ref o2, .ref o3, .ref o4])), (o1, .inl (cI, 1200, .inl (fI oLi))), (o2, .inl (cI, 1200, .inl (fI oBe))), (o3, .inl (cI, 1200, .inl (fI oEn))), (o4, .inl (cI, 1200, .inl (fI oSt))), (th, .inr (7, [.int (zI tth), .int (zI tn), .int (zI tac), .ref t1, .ref t2, .ref t3, .ref t4])), (t1, .inl (cI, 1200, .inl (fI tLi))), (t2, .inl (cI, 1200, .inl (fI tBe))), (t3, .inl (cI, 1200, .inl (fI tEn))), (t4, .inl (cI, 1200, .inl (fI tSt)))]) C hW [] [0, 1, 2, 3, 4, 5, 6, 7, 8, 9] rfl rfl (by decide) (by decide) (zRunS (k := 2) (As := [.int (zI (wayZ oac at_)), .int (zI (wayZ tac i))]) (rest := []) C hW (c_Integer_compare l D cI cG cL cB (wayZ oac at_) (wayZ tac i) (by omega) (by omega) H.size) [] rfl (by decide) kSk_55 (by decide +kernel) ⟨by decide, by decide⟩ rfl hl.1 (Nat.le_of_ble_eq_true rfl) dSk_compare_23 ⟨by first | decide | omega, by first | decide | omega⟩) (fun x w H locs hq hW => ?_)
    obtain ⟨rfl, rfl⟩ := hq
    have hW : zw D zCl A s [(oh, .inr (7, [.int (zI oth), .int (zI on), .int (zI oac), .ref o1, .ref o2, .ref o3, .ref o4])), (o1, .inl (cI, 1200, .inl (fI oLi))), (o2, .inl (cI, 1200, .inl (fI oBe))), (o3, .inl (cI, 1200, .inl (fI oEn))), (o4, .inl (cI, 1200, .inl (fI oSt))), (th, .inr (7, [.int (zI tth), .int (zI tn), .int (zI tac), .ref t1, .ref t2, .ref t3, .ref t4])), (t1, .inl (cI, 1200, .inl (fI tLi))), (t2, .inl (cI, 1200, .inl (fI tBe))), (t3, .inl (cI, 1200, .inl (fI tEn))), (t4, .inl (cI, 1200, .inl (fI tSt)))] H locs := hW
    have hr13 := cmpZ_in (wayZ oac at_) (wayZ tac i)
    have hW : zw D zCl A s [(th, .inr (7, [.int (zI tth), .int (zI tn), .int (zI tac), .ref t1, .ref t2, .ref t3, .ref t4])), (t1, .inl (cI, 1200, .inl (fI tLi))), (t2, .inl (cI, 1200, .inl (fI tBe))), (t3, .inl (cI, 1200, .inl (fI tEn))), (t4, .inl (cI, 1200, .inl (fI tSt))), (oh, .inr (7, [.int (zI oth), .int (zI on), .int (zI oac), .ref o1, .ref o2, .ref o3, .ref o4])), (o1, .inl (cI, 1200, .inl (fI oLi))), (o2, .inl (cI, 1200, .inl (fI oBe))), (o3, .inl (cI, 1200, .inl (fI oEn))), (o4, .inl (cI, 1200, .inl (fI oSt)))] H locs := zwp hW [5, 6, 7, 8, 9, 0, 1, 2, 3, 4] rfl (by decide)
    exact hQ (zI (cmpZ (wayZ oac at_) (wayZ tac i))) _ H locs _ _ _ ls hW ⟨congrArg zI (by unfold cmpS; rw [if_neg c10]), rfl⟩ (by omega) (by omega) dSk_compare_26

theorem dBx_init_0 : decode cBx_init 0 = .ok (.aload_n 0, 1) := by decide +kernel
theorem dBx_init_1 : decode cBx_init 1 = .ok (.invokespecial 3, 3) := by decide +kernel
theorem dBx_init_4 : decode cBx_init 4 = .ok (.aload_n 0, 1) := by decide +kernel
theorem dBx_init_5 : decode cBx_init 5 = .ok (.iconst 3, 1) := by decide +kernel
theorem dBx_init_6 : decode cBx_init 6 = .ok (.bipush 24, 2) := by decide +kernel
theorem dBx_init_8 : decode cBx_init 8 = .ok (.multianewarray 9 2, 4) := by decide +kernel
theorem dBx_init_12 : decode cBx_init 12 = .ok (.putfield 11, 3) := by decide +kernel
theorem dBx_init_15 : decode cBx_init 15 = .ok (.aload_n 0, 1) := by decide +kernel
theorem dBx_init_16 : decode cBx_init 16 = .ok (.iconst 3, 1) := by decide +kernel
theorem dBx_init_17 : decode cBx_init 17 = .ok (.bipush 24, 2) := by decide +kernel
theorem dBx_init_19 : decode cBx_init 19 = .ok (.multianewarray 9 2, 4) := by decide +kernel
theorem dBx_init_23 : decode cBx_init 23 = .ok (.putfield 16, 3) := by decide +kernel
theorem dBx_init_26 : decode cBx_init 26 = .ok (.return_, 1) := by decide +kernel
theorem dBx_setPlaces_0 : decode cBx_setPlaces 0 = .ok (.aload_n 0, 1) := by decide +kernel
theorem dBx_setPlaces_1 : decode cBx_setPlaces 1 = .ok (.getfield 11, 3) := by decide +kernel
theorem dBx_setPlaces_4 : decode cBx_setPlaces 4 = .ok (.iconst 0, 1) := by decide +kernel
theorem dBx_setPlaces_5 : decode cBx_setPlaces 5 = .ok (.aaload, 1) := by decide +kernel
theorem dBx_setPlaces_6 : decode cBx_setPlaces 6 = .ok (.iload_n 1, 1) := by decide +kernel
theorem dBx_setPlaces_7 : decode cBx_setPlaces 7 = .ok (.iload_n 2, 1) := by decide +kernel
theorem dBx_setPlaces_8 : decode cBx_setPlaces 8 = .ok (.iastore, 1) := by decide +kernel
theorem dBx_setPlaces_9 : decode cBx_setPlaces 9 = .ok (.aload_n 0, 1) := by decide +kernel
theorem dBx_setPlaces_10 : decode cBx_setPlaces 10 = .ok (.getfield 11, 3) := by decide +kernel
theorem dBx_setPlaces_13 : decode cBx_setPlaces 13 = .ok (.iconst 1, 1) := by decide +kernel
theorem dBx_setPlaces_14 : decode cBx_setPlaces 14 = .ok (.aaload, 1) := by decide +kernel
theorem dBx_setPlaces_15 : decode cBx_setPlaces 15 = .ok (.iload_n 1, 1) := by decide +kernel
theorem dBx_setPlaces_16 : decode cBx_setPlaces 16 = .ok (.iload_n 3, 1) := by decide +kernel
theorem dBx_setPlaces_17 : decode cBx_setPlaces 17 = .ok (.iastore, 1) := by decide +kernel
theorem dBx_setPlaces_18 : decode cBx_setPlaces 18 = .ok (.aload_n 0, 1) := by decide +kernel
theorem dBx_setPlaces_19 : decode cBx_setPlaces 19 = .ok (.getfield 11, 3) := by decide +kernel
theorem dBx_setPlaces_22 : decode cBx_setPlaces 22 = .ok (.iconst 2, 1) := by decide +kernel
theorem dBx_setPlaces_23 : decode cBx_setPlaces 23 = .ok (.aaload, 1) := by decide +kernel
theorem dBx_setPlaces_24 : decode cBx_setPlaces 24 = .ok (.iload_n 1, 1) := by decide +kernel
theorem dBx_setPlaces_25 : decode cBx_setPlaces 25 = .ok (.iload 4, 2) := by decide +kernel
theorem dBx_setPlaces_27 : decode cBx_setPlaces 27 = .ok (.iastore, 1) := by decide +kernel
theorem dBx_setPlaces_28 : decode cBx_setPlaces 28 = .ok (.return_, 1) := by decide +kernel
theorem dBx_setSizes_0 : decode cBx_setSizes 0 = .ok (.aload_n 0, 1) := by decide +kernel
theorem dBx_setSizes_1 : decode cBx_setSizes 1 = .ok (.getfield 16, 3) := by decide +kernel
theorem dBx_setSizes_4 : decode cBx_setSizes 4 = .ok (.iconst 0, 1) := by decide +kernel
theorem dBx_setSizes_5 : decode cBx_setSizes 5 = .ok (.aaload, 1) := by decide +kernel
theorem dBx_setSizes_6 : decode cBx_setSizes 6 = .ok (.iload_n 1, 1) := by decide +kernel
theorem dBx_setSizes_7 : decode cBx_setSizes 7 = .ok (.iload_n 2, 1) := by decide +kernel
theorem dBx_setSizes_8 : decode cBx_setSizes 8 = .ok (.iastore, 1) := by decide +kernel
theorem dBx_setSizes_9 : decode cBx_setSizes 9 = .ok (.aload_n 0, 1) := by decide +kernel
theorem dBx_setSizes_10 : decode cBx_setSizes 10 = .ok (.getfield 16, 3) := by decide +kernel
theorem dBx_setSizes_13 : decode cBx_setSizes 13 = .ok (.iconst 1, 1) := by decide +kernel
theorem dBx_setSizes_14 : decode cBx_setSizes 14 = .ok (.aaload, 1) := by decide +kernel
theorem dBx_setSizes_15 : decode cBx_setSizes 15 = .ok (.iload_n 1, 1) := by decide +kernel
theorem dBx_setSizes_16 : decode cBx_setSizes 16 = .ok (.iload_n 3, 1) := by decide +kernel
theorem dBx_setSizes_17 : decode cBx_setSizes 17 = .ok (.iastore, 1) := by decide +kernel
theorem dBx_setSizes_18 : decode cBx_setSizes 18 = .ok (.aload_n 0, 1) := by decide +kernel
theorem dBx_setSizes_19 : decode cBx_setSizes 19 = .ok (.getfield 16, 3) := by decide +kernel
theorem dBx_setSizes_22 : decode cBx_setSizes 22 = .ok (.iconst 2, 1) := by decide +kernel
theorem dBx_setSizes_23 : decode cBx_setSizes 23 = .ok (.aaload, 1) := by decide +kernel
theorem dBx_setSizes_24 : decode cBx_setSizes 24 = .ok (.iload_n 1, 1) := by decide +kernel
theorem dBx_setSizes_25 : decode cBx_setSizes 25 = .ok (.iload 4, 2) := by decide +kernel
theorem dBx_setSizes_27 : decode cBx_setSizes 27 = .ok (.iastore, 1) := by decide +kernel
theorem dBx_setSizes_28 : decode cBx_setSizes 28 = .ok (.return_, 1) := by decide +kernel
theorem dBx_canGo_0 : decode cBx_canGo 0 = .ok (.lload_n 3, 1) := by decide +kernel
theorem dBx_canGo_1 : decode cBx_canGo 1 = .ok (.ldc 19, 2) := by decide +kernel
theorem dBx_canGo_3 : decode cBx_canGo 3 = .ok (.aload_n 0, 1) := by decide +kernel
theorem dBx_canGo_4 : decode cBx_canGo 4 = .ok (.getfield 11, 3) := by decide +kernel
theorem dBx_canGo_7 : decode cBx_canGo 7 = .ok (.iload_n 2, 1) := by decide +kernel
theorem dBx_canGo_8 : decode cBx_canGo 8 = .ok (.aaload, 1) := by decide +kernel
theorem dBx_canGo_9 : decode cBx_canGo 9 = .ok (.iload_n 1, 1) := by decide +kernel
theorem dBx_canGo_10 : decode cBx_canGo 10 = .ok (.iaload, 1) := by decide +kernel
theorem dBx_canGo_11 : decode cBx_canGo 11 = .ok (.isub, 1) := by decide +kernel
theorem dBx_canGo_12 : decode cBx_canGo 12 = .ok (.i2l, 1) := by decide +kernel
theorem dBx_canGo_13 : decode cBx_canGo 13 = .ok (.lcmp, 1) := by decide +kernel
theorem dBx_canGo_14 : decode cBx_canGo 14 = .ok (.ifCond .lt 24, 3) := by decide +kernel
theorem dBx_canGo_17 : decode cBx_canGo 17 = .ok (.lload_n 3, 1) := by decide +kernel
theorem dBx_canGo_18 : decode cBx_canGo 18 = .ok (.ldc 20, 2) := by decide +kernel
theorem dBx_canGo_20 : decode cBx_canGo 20 = .ok (.aload_n 0, 1) := by decide +kernel
theorem dBx_canGo_21 : decode cBx_canGo 21 = .ok (.getfield 11, 3) := by decide +kernel
theorem dBx_canGo_24 : decode cBx_canGo 24 = .ok (.iload_n 2, 1) := by decide +kernel
theorem dBx_canGo_25 : decode cBx_canGo 25 = .ok (.aaload, 1) := by decide +kernel
theorem dBx_canGo_26 : decode cBx_canGo 26 = .ok (.iload_n 1, 1) := by decide +kernel
theorem dBx_canGo_27 : decode cBx_canGo 27 = .ok (.iaload, 1) := by decide +kernel
theorem dBx_canGo_28 : decode cBx_canGo 28 = .ok (.isub, 1) := by decide +kernel
theorem dBx_canGo_29 : decode cBx_canGo 29 = .ok (.i2l, 1) := by decide +kernel
theorem dBx_canGo_30 : decode cBx_canGo 30 = .ok (.lcmp, 1) := by decide +kernel
theorem dBx_canGo_31 : decode cBx_canGo 31 = .ok (.ifCond .gt 7, 3) := by decide +kernel
theorem dBx_canGo_34 : decode cBx_canGo 34 = .ok (.iconst 1, 1) := by decide +kernel
theorem dBx_canGo_35 : decode cBx_canGo 35 = .ok (.goto 4, 3) := by decide +kernel
theorem dBx_canGo_38 : decode cBx_canGo 38 = .ok (.iconst 0, 1) := by decide +kernel
theorem dBx_canGo_39 : decode cBx_canGo 39 = .ok (.ireturn, 1) := by decide +kernel
theorem dBx_near_0 : decode cBx_near 0 = .ok (.aload_n 0, 1) := by decide +kernel
theorem dBx_near_1 : decode cBx_near 1 = .ok (.getfield 11, 3) := by decide +kernel
theorem dBx_near_4 : decode cBx_near 4 = .ok (.iload_n 2, 1) := by decide +kernel
theorem dBx_near_5 : decode cBx_near 5 = .ok (.aaload, 1) := by decide +kernel
theorem dBx_near_6 : decode cBx_near 6 = .ok (.iload_n 1, 1) := by decide +kernel
theorem dBx_near_7 : decode cBx_near 7 = .ok (.iaload, 1) := by decide +kernel
theorem dBx_near_8 : decode cBx_near 8 = .ok (.ireturn, 1) := by decide +kernel
theorem dBx_far_0 : decode cBx_far 0 = .ok (.aload_n 0, 1) := by decide +kernel
theorem dBx_far_1 : decode cBx_far 1 = .ok (.getfield 11, 3) := by decide +kernel
theorem dBx_far_4 : decode cBx_far 4 = .ok (.iload_n 2, 1) := by decide +kernel
theorem dBx_far_5 : decode cBx_far 5 = .ok (.aaload, 1) := by decide +kernel
theorem dBx_far_6 : decode cBx_far 6 = .ok (.iload_n 1, 1) := by decide +kernel
theorem dBx_far_7 : decode cBx_far 7 = .ok (.iaload, 1) := by decide +kernel
theorem dBx_far_8 : decode cBx_far 8 = .ok (.aload_n 0, 1) := by decide +kernel
theorem dBx_far_9 : decode cBx_far 9 = .ok (.getfield 16, 3) := by decide +kernel
theorem dBx_far_12 : decode cBx_far 12 = .ok (.iload_n 2, 1) := by decide +kernel
theorem dBx_far_13 : decode cBx_far 13 = .ok (.aaload, 1) := by decide +kernel
theorem dBx_far_14 : decode cBx_far 14 = .ok (.iload_n 1, 1) := by decide +kernel
theorem dBx_far_15 : decode cBx_far 15 = .ok (.iaload, 1) := by decide +kernel
theorem dBx_far_16 : decode cBx_far 16 = .ok (.iadd, 1) := by decide +kernel
theorem dBx_far_17 : decode cBx_far 17 = .ok (.ireturn, 1) := by decide +kernel
theorem dBx_hasInside_0 : decode cBx_hasInside 0 = .ok (.aload_n 0, 1) := by decide +kernel
theorem dBx_hasInside_1 : decode cBx_hasInside 1 = .ok (.iload_n 1, 1) := by decide +kernel
theorem dBx_hasInside_2 : decode cBx_hasInside 2 = .ok (.iload_n 2, 1) := by decide +kernel
theorem dBx_hasInside_3 : decode cBx_hasInside 3 = .ok (.invokevirtual 21, 3) := by decide +kernel
theorem dBx_hasInside_6 : decode cBx_hasInside 6 = .ok (.i2l, 1) := by decide +kernel
theorem dBx_hasInside_7 : decode cBx_hasInside 7 = .ok (.lload_n 3, 1) := by decide +kernel
theorem dBx_hasInside_8 : decode cBx_hasInside 8 = .ok (.lcmp, 1) := by decide +kernel
theorem dBx_hasInside_9 : decode cBx_hasInside 9 = .ok (.ifCond .ge 19, 3) := by decide +kernel
theorem dBx_hasInside_12 : decode cBx_hasInside 12 = .ok (.lload_n 3, 1) := by decide +kernel
theorem dBx_hasInside_13 : decode cBx_hasInside 13 = .ok (.aload_n 0, 1) := by decide +kernel
theorem dBx_hasInside_14 : decode cBx_hasInside 14 = .ok (.iload_n 1, 1) := by decide +kernel
theorem dBx_hasInside_15 : decode cBx_hasInside 15 = .ok (.iload_n 2, 1) := by decide +kernel
theorem dBx_hasInside_16 : decode cBx_hasInside 16 = .ok (.invokevirtual 25, 3) := by decide +kernel
theorem dBx_hasInside_19 : decode cBx_hasInside 19 = .ok (.i2l, 1) := by decide +kernel
theorem dBx_hasInside_20 : decode cBx_hasInside 20 = .ok (.lcmp, 1) := by decide +kernel
theorem dBx_hasInside_21 : decode cBx_hasInside 21 = .ok (.ifCond .ge 7, 3) := by decide +kernel
theorem dBx_hasInside_24 : decode cBx_hasInside 24 = .ok (.iconst 1, 1) := by decide +kernel
theorem dBx_hasInside_25 : decode cBx_hasInside 25 = .ok (.goto 4, 3) := by decide +kernel
theorem dBx_hasInside_28 : decode cBx_hasInside 28 = .ok (.iconst 0, 1) := by decide +kernel
theorem dBx_hasInside_29 : decode cBx_hasInside 29 = .ok (.ireturn, 1) := by decide +kernel
set_option maxRecDepth 100000 in
theorem flBx_11 : Cond.fieldLink "PartDrawings$Boxes" 11 (TBx 0).1 (TBx 0).2.1 (TBx 0).2.2.1 ∈ gW := gW_1 92 rfl rfl
set_option maxRecDepth 100000 in
theorem inBx : ∀ w ∈ u_ws RBx TBx 3, w ∈ gW := gW_l [100, 102, 104] rfl (by decide +kernel)
set_option maxRecDepth 100000 in
theorem flBx_16 : Cond.fieldLink "PartDrawings$Boxes" 16 (TBx 1).1 (TBx 1).2.1 (TBx 1).2.2.1 ∈ gW := gW_1 94 rfl rfl
set_option maxHeartbeats 4000000 in
set_option maxRecDepth 100000 in
theorem c_Boxes_near (l : Launch) (D : va_G) (cI cG cL cB : ClassId) (h0 : Nat) (hp : Nat) (hs : Nat) (p0 : Nat) (p1 : Nat) (p2 : Nat) (s0 : Nat) (s1 : Nat) (s2 : Nat) (n : Int) (P0 : Int → Int) (P1 : Int → Int) (P2 : Int → Int) (S0 : Int → Int) (S1 : Int → Int) (S2 : Int → Int) (bx : Int) (ax : Int) (bP0 : ∀ j : Int, I32 (P0 j)) (bP1 : ∀ j : Int, I32 (P1 j)) (bP2 : ∀ j : Int, I32 (P2 j)) (bS0 : ∀ j : Int, I32 (S0 j)) (bS1 : ∀ j : Int, I32 (S1 j)) (bS2 : ∀ j : Int, I32 (S2 j)) (hb0 : 0 ≤ bx) (hb1 : bx < 24) (hax : ax = 0 ∨ ax = 1 ∨ ax = 2) : Ci l yBx_near cBx_near 3 (some .int) 0 0 0 D zCl (zT cI cG cL cB) [.ref h0, .int (zI bx), .int (zI ax)] [(h0, .inr (0, [.ref hp, .ref hs, .int (zI n)])), (hp, .inl (cG, 3, .inr (.inr (.inr (.inr (g3 p0 p1 p2)))))), (hs, .inl (cG, 3, .inr (.inr (.inr (.inr (g3 s0 s1 s2)))))), (p0, .inl (cI, 24, .inl (fI P0))), (p1, .inl (cI, 24, .inl (fI P1))), (p2, .inl (cI, 24, .inl (fI P2))), (s0, .inl (cI, 24, .inl (fI S0))), (s1, .inl (cI, 24, .inl (fI S1))), (s2, .inl (cI, 24, .inl (fI S2)))] (fun x w => x = zI (sel3 ax P0 P1 P2 bx) ∧ w = [(h0, .inr (0, [.ref hp, .ref hs, .int (zI n)])), (hp, .inl (cG, 3, .inr (.inr (.inr (.inr (g3 p0 p1 p2)))))), (hs, .inl (cG, 3, .inr (.inr (.inr (.inr (g3 s0 s1 s2)))))), (p0, .inl (cI, 24, .inl (fI P0))), (p1, .inl (cI, 24, .inl (fI P1))), (p2, .inl (cI, 24, .inl (fI P2))), (s0, .inl (cI, 24, .inl (fI S0))), (s1, .inl (cI, 24, .inl (fI S1))), (s2, .inl (cI, 24, .inl (fI S2)))]) := by
  rcases hax with rfl | rfl | rfl
  · refine zBi (by decide) (Nat.le_of_ble_eq_true rfl) ?_
    intro p e s m args below meth c ls A H locs Q C hin hl hW hQ
    have hl : lv_has ls 3 [(0, .ref h0), (1, .int (zI bx)), (2, .int (zI 0))] := hl
    refine lv_aload_n C.1 C.2.1 dBx_near_0 rfl (lv_at hl 0 rfl) ?_
    refine zget C hW 0 0 rfl rfl inBx (by decide) flBx_11 rfl dBx_near_1 ?_
    refine lv_iload_n C.1 C.2.1 dBx_near_4 rfl (lv_at hl 2 rfl) ?_
    refine zgald C hW 1 1 (r := p0) rfl rfl rfl (by omega) (by omega) (by decide) rfl dBx_near_5 ?_
    refine lv_iload_n C.1 C.2.1 dBx_near_6 rfl (lv_at hl 1 rfl) ?_
    refine ziald C hW 3 0 rfl rfl (by omega) (by omega) (by decide) dBx_near_7 ?_
    have hb1 := bP0 bx
    exact hQ (zI (P0 bx)) _ H locs _ _ _ ls hW ⟨congrArg zI (by simp [sel3]), rfl⟩ (by omega) (by omega) dBx_near_8
  · refine zBi (by decide) (Nat.le_of_ble_eq_true rfl) ?_
    intro p e s m args below meth c ls A H locs Q C hin hl hW hQ
    have hl : lv_has ls 3 [(0, .ref h0), (1, .int (zI bx)), (2, .int (zI 1))] := hl
    refine lv_aload_n C.1 C.2.1 dBx_near_0 rfl (lv_at hl 0 rfl) ?_
    refine zget C hW 0 0 rfl rfl inBx (by decide) flBx_11 rfl dBx_near_1 ?_
    refine lv_iload_n C.1 C.2.1 dBx_near_4 rfl (lv_at hl 2 rfl) ?_
    refine zgald C hW 1 1 (r := p1) rfl rfl rfl (by omega) (by omega) (by decide) rfl dBx_near_5 ?_
    refine lv_iload_n C.1 C.2.1 dBx_near_6 rfl (lv_at hl 1 rfl) ?_
    refine ziald C hW 4 0 rfl rfl (by omega) (by omega) (by decide) dBx_near_7 ?_
    have hb1 := bP1 bx
    exact hQ (zI (P1 bx)) _ H locs _ _ _ ls hW ⟨congrArg zI (by simp [sel3]), rfl⟩ (by omega) (by omega) dBx_near_8
  · refine zBi (by decide) (Nat.le_of_ble_eq_true rfl) ?_
    intro p e s m args below meth c ls A H locs Q C hin hl hW hQ
    have hl : lv_has ls 3 [(0, .ref h0), (1, .int (zI bx)), (2, .int (zI 2))] := hl
    refine lv_aload_n C.1 C.2.1 dBx_near_0 rfl (lv_at hl 0 rfl) ?_
    refine zget C hW 0 0 rfl rfl inBx (by decide) flBx_11 rfl dBx_near_1 ?_
    refine lv_iload_n C.1 C.2.1 dBx_near_4 rfl (lv_at hl 2 rfl) ?_
    refine zgald C hW 1 1 (r := p2) rfl rfl rfl (by omega) (by omega) (by decide) rfl dBx_near_5 ?_
    refine lv_iload_n C.1 C.2.1 dBx_near_6 rfl (lv_at hl 1 rfl) ?_
    refine ziald C hW 5 0 rfl rfl (by omega) (by omega) (by decide) dBx_near_7 ?_
    have hb1 := bP2 bx
    exact hQ (zI (P2 bx)) _ H locs _ _ _ ls hW ⟨congrArg zI (by simp [sel3]), rfl⟩ (by omega) (by omega) dBx_near_8
set_option maxHeartbeats 4000000 in
set_option maxRecDepth 100000 in
theorem c_Boxes_far (l : Launch) (D : va_G) (cI cG cL cB : ClassId) (h0 : Nat) (hp : Nat) (hs : Nat) (p0 : Nat) (p1 : Nat) (p2 : Nat) (s0 : Nat) (s1 : Nat) (s2 : Nat) (n : Int) (P0 : Int → Int) (P1 : Int → Int) (P2 : Int → Int) (S0 : Int → Int) (S1 : Int → Int) (S2 : Int → Int) (bx : Int) (ax : Int) (bP0 : ∀ j : Int, I32 (P0 j)) (bP1 : ∀ j : Int, I32 (P1 j)) (bP2 : ∀ j : Int, I32 (P2 j)) (bS0 : ∀ j : Int, I32 (S0 j)) (bS1 : ∀ j : Int, I32 (S1 j)) (bS2 : ∀ j : Int, I32 (S2 j)) (hb0 : 0 ≤ bx) (hb1 : bx < 24) (hax : ax = 0 ∨ ax = 1 ∨ ax = 2) : Ci l yBx_far cBx_far 3 (some .int) 0 0 0 D zCl (zT cI cG cL cB) [.ref h0, .int (zI bx), .int (zI ax)] [(h0, .inr (0, [.ref hp, .ref hs, .int (zI n)])), (hp, .inl (cG, 3, .inr (.inr (.inr (.inr (g3 p0 p1 p2)))))), (hs, .inl (cG, 3, .inr (.inr (.inr (.inr (g3 s0 s1 s2)))))), (p0, .inl (cI, 24, .inl (fI P0))), (p1, .inl (cI, 24, .inl (fI P1))), (p2, .inl (cI, 24, .inl (fI P2))), (s0, .inl (cI, 24, .inl (fI S0))), (s1, .inl (cI, 24, .inl (fI S1))), (s2, .inl (cI, 24, .inl (fI S2)))] (fun x w => x = zI (sel3 ax P0 P1 P2 bx + sel3 ax S0 S1 S2 bx) ∧ w = [(h0, .inr (0, [.ref hp, .ref hs, .int (zI n)])), (hp, .inl (cG, 3, .inr (.inr (.inr (.inr (g3 p0 p1 p2)))))), (hs, .inl (cG, 3, .inr (.inr (.inr (.inr (g3 s0 s1 s2)))))), (p0, .inl (cI, 24, .inl (fI P0))), (p1, .inl (cI, 24, .inl (fI P1))), (p2, .inl (cI, 24, .inl (fI P2))), (s0, .inl (cI, 24, .inl (fI S0))), (s1, .inl (cI, 24, .inl (fI S1))), (s2, .inl (cI, 24, .inl (fI S2)))]) := by
  rcases hax with rfl | rfl | rfl
  · refine zBi (by decide) (Nat.le_of_ble_eq_true rfl) ?_
    intro p e s m args below meth c ls A H locs Q C hin hl hW hQ
    have hl : lv_has ls 3 [(0, .ref h0), (1, .int (zI bx)), (2, .int (zI 0))] := hl
    refine lv_aload_n C.1 C.2.1 dBx_far_0 rfl (lv_at hl 0 rfl) ?_
    refine zget C hW 0 0 rfl rfl inBx (by decide) flBx_11 rfl dBx_far_1 ?_
    refine lv_iload_n C.1 C.2.1 dBx_far_4 rfl (lv_at hl 2 rfl) ?_
    refine zgald C hW 1 1 (r := p0) rfl rfl rfl (by omega) (by omega) (by decide) rfl dBx_far_5 ?_
    refine lv_iload_n C.1 C.2.1 dBx_far_6 rfl (lv_at hl 1 rfl) ?_
    refine ziald C hW 3 0 rfl rfl (by omega) (by omega) (by decide) dBx_far_7 ?_
    have hb1 := bP0 bx
    refine lv_aload_n C.1 C.2.1 dBx_far_8 rfl (lv_at hl 0 rfl) ?_
    refine zget C hW 0 1 rfl rfl inBx (by decide) flBx_16 rfl dBx_far_9 ?_
    refine lv_iload_n C.1 C.2.1 dBx_far_12 rfl (lv_at hl 2 rfl) ?_
    refine zgald C hW 2 1 (r := s0) rfl rfl rfl (by omega) (by omega) (by decide) rfl dBx_far_13 ?_
    refine lv_iload_n C.1 C.2.1 dBx_far_14 rfl (lv_at hl 1 rfl) ?_
    refine ziald C hW 6 0 rfl rfl (by omega) (by omega) (by decide) dBx_far_15 ?_
    have hb2 := bS0 bx
    refine ziadd C dBx_far_16 ?_
    exact hQ (zI ((P0 bx) + (S0 bx))) _ H locs _ _ _ ls hW ⟨congrArg zI (by simp [sel3]), rfl⟩ (by omega) (by omega) dBx_far_17
  · refine zBi (by decide) (Nat.le_of_ble_eq_true rfl) ?_
    intro p e s m args below meth c ls A H locs Q C hin hl hW hQ
    have hl : lv_has ls 3 [(0, .ref h0), (1, .int (zI bx)), (2, .int (zI 1))] := hl
    refine lv_aload_n C.1 C.2.1 dBx_far_0 rfl (lv_at hl 0 rfl) ?_
    refine zget C hW 0 0 rfl rfl inBx (by decide) flBx_11 rfl dBx_far_1 ?_
    refine lv_iload_n C.1 C.2.1 dBx_far_4 rfl (lv_at hl 2 rfl) ?_
    refine zgald C hW 1 1 (r := p1) rfl rfl rfl (by omega) (by omega) (by decide) rfl dBx_far_5 ?_
    refine lv_iload_n C.1 C.2.1 dBx_far_6 rfl (lv_at hl 1 rfl) ?_
    refine ziald C hW 4 0 rfl rfl (by omega) (by omega) (by decide) dBx_far_7 ?_
    have hb1 := bP1 bx
    refine lv_aload_n C.1 C.2.1 dBx_far_8 rfl (lv_at hl 0 rfl) ?_
    refine zget C hW 0 1 rfl rfl inBx (by decide) flBx_16 rfl dBx_far_9 ?_
    refine lv_iload_n C.1 C.2.1 dBx_far_12 rfl (lv_at hl 2 rfl) ?_
    refine zgald C hW 2 1 (r := s1) rfl rfl rfl (by omega) (by omega) (by decide) rfl dBx_far_13 ?_
    refine lv_iload_n C.1 C.2.1 dBx_far_14 rfl (lv_at hl 1 rfl) ?_
    refine ziald C hW 7 0 rfl rfl (by omega) (by omega) (by decide) dBx_far_15 ?_
    have hb2 := bS1 bx
    refine ziadd C dBx_far_16 ?_
    exact hQ (zI ((P1 bx) + (S1 bx))) _ H locs _ _ _ ls hW ⟨congrArg zI (by simp [sel3]), rfl⟩ (by omega) (by omega) dBx_far_17
  · refine zBi (by decide) (Nat.le_of_ble_eq_true rfl) ?_
    intro p e s m args below meth c ls A H locs Q C hin hl hW hQ
    have hl : lv_has ls 3 [(0, .ref h0), (1, .int (zI bx)), (2, .int (zI 2))] := hl
    refine lv_aload_n C.1 C.2.1 dBx_far_0 rfl (lv_at hl 0 rfl) ?_
    refine zget C hW 0 0 rfl rfl inBx (by decide) flBx_11 rfl dBx_far_1 ?_
    refine lv_iload_n C.1 C.2.1 dBx_far_4 rfl (lv_at hl 2 rfl) ?_
    refine zgald C hW 1 1 (r := p2) rfl rfl rfl (by omega) (by omega) (by decide) rfl dBx_far_5 ?_
    refine lv_iload_n C.1 C.2.1 dBx_far_6 rfl (lv_at hl 1 rfl) ?_
    refine ziald C hW 5 0 rfl rfl (by omega) (by omega) (by decide) dBx_far_7 ?_
    have hb1 := bP2 bx
    refine lv_aload_n C.1 C.2.1 dBx_far_8 rfl (lv_at hl 0 rfl) ?_
    refine zget C hW 0 1 rfl rfl inBx (by decide) flBx_16 rfl dBx_far_9 ?_
    refine lv_iload_n C.1 C.2.1 dBx_far_12 rfl (lv_at hl 2 rfl) ?_
    refine zgald C hW 2 1 (r := s2) rfl rfl rfl (by omega) (by omega) (by decide) rfl dBx_far_13 ?_
    refine lv_iload_n C.1 C.2.1 dBx_far_14 rfl (lv_at hl 1 rfl) ?_
    refine ziald C hW 8 0 rfl rfl (by omega) (by omega) (by decide) dBx_far_15 ?_
    have hb2 := bS2 bx
    refine ziadd C dBx_far_16 ?_
    exact hQ (zI ((P2 bx) + (S2 bx))) _ H locs _ _ _ ls hW ⟨congrArg zI (by simp [sel3]), rfl⟩ (by omega) (by omega) dBx_far_17

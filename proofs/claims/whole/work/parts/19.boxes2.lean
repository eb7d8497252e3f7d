set_option maxRecDepth 100000 in
theorem kBx_21 : inT (kV "PartDrawings$Boxes" 21 yBx_near cBx_near 3 (some .int)) := gW_l [727, 560, 561, 47, 562] rfl (by decide +kernel)
set_option maxRecDepth 100000 in
theorem kBx_25 : inT (kV "PartDrawings$Boxes" 25 yBx_far cBx_far 3 (some .int)) := gW_l [728, 564, 565, 47, 566] rfl (by decide +kernel)
set_option maxRecDepth 100000 in
theorem kcBx_19 : Cond.constant "PartDrawings$Boxes" 19 (zI (-1000000)) ∈ gW := by
  have e : zI (-1000000) = (-1000000 : Int32) := by decide
  rw [e]; exact gW_1 534 rfl rfl
set_option maxRecDepth 100000 in
theorem kcBx_20 : Cond.constant "PartDrawings$Boxes" 20 (zI 1000000) ∈ gW := by
  have e : zI 1000000 = (1000000 : Int32) := by decide
  rw [e]; exact gW_1 535 rfl rfl
set_option maxHeartbeats 4000000 in
set_option maxRecDepth 100000 in
theorem c_Boxes_setPlaces (l : Launch) (D : va_G) (cI cG cL cB : ClassId) (h0 : Nat) (hp : Nat) (hs : Nat) (p0 : Nat) (p1 : Nat) (p2 : Nat) (s0 : Nat) (s1 : Nat) (s2 : Nat) (n : Int) (P0 : Int → Int) (P1 : Int → Int) (P2 : Int → Int) (S0 : Int → Int) (S1 : Int → Int) (S2 : Int → Int) (bx : Int) (u : Int) (v : Int) (z : Int) (bP0 : ∀ j : Int, I32 (P0 j)) (bP1 : ∀ j : Int, I32 (P1 j)) (bP2 : ∀ j : Int, I32 (P2 j)) (bS0 : ∀ j : Int, I32 (S0 j)) (bS1 : ∀ j : Int, I32 (S1 j)) (bS2 : ∀ j : Int, I32 (S2 j)) (hb0 : 0 ≤ bx) (hb1 : bx < 24) (hIu : I32 u) (hIv : I32 v) (hIz : I32 z) : Cv l yBx_setPlaces cBx_setPlaces 5 none 0 0 0 D zCl (zT cI cG cL cB) [.ref h0, .int (zI bx), .int (zI u), .int (zI v), .int (zI z)] [(h0, .inr (0, [.ref hp, .ref hs, .int (zI n)])), (hp, .inl (cG, 3, .inr (.inr (.inr (.inr (g3 p0 p1 p2)))))), (hs, .inl (cG, 3, .inr (.inr (.inr (.inr (g3 s0 s1 s2)))))), (p0, .inl (cI, 24, .inl (fI P0))), (p1, .inl (cI, 24, .inl (fI P1))), (p2, .inl (cI, 24, .inl (fI P2))), (s0, .inl (cI, 24, .inl (fI S0))), (s1, .inl (cI, 24, .inl (fI S1))), (s2, .inl (cI, 24, .inl (fI S2)))] (fun w => w = [(h0, .inr (0, [.ref hp, .ref hs, .int (zI n)])), (hp, .inl (cG, 3, .inr (.inr (.inr (.inr (g3 p0 p1 p2)))))), (hs, .inl (cG, 3, .inr (.inr (.inr (.inr (g3 s0 s1 s2)))))), (p0, .inl (cI, 24, .inl (fI (upz P0 bx u)))), (p1, .inl (cI, 24, .inl (fI (upz P1 bx v)))), (p2, .inl (cI, 24, .inl (fI (upz P2 bx z)))), (s0, .inl (cI, 24, .inl (fI S0))), (s1, .inl (cI, 24, .inl (fI S1))), (s2, .inl (cI, 24, .inl (fI S2)))]) := by
  refine zBv (by decide) (Nat.le_of_ble_eq_true rfl) ?_
  intro p e s m args below meth c ls A H locs Q C hin hl hW hQ
  have hl : lv_has ls 5 [(0, .ref h0), (1, .int (zI bx)), (2, .int (zI u)), (3, .int (zI v)), (4, .int (zI z))] := hl
  refine lv_aload_n C.1 C.2.1 dBx_setPlaces_0 rfl (lv_at hl 0 rfl) ?_
  refine zget C hW 0 0 rfl rfl inBx (by decide) flBx_11 rfl dBx_setPlaces_1 ?_
  refine lv_iconst (v := zI 0) C.1 C.2.1 dBx_setPlaces_4 (by decide) ?_
  refine zgald C hW 1 1 (r := p0) rfl rfl rfl (by omega) (by omega) (by decide) rfl dBx_setPlaces_5 ?_
  refine lv_iload_n C.1 C.2.1 dBx_setPlaces_6 rfl (lv_at hl 1 rfl) ?_
  refine lv_iload_n C.1 C.2.1 dBx_setPlaces_7 rfl (lv_at hl 2 rfl) ?_
  refine ziast C hW 3 0 rfl rfl (by omega) (by omega) (by decide) dBx_setPlaces_8 (fun H locs hW => ?_)
  have hB1 : ∀ jj : Int, I32 ((upz P0 bx u) jj) := upz_b bP0 (by omega)
  have hW : zw D zCl A s [(h0, .inr (0, [.ref hp, .ref hs, .int (zI n)])), (hp, .inl (cG, 3, .inr (.inr (.inr (.inr (g3 p0 p1 p2)))))), (hs, .inl (cG, 3, .inr (.inr (.inr (.inr (g3 s0 s1 s2)))))), (p0, .inl (cI, 24, .inl (fI (upz P0 bx u)))), (p1, .inl (cI, 24, .inl (fI P1))), (p2, .inl (cI, 24, .inl (fI P2))), (s0, .inl (cI, 24, .inl (fI S0))), (s1, .inl (cI, 24, .inl (fI S1))), (s2, .inl (cI, 24, .inl (fI S2)))] H locs := hW
  refine lv_aload_n C.1 C.2.1 dBx_setPlaces_9 rfl (lv_at hl 0 rfl) ?_
  refine zget C hW 0 0 rfl rfl inBx (by decide) flBx_11 rfl dBx_setPlaces_10 ?_
  refine lv_iconst (v := zI 1) C.1 C.2.1 dBx_setPlaces_13 (by decide) ?_
  refine zgald C hW 1 1 (r := p1) rfl rfl rfl (by omega) (by omega) (by decide) rfl dBx_setPlaces_14 ?_
  refine lv_iload_n C.1 C.2.1 dBx_setPlaces_15 rfl (lv_at hl 1 rfl) ?_
  refine lv_iload_n C.1 C.2.1 dBx_setPlaces_16 rfl (lv_at hl 3 rfl) ?_
  refine ziast C hW 4 0 rfl rfl (by omega) (by omega) (by decide) dBx_setPlaces_17 (fun H locs hW => ?_)
  have hB2 : ∀ jj : Int, I32 ((upz P1 bx v) jj) := upz_b bP1 (by omega)
  have hW : zw D zCl A s [(h0, .inr (0, [.ref hp, .ref hs, .int (zI n)])), (hp, .inl (cG, 3, .inr (.inr (.inr (.inr (g3 p0 p1 p2)))))), (hs, .inl (cG, 3, .inr (.inr (.inr (.inr (g3 s0 s1 s2)))))), (p0, .inl (cI, 24, .inl (fI (upz P0 bx u)))), (p1, .inl (cI, 24, .inl (fI (upz P1 bx v)))), (p2, .inl (cI, 24, .inl (fI P2))), (s0, .inl (cI, 24, .inl (fI S0))), (s1, .inl (cI, 24, .inl (fI S1))), (s2, .inl (cI, 24, .inl (fI S2)))] H locs := hW
  refine lv_aload_n C.1 C.2.1 dBx_setPlaces_18 rfl (lv_at hl 0 rfl) ?_
  refine zget C hW 0 0 rfl rfl inBx (by decide) flBx_11 rfl dBx_setPlaces_19 ?_
  refine lv_iconst (v := zI 2) C.1 C.2.1 dBx_setPlaces_22 (by decide) ?_
  refine zgald C hW 1 1 (r := p2) rfl rfl rfl (by omega) (by omega) (by decide) rfl dBx_setPlaces_23 ?_
  refine lv_iload_n C.1 C.2.1 dBx_setPlaces_24 rfl (lv_at hl 1 rfl) ?_
  refine lv_iload C.1 C.2.1 dBx_setPlaces_25 (lv_at hl 4 rfl) ?_
  refine ziast C hW 5 0 rfl rfl (by omega) (by omega) (by decide) dBx_setPlaces_27 (fun H locs hW => ?_)
  have hB3 : ∀ jj : Int, I32 ((upz P2 bx z) jj) := upz_b bP2 (by omega)
  have hW : zw D zCl A s [(h0, .inr (0, [.ref hp, .ref hs, .int (zI n)])), (hp, .inl (cG, 3, .inr (.inr (.inr (.inr (g3 p0 p1 p2)))))), (hs, .inl (cG, 3, .inr (.inr (.inr (.inr (g3 s0 s1 s2)))))), (p0, .inl (cI, 24, .inl (fI (upz P0 bx u)))), (p1, .inl (cI, 24, .inl (fI (upz P1 bx v)))), (p2, .inl (cI, 24, .inl (fI (upz P2 bx z)))), (s0, .inl (cI, 24, .inl (fI S0))), (s1, .inl (cI, 24, .inl (fI S1))), (s2, .inl (cI, 24, .inl (fI S2)))] H locs := hW
  exact hQ _ H locs _ _ _ ls hW rfl (by omega) (by omega) dBx_setPlaces_28
set_option maxHeartbeats 4000000 in
set_option maxRecDepth 100000 in
theorem c_Boxes_setSizes (l : Launch) (D : va_G) (cI cG cL cB : ClassId) (h0 : Nat) (hp : Nat) (hs : Nat) (p0 : Nat) (p1 : Nat) (p2 : Nat) (s0 : Nat) (s1 : Nat) (s2 : Nat) (n : Int) (P0 : Int → Int) (P1 : Int → Int) (P2 : Int → Int) (S0 : Int → Int) (S1 : Int → Int) (S2 : Int → Int) (bx : Int) (u : Int) (v : Int) (z : Int) (bP0 : ∀ j : Int, I32 (P0 j)) (bP1 : ∀ j : Int, I32 (P1 j)) (bP2 : ∀ j : Int, I32 (P2 j)) (bS0 : ∀ j : Int, I32 (S0 j)) (bS1 : ∀ j : Int, I32 (S1 j)) (bS2 : ∀ j : Int, I32 (S2 j)) (hb0 : 0 ≤ bx) (hb1 : bx < 24) (hIu : I32 u) (hIv : I32 v) (hIz : I32 z) : Cv l yBx_setSizes cBx_setSizes 5 none 0 0 0 D zCl (zT cI cG cL cB) [.ref h0, .int (zI bx), .int (zI u), .int (zI v), .int (zI z)] [(h0, .inr (0, [.ref hp, .ref hs, .int (zI n)])), (hp, .inl (cG, 3, .inr (.inr (.inr (.inr (g3 p0 p1 p2)))))), (hs, .inl (cG, 3, .inr (.inr (.inr (.inr (g3 s0 s1 s2)))))), (p0, .inl (cI, 24, .inl (fI P0))), (p1, .inl (cI, 24, .inl (fI P1))), (p2, .inl (cI, 24, .inl (fI P2))), (s0, .inl (cI, 24, .inl (fI S0))), (s1, .inl (cI, 24, .inl (fI S1))), (s2, .inl (cI, 24, .inl (fI S2)))] (fun w => w = [(h0, .inr (0, [.ref hp, .ref hs, .int (zI n)])), (hp, .inl (cG, 3, .inr (.inr (.inr (.inr (g3 p0 p1 p2)))))), (hs, .inl (cG, 3, .inr (.inr (.inr (.inr (g3 s0 s1 s2)))))), (p0, .inl (cI, 24, .inl (fI P0))), (p1, .inl (cI, 24, .inl (fI P1))), (p2, .inl (cI, 24, .inl (fI P2))), (s0, .inl (cI, 24, .inl (fI (upz S0 bx u)))), (s1, .inl (cI, 24, .inl (fI (upz S1 bx v)))), (s2, .inl (cI, 24, .inl (fI (upz S2 bx z))))]) := by
  refine zBv (by decide) (Nat.le_of_ble_eq_true rfl) ?_
  intro p e s m args below meth c ls A H locs Q C hin hl hW hQ
  have hl : lv_has ls 5 [(0, .ref h0), (1, .int (zI bx)), (2, .int (zI u)), (3, .int (zI v)), (4, .int (zI z))] := hl
  refine lv_aload_n C.1 C.2.1 dBx_setSizes_0 rfl (lv_at hl 0 rfl) ?_
  refine zget C hW 0 1 rfl rfl inBx (by decide) flBx_16 rfl dBx_setSizes_1 ?_
  refine lv_iconst (v := zI 0) C.1 C.2.1 dBx_setSizes_4 (by decide) ?_
  refine zgald C hW 2 1 (r := s0) rfl rfl rfl (by omega) (by omega) (by decide) rfl dBx_setSizes_5 ?_
  refine lv_iload_n C.1 C.2.1 dBx_setSizes_6 rfl (lv_at hl 1 rfl) ?_
  refine lv_iload_n C.1 C.2.1 dBx_setSizes_7 rfl (lv_at hl 2 rfl) ?_
  refine ziast C hW 6 0 rfl rfl (by omega) (by omega) (by decide) dBx_setSizes_8 (fun H locs hW => ?_)
  have hB1 : ∀ jj : Int, I32 ((upz S0 bx u) jj) := upz_b bS0 (by omega)
  have hW : zw D zCl A s [(h0, .inr (0, [.ref hp, .ref hs, .int (zI n)])), (hp, .inl (cG, 3, .inr (.inr (.inr (.inr (g3 p0 p1 p2)))))), (hs, .inl (cG, 3, .inr (.inr (.inr (.inr (g3 s0 s1 s2)))))), (p0, .inl (cI, 24, .inl (fI P0))), (p1, .inl (cI, 24, .inl (fI P1))), (p2, .inl (cI, 24, .inl (fI P2))), (s0, .inl (cI, 24, .inl (fI (upz S0 bx u)))), (s1, .inl (cI, 24, .inl (fI S1))), (s2, .inl (cI, 24, .inl (fI S2)))] H locs := hW
  refine lv_aload_n C.1 C.2.1 dBx_setSizes_9 rfl (lv_at hl 0 rfl) ?_
  refine zget C hW 0 1 rfl rfl inBx (by decide) flBx_16 rfl dBx_setSizes_10 ?_
  refine lv_iconst (v := zI 1) C.1 C.2.1 dBx_setSizes_13 (by decide) ?_
  refine zgald C hW 2 1 (r := s1) rfl rfl rfl (by omega) (by omega) (by decide) rfl dBx_setSizes_14 ?_
  refine lv_iload_n C.1 C.2.1 dBx_setSizes_15 rfl (lv_at hl 1 rfl) ?_
  refine lv_iload_n C.1 C.2.1 dBx_setSizes_16 rfl (lv_at hl 3 rfl) ?_
  refine ziast C hW 7 0 rfl rfl (by omega) (by omega) (by decide) dBx_setSizes_17 (fun H locs hW => ?_)
  have hB2 : ∀ jj : Int, I32 ((upz S1 bx v) jj) := upz_b bS1 (by omega)
  have hW : zw D zCl A s [(h0, .inr (0, [.ref hp, .ref hs, .int (zI n)])), (hp, .inl (cG, 3, .inr (.inr (.inr (.inr (g3 p0 p1 p2)))))), (hs, .inl (cG, 3, .inr (.inr (.inr (.inr (g3 s0 s1 s2)))))), (p0, .inl (cI, 24, .inl (fI P0))), (p1, .inl (cI, 24, .inl (fI P1))), (p2, .inl (cI, 24, .inl (fI P2))), (s0, .inl (cI, 24, .inl (fI (upz S0 bx u)))), (s1, .inl (cI, 24, .inl (fI (upz S1 bx v)))), (s2, .inl (cI, 24, .inl (fI S2)))] H locs := hW
  refine lv_aload_n C.1 C.2.1 dBx_setSizes_18 rfl (lv_at hl 0 rfl) ?_
  refine zget C hW 0 1 rfl rfl inBx (by decide) flBx_16 rfl dBx_setSizes_19 ?_
  refine lv_iconst (v := zI 2) C.1 C.2.1 dBx_setSizes_22 (by decide) ?_
  refine zgald C hW 2 1 (r := s2) rfl rfl rfl (by omega) (by omega) (by decide) rfl dBx_setSizes_23 ?_
  refine lv_iload_n C.1 C.2.1 dBx_setSizes_24 rfl (lv_at hl 1 rfl) ?_
  refine lv_iload C.1 C.2.1 dBx_setSizes_25 (lv_at hl 4 rfl) ?_
  refine ziast C hW 8 0 rfl rfl (by omega) (by omega) (by decide) dBx_setSizes_27 (fun H locs hW => ?_)
  have hB3 : ∀ jj : Int, I32 ((upz S2 bx z) jj) := upz_b bS2 (by omega)
  have hW : zw D zCl A s [(h0, .inr (0, [.ref hp, .ref hs, .int (zI n)])), (hp, .inl (cG, 3, .inr (.inr (.inr (.inr (g3 p0 p1 p2)))))), (hs, .inl (cG, 3, .inr (.inr (.inr (.inr (g3 s0 s1 s2)))))), (p0, .inl (cI, 24, .inl (fI P0))), (p1, .inl (cI, 24, .inl (fI P1))), (p2, .inl (cI, 24, .inl (fI P2))), (s0, .inl (cI, 24, .inl (fI (upz S0 bx u)))), (s1, .inl (cI, 24, .inl (fI (upz S1 bx v)))), (s2, .inl (cI, 24, .inl (fI (upz S2 bx z))))] H locs := hW
  exact hQ _ H locs _ _ _ ls hW rfl (by omega) (by omega) dBx_setSizes_28
set_option maxHeartbeats 4000000 in
set_option maxRecDepth 100000 in
theorem c_Boxes_hasInside (l : Launch) (D : va_G) (cI cG cL cB : ClassId) (h0 : Nat) (hp : Nat) (hs : Nat) (p0 : Nat) (p1 : Nat) (p2 : Nat) (s0 : Nat) (s1 : Nat) (s2 : Nat) (n : Int) (P0 : Int → Int) (P1 : Int → Int) (P2 : Int → Int) (S0 : Int → Int) (S1 : Int → Int) (S2 : Int → Int) (bx : Int) (ax : Int) (at_ : Int) (bP0 : ∀ j : Int, I32 (P0 j)) (bP1 : ∀ j : Int, I32 (P1 j)) (bP2 : ∀ j : Int, I32 (P2 j)) (bS0 : ∀ j : Int, I32 (S0 j)) (bS1 : ∀ j : Int, I32 (S1 j)) (bS2 : ∀ j : Int, I32 (S2 j)) (hBB : boxB n P0 P1 P2 S0 S1 S2) (hn1 : n ≤ 24) (hb0 : 0 ≤ bx) (hb1 : bx < n) (hax : ax = 0 ∨ ax = 1 ∨ ax = 2) (hJat_ : I64 at_) : Ci l yBx_hasInside cBx_hasInside 5 (some .boolean) 1 0 0 D zCl (zT cI cG cL cB) [.ref h0, .int (zI bx), .int (zI ax), .long (zL at_)] [(h0, .inr (0, [.ref hp, .ref hs, .int (zI n)])), (hp, .inl (cG, 3, .inr (.inr (.inr (.inr (g3 p0 p1 p2)))))), (hs, .inl (cG, 3, .inr (.inr (.inr (.inr (g3 s0 s1 s2)))))), (p0, .inl (cI, 24, .inl (fI P0))), (p1, .inl (cI, 24, .inl (fI P1))), (p2, .inl (cI, 24, .inl (fI P2))), (s0, .inl (cI, 24, .inl (fI S0))), (s1, .inl (cI, 24, .inl (fI S1))), (s2, .inl (cI, 24, .inl (fI S2)))] (fun x w => x = zI (bz (insB P0 P1 P2 S0 S1 S2 ax at_ bx)) ∧ w = [(h0, .inr (0, [.ref hp, .ref hs, .int (zI n)])), (hp, .inl (cG, 3, .inr (.inr (.inr (.inr (g3 p0 p1 p2)))))), (hs, .inl (cG, 3, .inr (.inr (.inr (.inr (g3 s0 s1 s2)))))), (p0, .inl (cI, 24, .inl (fI P0))), (p1, .inl (cI, 24, .inl (fI P1))), (p2, .inl (cI, 24, .inl (fI P2))), (s0, .inl (cI, 24, .inl (fI S0))), (s1, .inl (cI, 24, .inl (fI S1))), (s2, .inl (cI, 24, .inl (fI S2)))]) := by
  refine zBz (by decide) (Nat.le_of_ble_eq_true rfl) ?_
  intro p e s m args below meth c ls A H locs Q C hin hl hW hQ
  have hl : lv_has ls 5 [(0, .ref h0), (1, .int (zI bx)), (2, .int (zI ax)), (3, .long (zL at_))] := hl
  have hbs := boxB_s hBB ax hb0 hb1
  refine lv_aload_n C.1 C.2.1 dBx_hasInside_0 rfl (lv_at hl 0 rfl) ?_
  refine lv_iload_n C.1 C.2.1 dBx_hasInside_1 rfl (lv_at hl 1 rfl) ?_
  refine lv_iload_n C.1 C.2.1 dBx_hasInside_2 rfl (lv_at hl 2 rfl) ?_
  refine zcalli (wr := []) C hW [0, 1, 2, 3, 4, 5, 6, 7, 8] [] rfl rfl (by decide) (by decide) (zRunV (k := 2) (As := [.int (zI bx), .int (zI ax)]) (rest := []) C hW (c_Boxes_near l D cI cG cL cB h0 hp hs p0 p1 p2 s0 s1 s2 n P0 P1 P2 S0 S1 S2 bx ax bP0 bP1 bP2 bS0 bS1 bS2 (by omega) (by omega) hax H.size) [0, 1, 2, 3, 4, 5, 6, 7, 8] rfl (by decide) kBx_21 (by decide +kernel) ⟨by decide, by decide⟩ 0 rfl rfl rfl hl.1 (Nat.le_of_ble_eq_true rfl) dBx_hasInside_3 ⟨by first | decide | omega, by first | decide | omega⟩) (fun x w H locs hq hW => ?_)
  obtain ⟨rfl, rfl⟩ := hq
  have hW : zw D zCl A s [(h0, .inr (0, [.ref hp, .ref hs, .int (zI n)])), (hp, .inl (cG, 3, .inr (.inr (.inr (.inr (g3 p0 p1 p2)))))), (hs, .inl (cG, 3, .inr (.inr (.inr (.inr (g3 s0 s1 s2)))))), (p0, .inl (cI, 24, .inl (fI P0))), (p1, .inl (cI, 24, .inl (fI P1))), (p2, .inl (cI, 24, .inl (fI P2))), (s0, .inl (cI, 24, .inl (fI S0))), (s1, .inl (cI, 24, .inl (fI S1))), (s2, .inl (cI, 24, .inl (fI S2)))] H locs := hW
  have hr1 := sel3_b ax bP0 bP1 bP2 bx
  refine zi2l C (by omega) dBx_hasInside_6 ?_
  refine lv_lload_n C.1 C.2.1 dBx_hasInside_7 rfl (lv_at hl 3 rfl) ?_
  refine zlcmp_ge (tgt := 28) C (by omega) (by omega) dBx_hasInside_8 dBx_hasInside_9 (by decide) (fun c8 => ?_) (fun c8 => ?_)
  · refine lv_iconst (v := zI 0) C.1 C.2.1 dBx_hasInside_28 (by decide) ?_
    exact hQ (zI 0) _ H locs _ _ _ ls hW (by decide) ⟨congrArg zI (by unfold insB bNr bFr; exact bzd (fun h => by omega) (fun h => by omega)), rfl⟩ (by omega) (by omega) dBx_hasInside_29
  · refine lv_lload_n C.1 C.2.1 dBx_hasInside_12 rfl (lv_at hl 3 rfl) ?_
    refine lv_aload_n C.1 C.2.1 dBx_hasInside_13 rfl (lv_at hl 0 rfl) ?_
    refine lv_iload_n C.1 C.2.1 dBx_hasInside_14 rfl (lv_at hl 1 rfl) ?_
    refine lv_iload_n C.1 C.2.1 dBx_hasInside_15 rfl (lv_at hl 2 rfl) ?_
    refine zcalli (wr := []) C hW [0, 1, 2, 3, 4, 5, 6, 7, 8] [] rfl rfl (by decide) (by decide) (zRunV (k := 2) (As := [.int (zI bx), .int (zI ax)]) (rest := [.long (zL at_)]) C hW (c_Boxes_far l D cI cG cL cB h0 hp hs p0 p1 p2 s0 s1 s2 n P0 P1 P2 S0 S1 S2 bx ax bP0 bP1 bP2 bS0 bS1 bS2 (by omega) (by omega) hax H.size) [0, 1, 2, 3, 4, 5, 6, 7, 8] rfl (by decide) kBx_25 (by decide +kernel) ⟨by decide, by decide⟩ 0 rfl rfl rfl hl.1 (Nat.le_of_ble_eq_true rfl) dBx_hasInside_16 ⟨by first | decide | omega, by first | decide | omega⟩) (fun x w H locs hq hW => ?_)
    obtain ⟨rfl, rfl⟩ := hq
    have hW : zw D zCl A s [(h0, .inr (0, [.ref hp, .ref hs, .int (zI n)])), (hp, .inl (cG, 3, .inr (.inr (.inr (.inr (g3 p0 p1 p2)))))), (hs, .inl (cG, 3, .inr (.inr (.inr (.inr (g3 s0 s1 s2)))))), (p0, .inl (cI, 24, .inl (fI P0))), (p1, .inl (cI, 24, .inl (fI P1))), (p2, .inl (cI, 24, .inl (fI P2))), (s0, .inl (cI, 24, .inl (fI S0))), (s1, .inl (cI, 24, .inl (fI S1))), (s2, .inl (cI, 24, .inl (fI S2)))] H locs := hW
    refine zi2l C (by omega) dBx_hasInside_19 ?_
    refine zlcmp_ge (tgt := 28) C (by omega) (by omega) dBx_hasInside_20 dBx_hasInside_21 (by decide) (fun c20 => ?_) (fun c20 => ?_)
    · refine lv_iconst (v := zI 0) C.1 C.2.1 dBx_hasInside_28 (by decide) ?_
      exact hQ (zI 0) _ H locs _ _ _ ls hW (by decide) ⟨congrArg zI (by unfold insB bNr bFr; exact bzd (fun h => by omega) (fun h => by omega)), rfl⟩ (by omega) (by omega) dBx_hasInside_29
    · refine lv_iconst (v := zI 1) C.1 C.2.1 dBx_hasInside_24 (by decide) ?_
      refine lv_goto (tgt := 29) C.1 C.2.1 dBx_hasInside_25 (by decide) ?_
      exact hQ (zI 1) _ H locs _ _ _ ls hW (by decide) ⟨congrArg zI (by unfold insB bNr bFr; exact bzd (fun h => by omega) (fun h => by omega)), rfl⟩ (by omega) (by omega) dBx_hasInside_29
set_option maxHeartbeats 4000000 in
set_option maxRecDepth 100000 in
theorem c_Boxes_canGo (l : Launch) (D : va_G) (cI cG cL cB : ClassId) (h0 : Nat) (hp : Nat) (hs : Nat) (p0 : Nat) (p1 : Nat) (p2 : Nat) (s0 : Nat) (s1 : Nat) (s2 : Nat) (n : Int) (P0 : Int → Int) (P1 : Int → Int) (P2 : Int → Int) (S0 : Int → Int) (S1 : Int → Int) (S2 : Int → Int) (bx : Int) (ax : Int) (wa : Int) (bP0 : ∀ j : Int, I32 (P0 j)) (bP1 : ∀ j : Int, I32 (P1 j)) (bP2 : ∀ j : Int, I32 (P2 j)) (bS0 : ∀ j : Int, I32 (S0 j)) (bS1 : ∀ j : Int, I32 (S1 j)) (bS2 : ∀ j : Int, I32 (S2 j)) (hBB : boxB n P0 P1 P2 S0 S1 S2) (hn1 : n ≤ 24) (hb0 : 0 ≤ bx) (hb1 : bx < n) (hax : ax = 0 ∨ ax = 1 ∨ ax = 2) (hJwa : I64 wa) : Ci l yBx_canGo cBx_canGo 5 (some .boolean) 0 0 0 D zCl (zT cI cG cL cB) [.ref h0, .int (zI bx), .int (zI ax), .long (zL wa)] [(h0, .inr (0, [.ref hp, .ref hs, .int (zI n)])), (hp, .inl (cG, 3, .inr (.inr (.inr (.inr (g3 p0 p1 p2)))))), (hs, .inl (cG, 3, .inr (.inr (.inr (.inr (g3 s0 s1 s2)))))), (p0, .inl (cI, 24, .inl (fI P0))), (p1, .inl (cI, 24, .inl (fI P1))), (p2, .inl (cI, 24, .inl (fI P2))), (s0, .inl (cI, 24, .inl (fI S0))), (s1, .inl (cI, 24, .inl (fI S1))), (s2, .inl (cI, 24, .inl (fI S2)))] (fun x w => x = zI (bz (goB P0 P1 P2 ax wa bx)) ∧ w = [(h0, .inr (0, [.ref hp, .ref hs, .int (zI n)])), (hp, .inl (cG, 3, .inr (.inr (.inr (.inr (g3 p0 p1 p2)))))), (hs, .inl (cG, 3, .inr (.inr (.inr (.inr (g3 s0 s1 s2)))))), (p0, .inl (cI, 24, .inl (fI P0))), (p1, .inl (cI, 24, .inl (fI P1))), (p2, .inl (cI, 24, .inl (fI P2))), (s0, .inl (cI, 24, .inl (fI S0))), (s1, .inl (cI, 24, .inl (fI S1))), (s2, .inl (cI, 24, .inl (fI S2)))]) := by
  rcases hax with rfl | rfl | rfl
  · refine zBz (by decide) (Nat.le_of_ble_eq_true rfl) ?_
    intro p e s m args below meth c ls A H locs Q C hin hl hW hQ
    have hl : lv_has ls 5 [(0, .ref h0), (1, .int (zI bx)), (2, .int (zI 0)), (3, .long (zL wa))] := hl
    have hbs := hBB bx hb0 hb1
    refine lv_lload_n C.1 C.2.1 dBx_canGo_0 rfl (lv_at hl 3 rfl) ?_
    refine zldc C kcBx_19 dBx_canGo_1 ?_
    refine lv_aload_n C.1 C.2.1 dBx_canGo_3 rfl (lv_at hl 0 rfl) ?_
    refine zget C hW 0 0 rfl rfl inBx (by decide) flBx_11 rfl dBx_canGo_4 ?_
    refine lv_iload_n C.1 C.2.1 dBx_canGo_7 rfl (lv_at hl 2 rfl) ?_
    refine zgald C hW 1 1 (r := p0) rfl rfl rfl (by omega) (by omega) (by decide) rfl dBx_canGo_8 ?_
    refine lv_iload_n C.1 C.2.1 dBx_canGo_9 rfl (lv_at hl 1 rfl) ?_
    refine ziald C hW 3 0 rfl rfl (by omega) (by omega) (by decide) dBx_canGo_10 ?_
    have hb1 := bP0 bx
    refine zisub C dBx_canGo_11 ?_
    refine zi2l C (by omega) dBx_canGo_12 ?_
    refine zlcmp_lt (tgt := 38) C (by omega) (by omega) dBx_canGo_13 dBx_canGo_14 (by decide) (fun c13 => ?_) (fun c13 => ?_)
    · refine lv_iconst (v := zI 0) C.1 C.2.1 dBx_canGo_38 (by decide) ?_
      exact hQ (zI 0) _ H locs _ _ _ ls hW (by decide) ⟨congrArg zI (by unfold goB; exact bzd (fun h => by simp [sel3] at h; omega) (fun h => by simp [sel3] at h; omega)), rfl⟩ (by omega) (by omega) dBx_canGo_39
    · refine lv_lload_n C.1 C.2.1 dBx_canGo_17 rfl (lv_at hl 3 rfl) ?_
      refine zldc C kcBx_20 dBx_canGo_18 ?_
      refine lv_aload_n C.1 C.2.1 dBx_canGo_20 rfl (lv_at hl 0 rfl) ?_
      refine zget C hW 0 0 rfl rfl inBx (by decide) flBx_11 rfl dBx_canGo_21 ?_
      refine lv_iload_n C.1 C.2.1 dBx_canGo_24 rfl (lv_at hl 2 rfl) ?_
      refine zgald C hW 1 1 (r := p0) rfl rfl rfl (by omega) (by omega) (by decide) rfl dBx_canGo_25 ?_
      refine lv_iload_n C.1 C.2.1 dBx_canGo_26 rfl (lv_at hl 1 rfl) ?_
      refine ziald C hW 3 0 rfl rfl (by omega) (by omega) (by decide) dBx_canGo_27 ?_
      have hb2 := bP0 bx
      refine zisub C dBx_canGo_28 ?_
      refine zi2l C (by omega) dBx_canGo_29 ?_
      refine zlcmp_gt (tgt := 38) C (by omega) (by omega) dBx_canGo_30 dBx_canGo_31 (by decide) (fun c30 => ?_) (fun c30 => ?_)
      · refine lv_iconst (v := zI 0) C.1 C.2.1 dBx_canGo_38 (by decide) ?_
        exact hQ (zI 0) _ H locs _ _ _ ls hW (by decide) ⟨congrArg zI (by unfold goB; exact bzd (fun h => by simp [sel3] at h; omega) (fun h => by simp [sel3] at h; omega)), rfl⟩ (by omega) (by omega) dBx_canGo_39
      · refine lv_iconst (v := zI 1) C.1 C.2.1 dBx_canGo_34 (by decide) ?_
        refine lv_goto (tgt := 39) C.1 C.2.1 dBx_canGo_35 (by decide) ?_
        exact hQ (zI 1) _ H locs _ _ _ ls hW (by decide) ⟨congrArg zI (by unfold goB; exact bzd (fun h => by simp [sel3] at h; omega) (fun h => by simp [sel3] at h; omega)), rfl⟩ (by omega) (by omega) dBx_canGo_39
  · refine zBz (by decide) (Nat.le_of_ble_eq_true rfl) ?_
    intro p e s m args below meth c ls A H locs Q C hin hl hW hQ
    have hl : lv_has ls 5 [(0, .ref h0), (1, .int (zI bx)), (2, .int (zI 1)), (3, .long (zL wa))] := hl
    have hbs := hBB bx hb0 hb1
    refine lv_lload_n C.1 C.2.1 dBx_canGo_0 rfl (lv_at hl 3 rfl) ?_
    refine zldc C kcBx_19 dBx_canGo_1 ?_
    refine lv_aload_n C.1 C.2.1 dBx_canGo_3 rfl (lv_at hl 0 rfl) ?_
    refine zget C hW 0 0 rfl rfl inBx (by decide) flBx_11 rfl dBx_canGo_4 ?_
    refine lv_iload_n C.1 C.2.1 dBx_canGo_7 rfl (lv_at hl 2 rfl) ?_
    refine zgald C hW 1 1 (r := p1) rfl rfl rfl (by omega) (by omega) (by decide) rfl dBx_canGo_8 ?_
    refine lv_iload_n C.1 C.2.1 dBx_canGo_9 rfl (lv_at hl 1 rfl) ?_
    refine ziald C hW 4 0 rfl rfl (by omega) (by omega) (by decide) dBx_canGo_10 ?_
    have hb1 := bP1 bx
    refine zisub C dBx_canGo_11 ?_
    refine zi2l C (by omega) dBx_canGo_12 ?_
    refine zlcmp_lt (tgt := 38) C (by omega) (by omega) dBx_canGo_13 dBx_canGo_14 (by decide) (fun c13 => ?_) (fun c13 => ?_)
    · refine lv_iconst (v := zI 0) C.1 C.2.1 dBx_canGo_38 (by decide) ?_
      exact hQ (zI 0) _ H locs _ _ _ ls hW (by decide) ⟨congrArg zI (by unfold goB; exact bzd (fun h => by simp [sel3] at h; omega) (fun h => by simp [sel3] at h; omega)), rfl⟩ (by omega) (by omega) dBx_canGo_39
    · refine lv_lload_n C.1 C.2.1 dBx_canGo_17 rfl (lv_at hl 3 rfl) ?_
      refine zldc C kcBx_20 dBx_canGo_18 ?_
      refine lv_aload_n C.1 C.2.1 dBx_canGo_20 rfl (lv_at hl 0 rfl) ?_
      refine zget C hW 0 0 rfl rfl inBx (by decide) flBx_11 rfl dBx_canGo_21 ?_
      refine lv_iload_n C.1 C.2.1 dBx_canGo_24 rfl (lv_at hl 2 rfl) ?_
      refine zgald C hW 1 1 (r := p1) rfl rfl rfl (by omega) (by omega) (by decide) rfl dBx_canGo_25 ?_
      refine lv_iload_n C.1 C.2.1 dBx_canGo_26 rfl (lv_at hl 1 rfl) ?_
      refine ziald C hW 4 0 rfl rfl (by omega) (by omega) (by decide) dBx_canGo_27 ?_
      have hb2 := bP1 bx
      refine zisub C dBx_canGo_28 ?_
      refine zi2l C (by omega) dBx_canGo_29 ?_
      refine zlcmp_gt (tgt := 38) C (by omega) (by omega) dBx_canGo_30 dBx_canGo_31 (by decide) (fun c30 => ?_) (fun c30 => ?_)
      · refine lv_iconst (v := zI 0) C.1 C.2.1 dBx_canGo_38 (by decide) ?_
        exact hQ (zI 0) _ H locs _ _ _ ls hW (by decide) ⟨congrArg zI (by unfold goB; exact bzd (fun h => by simp [sel3] at h; omega) (fun h => by simp [sel3] at h; omega)), rfl⟩ (by omega) (by omega) dBx_canGo_39
      · refine lv_iconst (v := zI 1) C.1 C.2.1 dBx_canGo_34 (by decide) ?_
        refine lv_goto (tgt := 39) C.1 C.2.1 dBx_canGo_35 (by decide) ?_
        exact hQ (zI 1) _ H locs _ _ _ ls hW (by decide) ⟨congrArg zI (by unfold goB; exact bzd (fun h => by simp [sel3] at h; omega) (fun h => by simp [sel3] at h; omega)), rfl⟩ (by omega) (by omega) dBx_canGo_39
  · refine zBz (by decide) (Nat.le_of_ble_eq_true rfl) ?_
    intro p e s m args below meth c ls A H locs Q C hin hl hW hQ
    have hl : lv_has ls 5 [(0, .ref h0), (1, .int (zI bx)), (2, .int (zI 2)), (3, .long (zL wa))] := hl
    have hbs := hBB bx hb0 hb1
    refine lv_lload_n C.1 C.2.1 dBx_canGo_0 rfl (lv_at hl 3 rfl) ?_
    refine zldc C kcBx_19 dBx_canGo_1 ?_
    refine lv_aload_n C.1 C.2.1 dBx_canGo_3 rfl (lv_at hl 0 rfl) ?_
    refine zget C hW 0 0 rfl rfl inBx (by decide) flBx_11 rfl dBx_canGo_4 ?_
    refine lv_iload_n C.1 C.2.1 dBx_canGo_7 rfl (lv_at hl 2 rfl) ?_
    refine zgald C hW 1 1 (r := p2) rfl rfl rfl (by omega) (by omega) (by decide) rfl dBx_canGo_8 ?_
    refine lv_iload_n C.1 C.2.1 dBx_canGo_9 rfl (lv_at hl 1 rfl) ?_
    refine ziald C hW 5 0 rfl rfl (by omega) (by omega) (by decide) dBx_canGo_10 ?_
    have hb1 := bP2 bx
    refine zisub C dBx_canGo_11 ?_
    refine zi2l C (by omega) dBx_canGo_12 ?_
    refine zlcmp_lt (tgt := 38) C (by omega) (by omega) dBx_canGo_13 dBx_canGo_14 (by decide) (fun c13 => ?_) (fun c13 => ?_)
    · refine lv_iconst (v := zI 0) C.1 C.2.1 dBx_canGo_38 (by decide) ?_
      exact hQ (zI 0) _ H locs _ _ _ ls hW (by decide) ⟨congrArg zI (by unfold goB; exact bzd (fun h => by simp [sel3] at h; omega) (fun h => by simp [sel3] at h; omega)), rfl⟩ (by omega) (by omega) dBx_canGo_39
    · refine lv_lload_n C.1 C.2.1 dBx_canGo_17 rfl (lv_at hl 3 rfl) ?_
      refine zldc C kcBx_20 dBx_canGo_18 ?_
      refine lv_aload_n C.1 C.2.1 dBx_canGo_20 rfl (lv_at hl 0 rfl) ?_
      refine zget C hW 0 0 rfl rfl inBx (by decide) flBx_11 rfl dBx_canGo_21 ?_
      refine lv_iload_n C.1 C.2.1 dBx_canGo_24 rfl (lv_at hl 2 rfl) ?_
      refine zgald C hW 1 1 (r := p2) rfl rfl rfl (by omega) (by omega) (by decide) rfl dBx_canGo_25 ?_
      refine lv_iload_n C.1 C.2.1 dBx_canGo_26 rfl (lv_at hl 1 rfl) ?_
      refine ziald C hW 5 0 rfl rfl (by omega) (by omega) (by decide) dBx_canGo_27 ?_
      have hb2 := bP2 bx
      refine zisub C dBx_canGo_28 ?_
      refine zi2l C (by omega) dBx_canGo_29 ?_
      refine zlcmp_gt (tgt := 38) C (by omega) (by omega) dBx_canGo_30 dBx_canGo_31 (by decide) (fun c30 => ?_) (fun c30 => ?_)
      · refine lv_iconst (v := zI 0) C.1 C.2.1 dBx_canGo_38 (by decide) ?_
        exact hQ (zI 0) _ H locs _ _ _ ls hW (by decide) ⟨congrArg zI (by unfold goB; exact bzd (fun h => by simp [sel3] at h; omega) (fun h => by simp [sel3] at h; omega)), rfl⟩ (by omega) (by omega) dBx_canGo_39
      · refine lv_iconst (v := zI 1) C.1 C.2.1 dBx_canGo_34 (by decide) ?_
        refine lv_goto (tgt := 39) C.1 C.2.1 dBx_canGo_35 (by decide) ?_
        exact hQ (zI 1) _ H locs _ _ _ ls hW (by decide) ⟨congrArg zI (by unfold goB; exact bzd (fun h => by simp [sel3] at h; omega) (fun h => by simp [sel3] at h; omega)), rfl⟩ (by omega) (by omega) dBx_canGo_39

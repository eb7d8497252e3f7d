set_option maxRecDepth 100000 in
theorem kMe_28 : inT (kV "PartDrawings$Measures" 28 yMe_freeRow cMe_freeRow 5 (some .int)) := gW_l [679, 681, 9, 52, 682] rfl (by decide +kernel)
set_option maxHeartbeats 4000000 in
set_option maxRecDepth 100000 in
theorem c_Measures_add (l : Launch) (D : va_G) (cI cG cL cB : ClassId) (h0 : Nat) (a1 : Nat) (a2 : Nat) (a3 : Nat) (a4 : Nat) (n : Int) (Ro : Int → Int) (Ax : Int → Int) (Fr : Int → Int) (To : Int → Int) (ax : Int) (le : Int) (gr : Int) (bRo : ∀ j : Int, I32 (Ro j)) (bAx : ∀ j : Int, I32 (Ax j)) (bFr : ∀ j : Int, I32 (Fr j)) (bTo : ∀ j : Int, I32 (To j)) (hn0 : 0 ≤ n) (hn1 : n < 30) (hIax : I32 ax) (hIle : I32 le) (hIgr : I32 gr) : Ci l yMe_add cMe_add 4 (some .int) 3 0 0 D zCl (zT cI cG cL cB) [.ref h0, .int (zI ax), .int (zI le), .int (zI gr)] [(h0, .inr (4, [.ref a1, .int (zI n), .ref a2, .ref a3, .ref a4])), (a1, .inl (cI, 30, .inl (fI Ro))), (a2, .inl (cI, 30, .inl (fI Ax))), (a3, .inl (cI, 30, .inl (fI Fr))), (a4, .inl (cI, 30, .inl (fI To)))] (fun x w => x = zI n ∧ w = [(h0, .inr (4, [.ref a1, .int (zI (n + 1)), .ref a2, .ref a3, .ref a4])), (a1, .inl (cI, 30, .inl (fI (upz Ro n (frM Ax Ro Fr To n ax le gr))))), (a2, .inl (cI, 30, .inl (fI (upz Ax n ax)))), (a3, .inl (cI, 30, .inl (fI (upz Fr n le)))), (a4, .inl (cI, 30, .inl (fI (upz To n gr))))]) := by
  refine zBi (by decide) (Nat.le_of_ble_eq_true rfl) ?_
  intro p e s m args below meth c ls A H locs Q C hin hl hW hQ
  have hl : lv_has ls 4 [(0, .ref h0), (1, .int (zI ax)), (2, .int (zI le)), (3, .int (zI gr))] := hl
  refine lv_aload_n C.1 C.2.1 dMe_add_0 rfl (lv_at hl 0 rfl) ?_
  refine zget C hW 0 1 rfl rfl inMe (by decide) flMe_24 rfl dMe_add_1 ?_
  refine lv_bipush (v := zI 30) C.1 C.2.1 dMe_add_4 (by decide) ?_
  refine zicmp_lt (tgt := 11) C (by omega) (by omega) dMe_add_6 (by decide) (fun c6 => ?_) (fun c6 => ?_)
  · refine lv_aload_n C.1 C.2.1 dMe_add_11 rfl (lv_at hl 0 rfl) ?_
    refine zget C hW 0 0 rfl rfl inMe (by decide) flMe_9 rfl dMe_add_12 ?_
    refine lv_aload_n C.1 C.2.1 dMe_add_15 rfl (lv_at hl 0 rfl) ?_
    refine zget C hW 0 1 rfl rfl inMe (by decide) flMe_24 rfl dMe_add_16 ?_
    refine lv_aload_n C.1 C.2.1 dMe_add_19 rfl (lv_at hl 0 rfl) ?_
    refine lv_iload_n C.1 C.2.1 dMe_add_20 rfl (lv_at hl 1 rfl) ?_
    refine lv_iload_n C.1 C.2.1 dMe_add_21 rfl (lv_at hl 2 rfl) ?_
    refine lv_iload_n C.1 C.2.1 dMe_add_22 rfl (lv_at hl 3 rfl) ?_
    refine zcalli (wr := []) C hW [0, 1, 2, 3, 4] [] rfl rfl (by decide) (by decide) (zRunV (k := 3) (As := [.int (zI ax), .int (zI le), .int (zI gr)]) (rest := [.int (zI n), .ref a1]) C hW (c_Measures_freeRow l D cI cG cL cB h0 a1 a2 a3 a4 n Ro Ax Fr To ax le gr bRo bAx bFr bTo (by omega) (by omega) (by omega) (by omega) (by omega) H.size) [0, 1, 2, 3, 4] rfl (by decide) kMe_28 (by decide +kernel) ⟨by decide, by decide⟩ 0 rfl rfl rfl hl.1 (Nat.le_of_ble_eq_true rfl) dMe_add_23 ⟨by first | decide | omega, by first | decide | omega⟩) (fun x w H locs hq hW => ?_)
    obtain ⟨rfl, rfl⟩ := hq
    have hW : zw D zCl A s [(h0, .inr (4, [.ref a1, .int (zI n), .ref a2, .ref a3, .ref a4])), (a1, .inl (cI, 30, .inl (fI Ro))), (a2, .inl (cI, 30, .inl (fI Ax))), (a3, .inl (cI, 30, .inl (fI Fr))), (a4, .inl (cI, 30, .inl (fI To)))] H locs := hW
    have hr1 := frM_le hn0 (Ax := Ax) (Ro := Ro) (Fr := Fr) (To := To) (ax := ax) (le := le) (gr := gr)
    refine ziast C hW 1 0 rfl rfl (by omega) (by omega) (by decide) dMe_add_26 (fun H locs hW => ?_)
    have hB2 : ∀ jj : Int, I32 ((upz Ro n (frM Ax Ro Fr To n ax le gr)) jj) := upz_b bRo (by omega)
    have hW : zw D zCl A s [(h0, .inr (4, [.ref a1, .int (zI n), .ref a2, .ref a3, .ref a4])), (a1, .inl (cI, 30, .inl (fI (upz Ro n (frM Ax Ro Fr To n ax le gr))))), (a2, .inl (cI, 30, .inl (fI Ax))), (a3, .inl (cI, 30, .inl (fI Fr))), (a4, .inl (cI, 30, .inl (fI To)))] H locs := hW
    refine lv_aload_n C.1 C.2.1 dMe_add_27 rfl (lv_at hl 0 rfl) ?_
    refine zget C hW 0 2 rfl rfl inMe (by decide) flMe_15 rfl dMe_add_28 ?_
    refine lv_aload_n C.1 C.2.1 dMe_add_31 rfl (lv_at hl 0 rfl) ?_
    refine zget C hW 0 1 rfl rfl inMe (by decide) flMe_24 rfl dMe_add_32 ?_
    refine lv_iload_n C.1 C.2.1 dMe_add_35 rfl (lv_at hl 1 rfl) ?_
    refine ziast C hW 2 0 rfl rfl (by omega) (by omega) (by decide) dMe_add_36 (fun H locs hW => ?_)
    have hB3 : ∀ jj : Int, I32 ((upz Ax n ax) jj) := upz_b bAx (by omega)
    have hW : zw D zCl A s [(h0, .inr (4, [.ref a1, .int (zI n), .ref a2, .ref a3, .ref a4])), (a1, .inl (cI, 30, .inl (fI (upz Ro n (frM Ax Ro Fr To n ax le gr))))), (a2, .inl (cI, 30, .inl (fI (upz Ax n ax)))), (a3, .inl (cI, 30, .inl (fI Fr))), (a4, .inl (cI, 30, .inl (fI To)))] H locs := hW
    refine lv_aload_n C.1 C.2.1 dMe_add_37 rfl (lv_at hl 0 rfl) ?_
    refine zget C hW 0 3 rfl rfl inMe (by decide) flMe_18 rfl dMe_add_38 ?_
    refine lv_aload_n C.1 C.2.1 dMe_add_41 rfl (lv_at hl 0 rfl) ?_
    refine zget C hW 0 1 rfl rfl inMe (by decide) flMe_24 rfl dMe_add_42 ?_
    refine lv_iload_n C.1 C.2.1 dMe_add_45 rfl (lv_at hl 2 rfl) ?_
    refine ziast C hW 3 0 rfl rfl (by omega) (by omega) (by decide) dMe_add_46 (fun H locs hW => ?_)
    have hB4 : ∀ jj : Int, I32 ((upz Fr n le) jj) := upz_b bFr (by omega)
    have hW : zw D zCl A s [(h0, .inr (4, [.ref a1, .int (zI n), .ref a2, .ref a3, .ref a4])), (a1, .inl (cI, 30, .inl (fI (upz Ro n (frM Ax Ro Fr To n ax le gr))))), (a2, .inl (cI, 30, .inl (fI (upz Ax n ax)))), (a3, .inl (cI, 30, .inl (fI (upz Fr n le)))), (a4, .inl (cI, 30, .inl (fI To)))] H locs := hW
    refine lv_aload_n C.1 C.2.1 dMe_add_47 rfl (lv_at hl 0 rfl) ?_
    refine zget C hW 0 4 rfl rfl inMe (by decide) flMe_21 rfl dMe_add_48 ?_
    refine lv_aload_n C.1 C.2.1 dMe_add_51 rfl (lv_at hl 0 rfl) ?_
    refine zget C hW 0 1 rfl rfl inMe (by decide) flMe_24 rfl dMe_add_52 ?_
    refine lv_iload_n C.1 C.2.1 dMe_add_55 rfl (lv_at hl 3 rfl) ?_
    refine ziast C hW 4 0 rfl rfl (by omega) (by omega) (by decide) dMe_add_56 (fun H locs hW => ?_)
    have hB5 : ∀ jj : Int, I32 ((upz To n gr) jj) := upz_b bTo (by omega)
    have hW : zw D zCl A s [(h0, .inr (4, [.ref a1, .int (zI n), .ref a2, .ref a3, .ref a4])), (a1, .inl (cI, 30, .inl (fI (upz Ro n (frM Ax Ro Fr To n ax le gr))))), (a2, .inl (cI, 30, .inl (fI (upz Ax n ax)))), (a3, .inl (cI, 30, .inl (fI (upz Fr n le)))), (a4, .inl (cI, 30, .inl (fI (upz To n gr))))] H locs := hW
    refine lv_aload_n C.1 C.2.1 dMe_add_57 rfl (lv_at hl 0 rfl) ?_
    refine lv_dup C.1 C.2.1 dMe_add_58 rfl ?_
    refine zget C hW 0 1 rfl rfl inMe (by decide) flMe_24 rfl dMe_add_59 ?_
    refine lv_iconst (v := zI 1) C.1 C.2.1 dMe_add_62 (by decide) ?_
    refine ziadd C dMe_add_63 ?_
    refine zput C hW 0 1 tyMe tyMe_ok nmMe rfl rfl inMe (by decide) flMe_24 rfl rfl rfl rfl (Nat.le_of_ble_eq_true rfl) dMe_add_64 (fun H locs hW => ?_)
    have hW : zw D zCl A s [(h0, .inr (4, [.ref a1, .int (zI (n + 1)), .ref a2, .ref a3, .ref a4])), (a1, .inl (cI, 30, .inl (fI (upz Ro n (frM Ax Ro Fr To n ax le gr))))), (a2, .inl (cI, 30, .inl (fI (upz Ax n ax)))), (a3, .inl (cI, 30, .inl (fI (upz Fr n le)))), (a4, .inl (cI, 30, .inl (fI (upz To n gr))))] H locs := hW
    refine lv_aload_n C.1 C.2.1 dMe_add_67 rfl (lv_at hl 0 rfl) ?_
    refine zget C hW 0 1 rfl rfl inMe (by decide) flMe_24 rfl dMe_add_68 ?_
    refine lv_iconst (v := zI 1) C.1 C.2.1 dMe_add_71 (by decide) ?_
    refine zisub C dMe_add_72 ?_
    exact hQ (zI ((n + 1) - 1)) _ H locs _ _ _ ls hW ⟨congrArg zI (by omega), rfl⟩ (by omega) (by omega) dMe_add_73
  · exact absurd c6 (by omega)

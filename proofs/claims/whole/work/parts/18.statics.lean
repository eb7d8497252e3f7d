theorem dPD_depthAxis_0 : decode cPD_depthAxis 0 = .ok (.iload_n 0, 1) := by decide +kernel
theorem dPD_depthAxis_1 : decode cPD_depthAxis 1 = .ok (.iconst 2, 1) := by decide +kernel
theorem dPD_depthAxis_2 : decode cPD_depthAxis 2 = .ok (.if_icmp .ge 5, 3) := by decide +kernel
theorem dPD_depthAxis_5 : decode cPD_depthAxis 5 = .ok (.iconst 2, 1) := by decide +kernel
theorem dPD_depthAxis_6 : decode cPD_depthAxis 6 = .ok (.ireturn, 1) := by decide +kernel
theorem dPD_depthAxis_7 : decode cPD_depthAxis 7 = .ok (.iload_n 0, 1) := by decide +kernel
theorem dPD_depthAxis_8 : decode cPD_depthAxis 8 = .ok (.iconst 4, 1) := by decide +kernel
theorem dPD_depthAxis_9 : decode cPD_depthAxis 9 = .ok (.if_icmp .ge 7, 3) := by decide +kernel
theorem dPD_depthAxis_12 : decode cPD_depthAxis 12 = .ok (.iconst 0, 1) := by decide +kernel
theorem dPD_depthAxis_13 : decode cPD_depthAxis 13 = .ok (.goto 4, 3) := by decide +kernel
theorem dPD_depthAxis_16 : decode cPD_depthAxis 16 = .ok (.iconst 1, 1) := by decide +kernel
theorem dPD_depthAxis_17 : decode cPD_depthAxis 17 = .ok (.ireturn, 1) := by decide +kernel
theorem dPD_isAlong_0 : decode cPD_isAlong 0 = .ok (.iload_n 0, 1) := by decide +kernel
theorem dPD_isAlong_1 : decode cPD_isAlong 1 = .ok (.iconst 2, 1) := by decide +kernel
theorem dPD_isAlong_2 : decode cPD_isAlong 2 = .ok (.irem, 1) := by decide +kernel
theorem dPD_isAlong_3 : decode cPD_isAlong 3 = .ok (.ifCond .ne 7, 3) := by decide +kernel
theorem dPD_isAlong_6 : decode cPD_isAlong 6 = .ok (.iconst 1, 1) := by decide +kernel
theorem dPD_isAlong_7 : decode cPD_isAlong 7 = .ok (.goto 4, 3) := by decide +kernel
theorem dPD_isAlong_10 : decode cPD_isAlong 10 = .ok (.iconst 0, 1) := by decide +kernel
theorem dPD_isAlong_11 : decode cPD_isAlong 11 = .ok (.ireturn, 1) := by decide +kernel
set_option maxHeartbeats 4000000 in
set_option maxRecDepth 100000 in
theorem c_PartDrawings_depthAxis (l : Launch) (D : va_G) (cI cG cL cB : ClassId) (vw : Int) (hIvw : I32 vw) : Ci l yPD_depthAxis cPD_depthAxis 1 (some .int) 0 0 0 D zCl (zT cI cG cL cB) [.int (zI vw)] [] (fun x w => x = zI (dax vw) ∧ w = []) := by
  refine zBi (by decide) (Nat.le_of_ble_eq_true rfl) ?_
  intro p e s m args below meth c ls A H locs Q C hin hl hW hQ
  have hl : lv_has ls 1 [(0, .int (zI vw))] := hl
  refine lv_iload_n C.1 C.2.1 dPD_depthAxis_0 rfl (lv_at hl 0 rfl) ?_
  refine lv_iconst (v := zI 2) C.1 C.2.1 dPD_depthAxis_1 (by decide) ?_
  refine zicmp_ge (tgt := 7) C (by omega) (by omega) dPD_depthAxis_2 (by decide) (fun c2 => ?_) (fun c2 => ?_)
  · refine lv_iload_n C.1 C.2.1 dPD_depthAxis_7 rfl (lv_at hl 0 rfl) ?_
    refine lv_iconst (v := zI 4) C.1 C.2.1 dPD_depthAxis_8 (by decide) ?_
    refine zicmp_ge (tgt := 16) C (by omega) (by omega) dPD_depthAxis_9 (by decide) (fun c9 => ?_) (fun c9 => ?_)
    · refine lv_iconst (v := zI 1) C.1 C.2.1 dPD_depthAxis_16 (by decide) ?_
      exact hQ (zI 1) _ H locs _ _ _ ls hW ⟨congrArg zI (by unfold dax; first | (rw [if_pos (by omega)]; done) | (rw [if_neg (by omega), if_pos (by omega)]; done) | rw [if_neg (by omega), if_neg (by omega)]), rfl⟩ (by omega) (by omega) dPD_depthAxis_17
    · refine lv_iconst (v := zI 0) C.1 C.2.1 dPD_depthAxis_12 (by decide) ?_
      refine lv_goto (tgt := 17) C.1 C.2.1 dPD_depthAxis_13 (by decide) ?_
      exact hQ (zI 0) _ H locs _ _ _ ls hW ⟨congrArg zI (by unfold dax; first | (rw [if_pos (by omega)]; done) | (rw [if_neg (by omega), if_pos (by omega)]; done) | rw [if_neg (by omega), if_neg (by omega)]), rfl⟩ (by omega) (by omega) dPD_depthAxis_17
  · refine lv_iconst (v := zI 2) C.1 C.2.1 dPD_depthAxis_5 (by decide) ?_
    exact hQ (zI 2) _ H locs _ _ _ ls hW ⟨congrArg zI (by unfold dax; first | (rw [if_pos (by omega)]; done) | (rw [if_neg (by omega), if_pos (by omega)]; done) | rw [if_neg (by omega), if_neg (by omega)]), rfl⟩ (by omega) (by omega) dPD_depthAxis_6
set_option maxHeartbeats 4000000 in
set_option maxRecDepth 100000 in
theorem c_PartDrawings_isAlong (l : Launch) (D : va_G) (cI cG cL cB : ClassId) (vw : Int) (hv0 : 0 ≤ vw) (hv1 : vw < 6) : Ci l yPD_isAlong cPD_isAlong 1 (some .boolean) 0 0 0 D zCl (zT cI cG cL cB) [.int (zI vw)] [] (fun x w => x = zI (bz (decide (vw.tmod 2 = 0))) ∧ w = []) := by
  refine zBz (by decide) (Nat.le_of_ble_eq_true rfl) ?_
  intro p e s m args below meth c ls A H locs Q C hin hl hW hQ
  have hl : lv_has ls 1 [(0, .int (zI vw))] := hl
  have htm := tmod2 hv0
  refine lv_iload_n C.1 C.2.1 dPD_isAlong_0 rfl (lv_at hl 0 rfl) ?_
  refine lv_iconst (v := zI 2) C.1 C.2.1 dPD_isAlong_1 (by decide) ?_
  refine zirem C (by omega) (by omega) (by omega) dPD_isAlong_2 ?_
  refine zif_ne (tgt := 10) C (by omega) dPD_isAlong_3 (by decide) (fun c3 => ?_) (fun c3 => ?_)
  · refine lv_iconst (v := zI 0) C.1 C.2.1 dPD_isAlong_10 (by decide) ?_
    exact hQ (zI 0) _ H locs _ _ _ ls hW (by decide) ⟨congrArg zI (by simp only [bz, decide_eq_true_eq]; split <;> omega), rfl⟩ (by omega) (by omega) dPD_isAlong_11
  · refine lv_iconst (v := zI 1) C.1 C.2.1 dPD_isAlong_6 (by decide) ?_
    refine lv_goto (tgt := 11) C.1 C.2.1 dPD_isAlong_7 (by decide) ?_
    exact hQ (zI 1) _ H locs _ _ _ ls hW (by decide) ⟨congrArg zI (by simp only [bz, decide_eq_true_eq]; split <;> omega), rfl⟩ (by omega) (by omega) dPD_isAlong_11

theorem dMo_code_0 : decode cMo_code 0 = .ok (.aload_n 0, 1) := by decide +kernel
theorem dMo_code_1 : decode cMo_code 1 = .ok (.iload_n 1, 1) := by decide +kernel
theorem dMo_code_2 : decode cMo_code 2 = .ok (.invokevirtual 112, 3) := by decide +kernel
theorem dMo_code_5 : decode cMo_code 5 = .ok (.ifCond .eq 5, 3) := by decide +kernel
theorem dMo_code_8 : decode cMo_code 8 = .ok (.iconst 0, 1) := by decide +kernel
theorem dMo_code_9 : decode cMo_code 9 = .ok (.ireturn, 1) := by decide +kernel
theorem dMo_code_10 : decode cMo_code 10 = .ok (.aload_n 0, 1) := by decide +kernel
theorem dMo_code_11 : decode cMo_code 11 = .ok (.iload_n 2, 1) := by decide +kernel
theorem dMo_code_12 : decode cMo_code 12 = .ok (.ifCond .ge 7, 3) := by decide +kernel
theorem dMo_code_15 : decode cMo_code 15 = .ok (.iconst 2, 1) := by decide +kernel
theorem dMo_code_16 : decode cMo_code 16 = .ok (.goto 4, 3) := by decide +kernel
theorem dMo_code_19 : decode cMo_code 19 = .ok (.iconst 0, 1) := by decide +kernel
theorem dMo_code_20 : decode cMo_code 20 = .ok (.putfield 93, 3) := by decide +kernel
theorem dMo_code_23 : decode cMo_code 23 = .ok (.aload_n 0, 1) := by decide +kernel
theorem dMo_code_24 : decode cMo_code 24 = .ok (.getfield 93, 3) := by decide +kernel
theorem dMo_code_27 : decode cMo_code 27 = .ok (.ifCond .le 5, 3) := by decide +kernel
theorem dMo_code_30 : decode cMo_code 30 = .ok (.iconst 0, 1) := by decide +kernel
theorem dMo_code_31 : decode cMo_code 31 = .ok (.ireturn, 1) := by decide +kernel
theorem dMo_code_32 : decode cMo_code 32 = .ok (.aload_n 0, 1) := by decide +kernel
theorem dMo_code_33 : decode cMo_code 33 = .ok (.iconst 0, 1) := by decide +kernel
theorem dMo_code_34 : decode cMo_code 34 = .ok (.putfield 237, 3) := by decide +kernel
theorem dMo_code_37 : decode cMo_code 37 = .ok (.aload_n 0, 1) := by decide +kernel
theorem dMo_code_38 : decode cMo_code 38 = .ok (.bipush 87, 2) := by decide +kernel
theorem dMo_code_40 : decode cMo_code 40 = .ok (.aload_n 0, 1) := by decide +kernel
theorem dMo_code_41 : decode cMo_code 41 = .ok (.iload_n 1, 1) := by decide +kernel
theorem dMo_code_42 : decode cMo_code 42 = .ok (.iconst 0, 1) := by decide +kernel
theorem dMo_code_43 : decode cMo_code 43 = .ok (.invokevirtual 210, 3) := by decide +kernel
theorem dMo_code_46 : decode cMo_code 46 = .ok (.invokevirtual 246, 3) := by decide +kernel
theorem dMo_code_49 : decode cMo_code 49 = .ok (.aload_n 0, 1) := by decide +kernel
theorem dMo_code_50 : decode cMo_code 50 = .ok (.bipush 72, 2) := by decide +kernel
theorem dMo_code_52 : decode cMo_code 52 = .ok (.aload_n 0, 1) := by decide +kernel
theorem dMo_code_53 : decode cMo_code 53 = .ok (.iload_n 1, 1) := by decide +kernel
theorem dMo_code_54 : decode cMo_code 54 = .ok (.iconst 1, 1) := by decide +kernel
theorem dMo_code_55 : decode cMo_code 55 = .ok (.invokevirtual 210, 3) := by decide +kernel
theorem dMo_code_58 : decode cMo_code 58 = .ok (.invokevirtual 246, 3) := by decide +kernel
theorem dMo_code_61 : decode cMo_code 61 = .ok (.aload_n 0, 1) := by decide +kernel
theorem dMo_code_62 : decode cMo_code 62 = .ok (.bipush 68, 2) := by decide +kernel
theorem dMo_code_64 : decode cMo_code 64 = .ok (.aload_n 0, 1) := by decide +kernel
theorem dMo_code_65 : decode cMo_code 65 = .ok (.iload_n 1, 1) := by decide +kernel
theorem dMo_code_66 : decode cMo_code 66 = .ok (.iconst 2, 1) := by decide +kernel
theorem dMo_code_67 : decode cMo_code 67 = .ok (.invokevirtual 210, 3) := by decide +kernel
theorem dMo_code_70 : decode cMo_code 70 = .ok (.invokevirtual 246, 3) := by decide +kernel
theorem dMo_code_73 : decode cMo_code 73 = .ok (.iconst 0, 1) := by decide +kernel
theorem dMo_code_74 : decode cMo_code 74 = .ok (.istore_n 3, 1) := by decide +kernel
theorem dMo_code_75 : decode cMo_code 75 = .ok (.iconst 0, 1) := by decide +kernel
theorem dMo_code_76 : decode cMo_code 76 = .ok (.istore 4, 2) := by decide +kernel
theorem dMo_code_78 : decode cMo_code 78 = .ok (.iload 4, 2) := by decide +kernel
theorem dMo_code_80 : decode cMo_code 80 = .ok (.aload_n 0, 1) := by decide +kernel
theorem dMo_code_81 : decode cMo_code 81 = .ok (.getfield 237, 3) := by decide +kernel
theorem dMo_code_84 : decode cMo_code 84 = .ok (.if_icmp .ge 67, 3) := by decide +kernel
theorem dMo_code_87 : decode cMo_code 87 = .ok (.aload_n 0, 1) := by decide +kernel
theorem dMo_code_88 : decode cMo_code 88 = .ok (.getfield 77, 3) := by decide +kernel
theorem dMo_code_91 : decode cMo_code 91 = .ok (.iload 4, 2) := by decide +kernel
theorem dMo_code_93 : decode cMo_code 93 = .ok (.iaload, 1) := by decide +kernel
theorem dMo_code_94 : decode cMo_code 94 = .ok (.bipush 48, 2) := by decide +kernel
theorem dMo_code_96 : decode cMo_code 96 = .ok (.if_icmp .lt 19, 3) := by decide +kernel
theorem dMo_code_99 : decode cMo_code 99 = .ok (.aload_n 0, 1) := by decide +kernel
theorem dMo_code_100 : decode cMo_code 100 = .ok (.getfield 77, 3) := by decide +kernel
theorem dMo_code_103 : decode cMo_code 103 = .ok (.iload 4, 2) := by decide +kernel
theorem dMo_code_105 : decode cMo_code 105 = .ok (.iaload, 1) := by decide +kernel
theorem dMo_code_106 : decode cMo_code 106 = .ok (.bipush 57, 2) := by decide +kernel
theorem dMo_code_108 : decode cMo_code 108 = .ok (.if_icmp .gt 7, 3) := by decide +kernel
theorem dMo_code_111 : decode cMo_code 111 = .ok (.iconst 1, 1) := by decide +kernel
theorem dMo_code_112 : decode cMo_code 112 = .ok (.goto 4, 3) := by decide +kernel
theorem dMo_code_115 : decode cMo_code 115 = .ok (.iconst 0, 1) := by decide +kernel
theorem dMo_code_116 : decode cMo_code 116 = .ok (.istore 5, 2) := by decide +kernel
theorem dMo_code_118 : decode cMo_code 118 = .ok (.iload 5, 2) := by decide +kernel
theorem dMo_code_120 : decode cMo_code 120 = .ok (.ifCond .eq 23, 3) := by decide +kernel
theorem dMo_code_123 : decode cMo_code 123 = .ok (.iload_n 3, 1) := by decide +kernel
theorem dMo_code_124 : decode cMo_code 124 = .ok (.aload_n 0, 1) := by decide +kernel
theorem dMo_code_125 : decode cMo_code 125 = .ok (.getfield 77, 3) := by decide +kernel
theorem dMo_code_128 : decode cMo_code 128 = .ok (.iload 4, 2) := by decide +kernel
theorem dMo_code_130 : decode cMo_code 130 = .ok (.iaload, 1) := by decide +kernel
theorem dMo_code_131 : decode cMo_code 131 = .ok (.bipush 48, 2) := by decide +kernel
theorem dMo_code_133 : decode cMo_code 133 = .ok (.isub, 1) := by decide +kernel
theorem dMo_code_134 : decode cMo_code 134 = .ok (.iload 4, 2) := by decide +kernel
theorem dMo_code_136 : decode cMo_code 136 = .ok (.iconst 1, 1) := by decide +kernel
theorem dMo_code_137 : decode cMo_code 137 = .ok (.iadd, 1) := by decide +kernel
theorem dMo_code_138 : decode cMo_code 138 = .ok (.imul, 1) := by decide +kernel
theorem dMo_code_139 : decode cMo_code 139 = .ok (.iadd, 1) := by decide +kernel
theorem dMo_code_140 : decode cMo_code 140 = .ok (.goto 4, 3) := by decide +kernel
theorem dMo_code_143 : decode cMo_code 143 = .ok (.iload_n 3, 1) := by decide +kernel
theorem dMo_code_144 : decode cMo_code 144 = .ok (.istore_n 3, 1) := by decide +kernel
theorem dMo_code_145 : decode cMo_code 145 = .ok (.iinc 4 1, 3) := by decide +kernel
theorem dMo_code_148 : decode cMo_code 148 = .ok (.goto (-70), 3) := by decide +kernel
theorem dMo_code_151 : decode cMo_code 151 = .ok (.aload_n 0, 1) := by decide +kernel
theorem dMo_code_152 : decode cMo_code 152 = .ok (.getfield 77, 3) := by decide +kernel
theorem dMo_code_155 : decode cMo_code 155 = .ok (.aload_n 0, 1) := by decide +kernel
theorem dMo_code_156 : decode cMo_code 156 = .ok (.getfield 237, 3) := by decide +kernel
theorem dMo_code_159 : decode cMo_code 159 = .ok (.bipush 35, 2) := by decide +kernel
theorem dMo_code_161 : decode cMo_code 161 = .ok (.iastore, 1) := by decide +kernel
theorem dMo_code_162 : decode cMo_code 162 = .ok (.aload_n 0, 1) := by decide +kernel
theorem dMo_code_163 : decode cMo_code 163 = .ok (.getfield 77, 3) := by decide +kernel
theorem dMo_code_166 : decode cMo_code 166 = .ok (.aload_n 0, 1) := by decide +kernel
theorem dMo_code_167 : decode cMo_code 167 = .ok (.getfield 237, 3) := by decide +kernel
theorem dMo_code_170 : decode cMo_code 170 = .ok (.iconst 1, 1) := by decide +kernel
theorem dMo_code_171 : decode cMo_code 171 = .ok (.iadd, 1) := by decide +kernel
theorem dMo_code_172 : decode cMo_code 172 = .ok (.bipush 48, 2) := by decide +kernel
theorem dMo_code_174 : decode cMo_code 174 = .ok (.iload_n 3, 1) := by decide +kernel
theorem dMo_code_175 : decode cMo_code 175 = .ok (.bipush 10, 2) := by decide +kernel
theorem dMo_code_177 : decode cMo_code 177 = .ok (.irem, 1) := by decide +kernel
theorem dMo_code_178 : decode cMo_code 178 = .ok (.iadd, 1) := by decide +kernel
theorem dMo_code_179 : decode cMo_code 179 = .ok (.iastore, 1) := by decide +kernel
theorem dMo_code_180 : decode cMo_code 180 = .ok (.iload_n 2, 1) := by decide +kernel
theorem dMo_code_181 : decode cMo_code 181 = .ok (.aload_n 0, 1) := by decide +kernel
theorem dMo_code_182 : decode cMo_code 182 = .ok (.getfield 237, 3) := by decide +kernel
theorem dMo_code_185 : decode cMo_code 185 = .ok (.iconst 2, 1) := by decide +kernel
theorem dMo_code_186 : decode cMo_code 186 = .ok (.iadd, 1) := by decide +kernel
theorem dMo_code_187 : decode cMo_code 187 = .ok (.if_icmp .ge 12, 3) := by decide +kernel
theorem dMo_code_190 : decode cMo_code 190 = .ok (.aload_n 0, 1) := by decide +kernel
theorem dMo_code_191 : decode cMo_code 191 = .ok (.getfield 77, 3) := by decide +kernel
theorem dMo_code_194 : decode cMo_code 194 = .ok (.iload_n 2, 1) := by decide +kernel
theorem dMo_code_195 : decode cMo_code 195 = .ok (.iaload, 1) := by decide +kernel
theorem dMo_code_196 : decode cMo_code 196 = .ok (.goto 4, 3) := by decide +kernel
theorem dMo_code_199 : decode cMo_code 199 = .ok (.iconst (-1), 1) := by decide +kernel
theorem dMo_code_200 : decode cMo_code 200 = .ok (.ireturn, 1) := by decide +kernel
set_option maxRecDepth 100000 in
theorem kMo_246 : inT (kV "PartDrawingsModel" 246 yMo_addNumber cMo_addNumber 8 none) := gW_l [1494, 1496, 43, 61, 1497] rfl (by decide +kernel)
set_option maxHeartbeats 4000000 in
set_option maxRecDepth 100000 in
theorem m_code (l : Launch) (D : va_G) (cI cG cL cB : ClassId) (m0 : Nat) (cd : Int) (wi : Int) (hi : Int) (bn : Int) (af : Nat) (at_ : Nat) (dr : Int) (sz : Int) (au : Nat) (ap : Nat) (ab : Nat) (ae : Nat) (ah : Nat) (kp : Int) (ks : Int) (ku : Nat) (kq : Nat) (kb : Nat) (ke : Nat) (kh : Nat) (als : Int) (gf : Nat) (gt : Nat) (ses : Int) (sf : Nat) (st : Nat) (les : Int) (ef : Nat) (et : Nat) (mes : Int) (xa : Nat) (xf : Nat) (xt : Nat) (xr : Nat) (lb : Nat) (lbs : Int) (so : Nat) (From : Int → Int) (To : Int → Int) (Lab : Int → Int) (b : Int) (i : Int) (bFrom : ∀ j : Int, I64 (From j)) (bTo : ∀ j : Int, I64 (To j)) (bLab : ∀ j : Int, I32 (Lab j)) (hbn0 : 0 ≤ bn) (hbn1 : bn ≤ 24) (hMB : moB bn From To) (hIb : I32 b) (hIi : I32 i) : Ci l yMo_code cMo_code 6 (some .int) 1 0 0 D zCl (zT cI cG cL cB) [.ref m0, .int (zI b), .int (zI i)] [(m0, .inr (10, [.int (zI cd), .long (zL wi), .long (zL hi), .int (zI bn), .ref af, .ref at_, .int (zI dr), .int (zI sz), .ref au, .ref ap, .ref ab, .ref ae, .ref ah, .int (zI kp), .int (zI ks), .ref ku, .ref kq, .ref kb, .ref ke, .ref kh, .int (zI als), .ref gf, .ref gt, .int (zI ses), .ref sf, .ref st, .int (zI les), .ref ef, .ref et, .int (zI mes), .ref xa, .ref xf, .ref xt, .ref xr, .ref lb, .int (zI lbs), .ref so])), (af, .inl (cL, 72, .inr (.inl (fL From)))), (at_, .inl (cL, 72, .inr (.inl (fL To)))), (lb, .inl (cI, 64, .inl (fI Lab)))] (fun x w => ∃ cd2 : Int, ∃ r2 : Int, ∃ lbs2 : Int, ∃ Lab2 : Int → Int, (∀ j : Int, I32 (Lab2 j)) ∧ (cd2 = deC bn b (decide (0 ≤ i))) ∧ (cd2 = 0 → r2 = chrL (To (3 * b + 0) - From (3 * b + 0)) (To (3 * b + 1) - From (3 * b + 1)) (To (3 * b + 2) - From (3 * b + 2)) i) ∧ x = zI r2 ∧ w = [(m0, .inr (10, [.int (zI cd2), .long (zL wi), .long (zL hi), .int (zI bn), .ref af, .ref at_, .int (zI dr), .int (zI sz), .ref au, .ref ap, .ref ab, .ref ae, .ref ah, .int (zI kp), .int (zI ks), .ref ku, .ref kq, .ref kb, .ref ke, .ref kh, .int (zI als), .ref gf, .ref gt, .int (zI ses), .ref sf, .ref st, .int (zI les), .ref ef, .ref et, .int (zI mes), .ref xa, .ref xf, .ref xt, .ref xr, .ref lb, .int (zI lbs2), .ref so])), (af, .inl (cL, 72, .inr (.inl (fL From)))), (at_, .inl (cL, 72, .inr (.inl (fL To)))), (lb, .inl (cI, 64, .inl (fI Lab2)))]) := by
  refine zBi (by decide) (Nat.le_of_ble_eq_true rfl) ?_
  intro p e s m args below meth c ls A H locs Q C hin hl hW hQ
  have hl : lv_has ls 6 [(0, .ref m0), (1, .int (zI b)), (2, .int (zI i))] := hl
  refine lv_aload_n C.1 C.2.1 dMo_code_0 rfl (lv_at hl 0 rfl) ?_
  refine lv_iload_n C.1 C.2.1 dMo_code_1 rfl (lv_at hl 1 rfl) ?_
  refine zcalli (wr := [(af, .inl (cL, 72, .inr (.inl (fL From)))), (at_, .inl (cL, 72, .inr (.inl (fL To)))), (lb, .inl (cI, 64, .inl (fI Lab)))]) C hW [0] [1, 2, 3] rfl rfl (by decide) (by decide) (zRunV (k := 1) (As := [.int (zI b)]) (rest := []) C hW (m_noBox l D cI cG cL cB m0 cd wi hi bn af at_ dr sz au ap ab ae ah kp ks ku kq kb ke kh als gf gt ses sf st les ef et mes xa xf xt xr lb lbs so b (by omega) (by omega) H.size) [0] rfl (by decide) kMo_112 (by decide +kernel) ⟨by decide, by decide⟩ 0 rfl rfl rfl hl.1 (Nat.le_of_ble_eq_true rfl) dMo_code_2 ⟨by first | decide | omega, by first | decide | omega⟩) (fun x w H locs hq hW => ?_)
  obtain ⟨rfl, rfl⟩ := hq
  have hW : zw D zCl A s [(af, .inl (cL, 72, .inr (.inl (fL From)))), (at_, .inl (cL, 72, .inr (.inl (fL To)))), (lb, .inl (cI, 64, .inl (fI Lab))), (m0, .inr (10, [.int (zI (noB bn b)), .long (zL wi), .long (zL hi), .int (zI bn), .ref af, .ref at_, .int (zI dr), .int (zI sz), .ref au, .ref ap, .ref ab, .ref ae, .ref ah, .int (zI kp), .int (zI ks), .ref ku, .ref kq, .ref kb, .ref ke, .ref kh, .int (zI als), .ref gf, .ref gt, .int (zI ses), .ref sf, .ref st, .int (zI les), .ref ef, .ref et, .int (zI mes), .ref xa, .ref xf, .ref xt, .ref xr, .ref lb, .int (zI lbs), .ref so]))] H locs := hW
  have hnbi := noB_in bn b
  refine zif_eq (tgt := 10) C (by omega) dMo_code_5 (by decide) (fun c5 => ?_) (fun c5 => ?_)
  · refine lv_aload_n C.1 C.2.1 dMo_code_10 rfl (lv_at hl 0 rfl) ?_
    have L20 : ∀ (v : Int), ((v = 0 ∧ 0 ≤ i) ∨ (v = 2 ∧ i < 0)) → ∀ (ls : Array Slot) (H : Heap) (locs : List Loc), lv_has ls 6 [(0, .ref m0), (1, .int (zI b)), (2, .int (zI i))] → zw D zCl A s [(af, .inl (cL, 72, .inr (.inl (fL From)))), (at_, .inl (cL, 72, .inr (.inl (fL To)))), (lb, .inl (cI, 64, .inl (fI Lab))), (m0, .inr (10, [.int (zI (noB bn b)), .long (zL wi), .long (zL hi), .int (zI bn), .ref af, .ref at_, .int (zI dr), .int (zI sz), .ref au, .ref ap, .ref ab, .ref ae, .ref ah, .int (zI kp), .int (zI ks), .ref ku, .ref kq, .ref kb, .ref ke, .ref kh, .int (zI als), .ref gf, .ref gt, .int (zI ses), .ref sf, .ref st, .int (zI les), .ref ef, .ref et, .int (zI mes), .ref xa, .ref xf, .ref xt, .ref xr, .ref lb, .int (zI lbs), .ref so]))] H locs → W p l e (zr 1 0 0) s m args below meth c H locs 0 0 Q (F0 m 20 ls [.int (zI v), .ref m0]) := by
      intro v hv ls H locs hl hW
      refine zput C hW 3 0 tyMo tyMo_ok nmMo rfl rfl inMo (by decide) flMo_93 rfl rfl rfl rfl (Nat.le_of_ble_eq_true rfl) dMo_code_20 (fun H locs hW => ?_)
      have hW : zw D zCl A s [(af, .inl (cL, 72, .inr (.inl (fL From)))), (at_, .inl (cL, 72, .inr (.inl (fL To)))), (lb, .inl (cI, 64, .inl (fI Lab))), (m0, .inr (10, [.int (zI v), .long (zL wi), .long (zL hi), .int (zI bn), .ref af, .ref at_, .int (zI dr), .int (zI sz), .ref au, .ref ap, .ref ab, .ref ae, .ref ah, .int (zI kp), .int (zI ks), .ref ku, .ref kq, .ref kb, .ref ke, .ref kh, .int (zI als), .ref gf, .ref gt, .int (zI ses), .ref sf, .ref st, .int (zI les), .ref ef, .ref et, .int (zI mes), .ref xa, .ref xf, .ref xt, .ref xr, .ref lb, .int (zI lbs), .ref so]))] H locs := hW
      refine lv_aload_n C.1 C.2.1 dMo_code_23 rfl (lv_at hl 0 rfl) ?_
      refine zget C hW 3 0 rfl rfl inMo (by decide) flMo_93 rfl dMo_code_24 ?_
      refine zif_le (tgt := 32) C (by omega) dMo_code_27 (by decide) (fun c27 => ?_) (fun c27 => ?_)
      · have hnb : 0 ≤ b ∧ b < bn := noB_0 (by omega)
        have hm0 := hMB (3 * b + 0) (by omega) (by omega)
        have hm1 := hMB (3 * b + 1) (by omega) (by omega)
        have hm2 := hMB (3 * b + 2) (by omega) (by omega)
        refine lv_aload_n C.1 C.2.1 dMo_code_32 rfl (lv_at hl 0 rfl) ?_
        refine lv_iconst (v := zI 0) C.1 C.2.1 dMo_code_33 (by decide) ?_
        refine zput C hW 3 35 tyMo tyMo_ok nmMo rfl rfl inMo (by decide) flMo_237 rfl rfl rfl rfl (Nat.le_of_ble_eq_true rfl) dMo_code_34 (fun H locs hW => ?_)
        have hW : zw D zCl A s [(af, .inl (cL, 72, .inr (.inl (fL From)))), (at_, .inl (cL, 72, .inr (.inl (fL To)))), (lb, .inl (cI, 64, .inl (fI Lab))), (m0, .inr (10, [.int (zI v), .long (zL wi), .long (zL hi), .int (zI bn), .ref af, .ref at_, .int (zI dr), .int (zI sz), .ref au, .ref ap, .ref ab, .ref ae, .ref ah, .int (zI kp), .int (zI ks), .ref ku, .ref kq, .ref kb, .ref ke, .ref kh, .int (zI als), .ref gf, .ref gt, .int (zI ses), .ref sf, .ref st, .int (zI les), .ref ef, .ref et, .int (zI mes), .ref xa, .ref xf, .ref xt, .ref xr, .ref lb, .int (zI 0), .ref so]))] H locs := hW
        refine lv_aload_n C.1 C.2.1 dMo_code_37 rfl (lv_at hl 0 rfl) ?_
        refine lv_bipush (v := zI 87) C.1 C.2.1 dMo_code_38 (by decide) ?_
        refine lv_aload_n C.1 C.2.1 dMo_code_40 rfl (lv_at hl 0 rfl) ?_
        refine lv_iload_n C.1 C.2.1 dMo_code_41 rfl (lv_at hl 1 rfl) ?_
        refine lv_iconst (v := zI 0) C.1 C.2.1 dMo_code_42 (by decide) ?_
        refine zcalll (wr := [(lb, .inl (cI, 64, .inl (fI Lab)))]) C hW [3, 0, 1] [2] rfl rfl (by decide) (by decide) (zRunV (k := 2) (As := [.int (zI b), .int (zI 0)]) (rest := [.int (zI 87), .ref m0]) C hW (m_sizeOf l D cI cG cL cB m0 v wi hi bn af at_ dr sz au ap ab ae ah kp ks ku kq kb ke kh als gf gt ses sf st les ef et mes xa xf xt xr lb 0 so From To b 0 bFrom bTo (by omega) (by omega) (by omega) (by omega) (by omega) (by omega) (by omega) H.size) [3, 0, 1] rfl (by decide) kMo_210 (by decide +kernel) ⟨by decide, by decide⟩ 3 rfl rfl rfl hl.1 (Nat.le_of_ble_eq_true rfl) dMo_code_43 ⟨by first | decide | omega, by first | decide | omega⟩) (fun x w H locs hq hW => ?_)
        obtain ⟨rfl, rfl⟩ := hq
        have hW : zw D zCl A s [(lb, .inl (cI, 64, .inl (fI Lab))), (m0, .inr (10, [.int (zI v), .long (zL wi), .long (zL hi), .int (zI bn), .ref af, .ref at_, .int (zI dr), .int (zI sz), .ref au, .ref ap, .ref ab, .ref ae, .ref ah, .int (zI kp), .int (zI ks), .ref ku, .ref kq, .ref kb, .ref ke, .ref kh, .int (zI als), .ref gf, .ref gt, .int (zI ses), .ref sf, .ref st, .int (zI les), .ref ef, .ref et, .int (zI mes), .ref xa, .ref xf, .ref xt, .ref xr, .ref lb, .int (zI 0), .ref so])), (af, .inl (cL, 72, .inr (.inl (fL From)))), (at_, .inl (cL, 72, .inr (.inl (fL To))))] H locs := hW
        refine zcallv (wr := [(af, .inl (cL, 72, .inr (.inl (fL From)))), (at_, .inl (cL, 72, .inr (.inl (fL To))))]) C hW [1, 0] [2, 3] rfl rfl (by decide) (by decide) (zRunV (k := 2) (As := [.int (zI 87), .long (zL (To (3 * b + 0) - From (3 * b + 0)))]) (rest := []) C hW (m_addNumber l D cI cG cL cB m0 v wi hi bn af at_ dr sz au ap ab ae ah kp ks ku kq kb ke kh als gf gt ses sf st les ef et mes xa xf xt xr lb 0 so Lab 87 (To (3 * b + 0) - From (3 * b + 0)) ([]) bLab (by omega) (by omega) (by omega) (by omega) (by omega) ⟨rfl, fun k h => absurd h (Nat.not_lt_zero k)⟩ H.size) [1, 0] rfl (by decide) kMo_246 (by decide +kernel) ⟨by decide, by decide⟩ 1 rfl rfl rfl hl.1 (Nat.le_of_ble_eq_true rfl) dMo_code_46 ⟨by first | decide | omega, by first | decide | omega⟩) (fun w H locs hq hW => ?_)
        obtain ⟨Lab21, lbs22, hf3, hf4, rfl⟩ := hq
        have hW : zw D zCl A s [(af, .inl (cL, 72, .inr (.inl (fL From)))), (at_, .inl (cL, 72, .inr (.inl (fL To)))), (m0, .inr (10, [.int (zI v), .long (zL wi), .long (zL hi), .int (zI bn), .ref af, .ref at_, .int (zI dr), .int (zI sz), .ref au, .ref ap, .ref ab, .ref ae, .ref ah, .int (zI kp), .int (zI ks), .ref ku, .ref kq, .ref kb, .ref ke, .ref kh, .int (zI als), .ref gf, .ref gt, .int (zI ses), .ref sf, .ref st, .int (zI les), .ref ef, .ref et, .int (zI mes), .ref xa, .ref xf, .ref xt, .ref xr, .ref lb, .int (zI lbs22), .ref so])), (lb, .inl (cI, 64, .inl (fI Lab21)))] H locs := hW
        refine lv_aload_n C.1 C.2.1 dMo_code_49 rfl (lv_at hl 0 rfl) ?_
        refine lv_bipush (v := zI 72) C.1 C.2.1 dMo_code_50 (by decide) ?_
        refine lv_aload_n C.1 C.2.1 dMo_code_52 rfl (lv_at hl 0 rfl) ?_
        refine lv_iload_n C.1 C.2.1 dMo_code_53 rfl (lv_at hl 1 rfl) ?_
        refine lv_iconst (v := zI 1) C.1 C.2.1 dMo_code_54 (by decide) ?_
        refine zcalll (wr := [(lb, .inl (cI, 64, .inl (fI Lab21)))]) C hW [2, 0, 1] [3] rfl rfl (by decide) (by decide) (zRunV (k := 2) (As := [.int (zI b), .int (zI 1)]) (rest := [.int (zI 72), .ref m0]) C hW (m_sizeOf l D cI cG cL cB m0 v wi hi bn af at_ dr sz au ap ab ae ah kp ks ku kq kb ke kh als gf gt ses sf st les ef et mes xa xf xt xr lb lbs22 so From To b 1 bFrom bTo (by omega) (by omega) (by omega) (by omega) (by omega) (by omega) (by omega) H.size) [2, 0, 1] rfl (by decide) kMo_210 (by decide +kernel) ⟨by decide, by decide⟩ 2 rfl rfl rfl hl.1 (Nat.le_of_ble_eq_true rfl) dMo_code_55 ⟨by first | decide | omega, by first | decide | omega⟩) (fun x w H locs hq hW => ?_)
        obtain ⟨rfl, rfl⟩ := hq
        have hW : zw D zCl A s [(lb, .inl (cI, 64, .inl (fI Lab21))), (m0, .inr (10, [.int (zI v), .long (zL wi), .long (zL hi), .int (zI bn), .ref af, .ref at_, .int (zI dr), .int (zI sz), .ref au, .ref ap, .ref ab, .ref ae, .ref ah, .int (zI kp), .int (zI ks), .ref ku, .ref kq, .ref kb, .ref ke, .ref kh, .int (zI als), .ref gf, .ref gt, .int (zI ses), .ref sf, .ref st, .int (zI les), .ref ef, .ref et, .int (zI mes), .ref xa, .ref xf, .ref xt, .ref xr, .ref lb, .int (zI lbs22), .ref so])), (af, .inl (cL, 72, .inr (.inl (fL From)))), (at_, .inl (cL, 72, .inr (.inl (fL To))))] H locs := hW
        refine zcallv (wr := [(af, .inl (cL, 72, .inr (.inl (fL From)))), (at_, .inl (cL, 72, .inr (.inl (fL To))))]) C hW [1, 0] [2, 3] rfl rfl (by decide) (by decide) (zRunV (k := 2) (As := [.int (zI 72), .long (zL (To (3 * b + 1) - From (3 * b + 1)))]) (rest := []) C hW (m_addNumber l D cI cG cL cB m0 v wi hi bn af at_ dr sz au ap ab ae ah kp ks ku kq kb ke kh als gf gt ses sf st les ef et mes xa xf xt xr lb lbs22 so Lab21 72 (To (3 * b + 1) - From (3 * b + 1)) (([] ++ [87]) ++ dgx (To (3 * b + 0) - From (3 * b + 0))) hf3 (by omega) (by omega) (by omega) (by have := (hf4).1; omega) (by have h1 := (hf4).1; have h2 := dgx_len (v := (To (3 * b + 0) - From (3 * b + 0))) (by omega); rw [List.length_append] at h1; simp only [List.nil_append, List.length_cons, List.length_nil] at h1; omega) hf4 H.size) [1, 0] rfl (by decide) kMo_246 (by decide +kernel) ⟨by decide, by decide⟩ 1 rfl rfl rfl hl.1 (Nat.le_of_ble_eq_true rfl) dMo_code_58 ⟨by first | decide | omega, by first | decide | omega⟩) (fun w H locs hq hW => ?_)
        obtain ⟨Lab25, lbs26, hf7, hf8, rfl⟩ := hq
        have hW : zw D zCl A s [(af, .inl (cL, 72, .inr (.inl (fL From)))), (at_, .inl (cL, 72, .inr (.inl (fL To)))), (m0, .inr (10, [.int (zI v), .long (zL wi), .long (zL hi), .int (zI bn), .ref af, .ref at_, .int (zI dr), .int (zI sz), .ref au, .ref ap, .ref ab, .ref ae, .ref ah, .int (zI kp), .int (zI ks), .ref ku, .ref kq, .ref kb, .ref ke, .ref kh, .int (zI als), .ref gf, .ref gt, .int (zI ses), .ref sf, .ref st, .int (zI les), .ref ef, .ref et, .int (zI mes), .ref xa, .ref xf, .ref xt, .ref xr, .ref lb, .int (zI lbs26), .ref so])), (lb, .inl (cI, 64, .inl (fI Lab25)))] H locs := hW
        refine lv_aload_n C.1 C.2.1 dMo_code_61 rfl (lv_at hl 0 rfl) ?_
        refine lv_bipush (v := zI 68) C.1 C.2.1 dMo_code_62 (by decide) ?_
        refine lv_aload_n C.1 C.2.1 dMo_code_64 rfl (lv_at hl 0 rfl) ?_
        refine lv_iload_n C.1 C.2.1 dMo_code_65 rfl (lv_at hl 1 rfl) ?_
        refine lv_iconst (v := zI 2) C.1 C.2.1 dMo_code_66 (by decide) ?_
        refine zcalll (wr := [(lb, .inl (cI, 64, .inl (fI Lab25)))]) C hW [2, 0, 1] [3] rfl rfl (by decide) (by decide) (zRunV (k := 2) (As := [.int (zI b), .int (zI 2)]) (rest := [.int (zI 68), .ref m0]) C hW (m_sizeOf l D cI cG cL cB m0 v wi hi bn af at_ dr sz au ap ab ae ah kp ks ku kq kb ke kh als gf gt ses sf st les ef et mes xa xf xt xr lb lbs26 so From To b 2 bFrom bTo (by omega) (by omega) (by omega) (by omega) (by omega) (by omega) (by omega) H.size) [2, 0, 1] rfl (by decide) kMo_210 (by decide +kernel) ⟨by decide, by decide⟩ 2 rfl rfl rfl hl.1 (Nat.le_of_ble_eq_true rfl) dMo_code_67 ⟨by first | decide | omega, by first | decide | omega⟩) (fun x w H locs hq hW => ?_)
        obtain ⟨rfl, rfl⟩ := hq
        have hW : zw D zCl A s [(lb, .inl (cI, 64, .inl (fI Lab25))), (m0, .inr (10, [.int (zI v), .long (zL wi), .long (zL hi), .int (zI bn), .ref af, .ref at_, .int (zI dr), .int (zI sz), .ref au, .ref ap, .ref ab, .ref ae, .ref ah, .int (zI kp), .int (zI ks), .ref ku, .ref kq, .ref kb, .ref ke, .ref kh, .int (zI als), .ref gf, .ref gt, .int (zI ses), .ref sf, .ref st, .int (zI les), .ref ef, .ref et, .int (zI mes), .ref xa, .ref xf, .ref xt, .ref xr, .ref lb, .int (zI lbs26), .ref so])), (af, .inl (cL, 72, .inr (.inl (fL From)))), (at_, .inl (cL, 72, .inr (.inl (fL To))))] H locs := hW
        refine zcallv (wr := [(af, .inl (cL, 72, .inr (.inl (fL From)))), (at_, .inl (cL, 72, .inr (.inl (fL To))))]) C hW [1, 0] [2, 3] rfl rfl (by decide) (by decide) (zRunV (k := 2) (As := [.int (zI 68), .long (zL (To (3 * b + 2) - From (3 * b + 2)))]) (rest := []) C hW (m_addNumber l D cI cG cL cB m0 v wi hi bn af at_ dr sz au ap ab ae ah kp ks ku kq kb ke kh als gf gt ses sf st les ef et mes xa xf xt xr lb lbs26 so Lab25 68 (To (3 * b + 2) - From (3 * b + 2)) (((([] ++ [87]) ++ dgx (To (3 * b + 0) - From (3 * b + 0))) ++ [72]) ++ dgx (To (3 * b + 1) - From (3 * b + 1))) hf7 (by omega) (by omega) (by omega) (by have := (hf8).1; omega) (by have h1 := (hf8).1; have h2 := dgx_len (v := (To (3 * b + 0) - From (3 * b + 0))) (by omega); have h3 := dgx_len (v := (To (3 * b + 1) - From (3 * b + 1))) (by omega); simp only [List.nil_append, List.length_append, List.length_cons, List.length_nil] at h1; omega) hf8 H.size) [1, 0] rfl (by decide) kMo_246 (by decide +kernel) ⟨by decide, by decide⟩ 1 rfl rfl rfl hl.1 (Nat.le_of_ble_eq_true rfl) dMo_code_70 ⟨by first | decide | omega, by first | decide | omega⟩) (fun w H locs hq hW => ?_)
        obtain ⟨Lab29, lbs210, hf11, hf12, rfl⟩ := hq
        have hW : zw D zCl A s [(af, .inl (cL, 72, .inr (.inl (fL From)))), (at_, .inl (cL, 72, .inr (.inl (fL To)))), (m0, .inr (10, [.int (zI v), .long (zL wi), .long (zL hi), .int (zI bn), .ref af, .ref at_, .int (zI dr), .int (zI sz), .ref au, .ref ap, .ref ab, .ref ae, .ref ah, .int (zI kp), .int (zI ks), .ref ku, .ref kq, .ref kb, .ref ke, .ref kh, .int (zI als), .ref gf, .ref gt, .int (zI ses), .ref sf, .ref st, .int (zI les), .ref ef, .ref et, .int (zI mes), .ref xa, .ref xf, .ref xt, .ref xr, .ref lb, .int (zI lbs210), .ref so])), (lb, .inl (cI, 64, .inl (fI Lab29)))] H locs := hW
        have hTX : arrL Lab29 lbs210 (labL (To (3 * b + 0) - From (3 * b + 0)) (To (3 * b + 1) - From (3 * b + 1)) (To (3 * b + 2) - From (3 * b + 2))) := by (have h9 := hf12; unfold labL; simpa only [List.nil_append] using h9)
        have hTl := labL_len (w := (To (3 * b + 0) - From (3 * b + 0))) (h := (To (3 * b + 1) - From (3 * b + 1))) (d := (To (3 * b + 2) - From (3 * b + 2))) (by omega) (by omega) (by omega)
        have hTn := hTX.1
        refine lv_iconst (v := zI 0) C.1 C.2.1 dMo_code_73 (by decide) ?_
        refine lv_istore_n (lv' := [(3, .int (zI 0)), (0, .ref m0), (1, .int (zI b)), (2, .int (zI i))]) C.1 C.2.1 dMo_code_74 rfl hl (by decide) rfl (fun ls hl => ?_)
        refine lv_iconst (v := zI 0) C.1 C.2.1 dMo_code_75 (by decide) ?_
        refine lv_istore (lv' := [(4, .int (zI 0)), (3, .int (zI 0)), (0, .ref m0), (1, .int (zI b)), (2, .int (zI i))]) C.1 C.2.1 dMo_code_76 hl (by decide) rfl (fun ls hl => ?_)
        have L78 : ∀ (N : Nat) (j : Int) (s_ : Int), (lbs210 - j).toNat < N → (0 ≤ j) → (j ≤ lbs210) → (s_ = sumZ (ckF Lab29) j) → (0 ≤ s_ ∧ s_ ≤ 576 * j) → ∀ (ls : Array Slot) (H : Heap) (locs : List Loc), lv_has ls 6 [(4, .int (zI j)), (3, .int (zI s_)), (0, .ref m0), (1, .int (zI b)), (2, .int (zI i))] → zw D zCl A s [(af, .inl (cL, 72, .inr (.inl (fL From)))), (at_, .inl (cL, 72, .inr (.inl (fL To)))), (m0, .inr (10, [.int (zI v), .long (zL wi), .long (zL hi), .int (zI bn), .ref af, .ref at_, .int (zI dr), .int (zI sz), .ref au, .ref ap, .ref ab, .ref ae, .ref ah, .int (zI kp), .int (zI ks), .ref ku, .ref kq, .ref kb, .ref ke, .ref kh, .int (zI als), .ref gf, .ref gt, .int (zI ses), .ref sf, .ref st, .int (zI les), .ref ef, .ref et, .int (zI mes), .ref xa, .ref xf, .ref xt, .ref xr, .ref lb, .int (zI lbs210), .ref so])), (lb, .inl (cI, 64, .inl (fI Lab29)))] H locs → W p l e (zr 1 0 0) s m args below meth c H locs 0 0 Q (F0 m 78 ls []) := by
          intro N
          induction N with
          | zero => intro j s_ hm; exact absurd hm (Nat.not_lt_zero _)
          | succ N ih78 =>
            intro j s_ hm78 hj0 hj1 hs_ hsb ls H locs hl hW
            refine lv_iload C.1 C.2.1 dMo_code_78 (lv_at hl 0 rfl) ?_
            refine lv_aload_n C.1 C.2.1 dMo_code_80 rfl (lv_at hl 2 rfl) ?_
            refine zget C hW 2 35 rfl rfl inMo (by decide) flMo_237 rfl dMo_code_81 ?_
            refine zicmp_ge (tgt := 151) C (by omega) (by omega) dMo_code_84 (by decide) (fun c84 => ?_) (fun c84 => ?_)
            · refine lv_aload_n C.1 C.2.1 dMo_code_151 rfl (lv_at hl 2 rfl) ?_
              refine zget C hW 2 34 rfl rfl inMo (by decide) flMo_77 rfl dMo_code_152 ?_
              refine lv_aload_n C.1 C.2.1 dMo_code_155 rfl (lv_at hl 2 rfl) ?_
              refine zget C hW 2 35 rfl rfl inMo (by decide) flMo_237 rfl dMo_code_156 ?_
              refine lv_bipush (v := zI 35) C.1 C.2.1 dMo_code_159 (by decide) ?_
              refine ziast C hW 3 0 rfl rfl (by omega) (by omega) (by decide) dMo_code_161 (fun H locs hW => ?_)
              have hB13 : ∀ jj : Int, I32 ((upz Lab29 lbs210 35) jj) := upz_b hf11 (by omega)
              have hW : zw D zCl A s [(af, .inl (cL, 72, .inr (.inl (fL From)))), (at_, .inl (cL, 72, .inr (.inl (fL To)))), (m0, .inr (10, [.int (zI v), .long (zL wi), .long (zL hi), .int (zI bn), .ref af, .ref at_, .int (zI dr), .int (zI sz), .ref au, .ref ap, .ref ab, .ref ae, .ref ah, .int (zI kp), .int (zI ks), .ref ku, .ref kq, .ref kb, .ref ke, .ref kh, .int (zI als), .ref gf, .ref gt, .int (zI ses), .ref sf, .ref st, .int (zI les), .ref ef, .ref et, .int (zI mes), .ref xa, .ref xf, .ref xt, .ref xr, .ref lb, .int (zI lbs210), .ref so])), (lb, .inl (cI, 64, .inl (fI (upz Lab29 lbs210 35))))] H locs := hW
              refine lv_aload_n C.1 C.2.1 dMo_code_162 rfl (lv_at hl 2 rfl) ?_
              refine zget C hW 2 34 rfl rfl inMo (by decide) flMo_77 rfl dMo_code_163 ?_
              refine lv_aload_n C.1 C.2.1 dMo_code_166 rfl (lv_at hl 2 rfl) ?_
              refine zget C hW 2 35 rfl rfl inMo (by decide) flMo_237 rfl dMo_code_167 ?_
              refine lv_iconst (v := zI 1) C.1 C.2.1 dMo_code_170 (by decide) ?_
              refine ziadd C dMo_code_171 ?_
              refine lv_bipush (v := zI 48) C.1 C.2.1 dMo_code_172 (by decide) ?_
              have hsm1 := Int.tmod_nonneg 10 (show 0 ≤ s_ by omega)
              have hsm2 := Int.tmod_lt_of_pos s_ (show (0 : Int) < 10 by decide)
              refine lv_iload_n C.1 C.2.1 dMo_code_174 rfl (lv_at hl 1 rfl) ?_
              refine lv_bipush (v := zI 10) C.1 C.2.1 dMo_code_175 (by decide) ?_
              refine zirem C (by omega) (by omega) (by omega) dMo_code_177 ?_
              refine ziadd C dMo_code_178 ?_
              refine ziast C hW 3 0 rfl rfl (by omega) (by omega) (by decide) dMo_code_179 (fun H locs hW => ?_)
              have hB14 : ∀ jj : Int, I32 ((upz (upz Lab29 lbs210 35) (lbs210 + 1) (48 + (s_.tmod 10))) jj) := upz_b hB13 (by omega)
              have hW : zw D zCl A s [(af, .inl (cL, 72, .inr (.inl (fL From)))), (at_, .inl (cL, 72, .inr (.inl (fL To)))), (m0, .inr (10, [.int (zI v), .long (zL wi), .long (zL hi), .int (zI bn), .ref af, .ref at_, .int (zI dr), .int (zI sz), .ref au, .ref ap, .ref ab, .ref ae, .ref ah, .int (zI kp), .int (zI ks), .ref ku, .ref kq, .ref kb, .ref ke, .ref kh, .int (zI als), .ref gf, .ref gt, .int (zI ses), .ref sf, .ref st, .int (zI les), .ref ef, .ref et, .int (zI mes), .ref xa, .ref xf, .ref xt, .ref xr, .ref lb, .int (zI lbs210), .ref so])), (lb, .inl (cI, 64, .inl (fI (upz (upz Lab29 lbs210 35) (lbs210 + 1) (48 + (s_.tmod 10))))))] H locs := hW
              refine lv_iload_n C.1 C.2.1 dMo_code_180 rfl (lv_at hl 4 rfl) ?_
              refine lv_aload_n C.1 C.2.1 dMo_code_181 rfl (lv_at hl 2 rfl) ?_
              refine zget C hW 2 35 rfl rfl inMo (by decide) flMo_237 rfl dMo_code_182 ?_
              refine lv_iconst (v := zI 2) C.1 C.2.1 dMo_code_185 (by decide) ?_
              refine ziadd C dMo_code_186 ?_
              refine zicmp_ge (tgt := 199) C (by omega) (by omega) dMo_code_187 (by decide) (fun c187 => ?_) (fun c187 => ?_)
              · refine lv_iconst (v := zI (-1)) C.1 C.2.1 dMo_code_199 (by decide) ?_
                have hW : zw D zCl A s [(m0, .inr (10, [.int (zI v), .long (zL wi), .long (zL hi), .int (zI bn), .ref af, .ref at_, .int (zI dr), .int (zI sz), .ref au, .ref ap, .ref ab, .ref ae, .ref ah, .int (zI kp), .int (zI ks), .ref ku, .ref kq, .ref kb, .ref ke, .ref kh, .int (zI als), .ref gf, .ref gt, .int (zI ses), .ref sf, .ref st, .int (zI les), .ref ef, .ref et, .int (zI mes), .ref xa, .ref xf, .ref xt, .ref xr, .ref lb, .int (zI lbs210), .ref so])), (af, .inl (cL, 72, .inr (.inl (fL From)))), (at_, .inl (cL, 72, .inr (.inl (fL To)))), (lb, .inl (cI, 64, .inl (fI (upz (upz Lab29 lbs210 35) (lbs210 + 1) (48 + (s_.tmod 10))))))] H locs := zwp hW [2, 0, 1, 3] rfl (by decide)
                exact hQ (zI (-1)) _ H locs _ _ _ ls hW ⟨_, _, _, _, hB14, (by rw [show v = 0 by omega]; exact deC_0 hnb (by rw [decide_eq_true (by omega)]; decide)), (fun _ => by first | exact cod_1 hTX (by omega) hs_ (by omega) (by omega) | exact cod_2 hTX (by omega)), rfl, rfl⟩ (by omega) (by omega) dMo_code_200
              · refine lv_aload_n C.1 C.2.1 dMo_code_190 rfl (lv_at hl 2 rfl) ?_
                refine zget C hW 2 34 rfl rfl inMo (by decide) flMo_77 rfl dMo_code_191 ?_
                refine lv_iload_n C.1 C.2.1 dMo_code_194 rfl (lv_at hl 4 rfl) ?_
                refine ziald C hW 3 0 rfl rfl (by omega) (by omega) (by decide) dMo_code_195 ?_
                have hb15 := hB14 i
                refine lv_goto (tgt := 200) C.1 C.2.1 dMo_code_196 (by decide) ?_
                have hW : zw D zCl A s [(m0, .inr (10, [.int (zI v), .long (zL wi), .long (zL hi), .int (zI bn), .ref af, .ref at_, .int (zI dr), .int (zI sz), .ref au, .ref ap, .ref ab, .ref ae, .ref ah, .int (zI kp), .int (zI ks), .ref ku, .ref kq, .ref kb, .ref ke, .ref kh, .int (zI als), .ref gf, .ref gt, .int (zI ses), .ref sf, .ref st, .int (zI les), .ref ef, .ref et, .int (zI mes), .ref xa, .ref xf, .ref xt, .ref xr, .ref lb, .int (zI lbs210), .ref so])), (af, .inl (cL, 72, .inr (.inl (fL From)))), (at_, .inl (cL, 72, .inr (.inl (fL To)))), (lb, .inl (cI, 64, .inl (fI (upz (upz Lab29 lbs210 35) (lbs210 + 1) (48 + (s_.tmod 10))))))] H locs := zwp hW [2, 0, 1, 3] rfl (by decide)
                exact hQ (zI ((upz (upz Lab29 lbs210 35) (lbs210 + 1) (48 + (s_.tmod 10))) i)) _ H locs _ _ _ ls hW ⟨_, _, _, _, hB14, (by rw [show v = 0 by omega]; exact deC_0 hnb (by rw [decide_eq_true (by omega)]; decide)), (fun _ => by first | exact cod_1 hTX (by omega) hs_ (by omega) (by omega) | exact cod_2 hTX (by omega)), rfl, rfl⟩ (by omega) (by omega) dMo_code_200
            · have L116 : ∀ (g_ : Int), ((g_ = 1 ∧ 48 ≤ Lab29 j ∧ Lab29 j ≤ 57) ∨ (g_ = 0 ∧ ¬ (48 ≤ Lab29 j ∧ Lab29 j ≤ 57))) → ∀ (ls : Array Slot) (H : Heap) (locs : List Loc), lv_has ls 6 [(4, .int (zI j)), (3, .int (zI s_)), (0, .ref m0), (1, .int (zI b)), (2, .int (zI i))] → zw D zCl A s [(af, .inl (cL, 72, .inr (.inl (fL From)))), (at_, .inl (cL, 72, .inr (.inl (fL To)))), (m0, .inr (10, [.int (zI v), .long (zL wi), .long (zL hi), .int (zI bn), .ref af, .ref at_, .int (zI dr), .int (zI sz), .ref au, .ref ap, .ref ab, .ref ae, .ref ah, .int (zI kp), .int (zI ks), .ref ku, .ref kq, .ref kb, .ref ke, .ref kh, .int (zI als), .ref gf, .ref gt, .int (zI ses), .ref sf, .ref st, .int (zI les), .ref ef, .ref et, .int (zI mes), .ref xa, .ref xf, .ref xt, .ref xr, .ref lb, .int (zI lbs210), .ref so])), (lb, .inl (cI, 64, .inl (fI Lab29)))] H locs → W p l e (zr 1 0 0) s m args below meth c H locs 0 0 Q (F0 m 116 ls [.int (zI g_)]) := by
                intro g_ hg ls H locs hl hW
                refine lv_istore (lv' := [(5, .int (zI g_)), (4, .int (zI j)), (3, .int (zI s_)), (0, .ref m0), (1, .int (zI b)), (2, .int (zI i))]) C.1 C.2.1 dMo_code_116 hl (by decide) rfl (fun ls hl => ?_)
                have L144 : ∀ (y_ : Int), (y_ = s_ + ckF Lab29 j) → (s_ ≤ y_ ∧ y_ ≤ s_ + 576) → ∀ (ls : Array Slot) (H : Heap) (locs : List Loc), lv_has ls 6 [(5, .int (zI g_)), (4, .int (zI j)), (3, .int (zI s_)), (0, .ref m0), (1, .int (zI b)), (2, .int (zI i))] → zw D zCl A s [(af, .inl (cL, 72, .inr (.inl (fL From)))), (at_, .inl (cL, 72, .inr (.inl (fL To)))), (m0, .inr (10, [.int (zI v), .long (zL wi), .long (zL hi), .int (zI bn), .ref af, .ref at_, .int (zI dr), .int (zI sz), .ref au, .ref ap, .ref ab, .ref ae, .ref ah, .int (zI kp), .int (zI ks), .ref ku, .ref kq, .ref kb, .ref ke, .ref kh, .int (zI als), .ref gf, .ref gt, .int (zI ses), .ref sf, .ref st, .int (zI les), .ref ef, .ref et, .int (zI mes), .ref xa, .ref xf, .ref xt, .ref xr, .ref lb, .int (zI lbs210), .ref so])), (lb, .inl (cI, 64, .inl (fI Lab29)))] H locs → W p l e (zr 1 0 0) s m args below meth c H locs 0 0 Q (F0 m 144 ls [.int (zI y_)]) := by
                  intro y_ hy hyb ls H locs hl hW
                  refine lv_istore_n (lv' := [(3, .int (zI y_)), (5, .int (zI g_)), (4, .int (zI j)), (0, .ref m0), (1, .int (zI b)), (2, .int (zI i))]) C.1 C.2.1 dMo_code_144 rfl hl (by decide) rfl (fun ls hl => ?_)
                  refine lv_iinc (v := zI (j + 1)) (lv' := [(4, .int (zI (j + 1))), (3, .int (zI y_)), (5, .int (zI g_)), (0, .ref m0), (1, .int (zI b)), (2, .int (zI i))]) C.1 C.2.1 dMo_code_145 hl (k := 2) rfl (zI_add j 1) (by decide) rfl (fun ls hl => ?_)
                  refine lv_goto (tgt := 78) C.1 C.2.1 dMo_code_148 (by decide) ?_
                  exact ih78 (j + 1) y_ (by omega) (by omega) (by omega) (by rw [sumZ_s _ hj0, ← hs_]; exact hy) (by omega) ls H locs (lv_sub hl [0, 1, 3, 4, 5] rfl) hW
                refine lv_iload C.1 C.2.1 dMo_code_118 (lv_at hl 0 rfl) ?_
                refine zif_eq (tgt := 143) C (by omega) dMo_code_120 (by decide) (fun c120 => ?_) (fun c120 => ?_)
                · refine lv_iload_n C.1 C.2.1 dMo_code_143 rfl (lv_at hl 2 rfl) ?_
                  exact L144 s_ (by unfold ckF; first | (rw [if_pos (by omega)]; done) | (rw [if_neg (by omega)]; omega)) (by first | omega | (have h9 := mul_in (a := Lab29 j - 48) (b := j + 1) (A := 9) (B := 64) (by omega) (by omega) (by omega) (by omega); omega)) ls H locs (lv_sub hl [0, 1, 2, 3, 4, 5] rfl) hW
                · refine lv_iload_n C.1 C.2.1 dMo_code_123 rfl (lv_at hl 2 rfl) ?_
                  refine lv_aload_n C.1 C.2.1 dMo_code_124 rfl (lv_at hl 3 rfl) ?_
                  refine zget C hW 2 34 rfl rfl inMo (by decide) flMo_77 rfl dMo_code_125 ?_
                  refine lv_iload C.1 C.2.1 dMo_code_128 (lv_at hl 1 rfl) ?_
                  refine ziald C hW 3 0 rfl rfl (by omega) (by omega) (by decide) dMo_code_130 ?_
                  have hb16 := hf11 j
                  refine lv_bipush (v := zI 48) C.1 C.2.1 dMo_code_131 (by decide) ?_
                  refine zisub C dMo_code_133 ?_
                  refine lv_iload C.1 C.2.1 dMo_code_134 (lv_at hl 1 rfl) ?_
                  refine lv_iconst (v := zI 1) C.1 C.2.1 dMo_code_136 (by decide) ?_
                  refine ziadd C dMo_code_137 ?_
                  refine zimul C dMo_code_138 ?_
                  refine ziadd C dMo_code_139 ?_
                  refine lv_goto (tgt := 144) C.1 C.2.1 dMo_code_140 (by decide) ?_
                  exact L144 (s_ + (((Lab29 j) - 48) * (j + 1))) (by unfold ckF; first | (rw [if_pos (by omega)]; done) | (rw [if_neg (by omega)]; omega)) (by first | omega | (have h9 := mul_in (a := Lab29 j - 48) (b := j + 1) (A := 9) (B := 64) (by omega) (by omega) (by omega) (by omega); omega)) ls H locs (lv_sub hl [0, 1, 2, 3, 4, 5] rfl) hW
              refine lv_aload_n C.1 C.2.1 dMo_code_87 rfl (lv_at hl 2 rfl) ?_
              refine zget C hW 2 34 rfl rfl inMo (by decide) flMo_77 rfl dMo_code_88 ?_
              refine lv_iload C.1 C.2.1 dMo_code_91 (lv_at hl 0 rfl) ?_
              refine ziald C hW 3 0 rfl rfl (by omega) (by omega) (by decide) dMo_code_93 ?_
              have hb17 := hf11 j
              refine lv_bipush (v := zI 48) C.1 C.2.1 dMo_code_94 (by decide) ?_
              refine zicmp_lt (tgt := 115) C (by omega) (by omega) dMo_code_96 (by decide) (fun c96 => ?_) (fun c96 => ?_)
              · refine lv_iconst (v := zI 0) C.1 C.2.1 dMo_code_115 (by decide) ?_
                exact L116 0 (by omega) ls H locs (lv_sub hl [0, 1, 2, 3, 4] rfl) hW
              · refine lv_aload_n C.1 C.2.1 dMo_code_99 rfl (lv_at hl 2 rfl) ?_
                refine zget C hW 2 34 rfl rfl inMo (by decide) flMo_77 rfl dMo_code_100 ?_
                refine lv_iload C.1 C.2.1 dMo_code_103 (lv_at hl 0 rfl) ?_
                refine ziald C hW 3 0 rfl rfl (by omega) (by omega) (by decide) dMo_code_105 ?_
                have hb18 := hf11 j
                refine lv_bipush (v := zI 57) C.1 C.2.1 dMo_code_106 (by decide) ?_
                refine zicmp_gt (tgt := 115) C (by omega) (by omega) dMo_code_108 (by decide) (fun c108 => ?_) (fun c108 => ?_)
                · refine lv_iconst (v := zI 0) C.1 C.2.1 dMo_code_115 (by decide) ?_
                  exact L116 0 (by omega) ls H locs (lv_sub hl [0, 1, 2, 3, 4] rfl) hW
                · refine lv_iconst (v := zI 1) C.1 C.2.1 dMo_code_111 (by decide) ?_
                  refine lv_goto (tgt := 116) C.1 C.2.1 dMo_code_112 (by decide) ?_
                  exact L116 1 (by omega) ls H locs (lv_sub hl [0, 1, 2, 3, 4] rfl) hW
        exact L78 _ 0 0 (Nat.lt_succ_self _) (by omega) (by omega) rfl (by omega) ls H locs (lv_sub hl [0, 1, 2, 3, 4] rfl) hW
      · refine lv_iconst (v := zI 0) C.1 C.2.1 dMo_code_30 (by decide) ?_
        have hW : zw D zCl A s [(m0, .inr (10, [.int (zI v), .long (zL wi), .long (zL hi), .int (zI bn), .ref af, .ref at_, .int (zI dr), .int (zI sz), .ref au, .ref ap, .ref ab, .ref ae, .ref ah, .int (zI kp), .int (zI ks), .ref ku, .ref kq, .ref kb, .ref ke, .ref kh, .int (zI als), .ref gf, .ref gt, .int (zI ses), .ref sf, .ref st, .int (zI les), .ref ef, .ref et, .int (zI mes), .ref xa, .ref xf, .ref xt, .ref xr, .ref lb, .int (zI lbs), .ref so])), (af, .inl (cL, 72, .inr (.inl (fL From)))), (at_, .inl (cL, 72, .inr (.inl (fL To)))), (lb, .inl (cI, 64, .inl (fI Lab)))] H locs := zwp hW [3, 0, 1, 2] rfl (by decide)
        exact hQ (zI 0) _ H locs _ _ _ ls hW ⟨_, 0, lbs, Lab, bLab, (by have hnb : 0 ≤ b ∧ b < bn := noB_0 (by omega); rw [show v = 2 by omega]; exact deC_2 hnb (by rw [decide_eq_false (by omega)]; rfl)), (fun h => by omega), rfl, rfl⟩ (by omega) (by omega) dMo_code_31
    refine lv_iload_n C.1 C.2.1 dMo_code_11 rfl (lv_at hl 2 rfl) ?_
    refine zif_ge (tgt := 19) C (by omega) dMo_code_12 (by decide) (fun c12 => ?_) (fun c12 => ?_)
    · refine lv_iconst (v := zI 0) C.1 C.2.1 dMo_code_19 (by decide) ?_
      exact L20 0 (by omega) ls H locs (lv_sub hl [0, 1, 2] rfl) hW
    · refine lv_iconst (v := zI 2) C.1 C.2.1 dMo_code_15 (by decide) ?_
      refine lv_goto (tgt := 20) C.1 C.2.1 dMo_code_16 (by decide) ?_
      exact L20 2 (by omega) ls H locs (lv_sub hl [0, 1, 2] rfl) hW
  · refine lv_iconst (v := zI 0) C.1 C.2.1 dMo_code_8 (by decide) ?_
    have hW : zw D zCl A s [(m0, .inr (10, [.int (zI (noB bn b)), .long (zL wi), .long (zL hi), .int (zI bn), .ref af, .ref at_, .int (zI dr), .int (zI sz), .ref au, .ref ap, .ref ab, .ref ae, .ref ah, .int (zI kp), .int (zI ks), .ref ku, .ref kq, .ref kb, .ref ke, .ref kh, .int (zI als), .ref gf, .ref gt, .int (zI ses), .ref sf, .ref st, .int (zI les), .ref ef, .ref et, .int (zI mes), .ref xa, .ref xf, .ref xt, .ref xr, .ref lb, .int (zI lbs), .ref so])), (af, .inl (cL, 72, .inr (.inl (fL From)))), (at_, .inl (cL, 72, .inr (.inl (fL To)))), (lb, .inl (cI, 64, .inl (fI Lab)))] H locs := zwp hW [3, 0, 1, 2] rfl (by decide)
    exact hQ (zI 0) _ H locs _ _ _ ls hW ⟨_, 0, lbs, Lab, bLab, deC_1 (by omega), (fun h => by omega), rfl, rfl⟩ (by omega) (by omega) dMo_code_9

theorem dMo_addNumber_0 : decode cMo_addNumber 0 = .ok (.aload_n 0, 1) := by decide +kernel
theorem dMo_addNumber_1 : decode cMo_addNumber 1 = .ok (.getfield 77, 3) := by decide +kernel
theorem dMo_addNumber_4 : decode cMo_addNumber 4 = .ok (.aload_n 0, 1) := by decide +kernel
theorem dMo_addNumber_5 : decode cMo_addNumber 5 = .ok (.getfield 237, 3) := by decide +kernel
theorem dMo_addNumber_8 : decode cMo_addNumber 8 = .ok (.iload_n 1, 1) := by decide +kernel
theorem dMo_addNumber_9 : decode cMo_addNumber 9 = .ok (.iastore, 1) := by decide +kernel
theorem dMo_addNumber_10 : decode cMo_addNumber 10 = .ok (.aload_n 0, 1) := by decide +kernel
theorem dMo_addNumber_11 : decode cMo_addNumber 11 = .ok (.dup, 1) := by decide +kernel
theorem dMo_addNumber_12 : decode cMo_addNumber 12 = .ok (.getfield 237, 3) := by decide +kernel
theorem dMo_addNumber_15 : decode cMo_addNumber 15 = .ok (.iconst 1, 1) := by decide +kernel
theorem dMo_addNumber_16 : decode cMo_addNumber 16 = .ok (.iadd, 1) := by decide +kernel
theorem dMo_addNumber_17 : decode cMo_addNumber 17 = .ok (.putfield 237, 3) := by decide +kernel
theorem dMo_addNumber_20 : decode cMo_addNumber 20 = .ok (.lconst 1, 1) := by decide +kernel
theorem dMo_addNumber_21 : decode cMo_addNumber 21 = .ok (.lstore 4, 2) := by decide +kernel
theorem dMo_addNumber_23 : decode cMo_addNumber 23 = .ok (.lload_n 2, 1) := by decide +kernel
theorem dMo_addNumber_24 : decode cMo_addNumber 24 = .ok (.lload 4, 2) := by decide +kernel
theorem dMo_addNumber_26 : decode cMo_addNumber 26 = .ok (.ldiv, 1) := by decide +kernel
theorem dMo_addNumber_27 : decode cMo_addNumber 27 = .ok (.ldc2_w 240, 3) := by decide +kernel
theorem dMo_addNumber_30 : decode cMo_addNumber 30 = .ok (.lcmp, 1) := by decide +kernel
theorem dMo_addNumber_31 : decode cMo_addNumber 31 = .ok (.ifCond .le 14, 3) := by decide +kernel
theorem dMo_addNumber_34 : decode cMo_addNumber 34 = .ok (.ldc2_w 242, 3) := by decide +kernel
theorem dMo_addNumber_37 : decode cMo_addNumber 37 = .ok (.lload 4, 2) := by decide +kernel
theorem dMo_addNumber_39 : decode cMo_addNumber 39 = .ok (.lmul, 1) := by decide +kernel
theorem dMo_addNumber_40 : decode cMo_addNumber 40 = .ok (.lstore 4, 2) := by decide +kernel
theorem dMo_addNumber_42 : decode cMo_addNumber 42 = .ok (.goto (-19), 3) := by decide +kernel
theorem dMo_addNumber_45 : decode cMo_addNumber 45 = .ok (.lload 4, 2) := by decide +kernel
theorem dMo_addNumber_47 : decode cMo_addNumber 47 = .ok (.lstore 6, 2) := by decide +kernel
theorem dMo_addNumber_49 : decode cMo_addNumber 49 = .ok (.lload 6, 2) := by decide +kernel
theorem dMo_addNumber_51 : decode cMo_addNumber 51 = .ok (.lconst 0, 1) := by decide +kernel
theorem dMo_addNumber_52 : decode cMo_addNumber 52 = .ok (.lcmp, 1) := by decide +kernel
theorem dMo_addNumber_53 : decode cMo_addNumber 53 = .ok (.ifCond .le 46, 3) := by decide +kernel
theorem dMo_addNumber_56 : decode cMo_addNumber 56 = .ok (.aload_n 0, 1) := by decide +kernel
theorem dMo_addNumber_57 : decode cMo_addNumber 57 = .ok (.getfield 77, 3) := by decide +kernel
theorem dMo_addNumber_60 : decode cMo_addNumber 60 = .ok (.aload_n 0, 1) := by decide +kernel
theorem dMo_addNumber_61 : decode cMo_addNumber 61 = .ok (.getfield 237, 3) := by decide +kernel
theorem dMo_addNumber_64 : decode cMo_addNumber 64 = .ok (.ldc2_w 244, 3) := by decide +kernel
theorem dMo_addNumber_67 : decode cMo_addNumber 67 = .ok (.lload_n 2, 1) := by decide +kernel
theorem dMo_addNumber_68 : decode cMo_addNumber 68 = .ok (.lload 6, 2) := by decide +kernel
theorem dMo_addNumber_70 : decode cMo_addNumber 70 = .ok (.ldiv, 1) := by decide +kernel
theorem dMo_addNumber_71 : decode cMo_addNumber 71 = .ok (.ldc2_w 242, 3) := by decide +kernel
theorem dMo_addNumber_74 : decode cMo_addNumber 74 = .ok (.lrem, 1) := by decide +kernel
theorem dMo_addNumber_75 : decode cMo_addNumber 75 = .ok (.ladd, 1) := by decide +kernel
theorem dMo_addNumber_76 : decode cMo_addNumber 76 = .ok (.l2i, 1) := by decide +kernel
theorem dMo_addNumber_77 : decode cMo_addNumber 77 = .ok (.iastore, 1) := by decide +kernel
theorem dMo_addNumber_78 : decode cMo_addNumber 78 = .ok (.aload_n 0, 1) := by decide +kernel
theorem dMo_addNumber_79 : decode cMo_addNumber 79 = .ok (.dup, 1) := by decide +kernel
theorem dMo_addNumber_80 : decode cMo_addNumber 80 = .ok (.getfield 237, 3) := by decide +kernel
theorem dMo_addNumber_83 : decode cMo_addNumber 83 = .ok (.iconst 1, 1) := by decide +kernel
theorem dMo_addNumber_84 : decode cMo_addNumber 84 = .ok (.iadd, 1) := by decide +kernel
theorem dMo_addNumber_85 : decode cMo_addNumber 85 = .ok (.putfield 237, 3) := by decide +kernel
theorem dMo_addNumber_88 : decode cMo_addNumber 88 = .ok (.lload 6, 2) := by decide +kernel
theorem dMo_addNumber_90 : decode cMo_addNumber 90 = .ok (.ldc2_w 242, 3) := by decide +kernel
theorem dMo_addNumber_93 : decode cMo_addNumber 93 = .ok (.ldiv, 1) := by decide +kernel
theorem dMo_addNumber_94 : decode cMo_addNumber 94 = .ok (.lstore 6, 2) := by decide +kernel
theorem dMo_addNumber_96 : decode cMo_addNumber 96 = .ok (.goto (-47), 3) := by decide +kernel
theorem dMo_addNumber_99 : decode cMo_addNumber 99 = .ok (.return_, 1) := by decide +kernel
set_option maxRecDepth 100000 in
theorem flMo_77 : Cond.fieldLink "PartDrawingsModel" 77 (TMo 34).1 (TMo 34).2.1 (TMo 34).2.2.1 ∈ gW := gW_1 1240 rfl rfl
set_option maxRecDepth 100000 in
theorem flMo_237 : Cond.fieldLink "PartDrawingsModel" 237 (TMo 35).1 (TMo 35).2.1 (TMo 35).2.2.1 ∈ gW := gW_1 1241 rfl rfl
set_option maxRecDepth 100000 in
theorem kcMo_240 : Cond.constantLong "PartDrawingsModel" 240 (zL 9) ∈ gW := by
  have e : zL 9 = (9 : Int64) := by decide
  rw [e]; exact gW_1 1498 rfl rfl
set_option maxRecDepth 100000 in
theorem kcMo_244 : Cond.constantLong "PartDrawingsModel" 244 (zL 48) ∈ gW := by
  have e : zL 48 = (48 : Int64) := by decide
  rw [e]; exact gW_1 1500 rfl rfl
set_option maxRecDepth 100000 in
theorem kcMo_242 : Cond.constantLong "PartDrawingsModel" 242 (zL 10) ∈ gW := by
  have e : zL 10 = (10 : Int64) := by decide
  rw [e]; exact gW_1 1499 rfl rfl
set_option maxHeartbeats 4000000 in
set_option maxRecDepth 100000 in
theorem m_addNumber (l : Launch) (D : va_G) (cI cG cL cB : ClassId) (m0 : Nat) (cd : Int) (wi : Int) (hi : Int) (bn : Int) (af : Nat) (at_ : Nat) (dr : Int) (sz : Int) (au : Nat) (ap : Nat) (ab : Nat) (ae : Nat) (ah : Nat) (kp : Int) (ks : Int) (ku : Nat) (kq : Nat) (kb : Nat) (ke : Nat) (kh : Nat) (als : Int) (gf : Nat) (gt : Nat) (ses : Int) (sf : Nat) (st : Nat) (les : Int) (ef : Nat) (et : Nat) (mes : Int) (xa : Nat) (xf : Nat) (xt : Nat) (xr : Nat) (lb : Nat) (lbs : Int) (so : Nat) (Lab : Int → Int) (ch : Int) (v : Int) (L : List Int) (bLab : ∀ j : Int, I32 (Lab j)) (hIch : I32 ch) (hv0 : 1 ≤ v) (hv1 : v ≤ 1000000) (hn0 : 0 ≤ lbs) (hn1 : lbs ≤ 40) (hL : arrL Lab lbs L) : Cv l yMo_addNumber cMo_addNumber 8 none 0 0 0 D zCl (zT cI cG cL cB) [.ref m0, .int (zI ch), .long (zL v)] [(m0, .inr (10, [.int (zI cd), .long (zL wi), .long (zL hi), .int (zI bn), .ref af, .ref at_, .int (zI dr), .int (zI sz), .ref au, .ref ap, .ref ab, .ref ae, .ref ah, .int (zI kp), .int (zI ks), .ref ku, .ref kq, .ref kb, .ref ke, .ref kh, .int (zI als), .ref gf, .ref gt, .int (zI ses), .ref sf, .ref st, .int (zI les), .ref ef, .ref et, .int (zI mes), .ref xa, .ref xf, .ref xt, .ref xr, .ref lb, .int (zI lbs), .ref so])), (lb, .inl (cI, 64, .inl (fI Lab)))] (fun w => ∃ Lab2 : Int → Int, ∃ lbs2 : Int, (∀ j : Int, I32 (Lab2 j)) ∧ (arrL Lab2 lbs2 ((L ++ [ch]) ++ dgx v)) ∧ w = [(m0, .inr (10, [.int (zI cd), .long (zL wi), .long (zL hi), .int (zI bn), .ref af, .ref at_, .int (zI dr), .int (zI sz), .ref au, .ref ap, .ref ab, .ref ae, .ref ah, .int (zI kp), .int (zI ks), .ref ku, .ref kq, .ref kb, .ref ke, .ref kh, .int (zI als), .ref gf, .ref gt, .int (zI ses), .ref sf, .ref st, .int (zI les), .ref ef, .ref et, .int (zI mes), .ref xa, .ref xf, .ref xt, .ref xr, .ref lb, .int (zI lbs2), .ref so])), (lb, .inl (cI, 64, .inl (fI Lab2)))]) := by
  refine zBv (by decide) (Nat.le_of_ble_eq_true rfl) ?_
  intro p e s m args below meth c ls A H locs Q C hin hl hW hQ
  have hl : lv_has ls 8 [(0, .ref m0), (1, .int (zI ch)), (2, .long (zL v))] := hl
  refine lv_aload_n C.1 C.2.1 dMo_addNumber_0 rfl (lv_at hl 0 rfl) ?_
  refine zget C hW 0 34 rfl rfl inMo (by decide) flMo_77 rfl dMo_addNumber_1 ?_
  refine lv_aload_n C.1 C.2.1 dMo_addNumber_4 rfl (lv_at hl 0 rfl) ?_
  refine zget C hW 0 35 rfl rfl inMo (by decide) flMo_237 rfl dMo_addNumber_5 ?_
  refine lv_iload_n C.1 C.2.1 dMo_addNumber_8 rfl (lv_at hl 1 rfl) ?_
  refine ziast C hW 1 0 rfl rfl (by omega) (by omega) (by decide) dMo_addNumber_9 (fun H locs hW => ?_)
  have hB1 : ∀ jj : Int, I32 ((upz Lab lbs ch) jj) := upz_b bLab (by omega)
  have hW : zw D zCl A s [(m0, .inr (10, [.int (zI cd), .long (zL wi), .long (zL hi), .int (zI bn), .ref af, .ref at_, .int (zI dr), .int (zI sz), .ref au, .ref ap, .ref ab, .ref ae, .ref ah, .int (zI kp), .int (zI ks), .ref ku, .ref kq, .ref kb, .ref ke, .ref kh, .int (zI als), .ref gf, .ref gt, .int (zI ses), .ref sf, .ref st, .int (zI les), .ref ef, .ref et, .int (zI mes), .ref xa, .ref xf, .ref xt, .ref xr, .ref lb, .int (zI lbs), .ref so])), (lb, .inl (cI, 64, .inl (fI (upz Lab lbs ch))))] H locs := hW
  refine lv_aload_n C.1 C.2.1 dMo_addNumber_10 rfl (lv_at hl 0 rfl) ?_
  refine lv_dup C.1 C.2.1 dMo_addNumber_11 rfl ?_
  refine zget C hW 0 35 rfl rfl inMo (by decide) flMo_237 rfl dMo_addNumber_12 ?_
  refine lv_iconst (v := zI 1) C.1 C.2.1 dMo_addNumber_15 (by decide) ?_
  refine ziadd C dMo_addNumber_16 ?_
  refine zput C hW 0 35 tyMo tyMo_ok nmMo rfl rfl inMo (by decide) flMo_237 rfl rfl rfl rfl (Nat.le_of_ble_eq_true rfl) dMo_addNumber_17 (fun H locs hW => ?_)
  have hW : zw D zCl A s [(m0, .inr (10, [.int (zI cd), .long (zL wi), .long (zL hi), .int (zI bn), .ref af, .ref at_, .int (zI dr), .int (zI sz), .ref au, .ref ap, .ref ab, .ref ae, .ref ah, .int (zI kp), .int (zI ks), .ref ku, .ref kq, .ref kb, .ref ke, .ref kh, .int (zI als), .ref gf, .ref gt, .int (zI ses), .ref sf, .ref st, .int (zI les), .ref ef, .ref et, .int (zI mes), .ref xa, .ref xf, .ref xt, .ref xr, .ref lb, .int (zI (lbs + 1)), .ref so])), (lb, .inl (cI, 64, .inl (fI (upz Lab lbs ch))))] H locs := hW
  have hL1 := arrL_a (v := ch) hL
  refine lv_lconst (v := zL 1) C.1 C.2.1 dMo_addNumber_20 (by decide) ?_
  refine lv_lstore (lv' := [(4, .long (zL 1)), (0, .ref m0), (1, .int (zI ch)), (2, .long (zL v))]) C.1 C.2.1 dMo_addNumber_21 hl (by decide) rfl (fun ls hl => ?_)
  have L23 : ∀ (N : Nat) (k : Nat) (te : Int), 7 - k < N → (k ≤ 6) → (te = p10 k) → (te ≤ v) → ∀ (ls : Array Slot) (H : Heap) (locs : List Loc), lv_has ls 8 [(4, .long (zL te)), (0, .ref m0), (1, .int (zI ch)), (2, .long (zL v))] → zw D zCl A s [(m0, .inr (10, [.int (zI cd), .long (zL wi), .long (zL hi), .int (zI bn), .ref af, .ref at_, .int (zI dr), .int (zI sz), .ref au, .ref ap, .ref ab, .ref ae, .ref ah, .int (zI kp), .int (zI ks), .ref ku, .ref kq, .ref kb, .ref ke, .ref kh, .int (zI als), .ref gf, .ref gt, .int (zI ses), .ref sf, .ref st, .int (zI les), .ref ef, .ref et, .int (zI mes), .ref xa, .ref xf, .ref xt, .ref xr, .ref lb, .int (zI (lbs + 1)), .ref so])), (lb, .inl (cI, 64, .inl (fI (upz Lab lbs ch))))] H locs → W p l e (zr 0 0 0) s m args below meth c H locs 0 0 Q (F0 m 23 ls []) := by
    intro N
    induction N with
    | zero => intro k te hm; exact absurd hm (Nat.not_lt_zero _)
    | succ N ih23 =>
      intro k te hm23 hk hte htv ls H locs hl hW
      have hp1 := p10_pos k
      have htd := tdiv_b (a := v) (b := te) (M := 1000000) (by omega) (by omega) (by omega)
      have hed : v.tdiv te = v / te := Int.tdiv_eq_ediv_of_nonneg (by omega)
      refine lv_lload_n C.1 C.2.1 dMo_addNumber_23 rfl (lv_at hl 3 rfl) ?_
      refine lv_lload C.1 C.2.1 dMo_addNumber_24 (lv_at hl 0 rfl) ?_
      refine zldiv C (by omega) (by omega) (by omega) dMo_addNumber_26 ?_
      refine zldc2 C kcMo_240 dMo_addNumber_27 ?_
      refine zlcmp_le (tgt := 45) C (by omega) (by omega) dMo_addNumber_30 dMo_addNumber_31 (by decide) (fun c30 => ?_) (fun c30 => ?_)
      · have hlt : v < 10 * te := by (have h9 := Int.lt_mul_ediv_self_add (x := v) (k := te) (by omega); have h8 := Int.mul_le_mul_of_nonneg_left (show v / te ≤ 9 by omega) (show 0 ≤ te by omega); omega)
        refine lv_lload C.1 C.2.1 dMo_addNumber_45 (lv_at hl 0 rfl) ?_
        refine lv_lstore (lv' := [(6, .long (zL te)), (4, .long (zL te)), (0, .ref m0), (1, .int (zI ch)), (2, .long (zL v))]) C.1 C.2.1 dMo_addNumber_47 hl (by decide) rfl (fun ls hl => ?_)
        have L49 : ∀ (N : Nat) (k2 : Nat) (d_ : Int) (n_ : Int) (Lx : Int → Int), d_.toNat < N → (∀ j : Int, I32 (Lx j)) → (arrL Lx n_ ((L ++ [ch]) ++ (if d_ = 0 then dgx v else dgx (v.tdiv (10 * d_))))) → (d_ = 0 ∨ (d_ = p10 k2 ∧ 1 ≤ d_ ∧ d_ ≤ v)) → ∀ (ls : Array Slot) (H : Heap) (locs : List Loc), lv_has ls 8 [(6, .long (zL d_)), (4, .long (zL te)), (0, .ref m0), (1, .int (zI ch)), (2, .long (zL v))] → zw D zCl A s [(m0, .inr (10, [.int (zI cd), .long (zL wi), .long (zL hi), .int (zI bn), .ref af, .ref at_, .int (zI dr), .int (zI sz), .ref au, .ref ap, .ref ab, .ref ae, .ref ah, .int (zI kp), .int (zI ks), .ref ku, .ref kq, .ref kb, .ref ke, .ref kh, .int (zI als), .ref gf, .ref gt, .int (zI ses), .ref sf, .ref st, .int (zI les), .ref ef, .ref et, .int (zI mes), .ref xa, .ref xf, .ref xt, .ref xr, .ref lb, .int (zI n_), .ref so])), (lb, .inl (cI, 64, .inl (fI Lx)))] H locs → W p l e (zr 0 0 0) s m args below meth c H locs 0 0 Q (F0 m 49 ls []) := by
          intro N
          induction N with
          | zero => intro k2 d_ n_ Lx hm; exact absurd hm (Nat.not_lt_zero _)
          | succ N ih49 =>
            intro k2 d_ n_ Lx hm49 hLb hLx hd ls H locs hl hW
            refine lv_lload C.1 C.2.1 dMo_addNumber_49 (lv_at hl 0 rfl) ?_
            refine lv_lconst (v := zL 0) C.1 C.2.1 dMo_addNumber_51 (by decide) ?_
            refine zlcmp_le (tgt := 99) C (by omega) (by omega) dMo_addNumber_52 dMo_addNumber_53 (by decide) (fun c52 => ?_) (fun c52 => ?_)
            · exact hQ _ H locs _ _ _ ls hW ⟨Lx, n_, hLb, (by rw [if_pos (by omega)] at hLx; exact hLx), rfl⟩ (by omega) (by omega) dMo_addNumber_99
            · have htd2 := tdiv_b (a := v) (b := d_) (M := 1000000) (by omega) (by omega) (by omega)
              have htn := Int.tdiv_nonneg (a := v) (b := d_) (by omega) (by omega)
              have htm0 := Int.tmod_nonneg 10 htn
              have htm1 := Int.tmod_lt_of_pos (v.tdiv d_) (show (0 : Int) < 10 by decide)
              have hdp := dgx_p (v := v) (d := d_) (by omega) (by omega) (by omega) (by omega)
              have hln := dgx_len (v := v.tdiv (10 * d_)) (by have := tdiv_b (a := v) (b := 10 * d_) (M := 1000000) (by omega) (by omega) (by omega); omega)
              have hl1_ := hLx.1
              have hl2_ := hL.1
              rw [if_neg (show ¬ d_ = 0 by omega), List.length_append, List.length_append] at hl1_
              simp only [List.length_cons, List.length_nil] at hl1_
              refine lv_aload_n C.1 C.2.1 dMo_addNumber_56 rfl (lv_at hl 2 rfl) ?_
              refine zget C hW 0 34 rfl rfl inMo (by decide) flMo_77 rfl dMo_addNumber_57 ?_
              refine lv_aload_n C.1 C.2.1 dMo_addNumber_60 rfl (lv_at hl 2 rfl) ?_
              refine zget C hW 0 35 rfl rfl inMo (by decide) flMo_237 rfl dMo_addNumber_61 ?_
              refine zldc2 C kcMo_244 dMo_addNumber_64 ?_
              refine lv_lload_n C.1 C.2.1 dMo_addNumber_67 rfl (lv_at hl 4 rfl) ?_
              refine lv_lload C.1 C.2.1 dMo_addNumber_68 (lv_at hl 0 rfl) ?_
              refine zldiv C (by omega) (by omega) (by omega) dMo_addNumber_70 ?_
              refine zldc2 C kcMo_242 dMo_addNumber_71 ?_
              refine zlrem C (by omega) (by omega) (by omega) dMo_addNumber_74 ?_
              refine zladd C dMo_addNumber_75 ?_
              refine zl2i C dMo_addNumber_76 ?_
              refine ziast C hW 1 0 rfl rfl (by omega) (by omega) (by decide) dMo_addNumber_77 (fun H locs hW => ?_)
              have hB2 : ∀ jj : Int, I32 ((upz Lx n_ (48 + ((v.tdiv d_).tmod 10))) jj) := upz_b hLb (by omega)
              have hW : zw D zCl A s [(m0, .inr (10, [.int (zI cd), .long (zL wi), .long (zL hi), .int (zI bn), .ref af, .ref at_, .int (zI dr), .int (zI sz), .ref au, .ref ap, .ref ab, .ref ae, .ref ah, .int (zI kp), .int (zI ks), .ref ku, .ref kq, .ref kb, .ref ke, .ref kh, .int (zI als), .ref gf, .ref gt, .int (zI ses), .ref sf, .ref st, .int (zI les), .ref ef, .ref et, .int (zI mes), .ref xa, .ref xf, .ref xt, .ref xr, .ref lb, .int (zI n_), .ref so])), (lb, .inl (cI, 64, .inl (fI (upz Lx n_ (48 + ((v.tdiv d_).tmod 10))))))] H locs := hW
              refine lv_aload_n C.1 C.2.1 dMo_addNumber_78 rfl (lv_at hl 2 rfl) ?_
              refine lv_dup C.1 C.2.1 dMo_addNumber_79 rfl ?_
              refine zget C hW 0 35 rfl rfl inMo (by decide) flMo_237 rfl dMo_addNumber_80 ?_
              refine lv_iconst (v := zI 1) C.1 C.2.1 dMo_addNumber_83 (by decide) ?_
              refine ziadd C dMo_addNumber_84 ?_
              refine zput C hW 0 35 tyMo tyMo_ok nmMo rfl rfl inMo (by decide) flMo_237 rfl rfl rfl rfl (Nat.le_of_ble_eq_true rfl) dMo_addNumber_85 (fun H locs hW => ?_)
              have hW : zw D zCl A s [(m0, .inr (10, [.int (zI cd), .long (zL wi), .long (zL hi), .int (zI bn), .ref af, .ref at_, .int (zI dr), .int (zI sz), .ref au, .ref ap, .ref ab, .ref ae, .ref ah, .int (zI kp), .int (zI ks), .ref ku, .ref kq, .ref kb, .ref ke, .ref kh, .int (zI als), .ref gf, .ref gt, .int (zI ses), .ref sf, .ref st, .int (zI les), .ref ef, .ref et, .int (zI mes), .ref xa, .ref xf, .ref xt, .ref xr, .ref lb, .int (zI (n_ + 1)), .ref so])), (lb, .inl (cI, 64, .inl (fI (upz Lx n_ (48 + ((v.tdiv d_).tmod 10))))))] H locs := hW
              refine lv_lload C.1 C.2.1 dMo_addNumber_88 (lv_at hl 0 rfl) ?_
              refine zldc2 C kcMo_242 dMo_addNumber_90 ?_
              refine zldiv C (by omega) (by omega) (by omega) dMo_addNumber_93 ?_
              refine lv_lstore (lv' := [(6, .long (zL (d_.tdiv 10))), (4, .long (zL te)), (0, .ref m0), (1, .int (zI ch)), (2, .long (zL v))]) C.1 C.2.1 dMo_addNumber_94 hl (by decide) rfl (fun ls hl => ?_)
              refine lv_goto (tgt := 49) C.1 C.2.1 dMo_addNumber_96 (by decide) ?_
              exact ih49 (k2 - 1) (d_.tdiv 10) (n_ + 1) (upz Lx n_ (48 + ((v.tdiv d_).tmod 10))) (by rw [Int.tdiv_eq_ediv_of_nonneg (by omega)]; omega) hB2 (by rw [if_neg (by omega)] at hLx; have h9 := arrL_a (v := 48 + (v.tdiv d_).tmod 10) hLx; rw [List.append_assoc, ← hdp] at h9; exact adn_s h9 hd (by omega)) (adn_d hd (by omega)) ls H locs (lv_sub hl [0, 1, 2, 3, 4] rfl) hW
        exact L49 _ k te (lbs + 1) (upz Lab lbs ch) (Nat.lt_succ_self _) hB1 (by rw [if_neg (by omega), tdiv_0 (by omega) hlt, dgx_0, List.append_nil]; exact hL1) (by omega) ls H locs (lv_sub hl [0, 1, 2, 3, 4] rfl) hW
      · have hmx : 10 * te ≤ v := by (have h9 := Int.mul_ediv_self_le (x := v) (k := te) (by omega); have h8 := Int.mul_le_mul_of_nonneg_left (show (10 : Int) ≤ v / te by omega) (show 0 ≤ te by omega); omega)
        refine zldc2 C kcMo_242 dMo_addNumber_34 ?_
        refine lv_lload C.1 C.2.1 dMo_addNumber_37 (lv_at hl 0 rfl) ?_
        refine zlmul C dMo_addNumber_39 ?_
        refine lv_lstore (lv' := [(4, .long (zL (10 * te))), (0, .ref m0), (1, .int (zI ch)), (2, .long (zL v))]) C.1 C.2.1 dMo_addNumber_40 hl (by decide) rfl (fun ls hl => ?_)
        refine lv_goto (tgt := 23) C.1 C.2.1 dMo_addNumber_42 (by decide) ?_
        exact ih23 (k + 1) (10 * te) (by omega) (by rcases Nat.lt_or_ge k 6 with h | h; omega; have e6 : k = 6 := (by omega); subst e6; have e7 : p10 6 = 1000000 := (by decide); omega) (by rw [hte]; rfl) (by omega) ls H locs (lv_sub hl [0, 1, 2, 3] rfl) hW
  exact L23 _ 0 1 (Nat.lt_succ_self _) (by omega) rfl (by omega) ls H locs (lv_sub hl [0, 1, 2, 3] rfl) hW

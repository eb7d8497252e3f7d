set_option maxRecDepth 100000 in
theorem kSk_51 : inT (kV "PartDrawings$Strokes" 51 ySk_compare cSk_compare 4 (some .int)) := gW_l [1193, 1195, 19, 51, 1196] rfl (by decide +kernel)
set_option maxRecDepth 100000 in
theorem kqSk_31 : inT (kCopy "PartDrawings$Strokes" 31) := gW_l [1179, 915, 914, 72] rfl (by decide +kernel)
set_option maxRecDepth 100000 in
theorem flSk_37 : Cond.fieldLink "PartDrawings$Strokes" 37 (TSk 0).1 (TSk 0).2.1 (TSk 0).2.2.1 ∈ gW := gW_1 188 rfl rfl
set_option maxHeartbeats 4000000 in
set_option maxRecDepth 100000 in
theorem c_Strokes_strokeNotIn (l : Launch) (D : va_G) (cI cG cL cB : ClassId) (th : Nat) (t1 : Nat) (t2 : Nat) (t3 : Nat) (t4 : Nat) (tth : Int) (tn : Int) (tac : Int) (tLi : Int → Int) (tBe : Int → Int) (tEn : Int → Int) (tSt : Int → Int) (oh : Nat) (o1 : Nat) (o2 : Nat) (o3 : Nat) (o4 : Nat) (oth : Int) (on : Int) (oac : Int) (oLi : Int → Int) (oBe : Int → Int) (oEn : Int → Int) (oSt : Int → Int) (k : Int) (btLi : ∀ j : Int, I32 (tLi j)) (btBe : ∀ j : Int, I32 (tBe j)) (btEn : ∀ j : Int, I32 (tEn j)) (btSt : ∀ j : Int, I32 (tSt j)) (hn0t : 0 ≤ tn) (hn1t : tn ≤ 1200) (ha0t : 0 ≤ tac) (ha1t : tac ≤ tn) (boLi : ∀ j : Int, I32 (oLi j)) (boBe : ∀ j : Int, I32 (oBe j)) (boEn : ∀ j : Int, I32 (oEn j)) (boSt : ∀ j : Int, I32 (oSt j)) (hn0o : 0 ≤ on) (hn1o : on ≤ 1200) (ha0o : 0 ≤ oac) (ha1o : oac ≤ on) (hk0 : 0 ≤ k) (hIk : I32 k) (hst : ∀ j j2 : Int, 0 ≤ j → j < j2 → j2 < tn → lexL (wayZ tac (j)) (tLi (j)) (tBe (j)) (wayZ tac (j2)) (tLi (j2)) (tBe (j2))) (hso : ∀ j j2 : Int, 0 ≤ j → j < j2 → j2 < on → lexL (wayZ oac (j)) (oLi (j)) (oBe (j)) (wayZ oac (j2)) (oLi (j2)) (oBe (j2))) : Ci l ySk_strokeNotIn cSk_strokeNotIn 6 (some .int) 2 0 0 D zCl (zT cI cG cL cB) [.ref th, .ref oh, .int (zI k)] [(th, .inr (7, [.int (zI tth), .int (zI tn), .int (zI tac), .ref t1, .ref t2, .ref t3, .ref t4])), (t1, .inl (cI, 1200, .inl (fI tLi))), (t2, .inl (cI, 1200, .inl (fI tBe))), (t3, .inl (cI, 1200, .inl (fI tEn))), (t4, .inl (cI, 1200, .inl (fI tSt))), (oh, .inr (7, [.int (zI oth), .int (zI on), .int (zI oac), .ref o1, .ref o2, .ref o3, .ref o4])), (o1, .inl (cI, 1200, .inl (fI oLi))), (o2, .inl (cI, 1200, .inl (fI oBe))), (o3, .inl (cI, 1200, .inl (fI oEn))), (o4, .inl (cI, 1200, .inl (fI oSt)))] (fun x w => x = zI (kthZ (newP on oac oLi oBe oEn oSt tac tLi tBe tEn tSt) k tn) ∧ w = [(th, .inr (7, [.int (zI tth), .int (zI tn), .int (zI tac), .ref t1, .ref t2, .ref t3, .ref t4])), (t1, .inl (cI, 1200, .inl (fI tLi))), (t2, .inl (cI, 1200, .inl (fI tBe))), (t3, .inl (cI, 1200, .inl (fI tEn))), (t4, .inl (cI, 1200, .inl (fI tSt))), (oh, .inr (7, [.int (zI oth), .int (zI on), .int (zI oac), .ref o1, .ref o2, .ref o3, .ref o4])), (o1, .inl (cI, 1200, .inl (fI oLi))), (o2, .inl (cI, 1200, .inl (fI oBe))), (o3, .inl (cI, 1200, .inl (fI oEn))), (o4, .inl (cI, 1200, .inl (fI oSt)))]) := by
  refine zBi (by decide) (Nat.le_of_ble_eq_true rfl) ?_
  intro p e s m args below meth c ls A H locs Q C hin hl hW hQ
  have hl : lv_has ls 6 [(0, .ref th), (1, .ref oh), (2, .int (zI k))] := hl
  refine lv_iconst (v := zI 0) C.1 C.2.1 dSk_strokeNotIn_0 (by decide) ?_
  refine lv_istore_n (lv' := [(3, .int (zI 0)), (0, .ref th), (1, .ref oh), (2, .int (zI k))]) C.1 C.2.1 dSk_strokeNotIn_1 rfl hl (by decide) rfl (fun ls hl => ?_)
  refine lv_iconst (v := zI 0) C.1 C.2.1 dSk_strokeNotIn_2 (by decide) ?_
  refine lv_istore (lv' := [(4, .int (zI 0)), (3, .int (zI 0)), (0, .ref th), (1, .ref oh), (2, .int (zI k))]) C.1 C.2.1 dSk_strokeNotIn_3 hl (by decide) rfl (fun ls hl => ?_)
  refine lv_iconst (v := zI 0) C.1 C.2.1 dSk_strokeNotIn_5 (by decide) ?_
  refine lv_istore (lv' := [(5, .int (zI 0)), (4, .int (zI 0)), (3, .int (zI 0)), (0, .ref th), (1, .ref oh), (2, .int (zI k))]) C.1 C.2.1 dSk_strokeNotIn_6 hl (by decide) rfl (fun ls hl => ?_)
  have L8 : ∀ (N : Nat) (i : Int) (at1 : Int) (fo : Int), (tn - i).toNat < N → (0 ≤ i) → (i ≤ tn) → (0 ≤ at1) → (at1 ≤ on) → (i < tn → ∀ j : Int, 0 ≤ j → j < at1 → lexL (wayZ oac (j)) (oLi (j)) (oBe (j)) (wayZ tac (i)) (tLi (i)) (tBe (i))) → (fo = cntZ (newP on oac oLi oBe oEn oSt tac tLi tBe tEn tSt) i) → (0 ≤ fo ∧ fo ≤ k ∧ fo ≤ i) → (anyZ (fun i => newP on oac oLi oBe oEn oSt tac tLi tBe tEn tSt i && decide (cntZ (newP on oac oLi oBe oEn oSt tac tLi tBe tEn tSt) i = k)) i = false) → ∀ (ls : Array Slot) (H : Heap) (locs : List Loc), lv_has ls 6 [(5, .int (zI i)), (4, .int (zI fo)), (3, .int (zI at1)), (0, .ref th), (1, .ref oh), (2, .int (zI k))] → zw D zCl A s [(th, .inr (7, [.int (zI tth), .int (zI tn), .int (zI tac), .ref t1, .ref t2, .ref t3, .ref t4])), (t1, .inl (cI, 1200, .inl (fI tLi))), (t2, .inl (cI, 1200, .inl (fI tBe))), (t3, .inl (cI, 1200, .inl (fI tEn))), (t4, .inl (cI, 1200, .inl (fI tSt))), (oh, .inr (7, [.int (zI oth), .int (zI on), .int (zI oac), .ref o1, .ref o2, .ref o3, .ref o4])), (o1, .inl (cI, 1200, .inl (fI oLi))), (o2, .inl (cI, 1200, .inl (fI oBe))), (o3, .inl (cI, 1200, .inl (fI oEn))), (o4, .inl (cI, 1200, .inl (fI oSt)))] H locs → W p l e (zr 2 0 0) s m args below meth c H locs 0 0 Q (F0 m 8 ls []) := by
    intro N
    induction N with
    | zero => intro i at1 fo hm; exact absurd hm (Nat.not_lt_zero _)
    | succ N ih8 =>
      intro i at1 fo hm8 hi0 hi1 hat0 hat1 hA hf hfk hP ls H locs hl hW
      refine lv_iload C.1 C.2.1 dSk_strokeNotIn_8 (lv_at hl 0 rfl) ?_
      refine lv_aload_n C.1 C.2.1 dSk_strokeNotIn_10 rfl (lv_at hl 3 rfl) ?_
      refine zget C hW 0 1 rfl rfl inSk (by decide) flSk_24 rfl dSk_strokeNotIn_11 ?_
      refine zicmp_ge (tgt := 114) C (by omega) (by omega) dSk_strokeNotIn_14 (by decide) (fun c14 => ?_) (fun c14 => ?_)
      · refine lv_iconst (v := zI (-1)) C.1 C.2.1 dSk_strokeNotIn_114 (by decide) ?_
        exact hQ (zI (-1)) _ H locs _ _ _ ls hW ⟨congrArg zI (kthZ_no (by omega) (by rw [show i = tn by omega] at hP; exact hP)).symm, rfl⟩ (by omega) (by omega) dSk_strokeNotIn_115
      · have L17 : ∀ (N : Nat) (at2 : Int), (on - at2).toNat < N → (0 ≤ at2) → (at2 ≤ on) → (∀ j : Int, 0 ≤ j → j < at2 → lexL (wayZ oac (j)) (oLi (j)) (oBe (j)) (wayZ tac (i)) (tLi (i)) (tBe (i))) → ∀ (ls : Array Slot) (H : Heap) (locs : List Loc), lv_has ls 6 [(5, .int (zI i)), (4, .int (zI fo)), (3, .int (zI at2)), (0, .ref th), (1, .ref oh), (2, .int (zI k))] → zw D zCl A s [(th, .inr (7, [.int (zI tth), .int (zI tn), .int (zI tac), .ref t1, .ref t2, .ref t3, .ref t4])), (t1, .inl (cI, 1200, .inl (fI tLi))), (t2, .inl (cI, 1200, .inl (fI tBe))), (t3, .inl (cI, 1200, .inl (fI tEn))), (t4, .inl (cI, 1200, .inl (fI tSt))), (oh, .inr (7, [.int (zI oth), .int (zI on), .int (zI oac), .ref o1, .ref o2, .ref o3, .ref o4])), (o1, .inl (cI, 1200, .inl (fI oLi))), (o2, .inl (cI, 1200, .inl (fI oBe))), (o3, .inl (cI, 1200, .inl (fI oEn))), (o4, .inl (cI, 1200, .inl (fI oSt)))] H locs → W p l e (zr 2 0 0) s m args below meth c H locs 0 0 Q (F0 m 17 ls []) := by
          intro N
          induction N with
          | zero => intro at2 hm; exact absurd hm (Nat.not_lt_zero _)
          | succ N ih17 =>
            intro at2 hm17 hb0 hb1 hA2 ls H locs hl hW
            have L42 : (at2 < on → ¬ lexL (wayZ oac (at2)) (oLi (at2)) (oBe (at2)) (wayZ tac (i)) (tLi (i)) (tBe (i))) → ∀ (ls : Array Slot) (H : Heap) (locs : List Loc), lv_has ls 6 [(5, .int (zI i)), (4, .int (zI fo)), (3, .int (zI at2)), (0, .ref th), (1, .ref oh), (2, .int (zI k))] → zw D zCl A s [(th, .inr (7, [.int (zI tth), .int (zI tn), .int (zI tac), .ref t1, .ref t2, .ref t3, .ref t4])), (t1, .inl (cI, 1200, .inl (fI tLi))), (t2, .inl (cI, 1200, .inl (fI tBe))), (t3, .inl (cI, 1200, .inl (fI tEn))), (t4, .inl (cI, 1200, .inl (fI tSt))), (oh, .inr (7, [.int (zI oth), .int (zI on), .int (zI oac), .ref o1, .ref o2, .ref o3, .ref o4])), (o1, .inl (cI, 1200, .inl (fI oLi))), (o2, .inl (cI, 1200, .inl (fI oBe))), (o3, .inl (cI, 1200, .inl (fI oEn))), (o4, .inl (cI, 1200, .inl (fI oSt)))] H locs → W p l e (zr 2 0 0) s m args below meth c H locs 0 0 Q (F0 m 42 ls []) := by
              intro  hge ls H locs hl hW
              have L96 : (newP on oac oLi oBe oEn oSt tac tLi tBe tEn tSt i = true) → ∀ (ls : Array Slot) (H : Heap) (locs : List Loc), lv_has ls 6 [(5, .int (zI i)), (4, .int (zI fo)), (3, .int (zI at2)), (0, .ref th), (1, .ref oh), (2, .int (zI k))] → zw D zCl A s [(th, .inr (7, [.int (zI tth), .int (zI tn), .int (zI tac), .ref t1, .ref t2, .ref t3, .ref t4])), (t1, .inl (cI, 1200, .inl (fI tLi))), (t2, .inl (cI, 1200, .inl (fI tBe))), (t3, .inl (cI, 1200, .inl (fI tEn))), (t4, .inl (cI, 1200, .inl (fI tSt))), (oh, .inr (7, [.int (zI oth), .int (zI on), .int (zI oac), .ref o1, .ref o2, .ref o3, .ref o4])), (o1, .inl (cI, 1200, .inl (fI oLi))), (o2, .inl (cI, 1200, .inl (fI oBe))), (o3, .inl (cI, 1200, .inl (fI oEn))), (o4, .inl (cI, 1200, .inl (fI oSt)))] H locs → W p l e (zr 2 0 0) s m args below meth c H locs 0 0 Q (F0 m 96 ls []) := by
                intro  hnew ls H locs hl hW
                refine lv_iload C.1 C.2.1 dSk_strokeNotIn_96 (lv_at hl 1 rfl) ?_
                refine lv_iload_n C.1 C.2.1 dSk_strokeNotIn_98 rfl (lv_at hl 5 rfl) ?_
                refine zicmp_ne (tgt := 105) C (by omega) (by omega) dSk_strokeNotIn_99 (by decide) (fun c99 => ?_) (fun c99 => ?_)
                · refine lv_iinc (v := zI (fo + 1)) (lv' := [(4, .int (zI (fo + 1))), (5, .int (zI i)), (3, .int (zI at2)), (0, .ref th), (1, .ref oh), (2, .int (zI k))]) C.1 C.2.1 dSk_strokeNotIn_105 hl (k := 1) rfl (zI_add fo 1) (by decide) rfl (fun ls hl => ?_)
                  refine lv_iinc (v := zI (i + 1)) (lv' := [(5, .int (zI (i + 1))), (4, .int (zI (fo + 1))), (3, .int (zI at2)), (0, .ref th), (1, .ref oh), (2, .int (zI k))]) C.1 C.2.1 dSk_strokeNotIn_108 hl (k := 1) rfl (zI_add i 1) (by decide) rfl (fun ls hl => ?_)
                  refine lv_goto (tgt := 8) C.1 C.2.1 dSk_strokeNotIn_111 (by decide) ?_
                  exact ih8 (i + 1) at2 (fo + 1) (by omega) (by omega) (by omega) (by omega) (by omega) (fun hlt j a b => by have h1 := hA2 j a b; have h2 := hst i (i + 1) hi0 (by omega) hlt; omega) (by rw [cntZ_s _ hi0, hnew, hf]; rfl) (by omega) (anyZ_n hi0 hP (by rw [hnew, decide_eq_false (by omega)]; rfl)) ls H locs (lv_sub hl [0, 1, 2, 3, 4, 5] rfl) hW
                · refine lv_iload C.1 C.2.1 dSk_strokeNotIn_102 (lv_at hl 0 rfl) ?_
                  exact hQ (zI i) _ H locs _ _ _ ls hW ⟨congrArg zI (kthZ_at hi0 (by omega) hP hnew (by omega)).symm, rfl⟩ (by omega) (by omega) dSk_strokeNotIn_104
              refine lv_iload_n C.1 C.2.1 dSk_strokeNotIn_42 rfl (lv_at hl 2 rfl) ?_
              refine lv_aload_n C.1 C.2.1 dSk_strokeNotIn_43 rfl (lv_at hl 4 rfl) ?_
              refine zget C hW 5 1 rfl rfl inSk (by decide) flSk_24 rfl dSk_strokeNotIn_44 ?_
              refine zicmp_ge (tgt := 96) C (by omega) (by omega) dSk_strokeNotIn_47 (by decide) (fun c47 => ?_) (fun c47 => ?_)
              · exact L96  (newP_t hb0 hA2 hge hso (fun h => decide_eq_false (by omega))) ls H locs (lv_sub hl [0, 1, 2, 3, 4, 5] rfl) hW
              · refine lv_aload_n C.1 C.2.1 dSk_strokeNotIn_50 rfl (lv_at hl 3 rfl) ?_
                refine lv_aload_n C.1 C.2.1 dSk_strokeNotIn_51 rfl (lv_at hl 4 rfl) ?_
                refine lv_iload_n C.1 C.2.1 dSk_strokeNotIn_52 rfl (lv_at hl 2 rfl) ?_
                refine lv_iload C.1 C.2.1 dSk_strokeNotIn_53 (lv_at hl 0 rfl) ?_
                refine zcalli (wr := []) C hW [0, 1, 2, 3, 4, 5, 6, 7, 8, 9] [] rfl rfl (by decide) (by decide) (zRunV (k := 3) (As := [.ref oh, .int (zI at2), .int (zI i)]) (rest := []) C hW (c_Strokes_compare l D cI cG cL cB th t1 t2 t3 t4 tth tn tac tLi tBe tEn tSt oh o1 o2 o3 o4 oth on oac oLi oBe oEn oSt at2 i btLi btBe btEn btSt (by omega) (by omega) (by omega) (by omega) boLi boBe boEn boSt (by omega) (by omega) (by omega) (by omega) (by omega) (by omega) (by omega) (by omega) H.size) [0, 1, 2, 3, 4, 5, 6, 7, 8, 9] rfl (by decide) kSk_51 (by decide +kernel) ⟨by decide, by decide⟩ 0 rfl rfl rfl hl.1 (Nat.le_of_ble_eq_true rfl) dSk_strokeNotIn_55 ⟨by first | decide | omega, by first | decide | omega⟩) (fun x w H locs hq hW => ?_)
                obtain ⟨rfl, rfl⟩ := hq
                have hW : zw D zCl A s [(th, .inr (7, [.int (zI tth), .int (zI tn), .int (zI tac), .ref t1, .ref t2, .ref t3, .ref t4])), (t1, .inl (cI, 1200, .inl (fI tLi))), (t2, .inl (cI, 1200, .inl (fI tBe))), (t3, .inl (cI, 1200, .inl (fI tEn))), (t4, .inl (cI, 1200, .inl (fI tSt))), (oh, .inr (7, [.int (zI oth), .int (zI on), .int (zI oac), .ref o1, .ref o2, .ref o3, .ref o4])), (o1, .inl (cI, 1200, .inl (fI oLi))), (o2, .inl (cI, 1200, .inl (fI oBe))), (o3, .inl (cI, 1200, .inl (fI oEn))), (o4, .inl (cI, 1200, .inl (fI oSt)))] H locs := hW
                have hr1 := cmpS_in (wayZ oac at2) (oLi at2) (oBe at2) (wayZ tac i) (tLi i) (tBe i)
                refine zif_ne (tgt := 96) C (by omega) dSk_strokeNotIn_58 (by decide) (fun c58 => ?_) (fun c58 => ?_)
                · exact L96  (newP_t hb0 hA2 hge hso (fun h => decide_eq_false (by omega))) ls H locs (lv_sub hl [0, 1, 2, 3, 4, 5] rfl) hW
                · refine lv_aload_n C.1 C.2.1 dSk_strokeNotIn_61 rfl (lv_at hl 4 rfl) ?_
                  refine zget C hW 5 5 rfl rfl inSk (by decide) flSk_18 rfl dSk_strokeNotIn_62 ?_
                  refine lv_iload_n C.1 C.2.1 dSk_strokeNotIn_65 rfl (lv_at hl 2 rfl) ?_
                  refine ziald C hW 8 0 rfl rfl (by omega) (by omega) (by decide) dSk_strokeNotIn_66 ?_
                  have hb2 := boEn at2
                  refine lv_aload_n C.1 C.2.1 dSk_strokeNotIn_67 rfl (lv_at hl 3 rfl) ?_
                  refine zget C hW 0 5 rfl rfl inSk (by decide) flSk_18 rfl dSk_strokeNotIn_68 ?_
                  refine lv_iload C.1 C.2.1 dSk_strokeNotIn_71 (lv_at hl 0 rfl) ?_
                  refine ziald C hW 3 0 rfl rfl (by omega) (by omega) (by decide) dSk_strokeNotIn_73 ?_
                  have hb3 := btEn i
                  refine zicmp_ne (tgt := 96) C (by omega) (by omega) dSk_strokeNotIn_74 (by decide) (fun c74 => ?_) (fun c74 => ?_)
                  · exact L96  (newP_t hb0 hA2 hge hso (fun h => decide_eq_false (by omega))) ls H locs (lv_sub hl [0, 1, 2, 3, 4, 5] rfl) hW
                  · refine lv_aload_n C.1 C.2.1 dSk_strokeNotIn_77 rfl (lv_at hl 4 rfl) ?_
                    refine zget C hW 5 6 rfl rfl inSk (by decide) flSk_21 rfl dSk_strokeNotIn_78 ?_
                    refine lv_iload_n C.1 C.2.1 dSk_strokeNotIn_81 rfl (lv_at hl 2 rfl) ?_
                    refine ziald C hW 9 0 rfl rfl (by omega) (by omega) (by decide) dSk_strokeNotIn_82 ?_
                    have hb4 := boSt at2
                    refine lv_aload_n C.1 C.2.1 dSk_strokeNotIn_83 rfl (lv_at hl 3 rfl) ?_
                    refine zget C hW 0 6 rfl rfl inSk (by decide) flSk_21 rfl dSk_strokeNotIn_84 ?_
                    refine lv_iload C.1 C.2.1 dSk_strokeNotIn_87 (lv_at hl 0 rfl) ?_
                    refine ziald C hW 4 0 rfl rfl (by omega) (by omega) (by decide) dSk_strokeNotIn_89 ?_
                    have hb5 := btSt i
                    refine zicmp_ne (tgt := 96) C (by omega) (by omega) dSk_strokeNotIn_90 (by decide) (fun c90 => ?_) (fun c90 => ?_)
                    · exact L96  (newP_t hb0 hA2 hge hso (fun h => decide_eq_false (by omega))) ls H locs (lv_sub hl [0, 1, 2, 3, 4, 5] rfl) hW
                    · refine lv_goto (tgt := 108) C.1 C.2.1 dSk_strokeNotIn_93 (by decide) ?_
                      refine lv_iinc (v := zI (i + 1)) (lv' := [(5, .int (zI (i + 1))), (4, .int (zI fo)), (3, .int (zI at2)), (0, .ref th), (1, .ref oh), (2, .int (zI k))]) C.1 C.2.1 dSk_strokeNotIn_108 hl (k := 0) rfl (zI_add i 1) (by decide) rfl (fun ls hl => ?_)
                      refine lv_goto (tgt := 8) C.1 C.2.1 dSk_strokeNotIn_111 (by decide) ?_
                      exact ih8 (i + 1) at2 fo (by omega) (by omega) (by omega) (by omega) (by omega) (fun hlt j a b => by have h1 := hA2 j a b; have h2 := hst i (i + 1) hi0 (by omega) hlt; omega) (by rw [cntZ_s _ hi0, newP_f (by omega) (by omega) (decide_eq_true (by omega)), hf]; exact (Int.add_zero _).symm) (by omega) (anyZ_n hi0 hP (by rw [newP_f (by omega) (by omega) (decide_eq_true (by omega))]; rfl)) ls H locs (lv_sub hl [0, 1, 2, 3, 4, 5] rfl) hW
            refine lv_iload_n C.1 C.2.1 dSk_strokeNotIn_17 rfl (lv_at hl 2 rfl) ?_
            refine lv_aload_n C.1 C.2.1 dSk_strokeNotIn_18 rfl (lv_at hl 4 rfl) ?_
            refine zget C hW 5 1 rfl rfl inSk (by decide) flSk_24 rfl dSk_strokeNotIn_19 ?_
            refine zicmp_ge (tgt := 42) C (by omega) (by omega) dSk_strokeNotIn_22 (by decide) (fun c22 => ?_) (fun c22 => ?_)
            · exact L42  (fun h => by omega) ls H locs (lv_sub hl [0, 1, 2, 3, 4, 5] rfl) hW
            · refine lv_aload_n C.1 C.2.1 dSk_strokeNotIn_25 rfl (lv_at hl 3 rfl) ?_
              refine lv_aload_n C.1 C.2.1 dSk_strokeNotIn_26 rfl (lv_at hl 4 rfl) ?_
              refine lv_iload_n C.1 C.2.1 dSk_strokeNotIn_27 rfl (lv_at hl 2 rfl) ?_
              refine lv_iload C.1 C.2.1 dSk_strokeNotIn_28 (lv_at hl 0 rfl) ?_
              refine zcalli (wr := []) C hW [0, 1, 2, 3, 4, 5, 6, 7, 8, 9] [] rfl rfl (by decide) (by decide) (zRunV (k := 3) (As := [.ref oh, .int (zI at2), .int (zI i)]) (rest := []) C hW (c_Strokes_compare l D cI cG cL cB th t1 t2 t3 t4 tth tn tac tLi tBe tEn tSt oh o1 o2 o3 o4 oth on oac oLi oBe oEn oSt at2 i btLi btBe btEn btSt (by omega) (by omega) (by omega) (by omega) boLi boBe boEn boSt (by omega) (by omega) (by omega) (by omega) (by omega) (by omega) (by omega) (by omega) H.size) [0, 1, 2, 3, 4, 5, 6, 7, 8, 9] rfl (by decide) kSk_51 (by decide +kernel) ⟨by decide, by decide⟩ 0 rfl rfl rfl hl.1 (Nat.le_of_ble_eq_true rfl) dSk_strokeNotIn_30 ⟨by first | decide | omega, by first | decide | omega⟩) (fun x w H locs hq hW => ?_)
              obtain ⟨rfl, rfl⟩ := hq
              have hW : zw D zCl A s [(th, .inr (7, [.int (zI tth), .int (zI tn), .int (zI tac), .ref t1, .ref t2, .ref t3, .ref t4])), (t1, .inl (cI, 1200, .inl (fI tLi))), (t2, .inl (cI, 1200, .inl (fI tBe))), (t3, .inl (cI, 1200, .inl (fI tEn))), (t4, .inl (cI, 1200, .inl (fI tSt))), (oh, .inr (7, [.int (zI oth), .int (zI on), .int (zI oac), .ref o1, .ref o2, .ref o3, .ref o4])), (o1, .inl (cI, 1200, .inl (fI oLi))), (o2, .inl (cI, 1200, .inl (fI oBe))), (o3, .inl (cI, 1200, .inl (fI oEn))), (o4, .inl (cI, 1200, .inl (fI oSt)))] H locs := hW
              have hr6 := cmpS_in (wayZ oac at2) (oLi at2) (oBe at2) (wayZ tac i) (tLi i) (tBe i)
              refine zif_ge (tgt := 42) C (by omega) dSk_strokeNotIn_33 (by decide) (fun c33 => ?_) (fun c33 => ?_)
              · exact L42  (fun h => by omega) ls H locs (lv_sub hl [0, 1, 2, 3, 4, 5] rfl) hW
              · refine lv_iinc (v := zI (at2 + 1)) (lv' := [(3, .int (zI (at2 + 1))), (5, .int (zI i)), (4, .int (zI fo)), (0, .ref th), (1, .ref oh), (2, .int (zI k))]) C.1 C.2.1 dSk_strokeNotIn_36 hl (k := 2) rfl (zI_add at2 1) (by decide) rfl (fun ls hl => ?_)
                refine lv_goto (tgt := 17) C.1 C.2.1 dSk_strokeNotIn_39 (by decide) ?_
                exact ih17 (at2 + 1) (by omega) (by omega) (by omega) (fun j a b => by by_cases h : j = at2; subst h; omega; exact hA2 j a (by omega)) ls H locs (lv_sub hl [1, 2, 0, 3, 4, 5] rfl) hW
        exact L17 _ at1 (Nat.lt_succ_self _) (by omega) (by omega) (hA (by omega)) ls H locs (lv_sub hl [0, 1, 2, 3, 4, 5] rfl) hW
  exact L8 _ 0 0 0 (Nat.lt_succ_self _) (by omega) (by omega) (by omega) (by omega) (fun _ j a b => absurd b (by omega)) rfl (by omega) (anyZ_0 _) ls H locs (lv_sub hl [0, 1, 2, 3, 4, 5] rfl) hW
set_option maxHeartbeats 4000000 in
set_option maxRecDepth 100000 in
theorem c_Strokes_copy (l : Launch) (D : va_G) (cI cG cL cB : ClassId) (th : Nat) (t1 : Nat) (t2 : Nat) (t3 : Nat) (t4 : Nat) (tth : Int) (tn : Int) (tac : Int) (tLi : Int → Int) (tBe : Int → Int) (tEn : Int → Int) (tSt : Int → Int) (oh : Nat) (o1 : Nat) (o2 : Nat) (o3 : Nat) (o4 : Nat) (oth : Int) (on : Int) (oac : Int) (oLi : Int → Int) (oBe : Int → Int) (oEn : Int → Int) (oSt : Int → Int) (btLi : ∀ j : Int, I32 (tLi j)) (btBe : ∀ j : Int, I32 (tBe j)) (btEn : ∀ j : Int, I32 (tEn j)) (btSt : ∀ j : Int, I32 (tSt j)) (hn0t : 0 ≤ tn) (hn1t : tn ≤ 1200) (ha0t : 0 ≤ tac) (ha1t : tac ≤ tn) (boLi : ∀ j : Int, I32 (oLi j)) (boBe : ∀ j : Int, I32 (oBe j)) (boEn : ∀ j : Int, I32 (oEn j)) (boSt : ∀ j : Int, I32 (oSt j)) (hn0o : 0 ≤ on) (hn1o : on ≤ 1200) (ha0o : 0 ≤ oac) (ha1o : oac ≤ on) (hoth : oth = 0 ∨ oth = 1) : Cv l ySk_copy cSk_copy 2 none 1 0 0 D zCl (zT cI cG cL cB) [.ref th, .ref oh] [(th, .inr (7, [.int (zI tth), .int (zI tn), .int (zI tac), .ref t1, .ref t2, .ref t3, .ref t4])), (t1, .inl (cI, 1200, .inl (fI tLi))), (t2, .inl (cI, 1200, .inl (fI tBe))), (t3, .inl (cI, 1200, .inl (fI tEn))), (t4, .inl (cI, 1200, .inl (fI tSt))), (oh, .inr (7, [.int (zI oth), .int (zI on), .int (zI oac), .ref o1, .ref o2, .ref o3, .ref o4])), (o1, .inl (cI, 1200, .inl (fI oLi))), (o2, .inl (cI, 1200, .inl (fI oBe))), (o3, .inl (cI, 1200, .inl (fI oEn))), (o4, .inl (cI, 1200, .inl (fI oSt)))] (fun w => w = [(th, .inr (7, [.int (zI oth), .int (zI on), .int (zI oac), .ref t1, .ref t2, .ref t3, .ref t4])), (t1, .inl (cI, 1200, .inl (fI (cpz oLi tLi on)))), (t2, .inl (cI, 1200, .inl (fI (cpz oBe tBe on)))), (t3, .inl (cI, 1200, .inl (fI (cpz oEn tEn on)))), (t4, .inl (cI, 1200, .inl (fI (cpz oSt tSt on)))), (oh, .inr (7, [.int (zI oth), .int (zI on), .int (zI oac), .ref o1, .ref o2, .ref o3, .ref o4])), (o1, .inl (cI, 1200, .inl (fI oLi))), (o2, .inl (cI, 1200, .inl (fI oBe))), (o3, .inl (cI, 1200, .inl (fI oEn))), (o4, .inl (cI, 1200, .inl (fI oSt)))]) := by
  refine zBv (by decide) (Nat.le_of_ble_eq_true rfl) ?_
  intro p e s m args below meth c ls A H locs Q C hin hl hW hQ
  have hl : lv_has ls 2 [(0, .ref th), (1, .ref oh)] := hl
  refine lv_aload_n C.1 C.2.1 dSk_copy_0 rfl (lv_at hl 1 rfl) ?_
  refine zget C hW 5 3 rfl rfl inSk (by decide) flSk_9 rfl dSk_copy_1 ?_
  refine lv_iconst (v := zI 0) C.1 C.2.1 dSk_copy_4 (by decide) ?_
  refine lv_aload_n C.1 C.2.1 dSk_copy_5 rfl (lv_at hl 0 rfl) ?_
  refine zget C hW 0 3 rfl rfl inSk (by decide) flSk_9 rfl dSk_copy_6 ?_
  refine lv_iconst (v := zI 0) C.1 C.2.1 dSk_copy_9 (by decide) ?_
  refine lv_aload_n C.1 C.2.1 dSk_copy_10 rfl (lv_at hl 1 rfl) ?_
  refine zget C hW 5 1 rfl rfl inSk (by decide) flSk_24 rfl dSk_copy_11 ?_
  refine zcopy0 C hW 6 1 0 0 rfl rfl rfl rfl (by omega) (by omega) (by omega) (by decide) kqSk_31 hl.1 (by decide) (Nat.le_of_ble_eq_true rfl) dSk_copy_14 (fun H locs hW => ?_)
  have hW : zw D zCl A s [(th, .inr (7, [.int (zI tth), .int (zI tn), .int (zI tac), .ref t1, .ref t2, .ref t3, .ref t4])), (t1, .inl (cI, 1200, .inl (fI (cpz oLi tLi on)))), (t2, .inl (cI, 1200, .inl (fI tBe))), (t3, .inl (cI, 1200, .inl (fI tEn))), (t4, .inl (cI, 1200, .inl (fI tSt))), (oh, .inr (7, [.int (zI oth), .int (zI on), .int (zI oac), .ref o1, .ref o2, .ref o3, .ref o4])), (o1, .inl (cI, 1200, .inl (fI oLi))), (o2, .inl (cI, 1200, .inl (fI oBe))), (o3, .inl (cI, 1200, .inl (fI oEn))), (o4, .inl (cI, 1200, .inl (fI oSt)))] H locs := hW
  refine lv_aload_n C.1 C.2.1 dSk_copy_17 rfl (lv_at hl 1 rfl) ?_
  refine zget C hW 5 4 rfl rfl inSk (by decide) flSk_15 rfl dSk_copy_18 ?_
  refine lv_iconst (v := zI 0) C.1 C.2.1 dSk_copy_21 (by decide) ?_
  refine lv_aload_n C.1 C.2.1 dSk_copy_22 rfl (lv_at hl 0 rfl) ?_
  refine zget C hW 0 4 rfl rfl inSk (by decide) flSk_15 rfl dSk_copy_23 ?_
  refine lv_iconst (v := zI 0) C.1 C.2.1 dSk_copy_26 (by decide) ?_
  refine lv_aload_n C.1 C.2.1 dSk_copy_27 rfl (lv_at hl 1 rfl) ?_
  refine zget C hW 5 1 rfl rfl inSk (by decide) flSk_24 rfl dSk_copy_28 ?_
  refine zcopy0 C hW 7 2 0 0 rfl rfl rfl rfl (by omega) (by omega) (by omega) (by decide) kqSk_31 hl.1 (by decide) (Nat.le_of_ble_eq_true rfl) dSk_copy_31 (fun H locs hW => ?_)
  have hW : zw D zCl A s [(th, .inr (7, [.int (zI tth), .int (zI tn), .int (zI tac), .ref t1, .ref t2, .ref t3, .ref t4])), (t1, .inl (cI, 1200, .inl (fI (cpz oLi tLi on)))), (t2, .inl (cI, 1200, .inl (fI (cpz oBe tBe on)))), (t3, .inl (cI, 1200, .inl (fI tEn))), (t4, .inl (cI, 1200, .inl (fI tSt))), (oh, .inr (7, [.int (zI oth), .int (zI on), .int (zI oac), .ref o1, .ref o2, .ref o3, .ref o4])), (o1, .inl (cI, 1200, .inl (fI oLi))), (o2, .inl (cI, 1200, .inl (fI oBe))), (o3, .inl (cI, 1200, .inl (fI oEn))), (o4, .inl (cI, 1200, .inl (fI oSt)))] H locs := hW
  refine lv_aload_n C.1 C.2.1 dSk_copy_34 rfl (lv_at hl 1 rfl) ?_
  refine zget C hW 5 5 rfl rfl inSk (by decide) flSk_18 rfl dSk_copy_35 ?_
  refine lv_iconst (v := zI 0) C.1 C.2.1 dSk_copy_38 (by decide) ?_
  refine lv_aload_n C.1 C.2.1 dSk_copy_39 rfl (lv_at hl 0 rfl) ?_
  refine zget C hW 0 5 rfl rfl inSk (by decide) flSk_18 rfl dSk_copy_40 ?_
  refine lv_iconst (v := zI 0) C.1 C.2.1 dSk_copy_43 (by decide) ?_
  refine lv_aload_n C.1 C.2.1 dSk_copy_44 rfl (lv_at hl 1 rfl) ?_
  refine zget C hW 5 1 rfl rfl inSk (by decide) flSk_24 rfl dSk_copy_45 ?_
  refine zcopy0 C hW 8 3 0 0 rfl rfl rfl rfl (by omega) (by omega) (by omega) (by decide) kqSk_31 hl.1 (by decide) (Nat.le_of_ble_eq_true rfl) dSk_copy_48 (fun H locs hW => ?_)
  have hW : zw D zCl A s [(th, .inr (7, [.int (zI tth), .int (zI tn), .int (zI tac), .ref t1, .ref t2, .ref t3, .ref t4])), (t1, .inl (cI, 1200, .inl (fI (cpz oLi tLi on)))), (t2, .inl (cI, 1200, .inl (fI (cpz oBe tBe on)))), (t3, .inl (cI, 1200, .inl (fI (cpz oEn tEn on)))), (t4, .inl (cI, 1200, .inl (fI tSt))), (oh, .inr (7, [.int (zI oth), .int (zI on), .int (zI oac), .ref o1, .ref o2, .ref o3, .ref o4])), (o1, .inl (cI, 1200, .inl (fI oLi))), (o2, .inl (cI, 1200, .inl (fI oBe))), (o3, .inl (cI, 1200, .inl (fI oEn))), (o4, .inl (cI, 1200, .inl (fI oSt)))] H locs := hW
  refine lv_aload_n C.1 C.2.1 dSk_copy_51 rfl (lv_at hl 1 rfl) ?_
  refine zget C hW 5 6 rfl rfl inSk (by decide) flSk_21 rfl dSk_copy_52 ?_
  refine lv_iconst (v := zI 0) C.1 C.2.1 dSk_copy_55 (by decide) ?_
  refine lv_aload_n C.1 C.2.1 dSk_copy_56 rfl (lv_at hl 0 rfl) ?_
  refine zget C hW 0 6 rfl rfl inSk (by decide) flSk_21 rfl dSk_copy_57 ?_
  refine lv_iconst (v := zI 0) C.1 C.2.1 dSk_copy_60 (by decide) ?_
  refine lv_aload_n C.1 C.2.1 dSk_copy_61 rfl (lv_at hl 1 rfl) ?_
  refine zget C hW 5 1 rfl rfl inSk (by decide) flSk_24 rfl dSk_copy_62 ?_
  refine zcopy0 C hW 9 4 0 0 rfl rfl rfl rfl (by omega) (by omega) (by omega) (by decide) kqSk_31 hl.1 (by decide) (Nat.le_of_ble_eq_true rfl) dSk_copy_65 (fun H locs hW => ?_)
  have hW : zw D zCl A s [(th, .inr (7, [.int (zI tth), .int (zI tn), .int (zI tac), .ref t1, .ref t2, .ref t3, .ref t4])), (t1, .inl (cI, 1200, .inl (fI (cpz oLi tLi on)))), (t2, .inl (cI, 1200, .inl (fI (cpz oBe tBe on)))), (t3, .inl (cI, 1200, .inl (fI (cpz oEn tEn on)))), (t4, .inl (cI, 1200, .inl (fI (cpz oSt tSt on)))), (oh, .inr (7, [.int (zI oth), .int (zI on), .int (zI oac), .ref o1, .ref o2, .ref o3, .ref o4])), (o1, .inl (cI, 1200, .inl (fI oLi))), (o2, .inl (cI, 1200, .inl (fI oBe))), (o3, .inl (cI, 1200, .inl (fI oEn))), (o4, .inl (cI, 1200, .inl (fI oSt)))] H locs := hW
  refine lv_aload_n C.1 C.2.1 dSk_copy_68 rfl (lv_at hl 0 rfl) ?_
  refine lv_aload_n C.1 C.2.1 dSk_copy_69 rfl (lv_at hl 1 rfl) ?_
  refine zget C hW 5 1 rfl rfl inSk (by decide) flSk_24 rfl dSk_copy_70 ?_
  refine zput C hW 0 1 tySk tySk_ok nmSk rfl rfl inSk (by decide) flSk_24 rfl rfl rfl rfl (Nat.le_of_ble_eq_true rfl) dSk_copy_73 (fun H locs hW => ?_)
  have hW : zw D zCl A s [(th, .inr (7, [.int (zI tth), .int (zI on), .int (zI tac), .ref t1, .ref t2, .ref t3, .ref t4])), (t1, .inl (cI, 1200, .inl (fI (cpz oLi tLi on)))), (t2, .inl (cI, 1200, .inl (fI (cpz oBe tBe on)))), (t3, .inl (cI, 1200, .inl (fI (cpz oEn tEn on)))), (t4, .inl (cI, 1200, .inl (fI (cpz oSt tSt on)))), (oh, .inr (7, [.int (zI oth), .int (zI on), .int (zI oac), .ref o1, .ref o2, .ref o3, .ref o4])), (o1, .inl (cI, 1200, .inl (fI oLi))), (o2, .inl (cI, 1200, .inl (fI oBe))), (o3, .inl (cI, 1200, .inl (fI oEn))), (o4, .inl (cI, 1200, .inl (fI oSt)))] H locs := hW
  refine lv_aload_n C.1 C.2.1 dSk_copy_76 rfl (lv_at hl 0 rfl) ?_
  refine lv_aload_n C.1 C.2.1 dSk_copy_77 rfl (lv_at hl 1 rfl) ?_
  refine zget C hW 5 2 rfl rfl inSk (by decide) flSk_28 rfl dSk_copy_78 ?_
  refine zput C hW 0 2 tySk tySk_ok nmSk rfl rfl inSk (by decide) flSk_28 rfl rfl rfl rfl (Nat.le_of_ble_eq_true rfl) dSk_copy_81 (fun H locs hW => ?_)
  have hW : zw D zCl A s [(th, .inr (7, [.int (zI tth), .int (zI on), .int (zI oac), .ref t1, .ref t2, .ref t3, .ref t4])), (t1, .inl (cI, 1200, .inl (fI (cpz oLi tLi on)))), (t2, .inl (cI, 1200, .inl (fI (cpz oBe tBe on)))), (t3, .inl (cI, 1200, .inl (fI (cpz oEn tEn on)))), (t4, .inl (cI, 1200, .inl (fI (cpz oSt tSt on)))), (oh, .inr (7, [.int (zI oth), .int (zI on), .int (zI oac), .ref o1, .ref o2, .ref o3, .ref o4])), (o1, .inl (cI, 1200, .inl (fI oLi))), (o2, .inl (cI, 1200, .inl (fI oBe))), (o3, .inl (cI, 1200, .inl (fI oEn))), (o4, .inl (cI, 1200, .inl (fI oSt)))] H locs := hW
  refine lv_aload_n C.1 C.2.1 dSk_copy_84 rfl (lv_at hl 0 rfl) ?_
  refine lv_aload_n C.1 C.2.1 dSk_copy_85 rfl (lv_at hl 1 rfl) ?_
  refine zget C hW 5 0 rfl rfl inSk (by decide) flSk_37 rfl dSk_copy_86 ?_
  refine zput C hW 0 0 tySk tySk_ok nmSk rfl rfl inSk (by decide) flSk_37 rfl rfl (by rcases hoth with h | h <;> (rw [h]; decide)) (by rcases hoth with h | h <;> (rw [h]; decide)) (Nat.le_of_ble_eq_true rfl) dSk_copy_89 (fun H locs hW => ?_)
  have hW : zw D zCl A s [(th, .inr (7, [.int (zI oth), .int (zI on), .int (zI oac), .ref t1, .ref t2, .ref t3, .ref t4])), (t1, .inl (cI, 1200, .inl (fI (cpz oLi tLi on)))), (t2, .inl (cI, 1200, .inl (fI (cpz oBe tBe on)))), (t3, .inl (cI, 1200, .inl (fI (cpz oEn tEn on)))), (t4, .inl (cI, 1200, .inl (fI (cpz oSt tSt on)))), (oh, .inr (7, [.int (zI oth), .int (zI on), .int (zI oac), .ref o1, .ref o2, .ref o3, .ref o4])), (o1, .inl (cI, 1200, .inl (fI oLi))), (o2, .inl (cI, 1200, .inl (fI oBe))), (o3, .inl (cI, 1200, .inl (fI oEn))), (o4, .inl (cI, 1200, .inl (fI oSt)))] H locs := hW
  exact hQ _ H locs _ _ _ ls hW rfl (by omega) (by omega) dSk_copy_92

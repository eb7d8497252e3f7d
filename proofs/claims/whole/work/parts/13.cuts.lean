theorem dCu_init_0 : decode cCu_init 0 = .ok (.aload_n 0, 1) := by decide +kernel
theorem dCu_init_1 : decode cCu_init 1 = .ok (.invokespecial 3, 3) := by decide +kernel
theorem dCu_init_4 : decode cCu_init 4 = .ok (.aload_n 0, 1) := by decide +kernel
theorem dCu_init_5 : decode cCu_init 5 = .ok (.bipush 48, 2) := by decide +kernel
theorem dCu_init_7 : decode cCu_init 7 = .ok (.newarray .int, 2) := by decide +kernel
theorem dCu_init_9 : decode cCu_init 9 = .ok (.putfield 9, 3) := by decide +kernel
theorem dCu_init_12 : decode cCu_init 12 = .ok (.return_, 1) := by decide +kernel
theorem dCu_gather_0 : decode cCu_gather 0 = .ok (.aload_n 0, 1) := by decide +kernel
theorem dCu_gather_1 : decode cCu_gather 1 = .ok (.iconst 0, 1) := by decide +kernel
theorem dCu_gather_2 : decode cCu_gather 2 = .ok (.putfield 15, 3) := by decide +kernel
theorem dCu_gather_5 : decode cCu_gather 5 = .ok (.iconst 0, 1) := by decide +kernel
theorem dCu_gather_6 : decode cCu_gather 6 = .ok (.istore_n 3, 1) := by decide +kernel
theorem dCu_gather_7 : decode cCu_gather 7 = .ok (.iload_n 3, 1) := by decide +kernel
theorem dCu_gather_8 : decode cCu_gather 8 = .ok (.aload_n 1, 1) := by decide +kernel
theorem dCu_gather_9 : decode cCu_gather 9 = .ok (.getfield 19, 3) := by decide +kernel
theorem dCu_gather_12 : decode cCu_gather 12 = .ok (.if_icmp .ge 33, 3) := by decide +kernel
theorem dCu_gather_15 : decode cCu_gather 15 = .ok (.aload_n 0, 1) := by decide +kernel
theorem dCu_gather_16 : decode cCu_gather 16 = .ok (.aload_n 1, 1) := by decide +kernel
theorem dCu_gather_17 : decode cCu_gather 17 = .ok (.getfield 22, 3) := by decide +kernel
theorem dCu_gather_20 : decode cCu_gather 20 = .ok (.iload_n 2, 1) := by decide +kernel
theorem dCu_gather_21 : decode cCu_gather 21 = .ok (.aaload, 1) := by decide +kernel
theorem dCu_gather_22 : decode cCu_gather 22 = .ok (.iload_n 3, 1) := by decide +kernel
theorem dCu_gather_23 : decode cCu_gather 23 = .ok (.iaload, 1) := by decide +kernel
theorem dCu_gather_24 : decode cCu_gather 24 = .ok (.invokevirtual 26, 3) := by decide +kernel
theorem dCu_gather_27 : decode cCu_gather 27 = .ok (.aload_n 0, 1) := by decide +kernel
theorem dCu_gather_28 : decode cCu_gather 28 = .ok (.aload_n 1, 1) := by decide +kernel
theorem dCu_gather_29 : decode cCu_gather 29 = .ok (.getfield 30, 3) := by decide +kernel
theorem dCu_gather_32 : decode cCu_gather 32 = .ok (.iload_n 2, 1) := by decide +kernel
theorem dCu_gather_33 : decode cCu_gather 33 = .ok (.aaload, 1) := by decide +kernel
theorem dCu_gather_34 : decode cCu_gather 34 = .ok (.iload_n 3, 1) := by decide +kernel
theorem dCu_gather_35 : decode cCu_gather 35 = .ok (.iaload, 1) := by decide +kernel
theorem dCu_gather_36 : decode cCu_gather 36 = .ok (.invokevirtual 26, 3) := by decide +kernel
theorem dCu_gather_39 : decode cCu_gather 39 = .ok (.iinc 3 1, 3) := by decide +kernel
theorem dCu_gather_42 : decode cCu_gather 42 = .ok (.goto (-35), 3) := by decide +kernel
theorem dCu_gather_45 : decode cCu_gather 45 = .ok (.return_, 1) := by decide +kernel
theorem dCu_put_0 : decode cCu_put 0 = .ok (.iconst 0, 1) := by decide +kernel
theorem dCu_put_1 : decode cCu_put 1 = .ok (.istore_n 2, 1) := by decide +kernel
theorem dCu_put_2 : decode cCu_put 2 = .ok (.iload_n 2, 1) := by decide +kernel
theorem dCu_put_3 : decode cCu_put 3 = .ok (.aload_n 0, 1) := by decide +kernel
theorem dCu_put_4 : decode cCu_put 4 = .ok (.getfield 15, 3) := by decide +kernel
theorem dCu_put_7 : decode cCu_put 7 = .ok (.if_icmp .ge 19, 3) := by decide +kernel
theorem dCu_put_10 : decode cCu_put 10 = .ok (.aload_n 0, 1) := by decide +kernel
theorem dCu_put_11 : decode cCu_put 11 = .ok (.getfield 9, 3) := by decide +kernel
theorem dCu_put_14 : decode cCu_put 14 = .ok (.iload_n 2, 1) := by decide +kernel
theorem dCu_put_15 : decode cCu_put 15 = .ok (.iaload, 1) := by decide +kernel
theorem dCu_put_16 : decode cCu_put 16 = .ok (.iload_n 1, 1) := by decide +kernel
theorem dCu_put_17 : decode cCu_put 17 = .ok (.if_icmp .ge 9, 3) := by decide +kernel
theorem dCu_put_20 : decode cCu_put 20 = .ok (.iinc 2 1, 3) := by decide +kernel
theorem dCu_put_23 : decode cCu_put 23 = .ok (.goto (-21), 3) := by decide +kernel
theorem dCu_put_26 : decode cCu_put 26 = .ok (.iload_n 2, 1) := by decide +kernel
theorem dCu_put_27 : decode cCu_put 27 = .ok (.aload_n 0, 1) := by decide +kernel
theorem dCu_put_28 : decode cCu_put 28 = .ok (.getfield 15, 3) := by decide +kernel
theorem dCu_put_31 : decode cCu_put 31 = .ok (.if_icmp .ge 17, 3) := by decide +kernel
theorem dCu_put_34 : decode cCu_put 34 = .ok (.aload_n 0, 1) := by decide +kernel
theorem dCu_put_35 : decode cCu_put 35 = .ok (.getfield 9, 3) := by decide +kernel
theorem dCu_put_38 : decode cCu_put 38 = .ok (.iload_n 2, 1) := by decide +kernel
theorem dCu_put_39 : decode cCu_put 39 = .ok (.iaload, 1) := by decide +kernel
theorem dCu_put_40 : decode cCu_put 40 = .ok (.iload_n 1, 1) := by decide +kernel
theorem dCu_put_41 : decode cCu_put 41 = .ok (.if_icmp .ne 7, 3) := by decide +kernel
theorem dCu_put_44 : decode cCu_put 44 = .ok (.iconst 1, 1) := by decide +kernel
theorem dCu_put_45 : decode cCu_put 45 = .ok (.goto 4, 3) := by decide +kernel
theorem dCu_put_48 : decode cCu_put 48 = .ok (.iconst 0, 1) := by decide +kernel
theorem dCu_put_49 : decode cCu_put 49 = .ok (.istore_n 3, 1) := by decide +kernel
theorem dCu_put_50 : decode cCu_put 50 = .ok (.iload_n 3, 1) := by decide +kernel
theorem dCu_put_51 : decode cCu_put 51 = .ok (.ifCond .ne 12, 3) := by decide +kernel
theorem dCu_put_54 : decode cCu_put 54 = .ok (.aload_n 0, 1) := by decide +kernel
theorem dCu_put_55 : decode cCu_put 55 = .ok (.getfield 15, 3) := by decide +kernel
theorem dCu_put_58 : decode cCu_put 58 = .ok (.bipush 48, 2) := by decide +kernel
theorem dCu_put_60 : decode cCu_put 60 = .ok (.if_icmp .lt 4, 3) := by decide +kernel
theorem dCu_put_63 : decode cCu_put 63 = .ok (.return_, 1) := by decide +kernel
theorem dCu_put_64 : decode cCu_put 64 = .ok (.aload_n 0, 1) := by decide +kernel
theorem dCu_put_65 : decode cCu_put 65 = .ok (.getfield 15, 3) := by decide +kernel
theorem dCu_put_68 : decode cCu_put 68 = .ok (.istore 4, 2) := by decide +kernel
theorem dCu_put_70 : decode cCu_put 70 = .ok (.iload 4, 2) := by decide +kernel
theorem dCu_put_72 : decode cCu_put 72 = .ok (.iload_n 2, 1) := by decide +kernel
theorem dCu_put_73 : decode cCu_put 73 = .ok (.if_icmp .le 25, 3) := by decide +kernel
theorem dCu_put_76 : decode cCu_put 76 = .ok (.aload_n 0, 1) := by decide +kernel
theorem dCu_put_77 : decode cCu_put 77 = .ok (.getfield 9, 3) := by decide +kernel
theorem dCu_put_80 : decode cCu_put 80 = .ok (.iload 4, 2) := by decide +kernel
theorem dCu_put_82 : decode cCu_put 82 = .ok (.aload_n 0, 1) := by decide +kernel
theorem dCu_put_83 : decode cCu_put 83 = .ok (.getfield 9, 3) := by decide +kernel
theorem dCu_put_86 : decode cCu_put 86 = .ok (.iload 4, 2) := by decide +kernel
theorem dCu_put_88 : decode cCu_put 88 = .ok (.iconst 1, 1) := by decide +kernel
theorem dCu_put_89 : decode cCu_put 89 = .ok (.isub, 1) := by decide +kernel
theorem dCu_put_90 : decode cCu_put 90 = .ok (.iaload, 1) := by decide +kernel
theorem dCu_put_91 : decode cCu_put 91 = .ok (.iastore, 1) := by decide +kernel
theorem dCu_put_92 : decode cCu_put 92 = .ok (.iinc 4 (-1), 3) := by decide +kernel
theorem dCu_put_95 : decode cCu_put 95 = .ok (.goto (-25), 3) := by decide +kernel
theorem dCu_put_98 : decode cCu_put 98 = .ok (.aload_n 0, 1) := by decide +kernel
theorem dCu_put_99 : decode cCu_put 99 = .ok (.getfield 9, 3) := by decide +kernel
theorem dCu_put_102 : decode cCu_put 102 = .ok (.iload_n 2, 1) := by decide +kernel
theorem dCu_put_103 : decode cCu_put 103 = .ok (.iload_n 1, 1) := by decide +kernel
theorem dCu_put_104 : decode cCu_put 104 = .ok (.iastore, 1) := by decide +kernel
theorem dCu_put_105 : decode cCu_put 105 = .ok (.aload_n 0, 1) := by decide +kernel
theorem dCu_put_106 : decode cCu_put 106 = .ok (.dup, 1) := by decide +kernel
theorem dCu_put_107 : decode cCu_put 107 = .ok (.getfield 15, 3) := by decide +kernel
theorem dCu_put_110 : decode cCu_put 110 = .ok (.iconst 1, 1) := by decide +kernel
theorem dCu_put_111 : decode cCu_put 111 = .ok (.iadd, 1) := by decide +kernel
theorem dCu_put_112 : decode cCu_put 112 = .ok (.putfield 15, 3) := by decide +kernel
theorem dCu_put_115 : decode cCu_put 115 = .ok (.return_, 1) := by decide +kernel
set_option maxRecDepth 100000 in
theorem flCu_15 : Cond.fieldLink "PartDrawings$Cuts" 15 (TCu 1).1 (TCu 1).2.1 (TCu 1).2.2.1 ∈ gW := gW_1 124 rfl rfl
set_option maxRecDepth 100000 in
theorem inCu : ∀ w ∈ u_ws RCu TCu 2, w ∈ gW := gW_l [127, 129] rfl (by decide +kernel)
set_option maxRecDepth 100000 in
theorem flCu_9 : Cond.fieldLink "PartDrawings$Cuts" 9 (TCu 0).1 (TCu 0).2.1 (TCu 0).2.2.1 ∈ gW := gW_1 121 rfl rfl
set_option maxHeartbeats 4000000 in
set_option maxRecDepth 100000 in
theorem c_Cuts_put (l : Launch) (D : va_G) (cI cG cL cB : ClassId) (h0 : Nat) (a1 : Nat) (n : Int) (G : Int → Int) (q : Int) (L : List Int) (bG : ∀ j : Int, I32 (G j)) (hL : arrL G n L) (hlen : L.length < 48) (hIq : I32 q) : Cv l yCu_put cCu_put 5 none 0 0 0 D zCl (zT cI cG cL cB) [.ref h0, .int (zI q)] [(h0, .inr (2, [.ref a1, .int (zI n)])), (a1, .inl (cI, 48, .inl (fI G)))] (fun w => ∃ G2 : Int → Int, ∃ n2 : Int, (∀ j : Int, I32 (G2 j)) ∧ (arrL G2 n2 (insZ q L)) ∧ w = [(h0, .inr (2, [.ref a1, .int (zI n2)])), (a1, .inl (cI, 48, .inl (fI G2)))]) := by
  refine zBv (by decide) (Nat.le_of_ble_eq_true rfl) ?_
  intro p e s m args below meth c ls A H locs Q C hin hl hW hQ
  have hl : lv_has ls 5 [(0, .ref h0), (1, .int (zI q))] := hl
  obtain ⟨hn, hG⟩ := id hL
  refine lv_iconst (v := zI 0) C.1 C.2.1 dCu_put_0 (by decide) ?_
  refine lv_istore_n (lv' := [(2, .int (zI 0)), (0, .ref h0), (1, .int (zI q))]) C.1 C.2.1 dCu_put_1 rfl hl (by decide) rfl (fun ls hl => ?_)
  have L2 : ∀ (N : Nat) (i : Nat), L.length - i < N → (i ≤ L.length) → (∀ k : Nat, k < i → L.getD k 0 < q) → ∀ (ls : Array Slot) (H : Heap) (locs : List Loc), lv_has ls 5 [(2, .int (zI (i : Int))), (0, .ref h0), (1, .int (zI q))] → zw D zCl A s [(h0, .inr (2, [.ref a1, .int (zI n)])), (a1, .inl (cI, 48, .inl (fI G)))] H locs → W p l e (zr 0 0 0) s m args below meth c H locs 0 0 Q (F0 m 2 ls []) := by
    intro N
    induction N with
    | zero => intro i hm; exact absurd hm (Nat.not_lt_zero _)
    | succ N ih2 =>
      intro i hm2 hi hlo ls H locs hl hW
      have L26 : (i < L.length → q ≤ L.getD i 0) → ∀ (ls : Array Slot) (H : Heap) (locs : List Loc), lv_has ls 5 [(2, .int (zI (i : Int))), (0, .ref h0), (1, .int (zI q))] → zw D zCl A s [(h0, .inr (2, [.ref a1, .int (zI n)])), (a1, .inl (cI, 48, .inl (fI G)))] H locs → W p l e (zr 0 0 0) s m args below meth c H locs 0 0 Q (F0 m 26 ls []) := by
        intro  hup ls H locs hl hW
        have L49 : ∀ (kn : Int), ((kn = 1 ∧ i < L.length ∧ L.getD i 0 = q) ∨ (kn = 0 ∧ (i < L.length → q < L.getD i 0))) → ∀ (ls : Array Slot) (H : Heap) (locs : List Loc), lv_has ls 5 [(2, .int (zI (i : Int))), (0, .ref h0), (1, .int (zI q))] → zw D zCl A s [(h0, .inr (2, [.ref a1, .int (zI n)])), (a1, .inl (cI, 48, .inl (fI G)))] H locs → W p l e (zr 0 0 0) s m args below meth c H locs 0 0 Q (F0 m 49 ls [.int (zI kn)]) := by
          intro kn hkn ls H locs hl hW
          refine lv_istore_n (lv' := [(3, .int (zI kn)), (2, .int (zI (i : Int))), (0, .ref h0), (1, .int (zI q))]) C.1 C.2.1 dCu_put_49 rfl hl (by decide) rfl (fun ls hl => ?_)
          refine lv_iload_n C.1 C.2.1 dCu_put_50 rfl (lv_at hl 0 rfl) ?_
          refine zif_ne (tgt := 63) C (by omega) dCu_put_51 (by decide) (fun c51 => ?_) (fun c51 => ?_)
          · exact hQ _ H locs _ _ _ ls hW ⟨G, n, bG, (by rcases hkn with ⟨h1, h2, h3⟩ | ⟨h1, _⟩; rw [insZ_same hlo h2 h3]; exact hL; omega), rfl⟩ (by omega) (by omega) dCu_put_63
          · refine lv_aload_n C.1 C.2.1 dCu_put_54 rfl (lv_at hl 2 rfl) ?_
            refine zget C hW 0 1 rfl rfl inCu (by decide) flCu_15 rfl dCu_put_55 ?_
            refine lv_bipush (v := zI 48) C.1 C.2.1 dCu_put_58 (by decide) ?_
            refine zicmp_lt (tgt := 64) C (by omega) (by omega) dCu_put_60 (by decide) (fun c60 => ?_) (fun c60 => ?_)
            · refine lv_aload_n C.1 C.2.1 dCu_put_64 rfl (lv_at hl 2 rfl) ?_
              refine zget C hW 0 1 rfl rfl inCu (by decide) flCu_15 rfl dCu_put_65 ?_
              refine lv_istore (lv' := [(4, .int (zI n)), (3, .int (zI kn)), (2, .int (zI (i : Int))), (0, .ref h0), (1, .int (zI q))]) C.1 C.2.1 dCu_put_68 hl (by decide) rfl (fun ls hl => ?_)
              have L70 : ∀ (N : Nat) (j : Int) (Gc : Int → Int), (j - i).toNat < N → ((i : Int) ≤ j) → (j ≤ n) → (∀ j : Int, I32 (Gc j)) → (∀ k : Int, k ≤ j → Gc k = G k) → (∀ k : Int, j < k → k ≤ n → Gc k = G (k - 1)) → ∀ (ls : Array Slot) (H : Heap) (locs : List Loc), lv_has ls 5 [(4, .int (zI j)), (3, .int (zI kn)), (2, .int (zI (i : Int))), (0, .ref h0), (1, .int (zI q))] → zw D zCl A s [(h0, .inr (2, [.ref a1, .int (zI n)])), (a1, .inl (cI, 48, .inl (fI Gc)))] H locs → W p l e (zr 0 0 0) s m args below meth c H locs 0 0 Q (F0 m 70 ls []) := by
                intro N
                induction N with
                | zero => intro j Gc hm; exact absurd hm (Nat.not_lt_zero _)
                | succ N ih70 =>
                  intro j Gc hm70 hj0 hj1 hbc hA hBb ls H locs hl hW
                  refine lv_iload C.1 C.2.1 dCu_put_70 (lv_at hl 0 rfl) ?_
                  refine lv_iload_n C.1 C.2.1 dCu_put_72 rfl (lv_at hl 2 rfl) ?_
                  refine zicmp_le (tgt := 98) C (by omega) (by omega) dCu_put_73 (by decide) (fun c73 => ?_) (fun c73 => ?_)
                  · refine lv_aload_n C.1 C.2.1 dCu_put_98 rfl (lv_at hl 3 rfl) ?_
                    refine zget C hW 0 0 rfl rfl inCu (by decide) flCu_9 rfl dCu_put_99 ?_
                    refine lv_iload_n C.1 C.2.1 dCu_put_102 rfl (lv_at hl 2 rfl) ?_
                    refine lv_iload_n C.1 C.2.1 dCu_put_103 rfl (lv_at hl 4 rfl) ?_
                    refine ziast C hW 1 0 rfl rfl (by omega) (by omega) (by decide) dCu_put_104 (fun H locs hW => ?_)
                    have hB1 : ∀ jj : Int, I32 ((upz Gc (i : Int) q) jj) := upz_b hbc (by omega)
                    have hW : zw D zCl A s [(h0, .inr (2, [.ref a1, .int (zI n)])), (a1, .inl (cI, 48, .inl (fI (upz Gc (i : Int) q))))] H locs := hW
                    refine lv_aload_n C.1 C.2.1 dCu_put_105 rfl (lv_at hl 3 rfl) ?_
                    refine lv_dup C.1 C.2.1 dCu_put_106 rfl ?_
                    refine zget C hW 0 1 rfl rfl inCu (by decide) flCu_15 rfl dCu_put_107 ?_
                    refine lv_iconst (v := zI 1) C.1 C.2.1 dCu_put_110 (by decide) ?_
                    refine ziadd C dCu_put_111 ?_
                    refine zput C hW 0 1 tyCu tyCu_ok nmCu rfl rfl inCu (by decide) flCu_15 rfl rfl rfl rfl (Nat.le_of_ble_eq_true rfl) dCu_put_112 (fun H locs hW => ?_)
                    have hW : zw D zCl A s [(h0, .inr (2, [.ref a1, .int (zI (n + 1))])), (a1, .inl (cI, 48, .inl (fI (upz Gc (i : Int) q))))] H locs := hW
                    exact hQ _ H locs _ _ _ ls hW ⟨_, _, hB1, (by rw [insZ_at hlo hi (by rcases hkn with ⟨h1, _⟩ | ⟨_, h⟩; omega; exact h)]; exact arrL_ins hL hi (fun j a b => by rw [upz_n (by omega)]; exact hA j (by omega)) upz_s (fun k a b => by rw [upz_n (by omega)]; exact hBb k (by omega) b)), rfl⟩ (by omega) (by omega) dCu_put_115
                  · refine lv_aload_n C.1 C.2.1 dCu_put_76 rfl (lv_at hl 3 rfl) ?_
                    refine zget C hW 0 0 rfl rfl inCu (by decide) flCu_9 rfl dCu_put_77 ?_
                    refine lv_iload C.1 C.2.1 dCu_put_80 (lv_at hl 0 rfl) ?_
                    refine lv_aload_n C.1 C.2.1 dCu_put_82 rfl (lv_at hl 3 rfl) ?_
                    refine zget C hW 0 0 rfl rfl inCu (by decide) flCu_9 rfl dCu_put_83 ?_
                    refine lv_iload C.1 C.2.1 dCu_put_86 (lv_at hl 0 rfl) ?_
                    refine lv_iconst (v := zI 1) C.1 C.2.1 dCu_put_88 (by decide) ?_
                    refine zisub C dCu_put_89 ?_
                    refine ziald C hW 1 0 rfl rfl (by omega) (by omega) (by decide) dCu_put_90 ?_
                    have hb2 := hbc (j - 1)
                    refine ziast C hW 1 0 rfl rfl (by omega) (by omega) (by decide) dCu_put_91 (fun H locs hW => ?_)
                    have hB3 : ∀ jj : Int, I32 ((upz Gc j (Gc (j - 1))) jj) := upz_b hbc (by omega)
                    have hW : zw D zCl A s [(h0, .inr (2, [.ref a1, .int (zI n)])), (a1, .inl (cI, 48, .inl (fI (upz Gc j (Gc (j - 1))))))] H locs := hW
                    refine lv_iinc (v := zI (j + (-1))) (lv' := [(4, .int (zI (j + (-1)))), (3, .int (zI kn)), (2, .int (zI (i : Int))), (0, .ref h0), (1, .int (zI q))]) C.1 C.2.1 dCu_put_92 hl (k := 0) rfl (zI_add j (-1)) (by decide) rfl (fun ls hl => ?_)
                    refine lv_goto (tgt := 70) C.1 C.2.1 dCu_put_95 (by decide) ?_
                    exact ih70 (j + (-1)) (upz Gc j (Gc (j - 1))) (by omega) (by omega) (by omega) hB3 (fun k hk => by rw [upz_n (by omega)]; exact hA k (by omega)) (fun k h1 h2 => by by_cases h : k = j; subst h; rw [upz_s, hA _ (by omega)]; rw [upz_n h]; exact hBb k (by omega) h2) ls H locs (lv_sub hl [0, 1, 2, 3, 4] rfl) hW
              exact L70 _ n G (Nat.lt_succ_self _) (by omega) (by omega) bG (fun _ _ => rfl) (fun k h1 h2 => absurd h2 (by omega)) ls H locs (lv_sub hl [0, 1, 2, 3, 4] rfl) hW
            · exact False.elim (by omega)
        refine lv_iload_n C.1 C.2.1 dCu_put_26 rfl (lv_at hl 0 rfl) ?_
        refine lv_aload_n C.1 C.2.1 dCu_put_27 rfl (lv_at hl 1 rfl) ?_
        refine zget C hW 0 1 rfl rfl inCu (by decide) flCu_15 rfl dCu_put_28 ?_
        refine zicmp_ge (tgt := 48) C (by omega) (by omega) dCu_put_31 (by decide) (fun c31 => ?_) (fun c31 => ?_)
        · refine lv_iconst (v := zI 0) C.1 C.2.1 dCu_put_48 (by decide) ?_
          exact L49 0 (by first | (left; exact ⟨rfl, by omega, by rw [← hG _ (by omega)]; omega⟩) | (right; exact ⟨rfl, fun h => by have := hup h; have h8 := hG _ h; omega⟩)) ls H locs (lv_sub hl [0, 1, 2] rfl) hW
        · refine lv_aload_n C.1 C.2.1 dCu_put_34 rfl (lv_at hl 1 rfl) ?_
          refine zget C hW 0 0 rfl rfl inCu (by decide) flCu_9 rfl dCu_put_35 ?_
          refine lv_iload_n C.1 C.2.1 dCu_put_38 rfl (lv_at hl 0 rfl) ?_
          refine ziald C hW 1 0 rfl rfl (by omega) (by omega) (by decide) dCu_put_39 ?_
          have hb4 := bG (i : Int)
          refine lv_iload_n C.1 C.2.1 dCu_put_40 rfl (lv_at hl 2 rfl) ?_
          refine zicmp_ne (tgt := 48) C (by omega) (by omega) dCu_put_41 (by decide) (fun c41 => ?_) (fun c41 => ?_)
          · refine lv_iconst (v := zI 0) C.1 C.2.1 dCu_put_48 (by decide) ?_
            exact L49 0 (by first | (left; exact ⟨rfl, by omega, by rw [← hG _ (by omega)]; omega⟩) | (right; exact ⟨rfl, fun h => by have := hup h; have h8 := hG _ h; omega⟩)) ls H locs (lv_sub hl [0, 1, 2] rfl) hW
          · refine lv_iconst (v := zI 1) C.1 C.2.1 dCu_put_44 (by decide) ?_
            refine lv_goto (tgt := 49) C.1 C.2.1 dCu_put_45 (by decide) ?_
            exact L49 1 (by first | (left; exact ⟨rfl, by omega, by rw [← hG _ (by omega)]; omega⟩) | (right; exact ⟨rfl, fun h => by have := hup h; have h8 := hG _ h; omega⟩)) ls H locs (lv_sub hl [0, 1, 2] rfl) hW
      refine lv_iload_n C.1 C.2.1 dCu_put_2 rfl (lv_at hl 0 rfl) ?_
      refine lv_aload_n C.1 C.2.1 dCu_put_3 rfl (lv_at hl 1 rfl) ?_
      refine zget C hW 0 1 rfl rfl inCu (by decide) flCu_15 rfl dCu_put_4 ?_
      refine zicmp_ge (tgt := 26) C (by omega) (by omega) dCu_put_7 (by decide) (fun c7 => ?_) (fun c7 => ?_)
      · exact L26  (fun h => by rw [← hG _ h]; omega) ls H locs (lv_sub hl [0, 1, 2] rfl) hW
      · refine lv_aload_n C.1 C.2.1 dCu_put_10 rfl (lv_at hl 1 rfl) ?_
        refine zget C hW 0 0 rfl rfl inCu (by decide) flCu_9 rfl dCu_put_11 ?_
        refine lv_iload_n C.1 C.2.1 dCu_put_14 rfl (lv_at hl 0 rfl) ?_
        refine ziald C hW 1 0 rfl rfl (by omega) (by omega) (by decide) dCu_put_15 ?_
        have hb5 := bG (i : Int)
        refine lv_iload_n C.1 C.2.1 dCu_put_16 rfl (lv_at hl 2 rfl) ?_
        refine zicmp_ge (tgt := 26) C (by omega) (by omega) dCu_put_17 (by decide) (fun c17 => ?_) (fun c17 => ?_)
        · exact L26  (fun h => by rw [← hG _ h]; omega) ls H locs (lv_sub hl [0, 1, 2] rfl) hW
        · refine lv_iinc (v := zI ((i : Int) + 1)) (lv' := [(2, .int (zI ((i : Int) + 1))), (0, .ref h0), (1, .int (zI q))]) C.1 C.2.1 dCu_put_20 hl (k := 0) rfl (zI_add (i : Int) 1) (by decide) rfl (fun ls hl => ?_)
          refine lv_goto (tgt := 2) C.1 C.2.1 dCu_put_23 (by decide) ?_
          exact ih2 (i + 1) (by omega) (by omega) (fun k hk => by rcases Nat.lt_succ_iff_lt_or_eq.mp hk with h | h; exact hlo k h; subst h; rw [← hG _ (by omega)]; omega) ls H locs (lv_sub hl [0, 1, 2] rfl) hW
  exact L2 (L.length - 0 + 1) 0 (Nat.lt_succ_self _) (Nat.zero_le _) (fun k h => absurd h (Nat.not_lt_zero k)) ls H locs (lv_sub hl [0, 1, 2] rfl) hW

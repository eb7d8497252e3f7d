theorem dLa_cell_0 : decode cLa_cell 0 = .ok (.iload_n 1, 1) := by decide +kernel
theorem dLa_cell_1 : decode cLa_cell 1 = .ok (.aload_n 0, 1) := by decide +kernel
theorem dLa_cell_2 : decode cLa_cell 2 = .ok (.arraylength, 1) := by decide +kernel
theorem dLa_cell_3 : decode cLa_cell 3 = .ok (.if_icmp .ge 9, 3) := by decide +kernel
theorem dLa_cell_6 : decode cLa_cell 6 = .ok (.aload_n 0, 1) := by decide +kernel
theorem dLa_cell_7 : decode cLa_cell 7 = .ok (.iload_n 1, 1) := by decide +kernel
theorem dLa_cell_8 : decode cLa_cell 8 = .ok (.iaload, 1) := by decide +kernel
theorem dLa_cell_9 : decode cLa_cell 9 = .ok (.goto 4, 3) := by decide +kernel
theorem dLa_cell_12 : decode cLa_cell 12 = .ok (.iconst 0, 1) := by decide +kernel
theorem dLa_cell_13 : decode cLa_cell 13 = .ok (.ireturn, 1) := by decide +kernel
theorem c_cell (l : Launch) (D : va_G) (cI cG cL cB : ClassId) (b L : Nat) (xs : Nat → Int32) (k : Int) (hk0 : 0 ≤ k) (hk1 : k ≤ 10) (hL : L ≤ 5634) (hbz : b < zb D) (sz : Nat) :
    Met l yLa_cell (wY yLa_cell cLa_cell 2 (some .int)) (zr 0 0 0) (va_Pc [.ref b, .int (zI k)] (Zx D zCl (zT cI cG cL cB) sz b L xs)) (va_Qi (fun x w => x = zI (celX xs L k) ∧ w = ([] : va_W)) (fun w t => Za D zCl (zT cI cG cL cB) (va_A [] sz) w t) (va_A [] sz)) 0 0 (va_A [] sz) := by
  refine Met.ofW (cc := cLa_cell) (maxL := 2) (ret := some .int) (by decide) rfl ?_
  intro p e s m args below meth c s₁ B hml hv
  obtain ⟨rfl, ⟨hsz, hP, hK, hD0, hN⟩, hX⟩ := hv
  have hts := atoms_spec (ws := wY yLa_cell cLa_cell 2 (some .int)) B.pre
  have hown : s.vm.findClass "PartDrawingsLaw" = some m.cls := findClass_of_methodNamed B.named
  subst hsz
  rw [lg_entry_eq]
  have hbl : b < s.heap.size := by obtain ⟨s0, -, -, h3, -⟩ := hN; omega
  have hbA : ¬ va_A [] s.heap.size b := by
    rintro (⟨q, e, h⟩ | h)
    · simp at h
    · omega
  have hl := lv_entry ([.ref b, .int (zI k)]) (n := 2) (Nat.le_of_ble_eq_true rfl)
  generalize (lg_sl ([.ref b, .int (zI k)]) ++ List.replicate (2 - (lg_sl ([.ref b, .int (zI k)])).length) Slot.unset).toArray = ls at hl ⊢
  have hl : lv_has ls 2 [(0, .ref b), (1, .int (zI k))] := hl
  have C : zx p s m [Value.ref b, .int (zI k)].toArray meth c cLa_cell 2 "PartDrawingsLaw" D zCl (zT cI cG cL cB) (va_A [] s.heap.size) := ⟨B.exec, B.bytes, hml, hown, fun w hw => hts w (List.mem_cons_of_mem _ hw), hK, fun q h => Or.inr h, B.notSynchronized, hN, zA_ge hN hD0⟩
  have hr := B.returns
  have hW : zw D zCl (va_A [] s.heap.size) s [] s.heap [] := ⟨hP, hD0.self, va_S.rf⟩
  refine lv_iload_n C.1 C.2.1 dLa_cell_0 rfl (lv_at hl 1 rfl) ?_
  refine lv_aload_n C.1 C.2.1 dLa_cell_1 rfl (lv_at hl 0 rfl) ?_
  refine zslen C hX hbl hbA hW dLa_cell_2 ?_
  refine zicmp_ge (tgt := 12) C (by omega) (by omega) dLa_cell_3 (by decide) (fun c3 => ?_) (fun c3 => ?_)
  · refine lv_iconst (v := zI 0) C.1 C.2.1 dLa_cell_12 (by decide) ?_
    exact zreti C hr hW ⟨by unfold celX; rw [if_neg (by omega)], rfl⟩ (Nat.le_refl _) (Nat.le_refl _) dLa_cell_13
  · refine lv_aload_n C.1 C.2.1 dLa_cell_6 rfl (lv_at hl 0 rfl) ?_
    refine lv_iload_n C.1 C.2.1 dLa_cell_7 rfl (lv_at hl 1 rfl) ?_
    refine zsld C hX hbl hbA hW hk0 (by omega) hL dLa_cell_8 ?_
    refine lv_goto (tgt := 13) C.1 C.2.1 dLa_cell_9 (by decide) ?_
    exact zreti C hr hW ⟨by unfold celX; rw [if_pos (by omega)], rfl⟩ (Nat.le_refl _) (Nat.le_refl _) dLa_cell_13
theorem nd_of : ∀ q : List Nat, q.Nodup → va_nd q = true
  | [], _ => rfl
  | a :: q, h => by
    have h2 := List.nodup_cons.mp h
    simp [va_nd, h2.1, nd_of q h2.2]
section ZCell
variable {p : Program} {l : Launch} {e : Env} {R : Room} {s : State} {m : MethodId} {args : Array Value} {below : List Frame} {meth : Method} {c : Code} {H : Heap} {locs : List Loc} {cells slots : Nat} {Q : State → Prop}
variable {cc : ByteArray} {pc nL index : Nat} {own : String} {ls : Array Slot} {rest : List Value} {D : va_G} {A : Nat → Prop} {cI cG cL cB : ClassId} {ws : va_W} {b L : Nat} {xs : Nat → Int32}
theorem zcell (C : zx p s m args meth c cc nL own D zCl (zT cI cG cL cB) A) (hX : va_X b L xs s s.heap) (hbl : b < zb D) (hbA : ¬ A b) (hW : zw D zCl A s ws H locs) {k : Int} (hk0 : 0 ≤ k) (hk1 : k ≤ 10) (hL : L ≤ 5634) (hT : inT (kS own index yLa_cell cLa_cell 2 (some .int))) (hR : fitsIn R 0 2) (hsz : ls.size = nL) (hrest : (rest.map fun v => v.category).sum ≤ 8) (hdg : decode cc pc = .ok (.invokestatic index, 3)) (hf : cells + 0 ≤ R.cells ∧ slots + 0 ≤ R.slots)
    (kk : ∀ (H1 : Heap) (locs1 : List Loc), zw D zCl A s ws H1 locs1 → W p l e R s m args below meth c H1 locs1 cells slots Q (F0 m (pc + 3) ls (.int (zI (celX xs L k)) :: rest))) : W p l e R s m args below meth c H locs cells slots Q (F0 m pc ls (.int (zI k) :: .ref b :: rest)) := by
  have hbs : b < s.heap.size := by obtain ⟨s0, -, -, h3, -⟩ := C.2.2.2.2.2.2.2.2.1; omega
  have hG : GoodIn gW (va_wsS own index yLa_cell (wY yLa_cell cLa_cell 2 (some .int))) := gIn (fun w h => h) (fun w h => by
    rcases List.mem_append.mp h with h | h
    · exact hT w (by simp only [List.mem_cons, List.not_mem_nil, or_false] at h; simp only [kS, List.mem_cons]; rcases h with h | h | h <;> simp [h])
    · exact wY_in (hT _ (by simp [kS])) w h)
  have hpre : ∀ U : State, U.heap = H → s.WarmedH U.vm → va_Pc [.ref b, .int (zI k)] (Zx D zCl (zT cI cG cL cB) H.size b L xs) [Value.ref b, .int (zI k)].toArray U := by
    intro U hU hWm
    obtain ⟨q0, qz⟩ := zPre C hW (wc := []) (av := [.ref b, .int (zI k)]) [] rfl rfl U hU hWm
    refine ⟨q0, qz, ?_⟩
    rw [hU]
    exact (va_X.moved hWm.alike hX).kept (hW.2.2.2.1 b hbs hbA)
  have hr := va_runS (e := e) (below := below) (meth := meth) (locs := locs) (g := F0 m pc ls (.int (zI k) :: .ref b :: rest)) (As := [.ref b, .int (zI k)]) (rest := rest) ⟨C.1, C.2.1, C.2.2.1, C.2.2.2.1, C.2.2.2.2.1⟩ (c_cell l D cI cG cL cB b L xs k hk0 hk1 hL hbl H.size) (va_cwS 2 C.2.2.2.2.1 hG rfl rfl rfl (by decide +kernel) hR) ⟨Zx_blind, hpre⟩ rfl rfl hsz rfl (lv_room hrest) hdg hf
  refine zcalli (wr := ws) (wc := []) C hW [] (List.range ws.length) rfl (by
    apply List.ext_getElem? 
    intro j
    simp only [List.getElem?_map, List.getElem?_range']
    by_cases hj : j < ws.length
    · simp [hj]
    · simp [hj]) ?_ (fun i _ h => by cases h) hr (fun x w H1 locs1 hq hW1 => ?_)
  · exact nd_of _ List.nodup_range
  · obtain ⟨rfl, rfl⟩ := hq
    rw [List.append_nil] at hW1
    exact kk H1 locs1 hW1
end ZCell

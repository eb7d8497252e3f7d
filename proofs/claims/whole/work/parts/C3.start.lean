theorem zArr {s : State} {args : Array Value} {t : FieldType} (hnc : ∀ C, t ≠ .object C) (h : (Cond.arrayClass t).before args s = true) : ∃ c : ClassId, ArrOfT s c t ∧ va_RA s c t := by
  obtain ⟨c, k, comp, h1, h2, h3⟩ := Cond.arrayClass_spec h
  refine ⟨c, fun n z => ⟨fun k h => (by cases h), k, h2, comp, h3⟩, ?_⟩
  cases t with
  | object C => exact absurd rfl (hnc C)
  | _ => exact h1
theorem zArr2 {s : State} {args : Array Value} (h : (Cond.arrayOver (.array .int)).before args s = true) : ∃ c : ClassId, ArrOfT s c (.array .int) ∧ va_RA s c (.array .int) := by
  obtain ⟨comp, c, k, h1, h2, h3, h4, h5⟩ := zOver_spec h
  exact ⟨c, fun n z => ⟨fun k h => (by cases h), k, h3, comp, h4⟩, h5⟩
theorem zKn {s : State} {args : Array Value} (hts : ∀ w ∈ gW, w.before args s = true) {C : String} {T : u_T} {N : Nat} (hin : ∀ w ∈ u_ws C T N, w ∈ gW) {n : Nat} (hk : Cond.instantiable C n ∈ gW) : ∃ (cC : ClassId) (iS : Nat → Nat), u_Kn s C T N cC iS := u_known hts hin (hts _ hk)
theorem zD_ex {s : State} {args : Array Value} (hts : ∀ w ∈ gW, w.before args s = true) : ∃ D : va_G, zb D = s.heap.size ∧ ∀ (k : Nat) (q : vw_C), zCl[k]? = some q → u_Kn s q.1 q.2.1 q.2.2 (D.1 k) (D.2 k) := by
  have h1 : ∀ {a b : Cond} {L : List Cond}, b ∈ a :: b :: L := List.mem_cons_of_mem _ List.mem_cons_self
  obtain ⟨c0, i0, k0⟩ := zKn hts inBx (kwPD_9 _ h1)
  obtain ⟨c1, i1, k1⟩ := zKn hts inCl_ (kwPD_47 _ h1)
  obtain ⟨c2, i2, k2⟩ := zKn hts inCu (kwRe_23 _ h1)
  obtain ⟨c3, i3, k3⟩ := zKn hts inLb (kwPD_63 _ h1)
  obtain ⟨c4, i4, k4⟩ := zKn hts inMe (kwPD_40 _ h1)
  obtain ⟨c5, i5, k5⟩ := zKn hts inPg (kwPD_54 _ h1)
  obtain ⟨c6, i6, k6⟩ := zKn hts inRe (kwPD_16 _ h1)
  obtain ⟨c7, i7, k7⟩ := zKn hts inSk (kwPD_30 _ h1)
  obtain ⟨c8, i8, k8⟩ := zKn hts inTr (kwPD_23 _ h1)
  obtain ⟨c9, i9, k9⟩ := zKn hts inPD (kwLa_8 _ h1)
  obtain ⟨c10, i10, k10⟩ := zKn hts inMo (kwLa_83 _ h1)
  obtain ⟨c11, i11, k11⟩ := zKn hts inSb (kwLb_9 _ h1)
  refine ⟨(fun k => [c0, c1, c2, c3, c4, c5, c6, c7, c8, c9, c10, c11].getD k s.heap.size, fun k => [i0, i1, i2, i3, i4, i5, i6, i7, i8, i9, i10, i11].getD k i0), rfl, ?_⟩
  intro k q hq
  match k, hq with
  | 0, hq => cases hq; exact k0
  | 1, hq => cases hq; exact k1
  | 2, hq => cases hq; exact k2
  | 3, hq => cases hq; exact k3
  | 4, hq => cases hq; exact k4
  | 5, hq => cases hq; exact k5
  | 6, hq => cases hq; exact k6
  | 7, hq => cases hq; exact k7
  | 8, hq => cases hq; exact k8
  | 9, hq => cases hq; exact k9
  | 10, hq => cases hq; exact k10
  | 11, hq => cases hq; exact k11
  | k + 12, hq => exact absurd hq (by simp [zCl])
theorem zD_ty {s : State} {D : va_G} {cl : List vw_C} {cI cG cL cB : ClassId} (hKn : ∀ (k : Nat) (q : vw_C), cl[k]? = some q → u_Kn s q.1 q.2.1 q.2.2 (D.1 k) (D.2 k)) (hI : ArrOfT s cI .int ∧ va_RA s cI .int) (hG : ArrOfT s cG (.array .int) ∧ va_RA s cG (.array .int)) (hL : ArrOfT s cL .long ∧ va_RA s cL .long) (hB : ArrOfT s cB .byte ∧ va_RA s cB .byte) : va_K D cl (zT cI cG cL cB) s := by
  refine ⟨hKn, fun k q hq => ?_⟩
  match k, hq with
  | 0, hq => cases hq; exact hI
  | 1, hq => cases hq; exact hG
  | 2, hq => cases hq; exact hL
  | 3, hq => cases hq; exact hB
  | k + 4, hq => exact absurd hq (by simp [zT])
set_option maxHeartbeats 4000000 in
set_option maxRecDepth 100000 in
/-- THE LAW, from its entry -/
theorem whole_start {p : Program} {e : Env} {s : State} {m : MethodId} {below : List Frame} {meth : Method} {c : Code} (l : Launch) (hlt : l.stackTraces = false) {b L : Nat} {xs : Nat → Int32} (hL : L ≤ 5634) (C0 : lw_At p s m meth c b L xs) : W p l e room_1 s m #[Value.ref b] below meth c s.heap [] 0 0 (lw_Z below #[Value.ref b] s) (entryFrame m ([Value.ref b] : List Value).toArray 8) := by
  obtain ⟨hx, hb, hr, hml, hown, hts, hX, hbl, hlocks, hgv⟩ := id C0
  have htg : ∀ w ∈ gW, w.before #[Value.ref b] s = true := fun w h => hts w (gW_in h).1
  obtain ⟨D, hz, hKn⟩ := zD_ex htg
  obtain ⟨cI, aI⟩ := zArr (t := .int) (fun C h => by cases h) (htg _ kna_int)
  obtain ⟨cL, aL⟩ := zArr (t := .long) (fun C h => by cases h) (htg _ kna_long)
  obtain ⟨cB, aB⟩ := zArr (t := .byte) (fun C h => by cases h) (htg _ kna_byte)
  obtain ⟨cG, aG⟩ := zArr2 (hts _ kov_int)
  have hK : va_K D zCl (zT cI cG cL cB) s := zD_ty hKn aI aG aL aB
  have hN : zN D s := ⟨s, ⟨b, hts, hgv⟩, hz.symm, Nat.le_of_eq hz, fun _ _ => rfl, State.WarmedH.refl s⟩
  have C : zx p s m #[Value.ref b] meth c code 8 "PartDrawingsLaw" D zCl (zT cI cG cL cB) (fun q : Nat => s.heap.size ≤ q) := ⟨hx, hb, hml, hown, htg, hK, fun _ h => h, hlocks, hN, fun q h => by rw [hz]; exact h⟩
  have hW : zw D zCl (fun q : Nat => s.heap.size ≤ q) s [] s.heap [] := ⟨fun k q h => by simp at h, ⟨fun i j p q h => by simp at h, fun k q h => by simp at h⟩, va_S.rf⟩
  have hl := lv_entry ([.ref b]) (n := 8) (Nat.le_of_ble_eq_true rfl)
  rw [lg_entry_eq]
  generalize (lg_sl ([.ref b]) ++ List.replicate (8 - (lg_sl ([.ref b])).length) Slot.unset).toArray = ls at hl ⊢
  have hl : lv_has ls 8 [(0, .ref b)] := hl
  exact lw_begin l D cI cG cL cB p e s m below meth c b L xs _ rfl C hr hX hbl (by rw [hz]; exact hbl) (Nat.not_le.mpr hbl) hL hlt ls s.heap [] hl hW

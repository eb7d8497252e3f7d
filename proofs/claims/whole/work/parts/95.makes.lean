/-! MAKING: arrays, objects, grids -/
section ZMake
variable {p : Program} {l : Launch} {e : Env} {R : Room} {s : State} {m : MethodId} {args : Array Value} {below : List Frame} {meth : Method} {c : Code} {H : Heap} {locs : List Loc} {cells slots : Nat} {Q : State → Prop}
variable {cc : ByteArray} {pc nL index : Nat} {own : String} {ls : Array Slot} {rest : List Value} {D : va_G} {cl : List vw_C} {A : Nat → Prop} {tys : List (ClassId × FieldType)} {ws : va_W}
theorem z0b : ∀ j : Int, I32 ((fun _ => 0 : Int → Int) j) := fun _ => I32_0
theorem z0bL : ∀ j : Int, I64 ((fun _ => 0 : Int → Int) j) := fun _ => I32_64 I32_0
theorem zK_in (hK : va_K D cl tys s) {t0 : Nat} {cA cB : ClassId} {ty : FieldType} (ht : tys[t0]? = some (cA, ty)) (hno : ∀ C, ty ≠ .object C) (h : va_K D cl (tys ++ [(cB, ty)]) s) : cB = cA := by
  have h1 := (hK.2 t0 _ ht).2
  have h2 := (h.2 tys.length (cB, ty) (by simp)).2
  cases ty with
  | object C => exact absurd rfl (hno C)
  | _ => exact Option.some.inj (h2.symm.trans h1)
theorem znewi (C : zx p s m args meth c cc nL own D cl tys A) (hW : zw D cl A s ws H locs) (t0 : Nat) {cA : ClassId} (ht : tys[t0]? = some (cA, .int)) (hw : Cond.arrayClass .int ∈ gW) {n : Int} {N : Nat} (hn : n = (N : Int)) (hN : N ≤ 100000) (hc : cells + 1 ≤ R.cells) (hs : slots + N ≤ R.slots) (hdg : decode cc pc = .ok (.newarray .int, 2))
    (kk : ∀ (q : Nat) (H1 : Heap), zw D cl A s (ws ++ [(q, .inl (cA, N, .inl (fI (fun _ => 0))))]) H1 locs → W p l e R s m args below meth c H1 locs (cells + 1) (slots + N) Q (F0 m (pc + 2) ls (.ref q :: rest))) : W p l e R s m args below meth c H locs cells slots Q (F0 m pc ls (.int (zI n) :: rest)) := by
  subst hn
  refine va_newa C.1 C.2.1 (atype := .int) (ty := .int) (C.2.2.2.2.1 _ hw) rfl C.2.2.2.2.2.1 hW.1 hW.2.1 hW.2.2 C.2.2.2.2.2.2.1 (a0 := (N, .inl (fI (fun _ => 0)))) (N' := N) (fun cB => ?_) ?_ ?_ ?_ hc hs hdg (fun q cB H1 hK hP hD hS => ?_)
  · show arrV cB N (fun j => .int (fI (fun _ => 0) j)) = arrV cB N (fun _ => .int 0)
    rw [zI_0]
    rfl
  · rw [Int32.lt_iff_toInt_lt, zI_t (by unfold I32; omega), Int32.toInt_zero]; omega
  · rw [zI_cl (by unfold I32; omega)]; omega
  · show N * 4 ≤ 536870912
    omega
  · cases zK_in C.2.2.2.2.2.1 ht (fun C h => by cases h) hK
    exact kk q H1 ⟨hP, hD, hS⟩
theorem znewb (C : zx p s m args meth c cc nL own D cl tys A) (hW : zw D cl A s ws H locs) (t0 : Nat) {cA : ClassId} (ht : tys[t0]? = some (cA, .byte)) (hw : Cond.arrayClass .byte ∈ gW) {n : Int} {N : Nat} (hn : n = (N : Int)) (hN : N ≤ 100000) (hc : cells + 1 ≤ R.cells) (hs : slots + N ≤ R.slots) (hdg : decode cc pc = .ok (.newarray .byte, 2))
    (kk : ∀ (q : Nat) (H1 : Heap), zw D cl A s (ws ++ [(q, .inl (cA, N, .inl (fI (fun _ => 0))))]) H1 locs → W p l e R s m args below meth c H1 locs (cells + 1) (slots + N) Q (F0 m (pc + 2) ls (.ref q :: rest))) : W p l e R s m args below meth c H locs cells slots Q (F0 m pc ls (.int (zI n) :: rest)) := by
  subst hn
  refine va_newa C.1 C.2.1 (atype := .byte) (ty := .byte) (C.2.2.2.2.1 _ hw) rfl C.2.2.2.2.2.1 hW.1 hW.2.1 hW.2.2 C.2.2.2.2.2.2.1 (a0 := (N, .inl (fI (fun _ => 0)))) (N' := N) (fun cB => ?_) ?_ ?_ ?_ hc hs hdg (fun q cB H1 hK hP hD hS => ?_)
  · show arrV cB N (fun j => .int (fI (fun _ => 0) j)) = arrV cB N (fun _ => .int 0)
    rw [zI_0]
    rfl
  · rw [Int32.lt_iff_toInt_lt, zI_t (by unfold I32; omega), Int32.toInt_zero]; omega
  · rw [zI_cl (by unfold I32; omega)]; omega
  · show N * 1 ≤ 536870912
    omega
  · cases zK_in C.2.2.2.2.2.1 ht (fun C h => by cases h) hK
    exact kk q H1 ⟨hP, hD, hS⟩
theorem znewl (C : zx p s m args meth c cc nL own D cl tys A) (hW : zw D cl A s ws H locs) (t0 : Nat) {cA : ClassId} (ht : tys[t0]? = some (cA, .long)) (hw : Cond.arrayClass .long ∈ gW) {n : Int} {N : Nat} (hn : n = (N : Int)) (hN : N ≤ 100000) (hc : cells + 1 ≤ R.cells) (hs : slots + N ≤ R.slots) (hdg : decode cc pc = .ok (.newarray .long, 2))
    (kk : ∀ (q : Nat) (H1 : Heap), zw D cl A s (ws ++ [(q, .inl (cA, N, .inr (.inl (fL (fun _ => 0)))))]) H1 locs → W p l e R s m args below meth c H1 locs (cells + 1) (slots + N) Q (F0 m (pc + 2) ls (.ref q :: rest))) : W p l e R s m args below meth c H locs cells slots Q (F0 m pc ls (.int (zI n) :: rest)) := by
  subst hn
  refine va_newa C.1 C.2.1 (atype := .long) (ty := .long) (C.2.2.2.2.1 _ hw) rfl C.2.2.2.2.2.1 hW.1 hW.2.1 hW.2.2 C.2.2.2.2.2.2.1 (a0 := (N, .inr (.inl (fL (fun _ => 0))))) (N' := N) (fun cB => ?_) ?_ ?_ ?_ hc hs hdg (fun q cB H1 hK hP hD hS => ?_)
  · have e0 : (0 : Int64) = zL 0 := by decide
    show arrV cB N (fun j => .long (fL (fun _ => 0) j)) = arrV cB N (fun _ => .long 0)
    rw [e0]
    rfl
  · rw [Int32.lt_iff_toInt_lt, zI_t (by unfold I32; omega), Int32.toInt_zero]; omega
  · rw [zI_cl (by unfold I32; omega)]; omega
  · show N * 8 ≤ 536870912
    omega
  · cases zK_in C.2.2.2.2.2.1 ht (fun C h => by cases h) hK
    exact kk q H1 ⟨hP, hD, hS⟩
theorem znewo (C : zx p s m args meth c cc nL own D cl tys A) (hW : zw D cl A s ws H locs) (ci : Nat) {CC : String} {T : u_T} {N : Nat} (hci : cl[ci]? = some (CC, T, N)) (hin : ∀ w ∈ u_ws CC T N, w ∈ gW) (ty0 : Nat → FieldType) (hty : ∀ k, k < N → parseFieldDescriptor (T k).2.2.1 = some (ty0 k)) (hk : inT [.classLink own index CC, .instantiable CC N, .initialized CC]) (fs : List Value) (hfs : ∀ j, j < N → defaultValue (ty0 j) = vp_V fs j) (hc : cells + 1 ≤ R.cells) (hs : slots + N ≤ R.slots) (hdg : decode cc pc = .ok (.new index, 3))
    (kk : ∀ (q : Nat) (H1 : Heap), zw D cl A s (ws ++ [(q, .inr (ci, fs))]) H1 locs → W p l e R s m args below meth c H1 locs (cells + 1) (slots + N) Q (F0 m (pc + 3) ls (.ref q :: rest))) : W p l e R s m args below meth c H locs cells slots Q (F0 m pc ls rest) :=
  va_new C.1 C.2.1 C.2.2.2.2.1 hin ty0 hty C.2.2.2.1 (C.2.2.2.2.1 _ (hk _ (by simp))) (C.2.2.2.2.1 _ (hk _ (by simp))) (C.2.2.2.2.1 _ (hk _ (by simp))) C.2.2.2.2.2.1 hW.1 hW.2.1 hW.2.2 C.2.2.2.2.2.2.1 hci hfs hc hs hdg (fun q H1 hP hD hS => kk q H1 ⟨hP, hD, hS⟩)
def kObj (own : String) (index : Nat) : List Cond := [.methodLink own index Lib.objectInit, .instanceMethod Lib.objectInit, .code Lib.objectInit ⟨#[0xb1]⟩ 1 none]
theorem zobj (C : zx p s m args meth c cc nL own D cl tys A) (hk : inT (kObj own index)) (hsz : ls.size = nL) (hf : 1 ≤ R.frames) (hl : (rest.map fun v => v.category).sum + 12 ≤ R.locals) {a : Nat} (hdg : decode cc pc = .ok (.invokespecial index, 3))
    (kk : W p l e R s m args below meth c H locs cells slots Q (F0 m (pc + 3) ls rest)) : W p l e R s m args below meth c H locs cells slots Q (F0 m pc ls (.ref a :: rest)) :=
  W.objInit C.1 C.2.1 C.2.2.2.1 (C.2.2.2.2.1 _ (hk _ (by simp [kObj]))) (C.2.2.2.2.1 _ (hk _ (by simp [kObj]))) (C.2.2.2.2.1 _ (hk _ (by simp [kObj]))) rfl (hsz.trans C.2.2.1.symm) rfl hdg hf (by show 2 * 0 + _ + 12 ≤ _; omega) kk
theorem zix_bare (vm : Vm) (comp : ClassId) : (vm.bare.classes.findIdx? fun (x : Class) => match x.kind with | .array component _ => component == comp | _ => false) = (vm.classes.findIdx? fun (x : Class) => match x.kind with | .array component _ => component == comp | _ => false) := by
  simp only [Vm.bare, Array.findIdx?_map]
  rfl
theorem zOver_spec {args : Array Value} {first s : State} {o : Option Outcome} {idx : List Nat} {t : FieldType} (h : (Cond.arrayOver (.array t)).holds args first o s idx = true) :
    ∃ comp c k, s.vm.findClass (FieldType.array t).toString = some comp ∧ (s.vm.classes.findIdx? fun x => match x.kind with | .array component _ => component == comp | _ => false) = some c ∧ s.vm.classes[c]? = some k ∧ k.kind = .array comp (.array t) ∧
      s.vm.findClass ("[" ++ (FieldType.array t).toString) = some c := by
  simp only [Cond.holds, Cond.value, beq_iff_eq] at h
  cases hc : s.vm.findClass (FieldType.array t).toString with
  | none => simp [hc] at h
  | some comp =>
    simp only [hc, Option.bind_some, Option.bind_eq_some_iff, Option.map_eq_some_iff] at h
    obtain ⟨c, hi, k, hk, hb⟩ := h
    obtain ⟨hlt, hp, -⟩ := Array.findIdx?_eq_some_iff_getElem.mp hi
    have hkk : s.vm.classes[c] = k := (Array.getElem?_eq_some_iff.mp hk).2
    rw [hkk] at hp
    cases hkind : k.kind with
    | array component ty =>
      rw [hkind] at hb hp
      simp at hb hp
      exact ⟨comp, c, k, rfl, hi, hk, by rw [hkind, hp, hb.1], hb.2⟩
    | _ => rw [hkind] at hb; simp at hb
theorem zOver_mv {t : FieldType} {u U : State} {a b : Array Value} (hvm : u.vm.Alike U.vm) (h : (Cond.arrayOver (.array t)).before a u = true) : (Cond.arrayOver (.array t)).before b U = true := by
  obtain ⟨comp, c, k, h1, h2, h3, h4, h5⟩ := zOver_spec h
  obtain ⟨k', hk', he⟩ := hvm.2.2 _ _ h3
  have hi : (U.vm.classes.findIdx? fun (x : Class) => match x.kind with | .array component _ => component == comp | _ => false) = some c := by
    rw [← zix_bare]
    first | rw [hvm.bare_eq] | rw [← hvm.bare_eq]
    rw [zix_bare]
    exact h2
  have hkind : k'.kind = .array comp (.array t) := by rw [he]; exact h4
  have f1 : U.vm.findClass (FieldType.array t).toString = some comp := by rw [hvm.findClass]; exact h1
  have f2 : U.vm.findClass ("[" ++ (FieldType.array t).toString) = some c := by rw [hvm.findClass]; exact h5
  unfold Cond.before Cond.holds
  simp only [Cond.value]
  rw [f1, Option.bind_some]
  refine (congrArg (fun o : Option Nat => (o.bind (fun c => (U.vm.classes[c]?).map fun (k : Class) => match k.kind with | .array _ ty => decide (ty = FieldType.array t) && decide (U.vm.findClass ("[" ++ (FieldType.array t).toString) = some c) | _ => false) == some true)) hi).trans ?_
  simp [hk', hkind, f2]
theorem zOver {t : FieldType} (h : zN D s) (hw : Cond.arrayOver (.array t) ∈ lw_tbl) {a : Array Value} : (Cond.arrayOver (.array t)).before a s = true := by
  obtain ⟨s0, ⟨b, h1, -⟩, -, -, -, hWm⟩ := h
  exact zOver_mv hWm.alike (h1 _ hw)
theorem g3_of (r : Nat → Nat) : (fun i => if i < 3 then some (r i) else none) = g3 (r 0) (r 1) (r 2) := by
  funext i
  match i with
  | 0 => rfl
  | 1 => rfl
  | 2 => rfl
  | n + 3 => exact if_neg (by omega)
theorem g2_of (r : Nat → Nat) : (fun i => if i < 2 then some (r i) else none) = g2 (r 0) (r 1) := by
  funext i
  match i with
  | 0 => rfl
  | 1 => rfl
  | n + 2 => exact if_neg (by omega)
theorem zmna3 (C : zx p s m args meth c cc nL own D cl tys A) (hW : zw D cl A s ws H locs) (t0 t1 : Nat) {cA cB : ClassId} (ht0 : tys[t0]? = some (cA, .int)) (ht1 : tys[t1]? = some (cB, .array .int)) (hw1 : Cond.classLink own index "[[I" ∈ gW) (hw2 : Cond.arrayOver (.array .int) ∈ lw_tbl) (hw3 : Cond.arrayClass .int ∈ gW) {n k : Int} {K : Nat} (hn : n = 3) (hk : k = (K : Int)) (hK : K ≤ 100000) (hc : cells + (1 + 3) ≤ R.cells) (hs : slots + (3 + 3 * K) ≤ R.slots) (hdg : decode cc pc = .ok (.multianewarray index 2, 4))
    (kk : ∀ (q r0 r1 r2 : Nat) (H1 : Heap), zw D cl A s (ws ++ [(q, .inl (cB, 3, .inr (.inr (.inr (.inr (g3 r0 r1 r2)))))), (r0, .inl (cA, K, .inl (fI (fun _ => 0)))), (r1, .inl (cA, K, .inl (fI (fun _ => 0)))), (r2, .inl (cA, K, .inl (fI (fun _ => 0))))]) H1 locs → W p l e R s m args below meth c H1 locs (cells + 1 + 3) (slots + 3 + 3 * K) Q (F0 m (pc + 4) ls (.ref q :: rest))) : W p l e R s m args below meth c H locs cells slots Q (F0 m pc ls (.int (zI k) :: .int (zI n) :: rest)) := by
  subst hn; subst hk
  refine va_mna (X := ws) (L := []) (f := fun _ => .inl (0, (0, .inl (fun _ => 0)))) (ty := .int) (cy := cA) (N' := 3) (K' := K) (z := (K, .inl (fI (fun _ => 0)))) C.1 C.2.1 C.2.2.2.1 (C.2.2.2.2.1 _ hw1) (zOver C.2.2.2.2.2.2.2.2.1 hw2) (C.2.2.2.2.1 _ hw3) (C.2.2.2.2.2.1.2 t0 _ ht0).2 C.2.2.2.2.2.1 (by rw [show va_pl [] _ = ([] : va_W) from rfl, List.append_nil]; exact hW.1) (by rw [show va_pl [] _ = ([] : va_W) from rfl, List.append_nil]; exact hW.2.1) hW.2.2 C.2.2.2.2.2.2.1 (by decide) (by rw [Int32.lt_iff_toInt_lt, zI_t (by unfold I32; omega), Int32.toInt_zero]; omega) (by decide) (by rw [zI_cl (by unfold I32; omega)]; omega) (by decide) (by show K * 4 ≤ 536870912; omega) (by omega) (by decide) (by decide) hc hs (fun c0 => ?_) hdg (fun q r cX H1 hinj hnl hKx hP hD hS => ?_)
  · show ({ cls := c0, slots := Array.replicate K (.int 0), vm := .none } : Cell) = arrV c0 K (fun j => .int (fI (fun _ => 0) j))
    rw [arrV_new, zI_0]
    rfl
  · cases zK_in C.2.2.2.2.2.1 ht1 (fun C h => by cases h) hKx
    have e1 : va_pl (([] : List Nat) ++ (List.range 3).map r) (vr_up (fun _ => .inl (0, (0, .inl (fun _ => 0)))) ((List.range 3).map r) (.inl (cA, (K, .inl (fI (fun _ => 0)))))) = [(r 0, .inl (cA, K, .inl (fI (fun _ => 0)))), (r 1, .inl (cA, K, .inl (fI (fun _ => 0)))), (r 2, .inl (cA, K, .inl (fI (fun _ => 0))))] := by
      have e2 : (List.range 3).map r = [r 0, r 1, r 2] := rfl
      rw [e2]
      simp [va_pl, vr_up]
    rw [e1, g3_of, List.append_assoc] at hP hD
    exact kk q (r 0) (r 1) (r 2) H1 ⟨hP, hD, hS⟩
theorem zmna2 (C : zx p s m args meth c cc nL own D cl tys A) (hW : zw D cl A s ws H locs) (t0 t1 : Nat) {cA cB : ClassId} (ht0 : tys[t0]? = some (cA, .int)) (ht1 : tys[t1]? = some (cB, .array .int)) (hw1 : Cond.classLink own index "[[I" ∈ gW) (hw2 : Cond.arrayOver (.array .int) ∈ lw_tbl) (hw3 : Cond.arrayClass .int ∈ gW) {n k : Int} {K : Nat} (hn : n = 2) (hk : k = (K : Int)) (hK : K ≤ 100000) (hc : cells + (1 + 2) ≤ R.cells) (hs : slots + (2 + 2 * K) ≤ R.slots) (hdg : decode cc pc = .ok (.multianewarray index 2, 4))
    (kk : ∀ (q r0 r1 : Nat) (H1 : Heap), zw D cl A s (ws ++ [(q, .inl (cB, 2, .inr (.inr (.inr (.inr (g2 r0 r1)))))), (r0, .inl (cA, K, .inl (fI (fun _ => 0)))), (r1, .inl (cA, K, .inl (fI (fun _ => 0))))]) H1 locs → W p l e R s m args below meth c H1 locs (cells + 1 + 2) (slots + 2 + 2 * K) Q (F0 m (pc + 4) ls (.ref q :: rest))) : W p l e R s m args below meth c H locs cells slots Q (F0 m pc ls (.int (zI k) :: .int (zI n) :: rest)) := by
  subst hn; subst hk
  refine va_mna (X := ws) (L := []) (f := fun _ => .inl (0, (0, .inl (fun _ => 0)))) (ty := .int) (cy := cA) (N' := 2) (K' := K) (z := (K, .inl (fI (fun _ => 0)))) C.1 C.2.1 C.2.2.2.1 (C.2.2.2.2.1 _ hw1) (zOver C.2.2.2.2.2.2.2.2.1 hw2) (C.2.2.2.2.1 _ hw3) (C.2.2.2.2.2.1.2 t0 _ ht0).2 C.2.2.2.2.2.1 (by rw [show va_pl [] _ = ([] : va_W) from rfl, List.append_nil]; exact hW.1) (by rw [show va_pl [] _ = ([] : va_W) from rfl, List.append_nil]; exact hW.2.1) hW.2.2 C.2.2.2.2.2.2.1 (by decide) (by rw [Int32.lt_iff_toInt_lt, zI_t (by unfold I32; omega), Int32.toInt_zero]; omega) (by decide) (by rw [zI_cl (by unfold I32; omega)]; omega) (by decide) (by show K * 4 ≤ 536870912; omega) (by omega) (by decide) (by decide) hc hs (fun c0 => ?_) hdg (fun q r cX H1 hinj hnl hKx hP hD hS => ?_)
  · show ({ cls := c0, slots := Array.replicate K (.int 0), vm := .none } : Cell) = arrV c0 K (fun j => .int (fI (fun _ => 0) j))
    rw [arrV_new, zI_0]
    rfl
  · cases zK_in C.2.2.2.2.2.1 ht1 (fun C h => by cases h) hKx
    have e1 : va_pl (([] : List Nat) ++ (List.range 2).map r) (vr_up (fun _ => .inl (0, (0, .inl (fun _ => 0)))) ((List.range 2).map r) (.inl (cA, (K, .inl (fI (fun _ => 0)))))) = [(r 0, .inl (cA, K, .inl (fI (fun _ => 0)))), (r 1, .inl (cA, K, .inl (fI (fun _ => 0))))] := by
      have e2 : (List.range 2).map r = [r 0, r 1] := rfl
      rw [e2]
      simp [va_pl, vr_up]
    rw [e1, g2_of, List.append_assoc] at hP hD
    exact kk q (r 0) (r 1) H1 ⟨hP, hD, hS⟩
end ZMake

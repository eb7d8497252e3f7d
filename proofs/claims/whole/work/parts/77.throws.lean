/-! THROWS: a method that ends by throwing; the heap as it is now, seen as a start -/
def zEndT (st : State) (o : Outcome) (t : State) (L : List Loc) (k n : Nat) : Prop := (∃ x, o = .threw x) ∧ st.WarmedH t.vm ∧ st.sameButNew ({ t with vm := st.vm } : State) L k n
def MetT (l : Launch) (y : MethodName) (ws : List Cond) (rm : Room) (Pc : Array Value → State → Prop) (Qc : Array Value → State → Outcome → State → Prop) (mc ms : Nat) (free : Addr → Prop) : Prop :=
  MetFree l y (headSpec ws rm) Pc (fun _ _ _ _ _ => True) (fun a st o t => Qc a st o t ∧ ∃ L, zEndT st o t L mc ms ∧ ∀ q ∈ L, free q.base)
def MQT (below : List Frame) (Qc : Array Value → State → Outcome → State → Prop) (a : Array Value) (s : State) (mc ms : Nat) (free : Addr → Prop) : State → Prop := fun t =>
  ∃ o, t.status = .running ∧ Ended t below o ∧ Qc a s o t ∧ ∃ L, zEndT s o t L mc ms ∧ ∀ q ∈ L, free q.base
/-- the object that is thrown: new, of class X; and the world behind it -/
def zThr (X : String) (post : va_W → Prop) (B : va_W → State → Prop) (A : Nat → Prop) : Array Value → State → Outcome → State → Prop := fun _ st oc t =>
  (∃ (x : Nat) (cell : Cell) (w : va_W), oc = .threw x ∧ st.heap.size ≤ x ∧ t.heap[x]? = some cell ∧ cell.vm = .none ∧ st.vm.findClass X = some cell.cls ∧ post w ∧ B w t) ∧ va_F A st t
section ZRe
variable {p : Program} {l : Launch} {e : Env} {R : Room} {s : State} {m : MethodId} {args : Array Value} {below : List Frame} {meth : Method} {c : Code} {T : State} {locs : List Loc} {cells slots : Nat}
def zAt (s T : State) : State := { s with heap := T.heap, slotsUsed := T.slotsUsed }
def zLess (R : Room) (cells slots : Nat) : Room := { R with cells := R.cells - cells, slots := R.slots - slots }
theorem zRe (Y : Stand p l e R s m args below meth c T locs cells slots) (hc : cells ≤ R.cells) (hs : slots ≤ R.slots) : Stand p l e (zLess R cells slots) (zAt s T) m args below meth c T [] 0 0 := by
  have hr := Y.room
  have e0 : T.heap.toList.drop T.heap.size = [] := List.drop_eq_nil_of_le (by rw [Array.length_toList]; exact Nat.le_refl _)
  have h1 := Y.heapSize
  have h2 := Y.used
  refine ⟨Y.admits, Y.cas, Y.clock, Y.frames, ?_, Y.hears, Y.method, Y.code, Y.here, Y.tail, Y.warmed, Y.limits, Y.bytes, ?_⟩
  · simp only [State.hasRoom, Bool.and_eq_true, decide_eq_true_eq] at hr ⊢
    refine ⟨⟨⟨⟨hr.1.1.1.1, hr.1.1.1.2⟩, ?_⟩, ?_⟩, Y.book⟩
    · have := hr.1.1.2
      show T.heap.size + (R.cells - cells) ≤ _
      omega
    · have := hr.1.2
      show T.slotsUsed + (R.slots - slots) ≤ _
      omega
  · refine ⟨Y.same.1, Nat.le_refl _, Nat.le_refl _, ?_, ?_, fun a cell h => ⟨cell, h, rfl, rfl, fun _ _ => rfl⟩⟩
    · show T.slotsUsed = T.slotsUsed + ((T.heap.toList.drop T.heap.size).map (·.slots.size)).sum
      rw [e0]
      rfl
    · show ((T.heap.toList.drop T.heap.size).map (·.slots.size)).sum ≤ 0
      rw [e0]
      exact Nat.le_refl _
/-- nothing of the heap has changed -/
theorem zKept {s1 s2 : State} {k n : Nat} (h : s1.sameButNew s2 [] k n) {a : Nat} {cell : Cell} (ha : s1.heap[a]? = some cell) : s2.heap[a]? = some cell := by
  obtain ⟨c2, h1, h2, h3, h4⟩ := h.2.2.2.2.2 a cell ha
  have e : c2.slots = cell.slots := Array.ext_getElem? (fun i => h4 i (by simp))
  rw [h1, h2, e]
/-- back to the start itself -/
theorem zBack (Y : Stand p l e R s m args below meth c T locs cells slots) {U : State} {k n : Nat} (h : (zAt s T).sameButNew ({ U with vm := (zAt s T).vm } : State) [] k n) : s.sameButNew ({ U with vm := s.vm } : State) locs (cells + k) (slots + n) := by
  have h0 : (T.setVm s.vm).sameButNew ({ U with vm := s.vm } : State) [] k n := by
    obtain ⟨e1, e2⟩ := h
    refine ⟨?_, e2⟩
    have e3 := Y.same.1
    rw [e3]
    refine e1.trans ?_
    show _ = ({ (({ s.setFrames (T.setVm s.vm).frames with heap := (T.setVm s.vm).heap, slotsUsed := (T.setVm s.vm).slotsUsed } : State).setFrames U.frames) with heap := U.heap, slotsUsed := U.slotsUsed } : State)
    have e4 : ((s.setFrames (T.setVm s.vm).frames).setFrames U.frames) = s.setFrames U.frames := State.setFrames_setFrames _ _ _
    have e5 : (({ s.setFrames (T.setVm s.vm).frames with heap := (T.setVm s.vm).heap, slotsUsed := (T.setVm s.vm).slotsUsed } : State).setFrames U.frames) = ({ ((s.setFrames (T.setVm s.vm).frames).setFrames U.frames) with heap := (T.setVm s.vm).heap, slotsUsed := (T.setVm s.vm).slotsUsed } : State) := rfl
    rw [e5, e4]
    rfl
  have h1 := State.sameButNew.trans Y.same h0
  rw [List.append_nil] at h1
  exact h1
/-- what a static holds -/
theorem zStat {s1 s2 : State} (hv : s2.vm = s1.vm) (hh : ∀ (q : Nat) (cell : Cell), s1.heap[q]? = some cell → s2.heap[q]? = some cell) {C n d : String} {v : Value} {a1 a2 : Array Value} (h : (Term.static C n d).eval a1 s1 none [] s1 = some v) : (Term.static C n d).eval a2 s2 none [] s2 = some v := by
  have e0 : s2.fieldNamed? C n d true = s1.fieldNamed? C n d true := by
    unfold State.fieldNamed? State.fieldFound?
    rw [hv]
  simp only [Term.eval] at h ⊢
  rw [e0]
  cases hf : s1.fieldNamed? C n d true with
  | none => rw [hf] at h; cases h
  | some r =>
    rw [hf] at h
    obtain ⟨c0, k, slot⟩ := r
    cases hk : k.statics with
    | none => simp [hk] at h
    | some q =>
      cases hq : s1.heap[q]? with
      | none => simp [hk, hq] at h
      | some cell =>
        have e1 := hh q cell hq
        by_cases hi : cell.vm.isStatics = true
        · simp [hk, hq, hi] at h
          simp [hk, e1, hi, h]
        · simp [hk, hq, hi] at h
theorem zIsRef {s1 s2 : State} (hv : s2.vm = s1.vm) (hh : ∀ (q : Nat) (cell : Cell), s1.heap[q]? = some cell → s2.heap[q]? = some cell) {C n d : String} {a1 a2 : Array Value} (h : (Cond.isRef (.static C n d)).before a1 s1 = true) : (Cond.isRef (.static C n d)).before a2 s2 = true := by
  simp only [Cond.before, Cond.holds, Cond.value] at h ⊢
  cases hv2 : (Term.static C n d).eval a1 s1 none [] s1 with
  | none => rw [hv2] at h; simp at h
  | some v => rw [hv2] at h; rw [zStat hv hh hv2 (a2 := a2)]; exact h
end ZRe
section ZThrowRow
variable {p : Program} {l : Launch} {e : Env} {R : Room} {s : State} {m : MethodId} {args : Array Value} {below : List Frame} {meth : Method} {c : Code} {H : Heap} {locs : List Loc} {cells slots : Nat} {Q : State → Prop}
variable {cc : ByteArray} {pc nL : Nat} {own : String} {ls : Array Slot} {rest : List Value} {D : va_G} {cl : List vw_C} {A : Nat → Prop} {tys : List (ClassId × FieldType)} {ws : va_W} {mc ms : Nat}
theorem zNoH (hx : c.exceptionTable.isEmpty = true) (pc : Nat) : ∀ x ∈ c.exceptionTable.toList, covers x pc = false := by
  intro x h
  rw [Array.isEmpty_iff.mp hx] at h
  cases h
/-- what is thrown has left nothing of the world changed -/
theorem zPayT (C : zx p s m args meth c cc nL own D cl tys A) (hW : zw D cl A s ws H locs) {X : String} {post : va_W → Prop} (hp : post ws) {T U : State} (hT : T.heap = H) (Y : Stand p l e R s m args below meth c T locs cells slots) (hc : cells + 1 ≤ mc) (hs : slots + 6 ≤ ms)
    {x : Nat} {cell : Cell} (hrun : U.status = .running) (hend : Ended U below (.threw x)) (hWm : s.WarmedH U.vm) (hsame : (zAt s T).sameButNew ({ U with vm := (zAt s T).vm } : State) [] 1 6) (hxn : T.heap.size ≤ x) (hce : U.heap[x]? = some cell) (hvm : cell.vm = .none) (hcl : s.vm.findClass X = some cell.cls) :
    MQT below (zThr X post (fun w t => Za D cl tys A w t) A) args s mc ms A U := by
  subst hT
  have hk : ∀ (a : Nat) (c0 : Cell), T.heap[a]? = some c0 → U.heap[a]? = some c0 := fun a c0 h => zKept hsame h
  have hle : s.heap.size ≤ T.heap.size := hW.2.2.1
  have hle2 : T.heap.size ≤ U.heap.size := hsame.2.1
  have hkq : ∀ q : Nat, q < T.heap.size → U.heap[q]? = T.heap[q]? := fun q hq => by
    have h1 : T.heap[q]? = some T.heap[q] := Array.getElem?_eq_getElem hq
    rw [h1]
    exact hk q _ h1
  have hsm := (zBack Y hsame).mono hc hs
  refine ⟨.threw x, hrun, hend, ⟨⟨x, cell, ws, rfl, by omega, hce, hvm, hcl, hp, ?_, va_K.moved hWm.alike C.2.2.2.2.2.1, hW.2.1⟩, by omega, fun q h1 h2 => ?_⟩, locs, ⟨⟨x, rfl⟩, hWm, hsm⟩, hW.2.2.2.2⟩
  · exact hW.1.kept (fun k q h => hkq q.1 (hW.1 k q h).lt)
  · rw [hkq q (by omega)]
    exact hW.2.2.2.1 q h1 h2
/-- a word that a throw rests on: of the tables, or of a static -/
def zTab : Cond → Bool
  | .castable .. => true
  | .declares .. => true
  | .superclass .. => true
  | .codeSync .. => true
  | .laysStatic .. => true
  | .native .. => true
  | _ => false
def zAtom (a : Cond) : Prop := a ∈ gW ∨ (a ∈ lw_tbl ∧ zTab a = true) ∨ ∃ C n d, a = Cond.isRef (.static C n d) ∧ ∀ (b : Nat) (s0 : State), (Jvm.Cond.and given_1 narrow_1).before #[Value.ref b] s0 = true → a.before #[Value.ref b] s0 = true
theorem zLaySt {s1 s2 : State} (hv : s2.vm = s1.vm) (hh : ∀ (q : Nat) (cell : Cell), s1.heap[q]? = some cell → s2.heap[q]? = some cell) {C n d : String} {a1 a2 : Array Value} (h : (Cond.laysStatic C n d).before a1 s1 = true) : (Cond.laysStatic C n d).before a2 s2 = true := by
  have e0 : s2.fieldFound? C n d = s1.fieldFound? C n d := by
    unfold State.fieldFound?
    rw [hv]
  simp only [Cond.before, Cond.holds, Cond.value] at h ⊢
  rw [e0, hv]
  cases hc : s1.vm.findClass C with
  | none => simp [hc] at h
  | some c0 =>
    cases hf : s1.fieldFound? C n d with
    | none => simp [hc, hf] at h
    | some r =>
      obtain ⟨c1, k, i, f⟩ := r
      cases hk : k.statics with
      | none => simp [hc, hf, hk] at h
      | some q =>
        cases hq : s1.heap[q]? with
        | none => simp [hc, hf, hk, hq] at h
        | some cell =>
          have e1 := hh q cell hq
          simp only [hc, hf, hk, hq, Option.bind_some, Option.map_some] at h
          simp only [hk, e1, Option.bind_some, Option.map_some]
          exact h
/-- the law's start, seen now -/
theorem zN_s0 {D : va_G} {s U : State} {A : Nat → Prop} {locs : List Loc} (h : zN D s) (hA : ∀ q : Nat, A q → zb D ≤ q) (hS : va_S A s.heap U.heap locs) (hv : U.vm = s.vm) : ∃ (s0 : State) (b : Nat), (∀ w ∈ lw_tbl, w.before #[Value.ref b] s0 = true) ∧ (Jvm.Cond.and given_1 narrow_1).before #[Value.ref b] s0 = true ∧ s0.WarmedH U.vm ∧ ∀ (q : Nat) (cell : Cell), (s0.setVm U.vm).heap[q]? = some cell → U.heap[q]? = some cell := by
  obtain ⟨s0, ⟨b, h1, h2⟩, h3, h4, h5, hWm⟩ := h
  refine ⟨s0, b, h1, h2, by rw [hv]; exact hWm, fun q cell hq => ?_⟩
  have hlt : q < zb D := by rw [← h3]; exact (Array.getElem?_eq_some_iff.mp hq).1
  rw [hS.2.1 q (Nat.lt_of_lt_of_le hlt h4) (fun z => Nat.not_le.mpr hlt (hA q z)), h5 q hlt]
  exact hq
theorem zTab_on {s0 U : State} {b : Nat} (hWm : s0.WarmedH U.vm) (hh : ∀ (q : Nat) (cell : Cell), (s0.setVm U.vm).heap[q]? = some cell → U.heap[q]? = some cell) {a : Cond} (h2 : a.before #[Value.ref b] s0 = true) (hz : zTab a = true) {args : Array Value} : a.before args U = true := by
  cases a <;> first | (exact Cond.before_shiftedFace (State.Shifted.of_warmed hWm) _ rfl h2) | (exact zLaySt (s1 := s0.setVm U.vm) (s2 := U) rfl hh (Cond.before_shiftedFace (State.Shifted.of_warmed hWm) _ rfl h2)) | (exact absurd hz (by simp [zTab]))
/-- a text of the tables -/
theorem zText {D : va_G} {U : State} (h : zN D U) {own tx : String} {i1 : Nat} (hw : Cond.stringRef own i1 tx ∈ lw_tbl) : ∃ q0 : Nat, vk_R own i1 tx q0 U := by
  obtain ⟨s0, ⟨b, h1, -⟩, -, -, -, hWm⟩ := h
  have h2 := h1 _ hw
  have h3 : ∃ q0 : Nat, (Term.string own i1).eval #[] s0 none [] s0 = some (.ref q0) := by
    cases hc : s0.vm.findClass own with
    | none =>
      simp only [Cond.before, Cond.holds, Cond.value] at h2
      simp [State.resolvedAt?, hc] at h2
    | some cc =>
      obtain ⟨k, cf, i, a, -, -, -, -, -, hev⟩ := Cond.stringRef_spec hc h2
      exact ⟨a, hev⟩
  obtain ⟨q0, h3⟩ := h3
  exact ⟨q0, vk_R.warm hWm ⟨h2, h3⟩⟩
/-- new X(text); athrow: nobody here catches it -/
theorem zthrow (C : zx p s m args meth c cc nL own D cl tys A) (hW : zw D cl A s ws H locs) (hx : c.exceptionTable.isEmpty = true) (hl : l.stackTraces = false) (hsz : ls.size = nL)
    {X : String} {names : List String} {i0 i1 i2 : Nat} {tx : String} (hX : Bundle.fit X = true) (hN : ∀ n ∈ names, Bundle.fit n = true)
    (hk : inT [.classLink own i0 X, .instantiable X 6, .initialized X])
    (hat : ∀ a ∈ Bundle.ownAtoms own i2 X names, zAtom a) (hstr : Cond.stringRef own i1 tx ∈ lw_tbl)
    {post : va_W → Prop} (hQ : ∀ t, MQT below (zThr X post (fun w t => Za D cl tys A w t) A) args s mc ms A t → Q t) (hp : post ws)
    (hc : cells + 1 ≤ mc) (hs : slots + 6 ≤ ms) (hRc : mc ≤ R.cells) (hRs : ms ≤ R.slots) (hRf : names.length + 3 < R.frames) (hRl : (rest.map fun v => v.category).sum + (13 * (names.length + 1) + 43) ≤ R.locals)
    (d0 : decode cc pc = .ok (.new i0, 3)) (d1 : decode cc (pc + 3) = .ok (.dup, 1)) (d2 : decode cc (pc + 3 + 1) = .ok (.ldc i1, 2)) (d3 : decode cc (pc + 3 + 1 + 2) = .ok (.invokespecial i2, 3)) (d4 : decode cc (pc + 3 + 1 + 2 + 3) = .ok (.athrow, 1)) :
    W p l e R s m args below meth c H locs cells slots Q (F0 m pc ls rest) := by
  intro T hT Y
  have Y2 := zRe Y (by omega) (by omega)
  have hlk : meth.locks = false := C.2.2.2.2.2.2.2.1
  have htr : e.platform.stackTraces = false := by rw [Y.admits.platform]; exact hl
  have hb : ∀ w, goodWord w = true → w.before args s = true → w.before args (zAt s T) = true := fun w g h => word_at (s := s) (U := zAt s T) (State.WarmedH.refl s) (good_of_word g) h
  have hb2 : ∀ w, w ∈ gW → w.before args (zAt s T) = true := fun w h => hb w (gW_in h).2 (C.2.2.2.2.1 w h)
  have hk1 : (Cond.classLink own i0 X).before args (zAt s T) = true := hb2 _ (hk _ (by simp))
  have hk2 : (Cond.instantiable X 6).before args (zAt s T) = true := hb2 _ (hk _ (by simp))
  have hk3 : (Cond.initialized X).before args (zAt s T) = true := hb2 _ (hk _ (by simp))
  have hown : (zAt s T).vm.findClass own = some m.cls := C.2.2.2.1
  obtain ⟨q0, hq0⟩ := zText C.2.2.2.2.2.2.2.2.1 hstr
  obtain ⟨s0, b, g1, g2, g3, g4⟩ := zN_s0 (U := zAt s T) C.2.2.2.2.2.2.2.2.1 C.2.2.2.2.2.2.2.2.2 (locs := locs) (by show va_S A s.heap T.heap locs; rw [hT]; exact hW.2.2) rfl
  have hat2 : ∀ a ∈ Bundle.ownAtoms own i2 X names, a.before args (zAt s T) = true := fun a h => by
    rcases hat a h with h1 | ⟨h1, hz⟩ | ⟨C0, n0, e0, rfl, h1⟩
    · exact hb a (gW_in h1).2 (C.2.2.2.2.1 a h1)
    · exact zTab_on g3 g4 (g1 a h1) hz
    · exact zIsRef (s1 := s0.setVm (zAt s T).vm) (s2 := zAt s T) rfl g4 (Cond.before_shiftedFace (State.Shifted.of_warmed g3) _ rfl (h1 b s0 g2))
  have w : W p l e (zLess R cells slots) (zAt s T) m args below meth c T.heap [] 0 0 (fun U => ∃ (x : Nat) (cell : Cell), U.status = .running ∧ Ended U below (.threw x) ∧ (zAt s T).WarmedH U.vm ∧ (zAt s T).sameButNew ({ U with vm := (zAt s T).vm } : State) [] 1 6 ∧ T.heap.size ≤ x ∧ U.heap[x]? = some cell ∧ cell.vm = .none ∧ (zAt s T).vm.findClass X = some cell.cls) (F0 m pc ls rest) := by
    refine W.newc (s := zAt s T) (own := own) (C := X) (index := i0) (n := 6) C.1 C.2.1 hown hk1 hk2 hk3 rfl d0 (by show 0 + 1 ≤ R.cells - cells; omega) (by show 0 + 6 ≤ R.slots - slots; omega) ?_
    intro cC kC h1 h2 h3 h4
    refine lv_dup C.1 C.2.1 d1 rfl ?_
    refine va_ldcS (s := zAt s T) C.1 C.2.1 hown (vk_R.same (u := s) (U := zAt s T) rfl hq0) d2 ?_
    intro T1 hT1 Y1
    obtain ⟨U, st, hrun, hend, hWm, hsame, ce, hce, hO⟩ := Y1.ctorThrowS C.1 htr hown hX hN hat2 (fun x h => by cases h) (a := T.heap.size) h1 h2 (by rw [hT1]; simp [freshCell]) (Nat.le_refl _) (msg := .ref q0) rfl (g := F0 m (pc + 3 + 1 + 2) ls (.ref q0 :: .ref T.heap.size :: .ref T.heap.size :: rest)) rfl (hsz.trans C.2.2.1.symm) rfl rfl (rest := rest) rfl (by rw [C.2.1]; exact d3) (by rw [C.2.1]; exact d4) (zNoH hx _) (by show names.length + 3 < R.frames; exact hRf) (by show 2 * 0 + (1 + (rest.map fun v => v.category).sum) + _ ≤ R.locals; omega) hlk
    exact ⟨U, st, _, ce, hrun, hend, hWm, hsame, Nat.le_refl _, hce, hO.vm, hO.cls⟩
  obtain ⟨U, st, x, cell, h1, h2, h3, h4, h5, h6, h7, h8⟩ := w T rfl Y2
  exact ⟨U, st, hQ U (zPayT C hW hp hT Y hc hs h1 h2 h3 h4 h5 h6 h7 h8)⟩
/-- a text by ldc_w -/
theorem zldcwS (hexec : p.tables.exec = Jvm.exec) (hb : c.code = cc) {own tx : String} {index q : Nat} (hown : s.vm.findClass own = some m.cls) (hZ : vk_R own index tx q s) (hdg : decode cc pc = .ok (.ldc_w index, 3))
    (kk : W p l e R s m args below meth c H locs cells slots Q (F0 m (pc + 3) ls (.ref q :: rest))) : W p l e R s m args below meth c H locs cells slots Q (F0 m pc ls rest) := by
  intro T hT Y
  obtain ⟨t, a1, b1⟩ := kk T hT Y
  exact ⟨t, Y.ldcStringW hexec hown (text := tx) (a := q) hZ.1 hZ.2 (g := F0 m pc ls rest) rfl (by rw [hb]; exact hdg) t a1, b1⟩
/-- the same, the text by ldc_w -/
theorem zthroww (C : zx p s m args meth c cc nL own D cl tys A) (hW : zw D cl A s ws H locs) (hx : c.exceptionTable.isEmpty = true) (hl : l.stackTraces = false) (hsz : ls.size = nL)
    {X : String} {names : List String} {i0 i1 i2 : Nat} {tx : String} (hX : Bundle.fit X = true) (hN : ∀ n ∈ names, Bundle.fit n = true)
    (hk : inT [.classLink own i0 X, .instantiable X 6, .initialized X])
    (hat : ∀ a ∈ Bundle.ownAtoms own i2 X names, zAtom a) (hstr : Cond.stringRef own i1 tx ∈ lw_tbl)
    {post : va_W → Prop} (hQ : ∀ t, MQT below (zThr X post (fun w t => Za D cl tys A w t) A) args s mc ms A t → Q t) (hp : post ws)
    (hc : cells + 1 ≤ mc) (hs : slots + 6 ≤ ms) (hRc : mc ≤ R.cells) (hRs : ms ≤ R.slots) (hRf : names.length + 3 < R.frames) (hRl : (rest.map fun v => v.category).sum + (13 * (names.length + 1) + 43) ≤ R.locals)
    (d0 : decode cc pc = .ok (.new i0, 3)) (d1 : decode cc (pc + 3) = .ok (.dup, 1)) (d2 : decode cc (pc + 3 + 1) = .ok (.ldc_w i1, 3)) (d3 : decode cc (pc + 3 + 1 + 3) = .ok (.invokespecial i2, 3)) (d4 : decode cc (pc + 3 + 1 + 3 + 3) = .ok (.athrow, 1)) :
    W p l e R s m args below meth c H locs cells slots Q (F0 m pc ls rest) := by
  intro T hT Y
  have Y2 := zRe Y (by omega) (by omega)
  have hlk : meth.locks = false := C.2.2.2.2.2.2.2.1
  have htr : e.platform.stackTraces = false := by rw [Y.admits.platform]; exact hl
  have hb : ∀ w, goodWord w = true → w.before args s = true → w.before args (zAt s T) = true := fun w g h => word_at (s := s) (U := zAt s T) (State.WarmedH.refl s) (good_of_word g) h
  have hb2 : ∀ w, w ∈ gW → w.before args (zAt s T) = true := fun w h => hb w (gW_in h).2 (C.2.2.2.2.1 w h)
  have hk1 : (Cond.classLink own i0 X).before args (zAt s T) = true := hb2 _ (hk _ (by simp))
  have hk2 : (Cond.instantiable X 6).before args (zAt s T) = true := hb2 _ (hk _ (by simp))
  have hk3 : (Cond.initialized X).before args (zAt s T) = true := hb2 _ (hk _ (by simp))
  have hown : (zAt s T).vm.findClass own = some m.cls := C.2.2.2.1
  obtain ⟨q0, hq0⟩ := zText C.2.2.2.2.2.2.2.2.1 hstr
  obtain ⟨s0, b, g1, g2, g3, g4⟩ := zN_s0 (U := zAt s T) C.2.2.2.2.2.2.2.2.1 C.2.2.2.2.2.2.2.2.2 (locs := locs) (by show va_S A s.heap T.heap locs; rw [hT]; exact hW.2.2) rfl
  have hat2 : ∀ a ∈ Bundle.ownAtoms own i2 X names, a.before args (zAt s T) = true := fun a h => by
    rcases hat a h with h1 | ⟨h1, hz⟩ | ⟨C0, n0, e0, rfl, h1⟩
    · exact hb a (gW_in h1).2 (C.2.2.2.2.1 a h1)
    · exact zTab_on g3 g4 (g1 a h1) hz
    · exact zIsRef (s1 := s0.setVm (zAt s T).vm) (s2 := zAt s T) rfl g4 (Cond.before_shiftedFace (State.Shifted.of_warmed g3) _ rfl (h1 b s0 g2))
  have w : W p l e (zLess R cells slots) (zAt s T) m args below meth c T.heap [] 0 0 (fun U => ∃ (x : Nat) (cell : Cell), U.status = .running ∧ Ended U below (.threw x) ∧ (zAt s T).WarmedH U.vm ∧ (zAt s T).sameButNew ({ U with vm := (zAt s T).vm } : State) [] 1 6 ∧ T.heap.size ≤ x ∧ U.heap[x]? = some cell ∧ cell.vm = .none ∧ (zAt s T).vm.findClass X = some cell.cls) (F0 m pc ls rest) := by
    refine W.newc (s := zAt s T) (own := own) (C := X) (index := i0) (n := 6) C.1 C.2.1 hown hk1 hk2 hk3 rfl d0 (by show 0 + 1 ≤ R.cells - cells; omega) (by show 0 + 6 ≤ R.slots - slots; omega) ?_
    intro cC kC h1 h2 h3 h4
    refine lv_dup C.1 C.2.1 d1 rfl ?_
    refine zldcwS (s := zAt s T) C.1 C.2.1 hown (vk_R.same (u := s) (U := zAt s T) rfl hq0) d2 ?_
    intro T1 hT1 Y1
    obtain ⟨U, st, hrun, hend, hWm, hsame, ce, hce, hO⟩ := Y1.ctorThrowS C.1 htr hown hX hN hat2 (fun x h => by cases h) (a := T.heap.size) h1 h2 (by rw [hT1]; simp [freshCell]) (Nat.le_refl _) (msg := .ref q0) rfl (g := F0 m (pc + 3 + 1 + 3) ls (.ref q0 :: .ref T.heap.size :: .ref T.heap.size :: rest)) rfl (hsz.trans C.2.2.1.symm) rfl rfl (rest := rest) rfl (by rw [C.2.1]; exact d3) (by rw [C.2.1]; exact d4) (zNoH hx _) (by show names.length + 3 < R.frames; exact hRf) (by show 2 * 0 + (1 + (rest.map fun v => v.category).sum) + _ ≤ R.locals; omega) hlk
    exact ⟨U, st, _, ce, hrun, hend, hWm, hsame, Nat.le_refl _, hce, hO.vm, hO.cls⟩
  obtain ⟨U, st, x, cell, h1, h2, h3, h4, h5, h6, h7, h8⟩ := w T rfl Y2
  exact ⟨U, st, hQ U (zPayT C hW hp hT Y hc hs h1 h2 h3 h4 h5 h6 h7 h8)⟩
end ZThrowRow
/-! CALLS of methods that throw -/
section ZCallT
variable {p : Program} {l : Launch} {e : Env} {R : Room} {s : State} {m : MethodId} {args : Array Value} {below : List Frame} {meth : Method} {c : Code} {T : State} {H : Heap} {locs : List Loc} {cells slots : Nat} {Q : State → Prop}
/-- the callee has thrown: the note lies over the caller's frame -/
theorem backT (Y : Stand p l e R s m args below meth c T locs cells slots) {y : MethodName} {ws : List Cond} {rm : Room} {Pc : Array Value → State → Prop} {Qc : Array Value → State → Outcome → State → Prop} {mc ms : Nat} {free : Addr → Prop} {bytes : ByteArray} {maxL : Nat} {ret : Option FieldType}
    (hM : MetT l y ws rm Pc Qc mc ms free) (hrc : rm.cells = mc) (hrs : rm.slots = ms) (hfr : rm.frames + 1 ≤ R.frames) (hlo : 8 + (maxL + 11) + rm.locals ≤ R.locals)
    (hws : ∀ w ∈ ws, ∀ (a' : Array Value) (U : State), s.WarmedH U.vm → w.before a' U = true) (hcode : Cond.code y bytes maxL ret ∈ ws) (hini : ∀ (a' : Array Value) (U : State), s.WarmedH U.vm → (Cond.initialized y.cls).before a' U = true) (hf : cells + mc ≤ R.cells ∧ slots + ms ≤ R.slots)
    {g : JFrame} (hg : g.method = m) (hsize : g.locals.size = c.maxLocals) {ig : Instr} {len : Nat} (hdg : decode c.code g.pc = .ok (ig, len)) (hW8 : 2 * g.monitorRoom + (g.stack.map fun v => v.category).sum ≤ 8) {mk : MethodId} (hn : T.methodNamed? y = some mk) {a : Array Value} (hP : Pc a (T.calling g mk a)) :
    ∃ (x : Addr) (t T' : State) (L : List Loc), Stand p l e R s m args below meth c T' (locs ++ L) (cells + mc) (slots + ms) ∧ (∀ q ∈ L, free q.base) ∧ T'.heap = t.heap ∧ Qc a (T.calling g mk a) (.threw x) t ∧ Steps p.tables e below (doInvoke e (T.setTop g) [] mk a).1 ((T'.setTop g).pushFrame (.throwing x)) := by
  have here : At T g.method c below := by rw [hg]; exact Y.here
  obtain ⟨mY, cY, e1, e2, -, e3, -⟩ := Cond.code_spec hn (hws _ hcode a T Y.warmed)
  obtain ⟨kY, hkY, -⟩ := className_of_methodNamed hn
  have hroom := Y.room_calling (g := g) (R' := rm) (args' := a) hsize e1 e2 hfr (by rw [e3]; omega) (by omega) (by omega)
  have happ : (headSpec ws rm).appliesLoose y e.platform (T.calling g mk a) = true :=
    Spec.appliesLoose_calling (g := g) here hdg hn hkY (Cond.initialized_spec (findClass_of_methodNamed hn) hkY (hini a T Y.warmed)) hroom (atoms_intro fun w hw => hws w hw _ _ Y.warmed)
  obtain ⟨mid, hmid⟩ := here.above
  obtain ⟨o, t, hsteps, -, hend, hq, L, ⟨⟨x, rfl⟩, hWm, hsame⟩, hL⟩ := Steps.callFree hM p Y.admits Y.cas Y.clock (acts := []) (show (T.setTop g).frames = (.java g :: mid) ++ below by rw [State.frames_setTop' g here.top, hmid]; rfl) happ hP trivial
  rw [State.frames_setTop' g here.top, Y.tail] at hend
  obtain ⟨T', Y', -, -, ht⟩ := Y.outOfThrown hg hend hWm hsame
  refine ⟨x, t, T', L, Y', hL, ?_, hq, ht ▸ hsteps⟩
  rw [ht, Stand.throwing_heap]
def zRunX (p : Program) (l : Launch) (e : Env) (R : Room) (s : State) (m : MethodId) (args : Array Value) (below : List Frame) (meth : Method) (c : Code) (H : Heap) (locs : List Loc) (cells slots mc ms : Nat) (g : JFrame) (rest : List Value) (Qa : State → Outcome → State → Prop) (free : Addr → Prop) : Prop :=
  ∀ T : State, T.heap = H → Stand p l e R s m args below meth c T locs cells slots → ∃ (x : Addr) (st₀ t T' : State) (L : List Loc), st₀.heap = H ∧ s.WarmedH st₀.vm ∧ Stand p l e R s m args below meth c T' (locs ++ L) (cells + mc) (slots + ms) ∧ (∀ q ∈ L, free q.base) ∧ T'.heap = t.heap ∧ Qa st₀ (.threw x) t ∧
    ∀ tg, Steps p.tables e below ((T'.setTop { g with stack := rest }).pushFrame (.throwing x)) tg → Steps p.tables e below (T.setTop g) tg
variable {cc : ByteArray} {pc nL index : Nat} {own : String} {ls : Array Slot} {rest : List Value} {D : va_G} {cl : List vw_C} {A : Nat → Prop} {tys : List (ClassId × FieldType)} {ws : va_W}
variable {y : MethodName} {b : ByteArray} {n k : Nat} {ret : Option FieldType} {d mc ms : Nat} {wc wr : va_W} {As : List Value} {b0 : Nat}
theorem zRunVT (C : zx p s m args meth c cc nL own D cl tys A) (hW : zw D cl A s ws H locs) {Qc : Array Value → State → Outcome → State → Prop} (hM : MetT l y (wY y b n ret) (zr d mc ms) (va_Pc (.ref b0 :: As) (Zb D cl tys wc H.size)) Qc mc ms (va_A wc H.size))
    (isC : List Nat) (hC : isC.map (fun i => ws[i]?) = wc.map some) (hnd : va_nd isC = true) (hT : inT (kV own index y b n ret)) (hd : dOk y k) (hR : fitsIn R d n) (q0 : Nat) {ci : Nat} {Tc : u_T} {N : Nat} {fs : List Value} (he : ws[q0]? = some (b0, .inr (ci, fs))) (hci : cl[ci]? = some (y.cls, Tc, N))
    (hn : As.length = k) (hsz : ls.size = nL) (hrest : (rest.map fun v => v.category).sum ≤ 8) (hdg : decode cc pc = .ok (.invokevirtual index, 3)) (hf : cells + mc ≤ R.cells ∧ slots + ms ≤ R.slots) :
    zRunX p l e R s m args below meth c H locs cells slots mc ms (F0 m pc ls (As.reverse ++ .ref b0 :: rest)) rest (Qc (Value.ref b0 :: As).toArray) (va_A wc H.size) := by
  intro T hTh Y
  have wd : ∀ w ∈ kV own index y b n ret, w.before args s = true := fun w h => C.2.2.2.2.1 w (hT w h)
  obtain ⟨cellB, hcB, hoB, hclB⟩ := va_recv C.2.2.2.2.2.1 hW.1 (q := (y.cls, Tc, N)) hci he
  obtain ⟨mk, mM, hnamed, hmM, hst, hab⟩ := Cond.instanceMethod_spec (wd (.instanceMethod y) (by simp [kV]))
  obtain ⟨mM', cM, hmM', -, -, -, -, -, -, hsig⟩ := Cond.code_spec hnamed (wd (.code y b n ret) (by simp [kV]))
  cases hmM.symm.trans hmM'
  obtain ⟨c2, r2, m2, q1, q2, q3, q4, kP, hkP, hkI⟩ := Cond.selects_spec (wd (.selects y.cls y y) (by simp [kV]))
  cases hclB.symm.trans q1
  cases (State.methodFound?_of_named hnamed ⟨hd.1, hd.2.1⟩).symm.trans q2
  cases hnamed.symm.trans q3
  have hsel : selectMethod e.platform s.vm cellB.cls mk = .method mk := by rw [Launch.admits_selectMethod Y.admits]; exact q4
  have hlen : As.length = mM.sig.parameters.length := by
    have h2 := hd.2.2
    rw [hsig] at h2
    rw [hn]
    exact (Option.some.inj h2).symm
  obtain ⟨vm₁, Y₁, step₁⟩ := Y.invokevirtual C.1 C.2.2.2.1 (wd (.methodLink own index y) (by simp [kV])) hnamed hmM hst hkP hkI ⟨hd.1, hd.2.1⟩ (a := b0) (cell := cellB) (by rw [hTh]; exact hcB) (fun z h => by rw [h] at hoB; cases hoB) hsel hmM hab hkP hkI (g := F0 m pc ls (As.reverse ++ .ref b0 :: rest)) rfl (argsL := As) (rest := rest) hlen rfl (by rw [C.2.1]; exact hdg)
  have hG : GoodIn gW (wY y b n ret) := gIn (fun w h => h) (wY_in (hT _ (by simp [kV])))
  obtain ⟨x, t, T', L, Y', hL, e1, hq, st⟩ := backT Y₁ (bytes := b) (maxL := n) (ret := ret) hM rfl rfl hR.1 hR.2 (pay_in C.2.2.2.2.1 hG) (by simp [wY]) (fun a' U hWm => word_at hWm (good_of_word (gW_in (hT (.initialized y.cls) (by simp [kV]))).2) (wd (.initialized y.cls) (by simp [kV]))) hf (g := { F0 m pc ls (As.reverse ++ .ref b0 :: rest) with stack := rest }) rfl (hsz.trans C.2.2.1.symm) (by rw [C.2.1]; exact hdg) (lv_room hrest) (Y₁.named hnamed) (a := (Value.ref b0 :: As).toArray) (Zb_blind _ _ _ _ (zPre C hW isC hC hnd (T.setVm vm₁) hTh Y₁.warmed))
  exact ⟨x, (T.setVm vm₁).calling { F0 m pc ls (As.reverse ++ .ref b0 :: rest) with stack := rest } mk (Value.ref b0 :: As).toArray, t, T', L, hTh, Y₁.warmed, Y', hL, e1, hq, fun tg h => step₁ _ fun acts => by rw [doInvoke_state]; exact st.trans h⟩
theorem zRunST (C : zx p s m args meth c cc nL own D cl tys A) (hW : zw D cl A s ws H locs) {Qc : Array Value → State → Outcome → State → Prop} (hM : MetT l y (wY y b n ret) (zr d mc ms) (va_Pc As (Zb D cl tys wc H.size)) Qc mc ms (va_A wc H.size))
    (isC : List Nat) (hC : isC.map (fun i => ws[i]?) = wc.map some) (hnd : va_nd isC = true) (hT : inT (kS own index y b n ret)) (hd : dOk y k) (hR : fitsIn R d n)
    (hn : As.length = k) (hsz : ls.size = nL) (hrest : (rest.map fun v => v.category).sum ≤ 8) (hdg : decode cc pc = .ok (.invokestatic index, 3)) (hf : cells + mc ≤ R.cells ∧ slots + ms ≤ R.slots) :
    zRunX p l e R s m args below meth c H locs cells slots mc ms (F0 m pc ls (As.reverse ++ rest)) rest (Qc As.toArray) (va_A wc H.size) := by
  intro T hTh Y
  have wd : ∀ w ∈ kS own index y b n ret, w.before args s = true := fun w h => C.2.2.2.2.1 w (hT w h)
  obtain ⟨mk, hnamed⟩ := Cond.code_named (wd (.code y b n ret) (by simp [kS]))
  obtain ⟨mM, cM, hmM, -, -, -, -, -, -, hsig⟩ := Cond.code_spec hnamed (wd (.code y b n ret) (by simp [kS]))
  obtain ⟨kP, hkP, -⟩ := className_of_methodNamed hnamed
  have hlen : As.length = mM.sig.parameters.length := by
    have h2 := hd.2.2
    rw [hsig] at h2
    rw [hn]
    exact (Option.some.inj h2).symm
  obtain ⟨vm₁, Y₁, step₁⟩ := Y.invokestatic C.1 C.2.2.2.1 (wd (.methodLink own index y) (by simp [kS])) hnamed hmM (Cond.static_spec hnamed hmM (wd (.static y) (by simp [kS]))) hkP (Cond.initialized_spec (findClass_of_methodNamed hnamed) hkP (wd (.initialized y.cls) (by simp [kS]))) ⟨hd.1, hd.2.1⟩ (g := F0 m pc ls (As.reverse ++ rest)) rfl (argsL := As) (rest := rest) hlen rfl (by rw [C.2.1]; exact hdg)
  have hG : GoodIn gW (wY y b n ret) := gIn (fun w h => h) (wY_in (hT _ (by simp [kS])))
  obtain ⟨x, t, T', L, Y', hL, e1, hq, st⟩ := backT Y₁ (bytes := b) (maxL := n) (ret := ret) hM rfl rfl hR.1 hR.2 (pay_in C.2.2.2.2.1 hG) (by simp [wY]) (fun a' U hWm => word_at hWm (good_of_word (gW_in (hT (.initialized y.cls) (by simp [kS]))).2) (wd (.initialized y.cls) (by simp [kS]))) hf (g := { F0 m pc ls (As.reverse ++ rest) with stack := rest }) rfl (hsz.trans C.2.2.1.symm) (by rw [C.2.1]; exact hdg) (lv_room hrest) (Y₁.named hnamed) (a := As.toArray) (Zb_blind _ _ _ _ (zPre C hW isC hC hnd (T.setVm vm₁) hTh Y₁.warmed))
  exact ⟨x, (T.setVm vm₁).calling { F0 m pc ls (As.reverse ++ rest) with stack := rest } mk As.toArray, t, T', L, hTh, Y₁.warmed, Y', hL, e1, hq, fun tg h => step₁ _ fun acts => by rw [doInvoke_state]; exact st.trans h⟩
/-- the world behind a call that threw -/
theorem zAfterT (C : zx p s m args meth c cc nL own D cl tys A) (hW : zw D cl A s ws H locs) (isC isR : List Nat) (hC : isC.map (fun i => ws[i]?) = wc.map some) (hR : isR.map (fun i => ws[i]?) = wr.map some) (hn : va_nd isR = true) (hdis : ∀ i ∈ isR, i ∉ isC)
    {w : va_W} {st₀ t : State} {L : List Loc} (h0 : st₀.heap = H) (hB : Za D cl tys (va_A wc H.size) w t) (hF : va_F (va_A wc H.size) st₀ t) (hL : ∀ q ∈ L, va_A wc H.size q.base) : zw D cl A s (wr ++ w) t.heap (locs ++ L) := by
  subst h0
  have hfr := va_free (wc := wc) hW.2.1 hW.2.2 C.2.2.2.2.2.2.1 isC hC
  refine zJoin C hW isC isR hC hR hn hdis rfl hB hF.2 ⟨Nat.le_trans hW.2.2.1 hF.1, fun q h1 h2 => ?_, fun q hq => ?_⟩
  · rw [hF.2 q (Nat.lt_of_lt_of_le h1 hW.2.2.1) (fun z => h2 (hfr q z))]
    exact hW.2.2.2.1 q h1 h2
  · rcases List.mem_append.mp hq with h | h
    · exact hW.2.2.2.2 q h
    · exact hfr _ (hL q h)
/-- nobody here catches what the callee threw -/
theorem zpropT (C : zx p s m args meth c cc nL own D cl tys A) (hW : zw D cl A s ws H locs) (hx : c.exceptionTable.isEmpty = true) (isC isR : List Nat) (hC : isC.map (fun i => ws[i]?) = wc.map some) (hR : isR.map (fun i => ws[i]?) = wr.map some) (hn : va_nd isR = true) (hdis : ∀ i ∈ isR, i ∉ isC)
    {X : String} {post1 post : va_W → Prop} {st0 : List Value} {av : Array Value} {mc1 ms1 : Nat} (hr : zRunX p l e R s m args below meth c H locs cells slots mc1 ms1 (F0 m pc ls st0) rest (zThr X post1 (fun w t => Za D cl tys (va_A wc H.size) w t) (va_A wc H.size) av) (va_A wc H.size))
    (hp : ∀ w, post1 w → post (wr ++ w)) (hQ : ∀ t, MQT below (zThr X post (fun w t => Za D cl tys A w t) A) args s mc ms A t → Q t) (hc : cells + mc1 ≤ mc) (hs : slots + ms1 ≤ ms) :
    W p l e R s m args below meth c H locs cells slots Q (F0 m pc ls st0) := by
  intro T hT Y
  obtain ⟨x, st₀, t, T', L, h0, hWm0, Y', hL, e1, ⟨⟨x', cell, w, hx', hnew, hcell, hvm, hcl, hp1, hB⟩, hF⟩, st⟩ := hr T hT Y
  cases hx'
  have hZ := zAfterT C hW isC isR hC hR hn hdis h0 hB hF hL
  obtain ⟨hwalk, hrun, hend, hWm, hsame⟩ := Y'.leaveThrown x (g := { F0 m pc ls st0 with stack := rest }) rfl rfl rfl (zNoH hx _) C.2.2.2.2.2.2.2.1
  refine ⟨_, st _ hwalk, hQ _ ⟨.threw x, hrun, hend, ⟨⟨x, cell, wr ++ w, rfl, ?_, ?_, hvm, ?_, hp w hp1, ?_, va_K.moved hWm.alike C.2.2.2.2.2.1, hZ.2.1⟩, ?_⟩, locs ++ L, ⟨⟨x, rfl⟩, hWm, hsame.mono hc hs⟩, hZ.2.2.2.2⟩⟩
  · rw [h0] at hnew; exact Nat.le_trans hW.2.2.1 hnew
  · show T'.heap[x]? = some cell
    rw [e1]; exact hcell
  · rw [← hWm0.alike.findClass]; exact hcl
  · show va_P D cl (wr ++ w) T'.heap
    rw [e1]; exact hZ.1
  · exact hZ.2.2.F (t := T'.setFrames (.throwing x :: below)) e1
end ZCallT
/-! the introduction of a contract that throws -/
section ZIntroT
variable {l : Launch} {y : MethodName} {b : ByteArray} {n : Nat} {ret : Option FieldType} {d mc ms : Nat} {D : va_G} {cl : List vw_C} {tys : List (ClassId × FieldType)} {av : List Value} {wc : va_W}
def Ct (l : Launch) (y : MethodName) (b : ByteArray) (n : Nat) (ret : Option FieldType) (d mc ms : Nat) (D : va_G) (cl : List vw_C) (tys : List (ClassId × FieldType)) (av : List Value) (wc : va_W) (X : String) (post : va_W → Prop) : Prop :=
  ∀ sz : Nat, MetT l y (wY y b n ret) (zr d mc ms) (va_Pc av (Zb D cl tys wc sz)) (zThr X post (fun w t => Za D cl tys (va_A wc sz) w t) (va_A wc sz)) mc ms (va_A wc sz)
theorem zBt {X : String} {post : va_W → Prop} (hy : plainName y.cls = true) (hn : (lg_sl av).length ≤ n)
    (body : ∀ (p : Program) (e : Env) (s : State) (m : MethodId) (args : Array Value) (below : List Frame) (meth : Method) (c : Code) (ls : Array Slot) (A : Nat → Prop) (H : Heap) (locs : List Loc) (Q : State → Prop), zx p s m args meth c b n y.cls D cl tys A → c.exceptionTable.isEmpty = true → lv_has ls n (lv_args 0 av) → zw D cl A s wc H locs →
      (∀ t, MQT below (zThr X post (fun w t => Za D cl tys A w t) A) args s mc ms A t → Q t) → W p l e (zr d mc ms) s m args below meth c H locs 0 0 Q (F0 m 0 ls [])) : Ct l y b n ret d mc ms D cl tys av wc X post := fun sz => by
  refine MetFree.of_bodyS (code := b) (maxLocals := n) (ret := ret) hy ?_ ?_
  · intro args s m h hnm
    obtain ⟨mM, c, h1, h2, h3, h4, h5, h6, -⟩ := Cond.code_spec hnm (atoms_spec (ws := wY y b n ret) h _ List.mem_cons_self)
    exact ⟨mM, c, h1, h2, h3, h4, h5, h6⟩
  · intro p e s m args below meth c s₁ B hml hv _
    obtain ⟨rfl, hsz, hP, hK, hD0, hN⟩ := hv
    have hts := atoms_spec (ws := wY y b n ret) B.pre
    have hne := B.noHandlers (hts _ List.mem_cons_self)
    have hown : s.vm.findClass y.cls = some m.cls := findClass_of_methodNamed B.named
    have h0 : s₁.heap = s.heap := by rw [B.state]; rfl
    subst hsz
    rw [lg_entry_eq]
    have hw := body p e s m av.toArray below meth c ((lg_sl av ++ List.replicate (n - (lg_sl av).length) Slot.unset).toArray) (va_A wc s.heap.size) s.heap [] _ ⟨B.exec, B.bytes, hml, hown, fun w hw => hts w (List.mem_cons_of_mem _ hw), hK, fun q h => Or.inr h, B.notSynchronized, hN, zA_ge hN hD0⟩ hne (lv_entry av hn) ⟨hP, hD0.self, va_S.rf⟩ (fun t h => h)
    obtain ⟨t, a1, o, b1, b2, b3⟩ := hw s₁ h0 (Stand.of_body B)
    exact ⟨t, o, a1, b1, b2, b3.1, b3.2⟩
end ZIntroT
def zU1 : Cond := .isRef (.static "java/lang/Throwable" "UNASSIGNED_STACK" "[Ljava/lang/StackTraceElement;")
def zU2 : Cond := .isRef (.static "java/lang/Throwable" "SUPPRESSED_SENTINEL" "Ljava/util/List;")
theorem zU1_ok (b : Nat) (s0 : State) (h : (Jvm.Cond.and given_1 narrow_1).before #[Value.ref b] s0 = true) : zU1.before #[Value.ref b] s0 = true := flat_of_before _ h _ (by decide +kernel)
theorem zU2_ok (b : Nat) (s0 : State) (h : (Jvm.Cond.and given_1 narrow_1).before #[Value.ref b] s0 = true) : zU2.before #[Value.ref b] s0 = true := flat_of_before _ h _ (by decide +kernel)
theorem zAtoms_of {L : List Cond} (h : ∀ a ∈ L, a ∈ gW ∨ (a ∈ lw_tbl ∧ zTab a = true) ∨ a = zU1 ∨ a = zU2) : ∀ a ∈ L, zAtom a := fun a ha => by
  rcases h a ha with h1 | h1 | h1 | h1
  · exact Or.inl h1
  · exact Or.inr (Or.inl h1)
  · exact Or.inr <| Or.inr ⟨_, _, _, h1, fun b s0 g => by rw [h1]; exact zU1_ok b s0 g⟩
  · exact Or.inr <| Or.inr ⟨_, _, _, h1, fun b s0 g => by rw [h1]; exact zU2_ok b s0 g⟩
abbrev zNames : List String := ["java/lang/RuntimeException", "java/lang/Exception"]

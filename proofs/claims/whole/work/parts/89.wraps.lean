/-! METHODS WITH HANDLERS: their contracts, their calls, what they catch -/
theorem zYes {D : va_G} {s : State} (h : zN D s) {X C : String} (hw : Cond.castable X C ∈ lw_tbl) : ∃ c t, s.vm.findClass X = some c ∧ s.vm.findClass C = some t ∧ s.vm.assignable c t = true := by
  obtain ⟨s0, ⟨b, h1, -⟩, -, -, -, hWm⟩ := h
  obtain ⟨c, t, a1, a2, a3⟩ := Cond.castable_spec (h1 _ hw)
  exact ⟨c, t, by rw [hWm.alike.findClass]; exact a1, by rw [hWm.alike.findClass]; exact a2, by rw [hWm.alike.assignable]; exact a3⟩
theorem zNo {D : va_G} {s : State} (h : zN D s) {X C : String} (hw : Cond.not (.castable X C) ∈ flatC (Jvm.Cond.and given_1 narrow_1)) : ∃ c t, s.vm.findClass X = some c ∧ s.vm.findClass C = some t ∧ s.vm.assignable c t = false := by
  obtain ⟨s0, ⟨b, -, h2⟩, -, -, -, hWm⟩ := h
  have h3 := flat_of_before _ h2 _ hw
  simp only [Cond.before, Cond.holds, Cond.value] at h3
  cases hc : s0.vm.findClass X with
  | none => simp [hc] at h3
  | some c =>
    cases ht : s0.vm.findClass C with
    | none => simp [hc, ht] at h3
    | some t =>
      simp [hc, ht] at h3
      exact ⟨c, t, by rw [hWm.alike.findClass]; exact hc, by rw [hWm.alike.findClass]; exact ht, by rw [hWm.alike.assignable]; exact h3⟩
section ZWrap
variable {p : Program} {l : Launch} {e : Env} {R : Room} {s : State} {m : MethodId} {args : Array Value} {below : List Frame} {meth : Method} {c : Code} {H : Heap} {locs : List Loc} {cells slots : Nat} {Q : State → Prop}
variable {cc : ByteArray} {pc nL index : Nat} {own : String} {ls : Array Slot} {rest : List Value} {D : va_G} {cl : List vw_C} {A : Nat → Prop} {tys : List (ClassId × FieldType)} {ws : va_W}
variable {y : MethodName} {b : ByteArray} {n k : Nat} {ret : Option FieldType} {d mc ms : Nat} {wc wr : va_W} {As : List Value} {hs : List (Nat × Nat × Nat × Nat)}
/-- the search from entry x on, in a state U behind s -/
def zGo (e : Env) (s : State) (f : JFrame) (a : Addr) (L : List ExceptionTableEntry) (U : State) (pc : Nat) : Prop := ∃ vm₁ : Vm, s.WarmedH vm₁ ∧ ∀ (Q : Handler → Pre) (E : CtlPost) (d : Bool) (acts : List Action), wp (findHandler.go f a L) Q E e d acts U ↔ Q (.found pc) d acts (U.setVm vm₁)
abbrev zCov (q : Nat × Nat × Nat × Nat) (pc : Nat) : Prop := (decide (q.1 ≤ pc) && decide (pc < q.2.1)) = true ∧ q.2.2.2 ≠ 0
theorem zGoH (C : zx p s m args meth c cc nL own D cl tys A) (ha : l.admits e) {X C1 : String} {q : Nat × Nat × Nat × Nat} (hw : Cond.classLink own q.2.2.2 C1 ∈ gW) (hy : Cond.castable X C1 ∈ lw_tbl) {f : JFrame} (hm : f.method = m) (hq : zCov q f.pc) {U : State} {a : Addr} {cell : Cell} (hU : s.WarmedH U.vm) (hc : U.heap[a]? = some cell) (hvm : cell.vm = .none) (hX : s.vm.findClass X = some cell.cls)
    {x : ExceptionTableEntry} (hx : (x.startPc, x.endPc, x.handlerPc, x.catchType) = q) (t : List ExceptionTableEntry) : zGo e s f a (x :: t) U q.2.2.1 := by
  subst hx
  obtain ⟨c1, t1, a1, a2, a3⟩ := zYes C.2.2.2.2.2.2.2.2.1 hy
  cases hX.symm.trans a1
  exact zGoHit (s1 := s) (own := own) (C := C1) (args := args) hU (by rw [ha.platform]) (by rw [hm]; exact C.2.2.2.1) (C.2.2.2.2.1 _ hw) hc hvm a2 (Vm.classAt_of_findClass hX) a3 hq.1 hq.2 t
theorem zGoP (C : zx p s m args meth c cc nL own D cl tys A) (ha : l.admits e) {X C1 : String} {q : Nat × Nat × Nat × Nat} (hw : Cond.classLink own q.2.2.2 C1 ∈ gW) (hy : Cond.not (.castable X C1) ∈ flatC (Jvm.Cond.and given_1 narrow_1)) {f : JFrame} (hm : f.method = m) (hq : zCov q f.pc) {U : State} {a : Addr} {cell : Cell} (hU : s.WarmedH U.vm) (hc : U.heap[a]? = some cell) (hvm : cell.vm = .none) (hX : s.vm.findClass X = some cell.cls)
    {x : ExceptionTableEntry} (hx : (x.startPc, x.endPc, x.handlerPc, x.catchType) = q) {t : List ExceptionTableEntry} {hp : Nat} (k : ∀ U : State, s.WarmedH U.vm → U.heap[a]? = some cell → zGo e s f a t U hp) : zGo e s f a (x :: t) U hp := by
  subst hx
  obtain ⟨c1, t1, a1, a2, a3⟩ := zNo C.2.2.2.2.2.2.2.2.1 hy
  cases hX.symm.trans a1
  obtain ⟨vm₁, w1, f1⟩ := zGoPass (s1 := s) (own := own) (C := C1) (args := args) hU (by rw [ha.platform]) (by rw [hm]; exact C.2.2.2.1) (C.2.2.2.2.1 _ hw) hc hvm a2 (Vm.classAt_of_findClass hX) a3 hq.1 hq.2 t
  obtain ⟨vm₂, w2, f2⟩ := k (U.setVm vm₁) w1 hc
  exact ⟨vm₂, w2, fun Q E d acts => by rw [f1, f2, State.setVm_twice]⟩
/-- the caller goes on at its handler -/
theorem zcatchC (C : zx p s m args meth c cc nL own D cl tys A) (hW : zw D cl A s ws H locs) (isC isR : List Nat) (hC : isC.map (fun i => ws[i]?) = wc.map some) (hR : isR.map (fun i => ws[i]?) = wr.map some) (hn : va_nd isR = true) (hdis : ∀ i ∈ isR, i ∉ isC)
    {X : String} {post1 : va_W → Prop} {st0 : List Value} {av : Array Value} {mc1 ms1 hpc : Nat} (hr : zRunX p l e R s m args below meth c H locs cells slots mc1 ms1 (F0 m pc ls st0) rest (zThr X post1 (fun w t => Za D cl tys (va_A wc H.size) w t) (va_A wc H.size) av) (va_A wc H.size))
    (hgo : ∀ (U : State) (x : Nat) (cell : Cell), l.admits e → s.WarmedH U.vm → U.heap[x]? = some cell → cell.vm = .none → s.vm.findClass X = some cell.cls → zGo e s (F0 m pc ls rest) x c.exceptionTable.toList U hpc)
    (kk : ∀ (x : Nat) (w : va_W) (H1 : Heap) (locs1 : List Loc), post1 w → zw D cl A s (wr ++ w) H1 locs1 → W p l e R s m args below meth c H1 locs1 (cells + mc1) (slots + ms1) Q (F0 m hpc ls [.ref x])) :
    W p l e R s m args below meth c H locs cells slots Q (F0 m pc ls st0) := by
  intro T hT Y
  obtain ⟨x, st₀, t, T', L, h0, hWm0, Y', hL, e1, ⟨⟨x', cell, w, hx', hnew, hcell, hvm, hcl, hp1, hB⟩, hF⟩, st⟩ := hr T hT Y
  cases hx'
  have hZ := zAfterT C hW isC isR hC hR hn hdis h0 hB hF hL
  have hX : s.vm.findClass X = some cell.cls := by rw [← hWm0.alike.findClass]; exact hcl
  obtain ⟨vm₁, w1, f1⟩ := hgo ((T'.setTop (F0 m pc ls rest)).pushFrame (.throwing x)) x cell Y.admits (by rw [Stand.throwing_vm]; exact Y'.warmed) (by rw [Stand.throwing_heap, e1]; exact hcell) hvm hX
  have Y2 := Y'.noted w1
  obtain ⟨U, a1, b1⟩ := kk x w t.heap (locs ++ L) hp1 hZ (T'.setVm vm₁) e1 Y2
  refine ⟨U, st _ (zCaught (g := F0 m pc ls rest) (vm₁ := vm₁) (pc := hpc) Y'.here ?_ a1), b1⟩
  intro Q E d acts
  rw [W.findHandler_eq (meth := meth) (code := c) (by rw [Stand.throwing_vm]; exact Y'.method') Y'.code]
  exact f1 Q E d acts
/-- the words of a method with handlers -/
def wYh (y : MethodName) (b : ByteArray) (n : Nat) (ret : Option FieldType) (hs : List (Nat × Nat × Nat × Nat)) : List Cond := .codeWith y b n ret hs :: gW
def kSh (own : String) (index : Nat) (y : MethodName) (b : ByteArray) (n : Nat) (ret : Option FieldType) (hs : List (Nat × Nat × Nat × Nat)) : List Cond := [.methodLink own index y, .static y, .initialized y.cls, .codeWith y b n ret hs]
theorem zRunSh (C : zx p s m args meth c cc nL own D cl tys A) (hW : zw D cl A s ws H locs) {Qc : Array Value → State → Outcome → State → Prop} (hM : Met l y (wYh y b n ret hs) (zr d mc ms) (va_Pc As (Zb D cl tys wc H.size)) Qc mc ms (va_A wc H.size))
    (isC : List Nat) (hC : isC.map (fun i => ws[i]?) = wc.map some) (hnd : va_nd isC = true) (hT : inT (kSh own index y b n ret hs)) (hd : dOk y k) (hR : fitsIn R d n)
    (hn : As.length = k) (hsz : ls.size = nL) (hrest : (rest.map fun v => v.category).sum ≤ 8) (hdg : decode cc pc = .ok (.invokestatic index, 3)) (hf : cells + mc ≤ R.cells ∧ slots + ms ≤ R.slots) :
    va_Run p l e R s m args below meth c H locs cells slots mc ms (F0 m pc ls (As.reverse ++ rest)) rest (Qc As.toArray) (va_A wc H.size) := by
  intro T hTh Y
  have wd : ∀ w ∈ kSh own index y b n ret hs, w.before args s = true := fun w h => C.2.2.2.2.1 w (hT w h)
  have wu : ∀ w ∈ kSh own index y b n ret hs, ∀ (a' : Array Value) (U : State), s.WarmedH U.vm → w.before a' U = true := fun w h a' U hWm => word_at hWm (good_of_word (gW_in (hT w h)).2) (wd w h)
  obtain ⟨mk, mM, cM, hnamed, hmM, -, -, -, -, -, -, hsig⟩ := Cond.codeWith_spec (wd (.codeWith y b n ret hs) (by simp [kSh]))
  obtain ⟨kP, hkP, -⟩ := className_of_methodNamed hnamed
  have hlen : As.length = mM.sig.parameters.length := by
    have h2 := hd.2.2
    rw [hsig] at h2
    rw [hn]
    exact (Option.some.inj h2).symm
  have hK : Back l R p e below s args y 3 8 (PreOf R mc ms (va_Pc As (Zb D cl tys wc H.size))) (PostOf Qc mc ms (va_A wc H.size)) := by
    refine Jvm.Free.Back.of_freeWith (handlers := hs) (S := headSpec (wYh y b n ret hs) (zr d mc ms)) (bytes := b) (maxL := n) (ret := ret) (E := fun _ _ _ _ L k n => k = mc ∧ n = ms ∧ ∀ q ∈ L, va_A wc H.size q.base) hM hR.1 hR.2 ?_ ?_ (fun _ _ _ _ _ _ _ _ _ => trivial) ?_ ?_
    · intro m meth c A a X hp
      refine ⟨atoms_intro fun w hw => ?_, wu _ (by simp [kSh]) _ _ X.warmed, wu (.initialized y.cls) (by simp [kSh]) _ _ X.warmed, hp.1, hp.2.1⟩
      rcases List.mem_cons.mp hw with h | h
      · rw [h]; exact wu _ (by simp [kSh]) _ _ X.warmed
      · exact word_at X.warmed (good_of_word (gW_in h).2) (C.2.2.2.2.1 w h)
    · intro m meth c A a g mk X hp
      exact Zb_blind _ _ _ _ hp.2.2
    · intro a st o t ⟨hq, L, hF, hL⟩
      exact ⟨L, mc, ms, hF, rfl, rfl, hL⟩
    · intro m meth c A a g mk v t L k n X hp hq hF ⟨e1, e2, hL⟩
      subst e1; subst e2
      exact ⟨g, mk, t, L, rfl, rfl, hq.1, rfl, hL, rfl, rfl⟩
  obtain ⟨vm₁, Y₁, step₁⟩ := Y.invokestatic C.1 C.2.2.2.1 (wd (.methodLink own index y) (by simp [kSh])) hnamed hmM (Cond.static_spec hnamed hmM (wd (.static y) (by simp [kSh]))) hkP (Cond.initialized_spec (findClass_of_methodNamed hnamed) hkP (wd (.initialized y.cls) (by simp [kSh]))) ⟨hd.1, hd.2.1⟩ (g := F0 m pc ls (As.reverse ++ rest)) rfl (argsL := As) (rest := rest) hlen rfl (by rw [C.2.1]; exact hdg)
  obtain ⟨v, ⟨U', l2, c2, s2⟩, Y', ⟨g', mk', t, L, e1, e2, hq, h1, hL, h2, h3⟩, st⟩ := hK m meth c ⟨T.setVm vm₁, locs, cells, slots⟩ { F0 m pc ls (As.reverse ++ rest) with stack := rest } (.invokestatic index) mk As.toArray Y₁ rfl (hsz.trans C.2.2.1.symm) (by rw [C.2.1]; exact hdg) (lv_room hrest) (Y₁.named hnamed) ⟨hf.1, hf.2, zPre C hW isC hC hnd (T.setVm vm₁) hTh Y₁.warmed⟩
  dsimp only [Pt.U, Pt.locs, Pt.cells, Pt.slots] at Y' e1 e2 h1 h2 h3 st
  subst h1; subst h2; subst h3
  exact ⟨v, (T.setVm vm₁).calling g' mk' As.toArray, t, U', L, hTh, Y', hL, e1, e2, hq, fun tg h => step₁ _ fun acts => by rw [doInvoke_state]; exact st.trans h⟩
end ZWrap
/-- a contract of a method with handlers, that answers an int -/
def Cih (l : Launch) (y : MethodName) (b : ByteArray) (n : Nat) (hs : List (Nat × Nat × Nat × Nat)) (d mc ms : Nat) (D : va_G) (cl : List vw_C) (tys : List (ClassId × FieldType)) (av : List Value) (wc : va_W) (post : Int32 → va_W → Prop) : Prop :=
  ∀ sz : Nat, Met l y (wYh y b n (some .int) hs) (zr d mc ms) (va_Pc av (Zb D cl tys wc sz)) (va_Qi post (fun w t => Za D cl tys (va_A wc sz) w t) (va_A wc sz)) mc ms (va_A wc sz)
theorem zBh {l : Launch} {y : MethodName} {b : ByteArray} {n : Nat} {hs : List (Nat × Nat × Nat × Nat)} {d mc ms : Nat} {D : va_G} {cl : List vw_C} {tys : List (ClassId × FieldType)} {av : List Value} {wc : va_W} {post : Int32 → va_W → Prop} (hy : plainName y.cls = true) (hn : (lg_sl av).length ≤ n)
    (body : ∀ (p : Program) (e : Env) (s : State) (m : MethodId) (args : Array Value) (below : List Frame) (meth : Method) (c : Code) (ls : Array Slot) (A : Nat → Prop) (H : Heap) (locs : List Loc) (Q : State → Prop), zx p s m args meth c b n y.cls D cl tys A → c.exceptionTable.toList.map (fun h => (h.startPc, h.endPc, h.handlerPc, h.catchType)) = hs → lv_has ls n (lv_args 0 av) → zw D cl A s wc H locs →
      (∀ (x : Int32) (w : va_W) (H : Heap) (locs : List Loc) (cells slots pc : Nat) (ls : Array Slot), zw D cl A s w H locs → post x w → cells ≤ mc → slots ≤ ms → decode b pc = .ok (.ireturn, 1) → W p l e (zr d mc ms) s m args below meth c H locs cells slots Q (F0 m pc ls [.int x])) →
      W p l e (zr d mc ms) s m args below meth c H locs 0 0 Q (F0 m 0 ls [])) : Cih l y b n hs d mc ms D cl tys av wc post := fun sz => by
  refine MetFree.of_bodyS (code := b) (maxLocals := n) (ret := some .int) hy ?_ ?_
  · intro args s m h hnm
    obtain ⟨m2, mM, c, hnm2, h1, h2, h3, h4, -, h5, h6, -⟩ := Cond.codeWith_spec (atoms_spec (ws := wYh y b n (some .int) hs) h _ List.mem_cons_self)
    cases hnm.symm.trans hnm2
    exact ⟨mM, c, h1, h2, h3, h4, h5, h6⟩
  · intro p e s m args below meth c s₁ B hml hv _
    obtain ⟨rfl, hsz, hP, hK, hD0, hN⟩ := hv
    have hts := atoms_spec (ws := wYh y b n (some .int) hs) B.pre
    obtain ⟨m2, mM, c2, hnm2, h1, h2, -, -, htab, -⟩ := Cond.codeWith_spec (hts _ List.mem_cons_self)
    cases B.named.symm.trans hnm2
    cases B.method.symm.trans h1
    cases (Stand.of_body B).code.symm.trans h2
    have hown : s.vm.findClass y.cls = some m.cls := findClass_of_methodNamed B.named
    have h0 : s₁.heap = s.heap := by rw [B.state]; rfl
    subst hsz
    rw [lg_entry_eq]
    have C : zx p s m av.toArray meth c b n y.cls D cl tys (va_A wc s.heap.size) := ⟨B.exec, B.bytes, hml, hown, fun w hw => hts w (List.mem_cons_of_mem _ hw), hK, fun q h => Or.inr h, B.notSynchronized, hN, zA_ge hN hD0⟩
    have hw := body p e s m av.toArray below meth c ((lg_sl av ++ List.replicate (n - (lg_sl av).length) Slot.unset).toArray) (va_A wc s.heap.size) s.heap [] _ C htab (lv_entry av hn) ⟨hP, hD0.self, va_S.rf⟩ (fun x w H locs cells slots pc ls hW hp hc hs hdg => zreti C B.returns hW hp hc hs hdg)
    obtain ⟨t, a1, o, b1, b2, b3⟩ := hw s₁ h0 (Stand.of_body B)
    exact ⟨t, o, a1, b1, b2, b3.1, b3.2⟩

/-! THE SEARCH FOR A HANDLER: the classes of the entries may still be open in the tables -/
def zFinds (e : Env) (s s' : State) (f : JFrame) (a : Addr) (h : Handler) : Prop := ∀ (Q : Handler → Pre) (E : CtlPost) (d : Bool) (acts : List Action), wp (findHandler f a) Q E e d acts s ↔ Q h d acts s'
section ZSearch
variable {e : Env} {d : Bool} {acts : List Action} {s : State} {f : JFrame} {a : Addr} {E : CtlPost} {Q : Handler → Pre}
theorem zGoC {x : ExceptionTableEntry} {t : List ExceptionTableEntry} {c : ClassId} {vm₁ : Vm} (hx : covers x f.pc = true) (h0 : x.catchType ≠ 0) (hg : (Jvm.resolveClass f.method.cls x.catchType).Gives e.toSetting s.vm (.ok c) vm₁) (hr : vm₁.classReady f.method.cls x.catchType c) (hsz : vm₁.classes.size ≤ s.vm.classes.size) :
    wp (findHandler.go f a (x :: t)) Q E e d acts s ↔ wp (findHandler.go f a (x :: t)) Q E e d acts (s.setVm vm₁) := by
  have hc : (decide (x.startPc ≤ f.pc) && decide (f.pc < x.endPc)) = true := hx
  have hz : (x.catchType == 0) = false := by simpa using h0
  obtain ⟨k, hkd, hres⟩ := hr
  obtain ⟨p1, p2⟩ := hg.op (op := VmOp.resolveClass f.method.cls x.catchType) rfl
  obtain ⟨q1, q2⟩ := resolveClass_memo e hkd hres
  have hl1 : ∀ Q' : Except LinkFail ClassId → Pre, wp (Jvm.vmOp (VmOp.resolveClass f.method.cls x.catchType)) Q' E e d acts s ↔ Q' (.ok c) d acts (s.setVm vm₁) := fun Q' => by
    rw [W.vmOp_same _ (by rw [p2]; exact hsz), p1, p2]
    exact Iff.rfl
  have hl2 : ∀ Q' : Except LinkFail ClassId → Pre, wp (Jvm.vmOp (VmOp.resolveClass f.method.cls x.catchType)) Q' E e d acts (s.setVm vm₁) ↔ Q' (.ok c) d acts (s.setVm vm₁) := fun Q' => by
    have e1 : (s.setVm vm₁).vm = vm₁ := rfl
    rw [W.vmOp_same _ (by rw [e1, q2]; exact Nat.le_refl _), e1, q1, q2]
    exact Iff.rfl
  unfold findHandler.go
  simp only [hc, hz, if_true, Bool.false_eq_true, if_false, Sem.wp_bind', hl1, hl2]
end ZSearch
section ZSearch2
variable {e : Env} {s : State} {f : JFrame} {a : Addr}
/-- an entry of another class: the search goes on -/
theorem zGoPass {s1 : State} {own C : String} {args : Array Value} (hW : s1.WarmedH s.vm) (hpl : e.platform.magicAccessors = ({} : Platform).magicAccessors) (hown : s1.vm.findClass own = some f.method.cls) {x : ExceptionTableEntry} (hl : (Cond.classLink own x.catchType C).before args s1 = true) {cell : Cell} (hcell : s.heap[a]? = some cell) (hvm : cell.vm = .none) {cC : ClassId} (hC : s1.vm.findClass C = some cC) (hk : ∃ k, s1.vm.classes[cell.cls]? = some k) (hno : s1.vm.assignable cell.cls cC = false) (hx : covers x f.pc = true) (h0 : x.catchType ≠ 0) (t : List ExceptionTableEntry) :
    ∃ vm₁ : Vm, s1.WarmedH vm₁ ∧ ∀ (Q : Handler → Pre) (E : CtlPost) (d : Bool) (acts : List Action), wp (findHandler.go f a (x :: t)) Q E e d acts s ↔ wp (findHandler.go f a t) Q E e d acts (s.setVm vm₁) := by
  obtain ⟨c2, hc2, hcl⟩ := Cond.classLink_spec hown hl e.platform hpl
  cases hC.symm.trans hc2
  obtain ⟨hg, hw, hr⟩ := State.classEntry (e := e) hW hcl
  generalize s.vm.noted f.method.cls x.catchType (.cls cC) = vm₁ at hg hw hr
  refine ⟨vm₁, hw, fun Q E d acts => ?_⟩
  have f1 : ∃ k, (s.setVm vm₁).vm.classes[cell.cls]? = some k := by
    obtain ⟨k, hk⟩ := hk
    obtain ⟨k', hk', -⟩ := hw.alike.2.2 _ _ hk
    exact ⟨k', hk'⟩
  have f2 : ∃ k, (s.setVm vm₁).vm.classes[cC]? = some k := by
    obtain ⟨k, hk⟩ := Vm.classAt_of_findClass hC
    obtain ⟨k', hk', -⟩ := hw.alike.2.2 _ _ hk
    exact ⟨k', hk'⟩
  have f3 : (s.setVm vm₁).vm.assignable cell.cls cC = s1.vm.assignable cell.cls cC := hw.alike.assignable _ _
  rw [zGoC hx h0 hg hr (by rw [hw.2.1, hW.2.1]; exact Nat.le_refl _), W.findHandler_go_class (s := s.setVm vm₁) hx h0 hr hcell (fun k h => by rw [hvm] at h; cases h) f1 f2, if_neg (by rw [f3]; rw [hno]; decide)]
/-- an entry of its class: found -/
theorem zGoHit {s1 : State} {own C : String} {args : Array Value} (hW : s1.WarmedH s.vm) (hpl : e.platform.magicAccessors = ({} : Platform).magicAccessors) (hown : s1.vm.findClass own = some f.method.cls) {x : ExceptionTableEntry} (hl : (Cond.classLink own x.catchType C).before args s1 = true) {cell : Cell} (hcell : s.heap[a]? = some cell) (hvm : cell.vm = .none) {cC : ClassId} (hC : s1.vm.findClass C = some cC) (hk : ∃ k, s1.vm.classes[cell.cls]? = some k) (hyes : s1.vm.assignable cell.cls cC = true) (hx : covers x f.pc = true) (h0 : x.catchType ≠ 0) (t : List ExceptionTableEntry) :
    ∃ vm₁ : Vm, s1.WarmedH vm₁ ∧ ∀ (Q : Handler → Pre) (E : CtlPost) (d : Bool) (acts : List Action), wp (findHandler.go f a (x :: t)) Q E e d acts s ↔ Q (.found x.handlerPc) d acts (s.setVm vm₁) := by
  obtain ⟨c2, hc2, hcl⟩ := Cond.classLink_spec hown hl e.platform hpl
  cases hC.symm.trans hc2
  obtain ⟨hg, hw, hr⟩ := State.classEntry (e := e) hW hcl
  generalize s.vm.noted f.method.cls x.catchType (.cls cC) = vm₁ at hg hw hr
  refine ⟨vm₁, hw, fun Q E d acts => ?_⟩
  have f1 : ∃ k, (s.setVm vm₁).vm.classes[cell.cls]? = some k := by
    obtain ⟨k, hk⟩ := hk
    obtain ⟨k', hk', -⟩ := hw.alike.2.2 _ _ hk
    exact ⟨k', hk'⟩
  have f2 : ∃ k, (s.setVm vm₁).vm.classes[cC]? = some k := by
    obtain ⟨k, hk⟩ := Vm.classAt_of_findClass hC
    obtain ⟨k', hk', -⟩ := hw.alike.2.2 _ _ hk
    exact ⟨k', hk'⟩
  have f3 : (s.setVm vm₁).vm.assignable cell.cls cC = s1.vm.assignable cell.cls cC := hw.alike.assignable _ _
  rw [zGoC hx h0 hg hr (by rw [hw.2.1, hW.2.1]; exact Nat.le_refl _), W.findHandler_go_class (s := s.setVm vm₁) hx h0 hr hcell (fun k h => by rw [hvm] at h; cases h) f1 f2, if_pos (by rw [f3]; exact hyes)]
/-- into the handler -/
theorem zCaught {tb : Tables} {g : JFrame} {c : Code} {below : List Frame} {target : State} (h : At s g.method c below) {vm₁ : Vm} {pc : Nat} (hfind : zFinds e ((s.setTop g).pushFrame (.throwing a)) (((s.setTop g).pushFrame (.throwing a)).setVm vm₁) g a (.found pc))
    (hrest : Steps tb e below ((s.setVm vm₁).setTop { g with pc := pc, stack := [.ref a] }) target) : Steps tb e below ((s.setTop g).pushFrame (.throwing a)) target := by
  obtain ⟨hgo, hw⟩ := h.throwing a
  refine Steps.head hgo hw ?_
  have hs : ∀ r : List Frame, (stepThrowing e ((s.setTop g).pushFrame (.throwing a)) a (.java g :: r)).Is ((((s.setTop g).pushFrame (.throwing a)).setVm vm₁).setFrames (.java { g with pc := pc, stack := [.ref a] } :: r)) [] := fun r => by
    simp only [stepThrowing, searchFrame, vmDo]
    generalize hr : Sem.go _ e false [] ((s.setTop g).pushFrame (.throwing a)) = res
    obtain ⟨as, rfl, ha⟩ := Sem.eq_ok_of hr (a := Handler.found pc) (s' := ((s.setTop g).pushFrame (.throwing a)).setVm vm₁) (acts' := []) (by simp [hfind _ _ _ _])
    exact ⟨rfl, ha⟩
  rw [stepThread_throwing (frames_entered h.top _), (hs _).1]
  obtain ⟨g₀, hg⟩ := Option.isSome_iff_exists.mp h.top
  obtain ⟨r, hr⟩ := State.topJava?_eq_some.mp hg
  have hr2 : (s.setVm vm₁).frames = .java g₀ :: r := hr
  have e1 : ((s.setTop g).pushFrame (.throwing a)).setVm vm₁ = ((s.setVm vm₁).setTop g).pushFrame (.throwing a) := by
    rw [State.pushFrame, State.pushFrame, State.setTop_of_frames _ hr, State.setTop_of_frames _ hr2]
    rfl
  rw [e1, State.pushFrame, State.setFrames_setFrames, State.setTop_of_frames _ hr2, State.setFrames_setFrames]
  rw [State.setTop_of_frames _ hr2] at hrest
  rw [hr]
  exact hrest
end ZSearch2

/-! THE FRAME OF EVERY CONTRACT HERE: one list of words for all methods, rooms by levels, one context, one world -/
def zNest : Cond → Bool
  | .methodLinkNest .. => true
  | .fieldLinkNest .. => true
  | _ => false
def gW : List Cond := lw_tbl.filter goodWord
def gN : List Cond := lw_tbl.filter zNest
def wY (y : MethodName) (b : ByteArray) (n : Nat) (r : Option FieldType) : List Cond := .code y b n r :: gW
def zr (d mc ms : Nat) : Room := { frames := d, cells := mc, slots := ms, locals := 64 * d }
/-- the heap's size at the law's start: kept where D names no class -/
def zb (D : va_G) : Nat := D.1 1000000
/-- what the Statement gives of the law's start -/
def zPrem (s0 : State) : Prop := ∃ b : Nat, (∀ w ∈ lw_tbl, w.before #[Value.ref b] s0 = true) ∧ (Jvm.Cond.and given_1 narrow_1).before #[Value.ref b] s0 = true
/-- U comes behind the law's start: what was there then is there now, the tables are warmer -/
def zN (D : va_G) (U : State) : Prop := ∃ s0 : State, zPrem s0 ∧ s0.heap.size = zb D ∧ zb D ≤ U.heap.size ∧ (∀ q : Nat, q < zb D → U.heap[q]? = s0.heap[q]?) ∧ s0.WarmedH U.vm
theorem gW_in {w : Cond} (h : w ∈ gW) : w ∈ lw_tbl ∧ goodWord w = true := List.mem_filter.mp h
theorem gW_of {w : Cond} (h : w ∈ lw_tbl) (g : goodWord w = true) : w ∈ gW := List.mem_filter.mpr ⟨h, g⟩
theorem gW_1 {w : Cond} (i : Nat) (h : lw_tbl[i]? = some w) (g : goodWord w = true) : w ∈ gW := gW_of (List.mem_of_getElem? h) g
theorem gN_1 {w : Cond} (i : Nat) (h : lw_tbl[i]? = some w) (g : zNest w = true) : w ∈ gN := List.mem_filter.mpr ⟨List.mem_of_getElem? h, g⟩
theorem gW_l {L : List Cond} (ps : List Nat) (hp : L = ps.filterMap (fun i => lw_tbl[i]?)) (h : L.all goodWord = true) : ∀ w ∈ L, w ∈ gW := by
  intro w hw
  have h1 := List.all_eq_true.mp h w hw
  rw [hp] at hw
  obtain ⟨i, -, hi⟩ := List.mem_filterMap.mp hw
  exact gW_1 i hi h1
theorem gIn {B : List Cond} (hB : ∀ w ∈ gW, w ∈ B) {L : List Cond} (hL : ∀ w ∈ L, w ∈ gW) : GoodIn B L := fun w h => ⟨hB w (hL w h), good_of_word (gW_in (hL w h)).2⟩
theorem wY_in {y : MethodName} {b : ByteArray} {n : Nat} {r : Option FieldType} (h : Cond.code y b n r ∈ gW) : ∀ w ∈ wY y b n r, w ∈ gW := fun w hw => (List.mem_cons.mp hw).elim (fun e => e ▸ h) id
theorem zN_nest {D : va_G} {U : State} (h : zN D U) {w : Cond} (hw : w ∈ gN) : va_Nw w U := by
  obtain ⟨s0, ⟨b, h1, -⟩, -, -, -, hWm⟩ := h
  obtain ⟨hm, hz⟩ := List.mem_filter.mp hw
  have h2 := h1 w hm
  cases w <;> first | exact va_Nw.warmM hWm h2 | exact va_Nw.warmF hWm h2 | exact absurd hz (by simp [zNest])
theorem zN_on {D : va_G} {s U : State} {A : Nat → Prop} {locs : List Loc} (h : zN D s) (hA : ∀ q : Nat, A q → zb D ≤ q) (hS : va_S A s.heap U.heap locs) (hW : s.WarmedH U.vm) : zN D U := by
  obtain ⟨s0, h1, h2, h3, h4, h5⟩ := h
  refine ⟨s0, h1, h2, Nat.le_trans h3 hS.1, fun q hq => ?_, State.WarmedH.trans h5 hW⟩
  rw [hS.2.1 q (Nat.lt_of_lt_of_le hq h3) (fun z => Nat.not_le.mpr hq (hA q z))]
  exact h4 q hq
/-- what a method's body may rest on -/
def zx (p : Program) (s : State) (m : MethodId) (args : Array Value) (meth : Method) (c : Code) (cc : ByteArray) (nL : Nat) (own : String) (D : va_G) (cl : List vw_C) (tys : List (ClassId × FieldType)) (A : Nat → Prop) : Prop :=
  p.tables.exec = Jvm.exec ∧ c.code = cc ∧ c.maxLocals = nL ∧ s.vm.findClass own = some m.cls ∧ (∀ w ∈ gW, w.before args s = true) ∧ va_K D cl tys s ∧ (∀ q : Nat, s.heap.size ≤ q → A q) ∧ meth.locks = false ∧ zN D s ∧ ∀ q : Nat, A q → zb D ≤ q
/-- the world: its cells, apart and in A; nothing else changed -/
def zw (D : va_G) (cl : List vw_C) (A : Nat → Prop) (s : State) (ws : va_W) (H : Heap) (locs : List Loc) : Prop := va_P D cl ws H ∧ va_D A ws ∧ va_S A s.heap H locs
def Zb (D : va_G) (cl : List vw_C) (tys : List (ClassId × FieldType)) (wc : va_W) (sz : Nat) (U : State) : Prop := U.heap.size = sz ∧ va_P D cl wc U.heap ∧ va_K D cl tys U ∧ va_D (fun q => zb D ≤ q) wc ∧ zN D U
def Za (D : va_G) (cl : List vw_C) (tys : List (ClassId × FieldType)) (A : Nat → Prop) (w : va_W) (t : State) : Prop := va_P D cl w t.heap ∧ va_K D cl tys t ∧ va_D A w
theorem Zb_blind {D : va_G} {cl : List vw_C} {tys : List (ClassId × FieldType)} {wc : va_W} {sz : Nat} {av : List Value} : FrameBlind (va_Pc av (Zb D cl tys wc sz)) := fun a U g mk q => by
  obtain ⟨q0, q1, qP, qK, qD, qN⟩ := q
  exact ⟨q0, q1, qP, va_K.moved (u := U) (U := U.calling g mk a) (Vm.Alike.refl U.vm) qK, qD, qN⟩
/-- CONTRACTS: an int (or boolean), a long, nothing is answered; the cells wc become w, with post -/
def Ci (l : Launch) (y : MethodName) (b : ByteArray) (n : Nat) (ret : Option FieldType) (d mc ms : Nat) (D : va_G) (cl : List vw_C) (tys : List (ClassId × FieldType)) (av : List Value) (wc : va_W) (post : Int32 → va_W → Prop) : Prop :=
  ∀ sz : Nat, Met l y (wY y b n ret) (zr d mc ms) (va_Pc av (Zb D cl tys wc sz)) (va_Qi post (fun w t => Za D cl tys (va_A wc sz) w t) (va_A wc sz)) mc ms (va_A wc sz)
def Cl (l : Launch) (y : MethodName) (b : ByteArray) (n : Nat) (ret : Option FieldType) (d mc ms : Nat) (D : va_G) (cl : List vw_C) (tys : List (ClassId × FieldType)) (av : List Value) (wc : va_W) (post : Int64 → va_W → Prop) : Prop :=
  ∀ sz : Nat, Met l y (wY y b n ret) (zr d mc ms) (va_Pc av (Zb D cl tys wc sz)) (va_Ql post (fun w t => Za D cl tys (va_A wc sz) w t) (va_A wc sz)) mc ms (va_A wc sz)
def Cv (l : Launch) (y : MethodName) (b : ByteArray) (n : Nat) (ret : Option FieldType) (d mc ms : Nat) (D : va_G) (cl : List vw_C) (tys : List (ClassId × FieldType)) (av : List Value) (wc : va_W) (post : va_W → Prop) : Prop :=
  ∀ sz : Nat, Met l y (wY y b n ret) (zr d mc ms) (va_Pc av (Zb D cl tys wc sz)) (va_Qv post (fun w t => Za D cl tys (va_A wc sz) w t) (va_A wc sz)) mc ms (va_A wc sz)
theorem zA_ge {D : va_G} {s : State} {wc : va_W} (h : zN D s) (hD : va_D (fun q => zb D ≤ q) wc) : ∀ q : Nat, va_A wc s.heap.size q → zb D ≤ q := by
  intro q hq
  rcases hq with ⟨k, e, hk⟩ | hq
  · exact hD.2 k (q, e) hk
  · obtain ⟨s0, -, -, h3, -⟩ := h
    exact Nat.le_trans h3 hq
section ZBodies
variable {l : Launch} {y : MethodName} {b : ByteArray} {n : Nat} {ret : Option FieldType} {d mc ms : Nat} {D : va_G} {cl : List vw_C} {tys : List (ClassId × FieldType)} {av : List Value} {wc : va_W}
theorem zBody {Qc : (Nat → Prop) → Array Value → State → Outcome → State → Prop} (hy : plainName y.cls = true) (hn : (lg_sl av).length ≤ n) (sz : Nat)
    (body : ∀ (p : Program) (e : Env) (s : State) (m : MethodId) (below : List Frame) (meth : Method) (c : Code) (ls : Array Slot) (A : Nat → Prop) (H : Heap) (locs : List Loc), zx p s m av.toArray meth c b n y.cls D cl tys A → meth.sig.returnType = ret → meth.name = y.name → lv_has ls n (lv_args 0 av) → zw D cl A s wc H locs →
      W p l e (zr d mc ms) s m av.toArray below meth c H locs 0 0 (MQ below (Qc A) av.toArray s mc ms A) (F0 m 0 ls [])) :
    Met l y (wY y b n ret) (zr d mc ms) (va_Pc av (Zb D cl tys wc sz)) (Qc (va_A wc sz)) mc ms (va_A wc sz) := by
  refine Met.ofW (cc := b) (maxL := n) (ret := ret) hy rfl ?_
  intro p e s m args below meth c s₁ B hml hv
  obtain ⟨rfl, hsz, hP, hK, hD0, hN⟩ := hv
  have hts := atoms_spec (ws := wY y b n ret) B.pre
  have hown : s.vm.findClass y.cls = some m.cls := findClass_of_methodNamed B.named
  subst hsz
  rw [lg_entry_eq]
  exact body p e s m below meth c _ _ _ _ ⟨B.exec, B.bytes, hml, hown, fun w hw => hts w (List.mem_cons_of_mem _ hw), hK, fun q h => Or.inr h, B.notSynchronized, hN, zA_ge hN hD0⟩ B.returns (name_of_methodNamed B.named B.method).1 (lv_entry av hn) ⟨hP, hD0.self, va_S.rf⟩
end ZBodies
section ZRows
variable {p : Program} {l : Launch} {e : Env} {R : Room} {s : State} {m : MethodId} {args : Array Value} {below : List Frame} {meth : Method} {c : Code} {H : Heap} {locs : List Loc} {cells slots : Nat} {Q : State → Prop}
variable {cc : ByteArray} {pc nL : Nat} {own : String} {ls : Array Slot} {rest : List Value} {D : va_G} {cl : List vw_C} {A : Nat → Prop} {tys : List (ClassId × FieldType)} {ws : va_W} {mc ms : Nat}
theorem zreti (C : zx p s m args meth c cc nL own D cl tys A) (hr : meth.sig.returnType = some .int) {w : va_W} (hW : zw D cl A s w H locs) {post : Int32 → va_W → Prop} {x : Int32} (hp : post x w) (hc : cells ≤ mc) (hs : slots ≤ ms) (hdg : decode cc pc = .ok (.ireturn, 1)) :
    W p l e R s m args below meth c H locs cells slots (MQ below (va_Qi post (fun w t => Za D cl tys A w t) A) args s mc ms A) (F0 m pc ls [.int x]) := by
  obtain ⟨hP, hD, hS⟩ := hW
  refine W.widen hc hs ?_
  exact W.iret C.1 C.2.1 hr (fun t ht hW => ⟨⟨x, w, rfl, hp, by rw [ht]; exact hP, va_K.moved hW.alike C.2.2.2.2.2.1, hD⟩, hS.F ht⟩) hS.2.2 hdg C.2.2.2.2.2.2.2.1
theorem zretz (C : zx p s m args meth c cc nL own D cl tys A) {ty : FieldType} (hr : meth.sig.returnType = some ty) {w : va_W} (hW : zw D cl A s w H locs) {post : Int32 → va_W → Prop} {x : Int32} (hn : narrow ty (.int x) = .int x) (hp : post x w) (hc : cells ≤ mc) (hs : slots ≤ ms) (hdg : decode cc pc = .ok (.ireturn, 1)) :
    W p l e R s m args below meth c H locs cells slots (MQ below (va_Qi post (fun w t => Za D cl tys A w t) A) args s mc ms A) (F0 m pc ls [.int x]) := by
  obtain ⟨hP, hD, hS⟩ := hW
  refine W.widen hc hs ?_
  exact W.zret C.1 C.2.1 hr hn (fun t ht hW => ⟨⟨x, w, rfl, hp, by rw [ht]; exact hP, va_K.moved hW.alike C.2.2.2.2.2.1, hD⟩, hS.F ht⟩) hS.2.2 hdg C.2.2.2.2.2.2.2.1
theorem zretl (C : zx p s m args meth c cc nL own D cl tys A) (hr : meth.sig.returnType = some .long) {w : va_W} (hW : zw D cl A s w H locs) {post : Int64 → va_W → Prop} {x : Int64} (hp : post x w) (hc : cells ≤ mc) (hs : slots ≤ ms) (hdg : decode cc pc = .ok (.lreturn, 1)) :
    W p l e R s m args below meth c H locs cells slots (MQ below (va_Ql post (fun w t => Za D cl tys A w t) A) args s mc ms A) (F0 m pc ls [.long x]) := by
  obtain ⟨hP, hD, hS⟩ := hW
  refine W.widen hc hs ?_
  exact W.lret C.1 C.2.1 hr (fun t ht hW => ⟨⟨x, w, rfl, hp, by rw [ht]; exact hP, va_K.moved hW.alike C.2.2.2.2.2.1, hD⟩, hS.F ht⟩) hS.2.2 hdg C.2.2.2.2.2.2.2.1
theorem zretv (C : zx p s m args meth c cc nL own D cl tys A) (hr : meth.sig.returnType = none) {w : va_W} (hW : zw D cl A s w H locs) {post : va_W → Prop} (hp : post w) (hc : cells ≤ mc) (hs : slots ≤ ms) (hdg : decode cc pc = .ok (.return_, 1)) :
    W p l e R s m args below meth c H locs cells slots (MQ below (va_Qv post (fun w t => Za D cl tys A w t) A) args s mc ms A) (F0 m pc ls []) := by
  obtain ⟨hP, hD, hS⟩ := hW
  refine W.widen hc hs ?_
  exact W.vret C.1 C.2.1 hr (fun t ht hW => ⟨⟨w, rfl, hp, by rw [ht]; exact hP, va_K.moved hW.alike C.2.2.2.2.2.1, hD⟩, hS.F ht⟩) hS.2.2 hdg C.2.2.2.2.2.2.2.1
-- fields
theorem zget (C : zx p s m args meth c cc nL own D cl tys A) (hW : zw D cl A s ws H locs) (q0 k : Nat) {a ci index N : Nat} {fs : List Value} {CC : String} {T : u_T} (he : ws[q0]? = some (a, .inr (ci, fs))) (hc : cl[ci]? = some (CC, T, N)) (hin : ∀ w ∈ u_ws CC T N, w ∈ gW) (hk : k < N) (hl : Cond.fieldLink own index (T k).1 (T k).2.1 (T k).2.2.1 ∈ gW) {v : Value} (hv : fs[k]? = some v) (hdg : decode cc pc = .ok (.getfield index, 3))
    (kk : W p l e R s m args below meth c H locs cells slots Q (F0 m (pc + 3) ls (v :: rest))) : W p l e R s m args below meth c H locs cells slots Q (F0 m pc ls (.ref a :: rest)) :=
  va_get (D := D) (ci := ci) (C := CC) (T := T) (N := N) C.1 C.2.1 C.2.2.2.2.1 hin C.2.2.2.1 C.2.2.2.2.2.1 hW.1 q0 he hc k hk (C.2.2.2.2.1 _ hl) (fun _ h9 => h9) hv hdg kk
theorem zgetN (C : zx p s m args meth c cc nL own D cl tys A) (hW : zw D cl A s ws H locs) (q0 k : Nat) {a ci index N : Nat} {fs : List Value} {CC host : String} {T : u_T} (he : ws[q0]? = some (a, .inr (ci, fs))) (hc : cl[ci]? = some (CC, T, N)) (hin : ∀ w ∈ u_ws CC T N, w ∈ gW) (hk : k < N) (hl : Cond.fieldLinkNest own index (T k).1 (T k).2.1 (T k).2.2.1 host ∈ gN) {v : Value} (hv : fs[k]? = some v) (hdg : decode cc pc = .ok (.getfield index, 3))
    (kk : W p l e R s m args below meth c H locs cells slots Q (F0 m (pc + 3) ls (v :: rest))) : W p l e R s m args below meth c H locs cells slots Q (F0 m pc ls (.ref a :: rest)) :=
  va_getN (D := D) (ci := ci) (C := CC) (T := T) (N := N) (host := host) C.1 C.2.1 C.2.2.2.2.1 hin C.2.2.2.1 C.2.2.2.2.2.1 hW.1 q0 he hc k hk (va_Nw.use rfl (zN_nest C.2.2.2.2.2.2.2.2.1 hl)) (fun _ h9 => h9) hv hdg kk
theorem zput (C : zx p s m args meth c cc nL own D cl tys A) (hW : zw D cl A s ws H locs) (q0 k : Nat) {a ci index N : Nat} {fs : List Value} {CC : String} {T : u_T} (ty0 : Nat → FieldType) (hty : ∀ k, k < N → parseFieldDescriptor (T k).2.2.1 = some (ty0 k)) (hnm : ∀ a, a < N → ∀ b, b < N → a ≠ b → (T a).2.1 ≠ (T b).2.1) (he : ws[q0]? = some (a, .inr (ci, fs))) (hc : cl[ci]? = some (CC, T, N)) (hin : ∀ w ∈ u_ws CC T N, w ∈ gW) (hk : k < N) (hl : Cond.fieldLink own index (T k).1 (T k).2.1 (T k).2.2.1 ∈ gW) (hfin : (T k).2.2.2 = false) {ty : FieldType} {v : Value} (hd : ty0 k = ty) (hn : narrow ty v = v) (hfit : fits ty v = true) (hlen : k < fs.length) (hdg : decode cc pc = .ok (.putfield index, 3))
    (kk : ∀ (H1 : Heap) (locs1 : List Loc), zw D cl A s (ws.set q0 (a, .inr (ci, fs.set k v))) H1 locs1 → W p l e R s m args below meth c H1 locs1 cells slots Q (F0 m (pc + 3) ls rest)) : W p l e R s m args below meth c H locs cells slots Q (F0 m pc ls (v :: .ref a :: rest)) :=
  va_put (D := D) (ci := ci) (ty := ty) (C := CC) (T := T) (N := N) C.1 C.2.1 C.2.2.2.2.1 hin ty0 hty hnm C.2.2.2.1 C.2.2.2.2.2.1 hW.1 hW.2.1 hW.2.2 q0 he hc k hk (C.2.2.2.2.1 _ hl) (fun _ h9 => h9) hfin (hd ▸ hty k hk) hn hfit hlen hdg (fun H1 locs1 h1 h2 h3 => kk H1 locs1 ⟨h1, h2, h3⟩)
theorem zputF (C : zx p s m args meth c cc nL own D cl tys A) (hin2 : meth.name = "<init>") (hW : zw D cl A s ws H locs) (q0 k : Nat) {a ci index N : Nat} {fs : List Value} {CC : String} {T : u_T} (ty0 : Nat → FieldType) (hty : ∀ k, k < N → parseFieldDescriptor (T k).2.2.1 = some (ty0 k)) (hnm : ∀ a, a < N → ∀ b, b < N → a ≠ b → (T a).2.1 ≠ (T b).2.1) (he : ws[q0]? = some (a, .inr (ci, fs))) (hc : cl[ci]? = some (CC, T, N)) (hin : ∀ w ∈ u_ws CC T N, w ∈ gW) (hk : k < N) (hl : Cond.fieldLink own index (T k).1 (T k).2.1 (T k).2.2.1 ∈ gW) (hfin : (T k).2.2.2 = true) (hdecl : (T k).1 = own) {ty : FieldType} {v : Value} (hd : ty0 k = ty) (hn : narrow ty v = v) (hfit : fits ty v = true) (hlen : k < fs.length) (hdg : decode cc pc = .ok (.putfield index, 3))
    (kk : ∀ (H1 : Heap) (locs1 : List Loc), zw D cl A s (ws.set q0 (a, .inr (ci, fs.set k v))) H1 locs1 → W p l e R s m args below meth c H1 locs1 cells slots Q (F0 m (pc + 3) ls rest)) : W p l e R s m args below meth c H locs cells slots Q (F0 m pc ls (v :: .ref a :: rest)) :=
  va_putF (D := D) (ci := ci) (ty := ty) (C := CC) (T := T) (N := N) C.1 C.2.1 C.2.2.2.2.1 hin ty0 hty hnm C.2.2.2.1 C.2.2.2.2.2.1 hW.1 hW.2.1 hW.2.2 q0 he hc k hk (C.2.2.2.2.1 _ hl) (fun _ h9 => h9) hfin hin2 hdecl (hd ▸ hty k hk) hn hfit hlen hdg (fun H1 locs1 h1 h2 h3 => kk H1 locs1 ⟨h1, h2, h3⟩)
-- arrays of ints, of longs; of arrays
theorem ziald (C : zx p s m args meth c cc nL own D cl tys A) (hW : zw D cl A s ws H locs) (q0 t0 : Nat) {a n : Nat} {cA : ClassId} {g : Int → Int} (ha : ws[q0]? = some (a, .inl (cA, n, .inl (fI g)))) (ht : tys[t0]? = some (cA, .int)) {i : Int} (h0 : 0 ≤ i) (h1 : i < n) (hn : (n : Int) ≤ 2147483647) (hdg : decode cc pc = .ok (.iaload, 1))
    (kk : W p l e R s m args below meth c H locs cells slots Q (F0 m (pc + 1) ls (.int (zI (g i)) :: rest))) : W p l e R s m args below meth c H locs cells slots Q (F0 m pc ls (.int (zI i) :: .ref a :: rest)) := by
  refine va_iald C.1 C.2.1 C.2.2.2.2.2.1 hW.1 q0 t0 ha ht (zI_in h0 h1 hn) hdg ?_
  rw [fI_at h0 (by unfold I32; omega)]
  exact kk
theorem zlald (C : zx p s m args meth c cc nL own D cl tys A) (hW : zw D cl A s ws H locs) (q0 t0 : Nat) {a n : Nat} {cA : ClassId} {g : Int → Int} (ha : ws[q0]? = some (a, .inl (cA, n, .inr (.inl (fL g))))) (ht : tys[t0]? = some (cA, .long)) {i : Int} (h0 : 0 ≤ i) (h1 : i < n) (hn : (n : Int) ≤ 2147483647) (hdg : decode cc pc = .ok (.laload, 1))
    (kk : W p l e R s m args below meth c H locs cells slots Q (F0 m (pc + 1) ls (.long (zL (g i)) :: rest))) : W p l e R s m args below meth c H locs cells slots Q (F0 m pc ls (.int (zI i) :: .ref a :: rest)) := by
  refine va_lald C.1 C.2.1 C.2.2.2.2.2.1 hW.1 q0 t0 ha ht (zI_in h0 h1 hn) hdg ?_
  rw [fL_at h0 (by unfold I32; omega)]
  exact kk
theorem ziast (C : zx p s m args meth c cc nL own D cl tys A) (hW : zw D cl A s ws H locs) (q0 t0 : Nat) {a n : Nat} {cA : ClassId} {g : Int → Int} (ha : ws[q0]? = some (a, .inl (cA, n, .inl (fI g)))) (ht : tys[t0]? = some (cA, .int)) {i v : Int} (h0 : 0 ≤ i) (h1 : i < n) (hn : (n : Int) ≤ 2147483647) (hdg : decode cc pc = .ok (.iastore, 1))
    (kk : ∀ (H1 : Heap) (locs1 : List Loc), zw D cl A s (ws.set q0 (a, .inl (cA, n, .inl (fI (upz g i v))))) H1 locs1 → W p l e R s m args below meth c H1 locs1 cells slots Q (F0 m (pc + 1) ls rest)) : W p l e R s m args below meth c H locs cells slots Q (F0 m pc ls (.int (zI v) :: .int (zI i) :: .ref a :: rest)) := by
  refine va_iast C.1 C.2.1 C.2.2.2.2.2.1 hW.1 hW.2.1 hW.2.2 q0 t0 ha ht (zI_in h0 h1 hn) hdg ?_
  rw [fI_up h0 (by unfold I32; omega)]
  exact fun H1 locs1 g1 g2 g3 => kk H1 locs1 ⟨g1, g2, g3⟩
theorem zlast (C : zx p s m args meth c cc nL own D cl tys A) (hW : zw D cl A s ws H locs) (q0 t0 : Nat) {a n : Nat} {cA : ClassId} {g : Int → Int} (ha : ws[q0]? = some (a, .inl (cA, n, .inr (.inl (fL g))))) (ht : tys[t0]? = some (cA, .long)) {i v : Int} (h0 : 0 ≤ i) (h1 : i < n) (hn : (n : Int) ≤ 2147483647) (hdg : decode cc pc = .ok (.lastore, 1))
    (kk : ∀ (H1 : Heap) (locs1 : List Loc), zw D cl A s (ws.set q0 (a, .inl (cA, n, .inr (.inl (fL (upz g i v)))))) H1 locs1 → W p l e R s m args below meth c H1 locs1 cells slots Q (F0 m (pc + 1) ls rest)) : W p l e R s m args below meth c H locs cells slots Q (F0 m pc ls (.long (zL v) :: .int (zI i) :: .ref a :: rest)) := by
  refine va_last C.1 C.2.1 C.2.2.2.2.2.1 hW.1 hW.2.1 hW.2.2 q0 t0 ha ht (zI_in h0 h1 hn) hdg ?_
  rw [fL_up h0 (by unfold I32; omega)]
  exact fun H1 locs1 g1 g2 g3 => kk H1 locs1 ⟨g1, g2, g3⟩
theorem zalen (C : zx p s m args meth c cc nL own D cl tys A) (hW : zw D cl A s ws H locs) (q0 t0 : Nat) {a n : Nat} {cA : ClassId} {x : (Nat → Int32) ⊕ (Nat → Int64) ⊕ (Nat → UInt32) ⊕ (Nat → UInt64) ⊕ (Nat → Option Nat)} (ha : ws[q0]? = some (a, .inl (cA, n, x))) {ty : FieldType} (ht : tys[t0]? = some (cA, ty)) (hdg : decode cc pc = .ok (.arraylength, 1))
    (kk : W p l e R s m args below meth c H locs cells slots Q (F0 m (pc + 1) ls (.int (zI (n : Int)) :: rest))) : W p l e R s m args below meth c H locs cells slots Q (F0 m pc ls (.ref a :: rest)) :=
  va_alen C.1 C.2.1 C.2.2.2.2.2.1 hW.1 q0 t0 ha ht (v := zI (n : Int)) (Int32.ofInt_eq_ofNat).symm hdg kk
/-- a row of a grid: the outer array's place i holds the address r -/
theorem zgald (C : zx p s m args meth c cc nL own D cl tys A) (hW : zw D cl A s ws H locs) (q0 t0 : Nat) {a n r : Nat} {cA : ClassId} {f : Nat → Option Nat} {ty : FieldType} (ha : ws[q0]? = some (a, .inl (cA, n, .inr (.inr (.inr (.inr f)))))) (ht : tys[t0]? = some (cA, ty)) (href : ty.isReference = true) {i : Int} (h0 : 0 ≤ i) (h1 : i < n) (hn : (n : Int) ≤ 2147483647) (hr : f i.toNat = some r) (hdg : decode cc pc = .ok (.aaload, 1))
    (kk : W p l e R s m args below meth c H locs cells slots Q (F0 m (pc + 1) ls (.ref r :: rest))) : W p l e R s m args below meth c H locs cells slots Q (F0 m pc ls (.int (zI i) :: .ref a :: rest)) := by
  have hin := zI_in h0 h1 hn
  have hcl : (zI i).toNatClampNeg = i.toNat := zI_cl (by unfold I32; omega)
  have hlt : (zI i).toNatClampNeg < n := Nat.not_le.mp fun q => hin (Or.inr q)
  refine W.aald (v := .ref r) (ty := ty) C.1 C.2.1 (hW.1 q0 _ ha) ((C.2.2.2.2.2.1.2 t0 _ ht).1 n (fun j => va_rf (f j))) href (fun q => by cases q) (by show ¬ (zI i < 0 ∨ (arrV _ _ _).slots.size ≤ _); rw [arrV_size]; exact hin) (by show (arrV _ _ _).slots[_]? = _; rw [arrV_read _ _ hlt, hcl, hr]; rfl) rfl rfl hdg kk
end ZRows
/-! the introductions: Q is what is owed; hQ pays it at a return -/
section ZIntro
variable {l : Launch} {y : MethodName} {b : ByteArray} {n : Nat} {d mc ms : Nat} {D : va_G} {cl : List vw_C} {tys : List (ClassId × FieldType)} {av : List Value} {wc : va_W}
theorem zBi {post : Int32 → va_W → Prop} (hy : plainName y.cls = true) (hn : (lg_sl av).length ≤ n)
    (body : ∀ (p : Program) (e : Env) (s : State) (m : MethodId) (args : Array Value) (below : List Frame) (meth : Method) (c : Code) (ls : Array Slot) (A : Nat → Prop) (H : Heap) (locs : List Loc) (Q : State → Prop), zx p s m args meth c b n y.cls D cl tys A → meth.name = y.name → lv_has ls n (lv_args 0 av) → zw D cl A s wc H locs →
      (∀ (x : Int32) (w : va_W) (H : Heap) (locs : List Loc) (cells slots pc : Nat) (ls : Array Slot), zw D cl A s w H locs → post x w → cells ≤ mc → slots ≤ ms → decode b pc = .ok (.ireturn, 1) → W p l e (zr d mc ms) s m args below meth c H locs cells slots Q (F0 m pc ls [.int x])) →
      W p l e (zr d mc ms) s m args below meth c H locs 0 0 Q (F0 m 0 ls [])) : Ci l y b n (some .int) d mc ms D cl tys av wc post := fun sz => by
  refine zBody (Qc := fun A => va_Qi post (fun w t => Za D cl tys A w t) A) hy hn sz ?_
  intro p e s m below meth c ls A H locs C hr hin hl hW
  exact body p e s m av.toArray below meth c ls A H locs _ C hin hl hW (fun x w H locs cells slots pc ls hW hp hc hs hdg => zreti C hr hW hp hc hs hdg)
theorem zBz {post : Int32 → va_W → Prop} (hy : plainName y.cls = true) (hn : (lg_sl av).length ≤ n)
    (body : ∀ (p : Program) (e : Env) (s : State) (m : MethodId) (args : Array Value) (below : List Frame) (meth : Method) (c : Code) (ls : Array Slot) (A : Nat → Prop) (H : Heap) (locs : List Loc) (Q : State → Prop), zx p s m args meth c b n y.cls D cl tys A → meth.name = y.name → lv_has ls n (lv_args 0 av) → zw D cl A s wc H locs →
      (∀ (x : Int32) (w : va_W) (H : Heap) (locs : List Loc) (cells slots pc : Nat) (ls : Array Slot), zw D cl A s w H locs → narrow .boolean (.int x) = .int x → post x w → cells ≤ mc → slots ≤ ms → decode b pc = .ok (.ireturn, 1) → W p l e (zr d mc ms) s m args below meth c H locs cells slots Q (F0 m pc ls [.int x])) →
      W p l e (zr d mc ms) s m args below meth c H locs 0 0 Q (F0 m 0 ls [])) : Ci l y b n (some .boolean) d mc ms D cl tys av wc post := fun sz => by
  refine zBody (Qc := fun A => va_Qi post (fun w t => Za D cl tys A w t) A) hy hn sz ?_
  intro p e s m below meth c ls A H locs C hr hin hl hW
  exact body p e s m av.toArray below meth c ls A H locs _ C hin hl hW (fun x w H locs cells slots pc ls hW hn hp hc hs hdg => zretz C hr hW hn hp hc hs hdg)
theorem zBl {post : Int64 → va_W → Prop} (hy : plainName y.cls = true) (hn : (lg_sl av).length ≤ n)
    (body : ∀ (p : Program) (e : Env) (s : State) (m : MethodId) (args : Array Value) (below : List Frame) (meth : Method) (c : Code) (ls : Array Slot) (A : Nat → Prop) (H : Heap) (locs : List Loc) (Q : State → Prop), zx p s m args meth c b n y.cls D cl tys A → meth.name = y.name → lv_has ls n (lv_args 0 av) → zw D cl A s wc H locs →
      (∀ (x : Int64) (w : va_W) (H : Heap) (locs : List Loc) (cells slots pc : Nat) (ls : Array Slot), zw D cl A s w H locs → post x w → cells ≤ mc → slots ≤ ms → decode b pc = .ok (.lreturn, 1) → W p l e (zr d mc ms) s m args below meth c H locs cells slots Q (F0 m pc ls [.long x])) →
      W p l e (zr d mc ms) s m args below meth c H locs 0 0 Q (F0 m 0 ls [])) : Cl l y b n (some .long) d mc ms D cl tys av wc post := fun sz => by
  refine zBody (Qc := fun A => va_Ql post (fun w t => Za D cl tys A w t) A) hy hn sz ?_
  intro p e s m below meth c ls A H locs C hr hin hl hW
  exact body p e s m av.toArray below meth c ls A H locs _ C hin hl hW (fun x w H locs cells slots pc ls hW hp hc hs hdg => zretl C hr hW hp hc hs hdg)
theorem zBv {post : va_W → Prop} (hy : plainName y.cls = true) (hn : (lg_sl av).length ≤ n)
    (body : ∀ (p : Program) (e : Env) (s : State) (m : MethodId) (args : Array Value) (below : List Frame) (meth : Method) (c : Code) (ls : Array Slot) (A : Nat → Prop) (H : Heap) (locs : List Loc) (Q : State → Prop), zx p s m args meth c b n y.cls D cl tys A → meth.name = y.name → lv_has ls n (lv_args 0 av) → zw D cl A s wc H locs →
      (∀ (w : va_W) (H : Heap) (locs : List Loc) (cells slots pc : Nat) (ls : Array Slot), zw D cl A s w H locs → post w → cells ≤ mc → slots ≤ ms → decode b pc = .ok (.return_, 1) → W p l e (zr d mc ms) s m args below meth c H locs cells slots Q (F0 m pc ls [])) →
      W p l e (zr d mc ms) s m args below meth c H locs 0 0 Q (F0 m 0 ls [])) : Cv l y b n none d mc ms D cl tys av wc post := fun sz => by
  refine zBody (Qc := fun A => va_Qv post (fun w t => Za D cl tys A w t) A) hy hn sz ?_
  intro p e s m below meth c ls A H locs C hr hin hl hW
  exact body p e s m av.toArray below meth c ls A H locs _ C hin hl hW (fun w H locs cells slots pc ls hW hp hc hs hdg => zretv C hr hW hp hc hs hdg)
end ZIntro
/-- the rows of a grid -/
def g2 (a b : Nat) : Nat → Option Nat | 0 => some a | 1 => some b | _ => none
def g3 (a b c : Nat) : Nat → Option Nat | 0 => some a | 1 => some b | 2 => some c | _ => none
abbrev zT (cI cG cL cB : ClassId) : List (ClassId × FieldType) := [(cI, .int), (cG, .array .int), (cL, .long), (cB, .byte)]
theorem upz_b {g : Int → Int} (h : ∀ j : Int, I32 (g j)) {i v : Int} (hv : I32 v) : ∀ j : Int, I32 (upz g i v j) := fun j => by
  unfold upz
  split
  · exact hv
  · exact h j

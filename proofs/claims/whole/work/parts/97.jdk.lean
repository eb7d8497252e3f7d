/-! THE JDK'S OWN CODE: bytes, statics, answers that are references, calls of a class above -/
abbrev B8 (x : Int) : Prop := 0 ≤ x ∧ x ≤ 127
set_option maxRecDepth 100000 in
theorem n8_a : ∀ k : Fin 128, (zI (k.val : Int)).toInt8.toInt32 = zI (k.val : Int) := by decide +kernel
set_option maxRecDepth 100000 in
theorem n8_b : ∀ k : Fin 128, (zI (k.val : Int)) &&& (zI 255) = zI (k.val : Int) := by decide +kernel
set_option maxRecDepth 100000 in
theorem n8_c : ∀ k : Fin 128, ((zI (k.val : Int)).toUInt32 % 65536).toInt32 = zI (k.val : Int) := by decide +kernel
set_option maxRecDepth 100000 in
theorem n8_f : ∀ k : Fin 128, fits .byte (.int (zI (k.val : Int))) = true := by decide +kernel
theorem n8_x {P : Int → Prop} (h : ∀ k : Fin 128, P (k.val : Int)) {v : Int} (hv : B8 v) : P v := by
  have := h ⟨v.toNat, by omega⟩
  rwa [show ((⟨v.toNat, by omega⟩ : Fin 128).val : Int) = v from Int.toNat_of_nonneg hv.1] at this
theorem zI_8 {v : Int} (h : B8 v) : (zI v).toInt8.toInt32 = zI v := n8_x (P := fun v => (zI v).toInt8.toInt32 = zI v) n8_a h
theorem zI_n8 {v : Int} (h : B8 v) : vp_nar .byte (zI v) = zI v := zI_8 h
theorem upz_8 {g : Int → Int} (h : ∀ j : Int, B8 (g j)) {i v : Int} (hv : B8 v) : ∀ j : Int, B8 (upz g i v j) := fun j => by
  unfold upz
  split
  · exact hv
  · exact h j
theorem cpz_8 {f g : Int → Int} (n : Int) (hf : ∀ j : Int, B8 (f j)) (hg : ∀ j : Int, B8 (g j)) : ∀ j : Int, B8 (cpz f g n j) := fun j => by
  unfold cpz
  split
  · exact hf j
  · exact hg j
theorem z08 : ∀ j : Int, B8 ((fun _ => 0 : Int → Int) j) := fun _ => (⟨Int.le_refl 0, by decide⟩ : (0 : Int) ≤ 0 ∧ (0 : Int) ≤ 127)
theorem zSel2 {CC : String} {x0 y0 y : MethodName} {s : State} {args : Array Value} (h0 : (Cond.selects CC x0 y0).before args s = true) (hc : y0.cls = y.cls) (hy : y.cls ≠ "java/lang/invoke/MethodHandle" ∧ y.cls ≠ "java/lang/invoke/VarHandle") (hpriv : (Cond.privateMethod y).before args s = true) (hinst : (Cond.instanceMethod y).before args s = true) : (Cond.selects CC y y).before args s = true := by
  obtain ⟨c2, r2, m2, q1, -, q3, -, kP, hkP, hkPi⟩ := Cond.selects_spec h0
  obtain ⟨mk, methM, hnamed, hmethM, -, -⟩ := Cond.instanceMethod_spec hinst
  have hfound : s.methodFound? y.cls y.name y.desc = some mk := State.methodFound?_of_named hnamed hy
  have hcls : mk.cls = m2.cls := Option.some.inj ((findClass_of_methodNamed hnamed).symm.trans (hc ▸ findClass_of_methodNamed q3))
  have hsel : selectMethod {} s.vm c2 mk = .method mk := selectMethod_private hmethM (Cond.privateMethod_at hpriv mk methM hnamed hmethM)
  simp only [Cond.before, Cond.holds, Cond.value, q1, hfound, hnamed, hsel, hcls, hkP]
  simp; exact hkPi
/-- a word of the tables, at every later state -/
theorem zWsame {D : va_G} {s : State} (h : zN D s) {c1 c2 n d : String} (hw : Cond.sameMethod c1 c2 n d ∈ lw_tbl) {a : Array Value} : (Cond.sameMethod c1 c2 n d).before a s = true := by
  obtain ⟨s0, ⟨b, h1, -⟩, -, -, -, hWm⟩ := h
  exact Cond.before_shiftedFace (State.Shifted.of_warmed hWm) _ rfl (h1 _ hw)
theorem zWsup {D : va_G} {s : State} (h : zN D s) {c1 c2 : String} (hw : Cond.superclass c1 c2 ∈ lw_tbl) {a : Array Value} : (Cond.superclass c1 c2).before a s = true := by
  obtain ⟨s0, ⟨b, h1, -⟩, -, -, -, hWm⟩ := h
  exact Cond.before_shiftedFace (State.Shifted.of_warmed hWm) _ rfl (h1 _ hw)
theorem zWpriv {D : va_G} {s : State} (h : zN D s) {y : MethodName} (hw : Cond.privateMethod y ∈ lw_tbl) {a : Array Value} : (Cond.privateMethod y).before a s = true := by
  obtain ⟨s0, ⟨b, h1, -⟩, -, -, -, hWm⟩ := h
  exact Cond.before_shiftedFace (State.Shifted.of_warmed hWm) _ rfl (h1 _ hw)
/-- a contract that answers a reference -/
def Cq (l : Launch) (y : MethodName) (b : ByteArray) (n : Nat) (ret : Option FieldType) (d mc ms : Nat) (D : va_G) (cl : List vw_C) (tys : List (ClassId × FieldType)) (av : List Value) (wc : va_W) (post : Nat → va_W → Prop) : Prop :=
  ∀ sz : Nat, Met l y (wY y b n ret) (zr d mc ms) (va_Pc av (Zb D cl tys wc sz)) (va_Qq (fun r w => ∃ a, r = some a ∧ post a w) (fun w t => Za D cl tys (va_A wc sz) w t) (va_A wc sz)) mc ms (va_A wc sz)
section ZJdk
variable {p : Program} {l : Launch} {e : Env} {R : Room} {s : State} {m : MethodId} {args : Array Value} {below : List Frame} {meth : Method} {c : Code} {H : Heap} {locs : List Loc} {cells slots : Nat} {Q : State → Prop}
variable {cc : ByteArray} {pc nL : Nat} {own : String} {ls : Array Slot} {rest : List Value} {D : va_G} {cl : List vw_C} {A : Nat → Prop} {tys : List (ClassId × FieldType)} {ws : va_W}
variable {y : MethodName} {b : ByteArray} {n k index : Nat} {ret : Option FieldType} {d mc ms : Nat} {wc wr : va_W} {As : List Value} {b0 : Nat}
theorem zretq (C : zx p s m args meth c cc nL own D cl tys A) {rt : FieldType} (hr : meth.sig.returnType = some rt) (hrt : (∃ n, rt = .object n) ∨ ∃ t, rt = .array t) {w : va_W} (hW : zw D cl A s w H locs) {post : Nat → va_W → Prop} {x : Nat} (hp : post x w) (hc : cells ≤ mc) (hs : slots ≤ ms) (hdg : decode cc pc = .ok (.areturn, 1)) :
    W p l e R s m args below meth c H locs cells slots (MQ below (va_Qq (fun r w => ∃ a, r = some a ∧ post a w) (fun w t => Za D cl tys A w t) A) args s mc ms A) (F0 m pc ls [.ref x]) := by
  obtain ⟨hP, hD, hS⟩ := hW
  refine W.widen hc hs ?_
  exact W.aret C.1 C.2.1 hr hrt (Or.inr ⟨x, rfl⟩) (fun t ht hW => ⟨⟨some x, w, rfl, ⟨x, rfl, hp⟩, by rw [ht]; exact hP, va_K.moved hW.alike C.2.2.2.2.2.1, hD⟩, hS.F ht⟩) hS.2.2 hdg C.2.2.2.2.2.2.2.1
theorem zretc (C : zx p s m args meth c cc nL own D cl tys A) (hr : meth.sig.returnType = some .char) {w : va_W} (hW : zw D cl A s w H locs) {post : Int32 → va_W → Prop} {x : Int32} (hn : narrow .char (.int x) = .int x) (hp : post x w) (hc : cells ≤ mc) (hs : slots ≤ ms) (hdg : decode cc pc = .ok (.ireturn, 1)) :
    W p l e R s m args below meth c H locs cells slots (MQ below (va_Qi post (fun w t => Za D cl tys A w t) A) args s mc ms A) (F0 m pc ls [.int x]) := zretz C hr hW hn hp hc hs hdg
theorem zBq {av : List Value} {rt : FieldType} (hrt : (∃ n, rt = .object n) ∨ ∃ t, rt = .array t) {post : Nat → va_W → Prop} (hy : plainName y.cls = true) (hn : (lg_sl av).length ≤ n)
    (body : ∀ (p : Program) (e : Env) (s : State) (m : MethodId) (args : Array Value) (below : List Frame) (meth : Method) (c : Code) (ls : Array Slot) (A : Nat → Prop) (H : Heap) (locs : List Loc) (Q : State → Prop), zx p s m args meth c b n y.cls D cl tys A → meth.name = y.name → lv_has ls n (lv_args 0 av) → zw D cl A s wc H locs →
      (∀ (x : Nat) (w : va_W) (H : Heap) (locs : List Loc) (cells slots pc : Nat) (ls : Array Slot), zw D cl A s w H locs → post x w → cells ≤ mc → slots ≤ ms → decode b pc = .ok (.areturn, 1) → W p l e (zr d mc ms) s m args below meth c H locs cells slots Q (F0 m pc ls [.ref x])) →
      W p l e (zr d mc ms) s m args below meth c H locs 0 0 Q (F0 m 0 ls [])) : Cq l y b n (some rt) d mc ms D cl tys av wc post := fun sz => by
  refine zBody (Qc := fun A => va_Qq (fun r w => ∃ a, r = some a ∧ post a w) (fun w t => Za D cl tys A w t) A) hy hn sz ?_
  intro p e s m below meth c ls A H locs C hr hin hl hW
  exact body p e s m av.toArray below meth c ls A H locs _ C hin hl hW (fun x w H locs cells slots pc ls hW hp hc hs hdg => zretq C hr hrt hW hp hc hs hdg)
theorem zBc {av : List Value} {post : Int32 → va_W → Prop} (hy : plainName y.cls = true) (hn : (lg_sl av).length ≤ n)
    (body : ∀ (p : Program) (e : Env) (s : State) (m : MethodId) (args : Array Value) (below : List Frame) (meth : Method) (c : Code) (ls : Array Slot) (A : Nat → Prop) (H : Heap) (locs : List Loc) (Q : State → Prop), zx p s m args meth c b n y.cls D cl tys A → meth.name = y.name → lv_has ls n (lv_args 0 av) → zw D cl A s wc H locs →
      (∀ (x : Int32) (w : va_W) (H : Heap) (locs : List Loc) (cells slots pc : Nat) (ls : Array Slot), zw D cl A s w H locs → narrow .char (.int x) = .int x → post x w → cells ≤ mc → slots ≤ ms → decode b pc = .ok (.ireturn, 1) → W p l e (zr d mc ms) s m args below meth c H locs cells slots Q (F0 m pc ls [.int x])) →
      W p l e (zr d mc ms) s m args below meth c H locs 0 0 Q (F0 m 0 ls [])) : Ci l y b n (some .char) d mc ms D cl tys av wc post := fun sz => by
  refine zBody (Qc := fun A => va_Qi post (fun w t => Za D cl tys A w t) A) hy hn sz ?_
  intro p e s m below meth c ls A H locs C hr hin hl hW
  exact body p e s m av.toArray below meth c ls A H locs _ C hin hl hW (fun x w H locs cells slots pc ls hW hn hp hc hs hdg => zretz C hr hW hn hp hc hs hdg)
theorem zcallq (C : zx p s m args meth c cc nL own D cl tys A) (hW : zw D cl A s ws H locs) (isC isR : List Nat) (hC : isC.map (fun i => ws[i]?) = wc.map some) (hR : isR.map (fun i => ws[i]?) = wr.map some) (hn : va_nd isR = true) (hdis : ∀ i ∈ isR, i ∉ isC) {post : Nat → va_W → Prop} {st0 : List Value} {av : Array Value}
    (hr : va_Run p l e R s m args below meth c H locs cells slots mc ms (F0 m pc ls st0) rest (va_Qq (fun r w => ∃ a, r = some a ∧ post a w) (fun w t => Za D cl tys (va_A wc H.size) w t) (va_A wc H.size) av) (va_A wc H.size))
    (kk : ∀ (x : Nat) (w : va_W) (H1 : Heap) (locs1 : List Loc), post x w → zw D cl A s (wr ++ w) H1 locs1 → W p l e R s m args below meth c H1 locs1 (cells + mc) (slots + ms) Q (F0 m (pc + 3) ls (.ref x :: rest))) : W p l e R s m args below meth c H locs cells slots Q (F0 m pc ls st0) :=
  have hF := va_free (wc := wc) hW.2.1 hW.2.2 C.2.2.2.2.2.2.1 isC hC
  va_callq hr hW.2.2 (fun q _ h => hF q h) hF (fun r w t H1 locs1 ht _ hp hB _ hk hS => by
    obtain ⟨x, rfl, hp⟩ := hp
    exact kk x w H1 locs1 hp (zJoin C hW isC isR hC hR hn hdis ht hB hk hS))
/-- an instance method of a class above the receiver's -/
def kU (own : String) (index : Nat) (y : MethodName) (b : ByteArray) (n : Nat) (ret : Option FieldType) : List Cond := [.methodLink own index y, .instanceMethod y, .initialized y.cls, .code y b n ret]
theorem zRunU (C : zx p s m args meth c cc nL own D cl tys A) (hW : zw D cl A s ws H locs) {Qc : Array Value → State → Outcome → State → Prop} (hM : Met l y (wY y b n ret) (zr d mc ms) (va_Pc (.ref b0 :: As) (Zb D cl tys wc H.size)) Qc mc ms (va_A wc H.size))
    (isC : List Nat) (hC : isC.map (fun i => ws[i]?) = wc.map some) (hnd : va_nd isC = true) (hT : inT (kU own index y b n ret)) (hsame : Cond.sameMethod y.cls y.cls y.name y.desc ∈ lw_tbl) {CC : String} (hsel : (Cond.selects CC y y).before args s = true) (hd : dOk y k) (hR : fitsIn R d n) (q0 : Nat) {ci : Nat} {T : u_T} {N : Nat} {fs : List Value} (he : ws[q0]? = some (b0, .inr (ci, fs))) (hci : cl[ci]? = some (CC, T, N))
    (hn : As.length = k) (hsz : ls.size = nL) (hrest : (rest.map fun v => v.category).sum ≤ 8) (hdg : decode cc pc = .ok (.invokevirtual index, 3)) (hf : cells + mc ≤ R.cells ∧ slots + ms ≤ R.slots) :
    va_Run p l e R s m args below meth c H locs cells slots mc ms (F0 m pc ls (As.reverse ++ .ref b0 :: rest)) rest (Qc (Value.ref b0 :: As).toArray) (va_A wc H.size) := by
  have hG : GoodIn gW (wY y b n ret) := gIn (fun w h => h) (wY_in (hT _ (by simp [kU])))
  have w1 := C.2.2.2.2.1 _ (hT (.methodLink own index y) (by simp [kU]))
  have w2 := C.2.2.2.2.1 _ (hT (.instanceMethod y) (by simp [kU]))
  have w3 := C.2.2.2.2.1 _ (hT (.initialized y.cls) (by simp [kU]))
  have w4 := C.2.2.2.2.1 _ (hT (.code y b n ret) (by simp [kU]))
  have cw : va_CU R s args own CC y.cls index y y b n ret (wY y b n ret) (zr d mc ms) mc ms k := by
    refine ⟨⟨rfl, rfl, hR.1, hR.2, pay_in C.2.2.2.2.1 hG, List.mem_cons_self⟩, w4, w3, ⟨hd.1, hd.2.1⟩, fun sig h => ?_, w1, zWsame C.2.2.2.2.2.2.2.2.1 hsame, va_Decl.of w2 w4, hsel, w2⟩
    have h2 := hd.2.2
    rw [h] at h2
    exact (Option.some.inj h2).symm
  exact va_runU (As := As) (rest := rest) ⟨C.1, C.2.1, C.2.2.1, C.2.2.2.1, C.2.2.2.2.1⟩ hM cw ⟨Zb_blind, va_recv C.2.2.2.2.2.1 hW.1 (q := (CC, T, N)) hci he, zPre C hW isC hC hnd⟩ rfl hn hsz rfl (lv_room hrest) hdg hf
/-- a method of the class above, by invokespecial -/
theorem zRunA (C : zx p s m args meth c cc nL own D cl tys A) (hW : zw D cl A s ws H locs) {Qc : Array Value → State → Outcome → State → Prop} (hM : Met l y (wY y b n ret) (zr d mc ms) (va_Pc (.ref b0 :: As) (Zb D cl tys wc H.size)) Qc mc ms (va_A wc H.size))
    (isC : List Nat) (hC : isC.map (fun i => ws[i]?) = wc.map some) (hnd : va_nd isC = true) (hT : inT (kU own index y b n ret)) (hsame : Cond.sameMethod y.cls y.cls y.name y.desc ∈ lw_tbl) (hsup : Cond.superclass own y.cls ∈ lw_tbl) (hni : y.name ≠ "<init>") (hd : dOk y k) (hR : fitsIn R d n) (q0 : Nat) {ci : Nat} {CC : String} {T : u_T} {N : Nat} {fs : List Value} (he : ws[q0]? = some (b0, .inr (ci, fs))) (hci : cl[ci]? = some (CC, T, N))
    (hn : As.length = k) (hsz : ls.size = nL) (hrest : (rest.map fun v => v.category).sum ≤ 8) (hdg : decode cc pc = .ok (.invokespecial index, 3)) (hf : cells + mc ≤ R.cells ∧ slots + ms ≤ R.slots) :
    va_Run p l e R s m args below meth c H locs cells slots mc ms (F0 m pc ls (As.reverse ++ .ref b0 :: rest)) rest (Qc (Value.ref b0 :: As).toArray) (va_A wc H.size) := by
  have hG : GoodIn gW (wY y b n ret) := gIn (fun w h => h) (wY_in (hT _ (by simp [kU])))
  have w1 := C.2.2.2.2.1 _ (hT (.methodLink own index y) (by simp [kU]))
  have w2 := C.2.2.2.2.1 _ (hT (.instanceMethod y) (by simp [kU]))
  have w3 := C.2.2.2.2.1 _ (hT (.initialized y.cls) (by simp [kU]))
  have w4 := C.2.2.2.2.1 _ (hT (.code y b n ret) (by simp [kU]))
  have cw : va_CS R s args own index y b n ret (wY y b n ret) (zr d mc ms) mc ms k := by
    refine ⟨⟨rfl, rfl, hR.1, hR.2, pay_in C.2.2.2.2.1 hG, List.mem_cons_self⟩, w1, zWsame C.2.2.2.2.2.2.2.2.1 hsame, zWsup C.2.2.2.2.2.2.2.2.1 hsup, w2, w3, w4, hni, fun sig h => ?_⟩
    have h2 := hd.2.2
    rw [h] at h2
    exact (Option.some.inj h2).symm
  exact va_runSU (As := As) (rest := rest) (C.2.2.2.2.2.1.1 ci _ hci).2 ⟨C.1, C.2.1, C.2.2.1, C.2.2.2.1, C.2.2.2.2.1⟩ hM cw ⟨Zb_blind, va_recv C.2.2.2.2.2.1 hW.1 (q := (CC, T, N)) hci he, zPre C hW isC hC hnd⟩ rfl hn hsz rfl (lv_room hrest) hdg hf
-- bytes and shifts
theorem zishl0 (C : zx p s m args meth c cc nL own D cl tys A) {x : Int32} (hdg : decode cc pc = .ok (.ishl, 1)) (kk : W p l e R s m args below meth c H locs cells slots Q (F0 m (pc + 1) ls (.int x :: rest))) : W p l e R s m args below meth c H locs cells slots Q (F0 m pc ls (.int (zI 0) :: .int x :: rest)) :=
  lv_ishl C.1 C.2.1 hdg (by rw [← zI_0, sb_shl0]; exact kk)
theorem zishr0 (C : zx p s m args meth c cc nL own D cl tys A) {x : Int32} (hdg : decode cc pc = .ok (.ishr, 1)) (kk : W p l e R s m args below meth c H locs cells slots Q (F0 m (pc + 1) ls (.int x :: rest))) : W p l e R s m args below meth c H locs cells slots Q (F0 m pc ls (.int (zI 0) :: .int x :: rest)) :=
  lv_ishr C.1 C.2.1 hdg (by rw [← zI_0, sb_shr0]; exact kk)
theorem zi2b (C : zx p s m args meth c cc nL own D cl tys A) {v : Int} (h : B8 v) (hdg : decode cc pc = .ok (.i2b, 1)) (kk : W p l e R s m args below meth c H locs cells slots Q (F0 m (pc + 1) ls (.int (zI v) :: rest))) : W p l e R s m args below meth c H locs cells slots Q (F0 m pc ls (.int (zI v) :: rest)) :=
  lv_i2b C.1 C.2.1 hdg (zI_8 h) kk
theorem zi2c (C : zx p s m args meth c cc nL own D cl tys A) {v : Int} (h : B8 v) (hdg : decode cc pc = .ok (.i2c, 1)) (kk : W p l e R s m args below meth c H locs cells slots Q (F0 m (pc + 1) ls (.int (zI v) :: rest))) : W p l e R s m args below meth c H locs cells slots Q (F0 m pc ls (.int (zI v) :: rest)) :=
  lv_i2c C.1 C.2.1 hdg (n8_x (P := fun v => ((zI v).toUInt32 % 65536).toInt32 = zI v) n8_c h) kk
theorem ziand255 (C : zx p s m args meth c cc nL own D cl tys A) {v : Int} (h : B8 v) (hdg : decode cc pc = .ok (.iand, 1)) (kk : W p l e R s m args below meth c H locs cells slots Q (F0 m (pc + 1) ls (.int (zI v) :: rest))) : W p l e R s m args below meth c H locs cells slots Q (F0 m pc ls (.int (zI 255) :: .int (zI v) :: rest)) :=
  lv_iand C.1 C.2.1 hdg (by rw [n8_x (P := fun v => zI v &&& zI 255 = zI v) n8_b h]; exact kk)
theorem zbald (C : zx p s m args meth c cc nL own D cl tys A) (hW : zw D cl A s ws H locs) (q0 t0 : Nat) {a n : Nat} {cA : ClassId} {g : Int → Int} (ha : ws[q0]? = some (a, .inl (cA, n, .inl (fI g)))) (ht : tys[t0]? = some (cA, .byte)) {i : Int} (h0 : 0 ≤ i) (h1 : i < n) (hn : (n : Int) ≤ 2147483647) (hdg : decode cc pc = .ok (.baload, 1))
    (kk : W p l e R s m args below meth c H locs cells slots Q (F0 m (pc + 1) ls (.int (zI (g i)) :: rest))) : W p l e R s m args below meth c H locs cells slots Q (F0 m pc ls (.int (zI i) :: .ref a :: rest)) := by
  refine va_bald C.1 C.2.1 C.2.2.2.2.2.1 hW.1 q0 t0 ha ht (zI_in h0 h1 hn) hdg ?_
  rw [fI_at h0 (by unfold I32; omega)]
  exact kk
theorem zbast (C : zx p s m args meth c cc nL own D cl tys A) (hW : zw D cl A s ws H locs) (q0 t0 : Nat) {a n : Nat} {cA : ClassId} {g : Int → Int} (ha : ws[q0]? = some (a, .inl (cA, n, .inl (fI g)))) (ht : tys[t0]? = some (cA, .byte)) {i v : Int} (h0 : 0 ≤ i) (h1 : i < n) (hn : (n : Int) ≤ 2147483647) (hv : B8 v) (hdg : decode cc pc = .ok (.bastore, 1))
    (kk : ∀ (H1 : Heap) (locs1 : List Loc), zw D cl A s (ws.set q0 (a, .inl (cA, n, .inl (fI (upz g i v))))) H1 locs1 → W p l e R s m args below meth c H1 locs1 cells slots Q (F0 m (pc + 1) ls rest)) : W p l e R s m args below meth c H locs cells slots Q (F0 m pc ls (.int (zI v) :: .int (zI i) :: .ref a :: rest)) := by
  refine va_bast C.1 C.2.1 C.2.2.2.2.2.1 hW.1 hW.2.1 hW.2.2 q0 t0 ha ht (zI_in h0 h1 hn) hdg ?_
  rw [zI_n8 hv, fI_up h0 (by unfold I32; omega)]
  exact fun H1 locs1 g1 g2 g3 => kk H1 locs1 ⟨g1, g2, g3⟩
theorem zcopyb (C : zx p s m args meth c cc nL own D cl tys A) (hW : zw D cl A s ws H locs) (q0 q1 t0 t1 : Nat) {a0 a n0 n1 : Nat} {c0 c1 : ClassId} {f g : Int → Int} (ha0 : ws[q0]? = some (a0, .inl (c0, n0, .inl (fI f)))) (ha1 : ws[q1]? = some (a, .inl (c1, n1, .inl (fI g)))) (ht0 : tys[t0]? = some (c0, .byte)) (ht1 : tys[t1]? = some (c1, .byte)) (h8 : ∀ j : Int, B8 (f j)) {n : Int} (h0 : 0 ≤ n) (h1 : n ≤ n0) (h2 : n ≤ n1) (hn0 : (n0 : Int) ≤ 2147483647) (hw : inT (kCopy own index)) (hl : ls.size = nL) (hf : 1 ≤ R.frames) (hlo : (rest.map fun v => v.category).sum + (nativeFrameWords "java/lang/System" "arraycopy" 5 + 11) ≤ R.locals) (hdg : decode cc pc = .ok (.invokestatic index, 3))
    (kk : ∀ (H1 : Heap) (locs1 : List Loc), zw D cl A s (ws.set q1 (a, .inl (c1, n1, .inl (fI (cpz f g n))))) H1 locs1 → W p l e R s m args below meth c H1 locs1 cells slots Q (F0 m (pc + 3) ls rest)) : W p l e R s m args below meth c H locs cells slots Q (F0 m pc ls (.int (zI n) :: .int (zI 0) :: .ref a :: .int (zI 0) :: .ref a0 :: rest)) := by
  have hz : (zI 0).toNatClampNeg = 0 := by decide
  have hnn : (zI n).toNatClampNeg = n.toNat := zI_cl (by omega)
  have e1 : va_cpy (fI f) (fI g) (zI 0).toNatClampNeg (zI 0).toNatClampNeg (zI n).toNatClampNeg = fI (cpz f g n) := by
    rw [hz, hnn]
    funext k
    show (if 0 ≤ k ∧ k < 0 + n.toNat then zI (f ((0 + (k - 0) : Nat) : Int)) else zI (g (k : Int))) = zI (if 0 ≤ (k : Int) ∧ (k : Int) < n then f (k : Int) else g (k : Int))
    by_cases h : k < n.toNat
    · rw [if_pos (by omega), if_pos (by omega)]; simp
    · rw [if_neg (by omega), if_neg (by omega)]
  refine va_copyi C.1 C.2.1 (C.2.2.1.trans hl.symm) C.2.2.2.1 (C.2.2.2.2.1 _ (hw _ (by simp [kCopy]))) (C.2.2.2.2.1 _ (hw _ (by simp [kCopy]))) (C.2.2.2.2.1 _ (hw _ (by simp [kCopy]))) (C.2.2.2.2.1 _ (hw _ (by simp [kCopy]))) C.2.2.2.2.2.1 hW.1 hW.2.1 hW.2.2 q0 q1 t0 t1 ha0 ha1 ht0 ht1 rfl (by decide) (by decide) (by rw [zI_0, zI_lt (by omega) (by omega)]; omega) (by rw [hz, hnn]; omega) (by rw [hz, hnn]; omega) (fun i _ => n8_x (P := fun v => fits .byte (.int (zI v)) = true) n8_f (h8 _)) hf hlo hdg ?_
  rw [e1]
  exact fun H1 locs1 g1 g2 g3 => kk H1 locs1 ⟨g1, g2, g3⟩
-- statics
theorem zZ {CC nm ds : String} {v : Value} (h : zN D s) (hA : ∀ q : Nat, A q → zb D ≤ q) (hl : Cond.laysStatic CC nm ds ∈ lw_tbl) (hi : Cond.initialized CC ∈ lw_tbl) (hv : ∀ (s0 : State) (b : Nat), (∀ w ∈ flatC (Jvm.Cond.and given_1 narrow_1), w.before #[Value.ref b] s0 = true) → (Term.static CC nm ds).eval #[Value.ref b] s0 none [] s0 = some v) : va_Z CC nm ds v A s s.heap := by
  obtain ⟨s0, ⟨b, h1, h2⟩, h3, h4, h5, hWm⟩ := h
  have z0 := va_Zof (A := A) (h1 _ hl) (h1 _ hi) (hv s0 b (flat_of_before _ h2)) (fun a ha z => absurd (hA a z) (by omega))
  exact (va_Z.moved hWm.alike z0).kept (fun a ha _ => h5 a (by omega))
theorem zgets (C : zx p s m args meth c cc nL own D cl tys A) (hW : zw D cl A s ws H locs) {CC nm ds : String} {v : Value} (hZ : va_Z CC nm ds v A s s.heap) (hw : Cond.fieldLink own index CC nm ds ∈ gW) (hdg : decode cc pc = .ok (.getstatic index, 3)) (kk : W p l e R s m args below meth c H locs cells slots Q (F0 m (pc + 3) ls (v :: rest))) : W p l e R s m args below meth c H locs cells slots Q (F0 m pc ls rest) :=
  va_gets C.1 C.2.1 hZ hW.2.2 C.2.2.2.1 (C.2.2.2.2.1 _ hw) (fun x h => h) hdg kk
end ZJdk
set_option maxRecDepth 100000 in
theorem fm_cs : Cond.eq (.static "java/lang/String" "COMPACT_STRINGS" "Z") (.int 1) ∈ flatC (Jvm.Cond.and given_1 narrow_1) := List.mem_of_getElem? (i := 4) rfl
set_option maxRecDepth 100000 in
theorem fm_sf : Cond.isRef (.static "jdk/internal/util/Preconditions" "SIOOBE_FORMATTER" "Ljava/util/function/BiFunction;") ∈ flatC (Jvm.Cond.and given_1 narrow_1) := List.mem_of_getElem? (i := 7) rfl
def fD1 (j : Nat) : Value := .int (Int32.ofNat (48 + j % 10))
def fD2 (j : Nat) : Value := .int (Int32.ofNat (48 + j / 10))
set_option maxRecDepth 100000 in
theorem fm_d1 : ∀ j, j < 100 → Cond.eq (.elem (.static "java/lang/Integer" "DigitOnes" "[B") (.int (Int32.ofNat j))) (.int (Int32.ofNat (48 + j % 10))) ∈ flatC (Jvm.Cond.and given_1 narrow_1) := va_run (p := 14) (f := fun j => Cond.eq (.elem (.static "java/lang/Integer" "DigitOnes" "[B") (.int (Int32.ofNat j))) (.int (Int32.ofNat (48 + j % 10)))) (by decide +kernel)
set_option maxRecDepth 100000 in
theorem fm_d2 : ∀ j, j < 100 → Cond.eq (.elem (.static "java/lang/Integer" "DigitTens" "[B") (.int (Int32.ofNat j))) (.int (Int32.ofNat (48 + j / 10))) ∈ flatC (Jvm.Cond.and given_1 narrow_1) := va_run (p := 117) (f := fun j => Cond.eq (.elem (.static "java/lang/Integer" "DigitTens" "[B") (.int (Int32.ofNat j))) (.int (Int32.ofNat (48 + j / 10)))) (by decide +kernel)
set_option maxRecDepth 100000 in
theorem fm_a1 : Cond.arrayOf (.static "java/lang/Integer" "DigitOnes" "[B") .byte ∈ flatC (Jvm.Cond.and given_1 narrow_1) := List.mem_of_getElem? (i := 12) rfl
set_option maxRecDepth 100000 in
theorem fm_l1 : Cond.eq (.length (.static "java/lang/Integer" "DigitOnes" "[B")) (.int 100) ∈ flatC (Jvm.Cond.and given_1 narrow_1) := List.mem_of_getElem? (i := 13) rfl
set_option maxRecDepth 100000 in
theorem fm_a2 : Cond.arrayOf (.static "java/lang/Integer" "DigitTens" "[B") .byte ∈ flatC (Jvm.Cond.and given_1 narrow_1) := List.mem_of_getElem? (i := 115) rfl
set_option maxRecDepth 100000 in
theorem fm_l2 : Cond.eq (.length (.static "java/lang/Integer" "DigitTens" "[B")) (.int 100) ∈ flatC (Jvm.Cond.and given_1 narrow_1) := List.mem_of_getElem? (i := 116) rfl
set_option maxRecDepth 100000 in
theorem ws_cs : Cond.laysStatic "java/lang/String" "COMPACT_STRINGS" "Z" ∈ lw_tbl := List.mem_of_getElem? (i := 326) rfl
set_option maxRecDepth 100000 in
theorem ws_sf : Cond.laysStatic "jdk/internal/util/Preconditions" "SIOOBE_FORMATTER" "Ljava/util/function/BiFunction;" ∈ lw_tbl := List.mem_of_getElem? (i := 934) rfl
set_option maxRecDepth 100000 in
theorem ws_d1 : Cond.laysStatic "java/lang/Integer" "DigitOnes" "[B" ∈ lw_tbl := List.mem_of_getElem? (i := 1004) rfl
set_option maxRecDepth 100000 in
theorem ws_d2 : Cond.laysStatic "java/lang/Integer" "DigitTens" "[B" ∈ lw_tbl := List.mem_of_getElem? (i := 1006) rfl
set_option maxRecDepth 100000 in
theorem wi_St : Cond.initialized "java/lang/String" ∈ lw_tbl := List.mem_of_getElem? (i := 59) rfl
set_option maxRecDepth 100000 in
theorem wi_Pr : Cond.initialized "jdk/internal/util/Preconditions" ∈ lw_tbl := List.mem_of_getElem? (i := 73) rfl
set_option maxRecDepth 100000 in
theorem wi_Ig : Cond.initialized "java/lang/Integer" ∈ lw_tbl := List.mem_of_getElem? (i := 68) rfl
section ZStat
variable {p : Program} {l : Launch} {e : Env} {R : Room} {s : State} {m : MethodId} {args : Array Value} {below : List Frame} {meth : Method} {c : Code} {H : Heap} {locs : List Loc} {cells slots : Nat} {Q : State → Prop}
variable {cc : ByteArray} {pc nL : Nat} {own : String} {ls : Array Slot} {rest : List Value} {D : va_G} {cl : List vw_C} {A : Nat → Prop} {tys : List (ClassId × FieldType)} {ws : va_W}
theorem zCS (C : zx p s m args meth c cc nL own D cl tys A) : va_Z "java/lang/String" "COMPACT_STRINGS" "Z" (.int (zI 1)) A s s.heap := zZ C.2.2.2.2.2.2.2.2.1 C.2.2.2.2.2.2.2.2.2 ws_cs wi_St (fun s0 b h => by rw [show zI 1 = 1 by decide]; exact va_eqi (h _ fm_cs))
theorem zFm (C : zx p s m args meth c cc nL own D cl tys A) : va_Z "jdk/internal/util/Preconditions" "SIOOBE_FORMATTER" "Ljava/util/function/BiFunction;" .null A s s.heap ∨ ∃ t : Nat, va_Z "jdk/internal/util/Preconditions" "SIOOBE_FORMATTER" "Ljava/util/function/BiFunction;" (.ref t) A s s.heap := by
  obtain ⟨s0, ⟨b, h1, h2⟩, h3, h4, h5, hWm⟩ := C.2.2.2.2.2.2.2.2.1
  have z0 := va_Zqof (A := A) (h1 _ ws_sf) (h1 _ wi_Pr) (flat_of_before _ h2 _ fm_sf) (fun a ha z => absurd (C.2.2.2.2.2.2.2.2.2 a z) (by omega))
  exact (va_Zq.moved hWm.alike z0).kept (fun a ha _ => h5 a (by omega))
theorem zD1 (C : zx p s m args meth c cc nL own D cl tys A) : ∃ t : Nat, va_Z "java/lang/Integer" "DigitOnes" "[B" (.ref t) A s s.heap ∧ va_T .byte t 100 fD1 A s s.heap := by
  obtain ⟨s0, ⟨b, h1, h2⟩, h3, h4, h5, hWm⟩ := C.2.2.2.2.2.2.2.2.1
  have hf := flat_of_before _ h2
  have hA : ∀ a : Nat, a < s0.heap.size → ¬ A a := fun a ha z => absurd (C.2.2.2.2.2.2.2.2.2 a z) (by omega)
  obtain ⟨t, ht, hT⟩ := va_Tof (A := A) (f := fD1) (N := 100) (by decide) (hf _ fm_a1) (va_eqt (hf _ fm_l1)) (fun j hj => va_eqt (hf _ (fm_d1 j hj))) hA
  exact ⟨t, (va_Z.moved hWm.alike (va_Zof (h1 _ ws_d1) (h1 _ wi_Ig) ht hA)).kept (fun a ha _ => h5 a (by omega)), (va_T.moved hWm.alike hT).kept (fun a ha _ => h5 a (by omega))⟩
theorem zD2 (C : zx p s m args meth c cc nL own D cl tys A) : ∃ t : Nat, va_Z "java/lang/Integer" "DigitTens" "[B" (.ref t) A s s.heap ∧ va_T .byte t 100 fD2 A s s.heap := by
  obtain ⟨s0, ⟨b, h1, h2⟩, h3, h4, h5, hWm⟩ := C.2.2.2.2.2.2.2.2.1
  have hf := flat_of_before _ h2
  have hA : ∀ a : Nat, a < s0.heap.size → ¬ A a := fun a ha z => absurd (C.2.2.2.2.2.2.2.2.2 a z) (by omega)
  obtain ⟨t, ht, hT⟩ := va_Tof (A := A) (f := fD2) (N := 100) (by decide) (hf _ fm_a2) (va_eqt (hf _ fm_l2)) (fun j hj => va_eqt (hf _ (fm_d2 j hj))) hA
  exact ⟨t, (va_Z.moved hWm.alike (va_Zof (h1 _ ws_d2) (h1 _ wi_Ig) ht hA)).kept (fun a ha _ => h5 a (by omega)), (va_T.moved hWm.alike hT).kept (fun a ha _ => h5 a (by omega))⟩
set_option maxRecDepth 100000 in
theorem d1_a : ∀ k : Fin 100, fD1 (zI (k.val : Int)).toNatClampNeg = .int (zI (48 + (k.val : Int) % 10)) := by decide +kernel
set_option maxRecDepth 100000 in
theorem d2_a : ∀ k : Fin 100, fD2 (zI (k.val : Int)).toNatClampNeg = .int (zI (48 + (k.val : Int) / 10)) := by decide +kernel
theorem f100 {P : Int → Prop} (h : ∀ k : Fin 100, P (k.val : Int)) {v : Int} (h0 : 0 ≤ v) (h1 : v < 100) : P v := by
  have := h ⟨v.toNat, by omega⟩
  rwa [show ((⟨v.toNat, by omega⟩ : Fin 100).val : Int) = v from Int.toNat_of_nonneg h0] at this
theorem ztd1 (C : zx p s m args meth c cc nL own D cl tys A) (hW : zw D cl A s ws H locs) {t : Nat} (hT : va_T .byte t 100 fD1 A s s.heap) {i : Int} (h0 : 0 ≤ i) (h1 : i < 100) (hdg : decode cc pc = .ok (.baload, 1)) (kk : W p l e R s m args below meth c H locs cells slots Q (F0 m (pc + 1) ls (.int (zI (48 + i % 10)) :: rest))) : W p l e R s m args below meth c H locs cells slots Q (F0 m pc ls (.int (zI i) :: .ref t :: rest)) :=
  va_tb C.1 C.2.1 hT hW.2.2 (zI_in h0 (n := 100) h1 (by decide)) (f100 (P := fun v => fD1 (zI v).toNatClampNeg = .int (zI (48 + v % 10))) d1_a h0 h1) hdg kk
theorem ztd2 (C : zx p s m args meth c cc nL own D cl tys A) (hW : zw D cl A s ws H locs) {t : Nat} (hT : va_T .byte t 100 fD2 A s s.heap) {i : Int} (h0 : 0 ≤ i) (h1 : i < 100) (hdg : decode cc pc = .ok (.baload, 1)) (kk : W p l e R s m args below meth c H locs cells slots Q (F0 m (pc + 1) ls (.int (zI (48 + i / 10)) :: rest))) : W p l e R s m args below meth c H locs cells slots Q (F0 m pc ls (.int (zI i) :: .ref t :: rest)) :=
  va_tb C.1 C.2.1 hT hW.2.2 (zI_in h0 (n := 100) h1 (by decide)) (f100 (P := fun v => fD2 (zI v).toNatClampNeg = .int (zI (48 + v / 10))) d2_a h0 h1) hdg kk
theorem zSelP (C : zx p s m args meth c cc nL own D cl tys A) {CC : String} {x0 y0 y : MethodName} (h0 : Cond.selects CC x0 y0 ∈ gW) (hc : y0.cls = y.cls) (hy : y.cls ≠ "java/lang/invoke/MethodHandle" ∧ y.cls ≠ "java/lang/invoke/VarHandle") (hp : Cond.privateMethod y ∈ lw_tbl) (hi : Cond.instanceMethod y ∈ gW) : (Cond.selects CC y y).before args s = true :=
  zSel2 (C.2.2.2.2.1 _ h0) hc hy (zWpriv C.2.2.2.2.2.2.2.2.1 hp) (C.2.2.2.2.1 _ hi)
end ZStat

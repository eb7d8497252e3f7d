/-! CALLS by contract: the callee's cells cut out of the world, and put back beside the rest -/
section ZCalls
variable {p : Program} {l : Launch} {e : Env} {R : Room} {s : State} {m : MethodId} {args : Array Value} {below : List Frame} {meth : Method} {c : Code} {H : Heap} {locs : List Loc} {cells slots : Nat} {Q : State → Prop}
variable {cc : ByteArray} {pc nL : Nat} {own : String} {ls : Array Slot} {rest : List Value} {D : va_G} {cl : List vw_C} {A : Nat → Prop} {tys : List (ClassId × FieldType)} {ws : va_W}
variable {y : MethodName} {b : ByteArray} {n k index : Nat} {ret : Option FieldType} {d mc ms : Nat} {wc wr : va_W} {As : List Value} {b0 : Nat}
/-- what the callee may rest on, at its start -/
theorem zPre (C : zx p s m args meth c cc nL own D cl tys A) (hW : zw D cl A s ws H locs) {av : List Value} (isC : List Nat) (hC : isC.map (fun i => ws[i]?) = wc.map some) (hnd : va_nd isC = true) : ∀ U : State, U.heap = H → s.WarmedH U.vm → va_Pc av (Zb D cl tys wc H.size) av.toArray U := by
  intro U hU hWm
  have hD := hW.2.1.sub isC hnd hC
  have hP : va_P D cl wc H := by
    refine hW.1.sub isC ?_
    have h9 := congrArg (List.filterMap id) hC
    rw [List.filterMap_map, List.filterMap_map] at h9
    simpa using h9
  exact ⟨rfl, by rw [hU], by rw [hU]; exact hP, va_K.moved hWm.alike C.2.2.2.2.2.1, hD.weaken (fun _ q _ h => C.2.2.2.2.2.2.2.2.2 _ h), zN_on (U := U) C.2.2.2.2.2.2.2.2.1 C.2.2.2.2.2.2.2.2.2 (locs := locs) (by rw [hU]; exact hW.2.2) hWm⟩
theorem zJoin (C : zx p s m args meth c cc nL own D cl tys A) (hW : zw D cl A s ws H locs) (isC isR : List Nat) (hC : isC.map (fun i => ws[i]?) = wc.map some) (hR : isR.map (fun i => ws[i]?) = wr.map some) (hn : va_nd isR = true) (hdis : ∀ i ∈ isR, i ∉ isC)
    {w : va_W} {t : State} {H1 : Heap} {locs1 : List Loc} (ht : t.heap = H1) (hB : Za D cl tys (va_A wc H.size) w t) (hk : ∀ q : Nat, q < H.size → ¬ va_A wc H.size q → H1[q]? = H[q]?) (hS : va_S A s.heap H1 locs1) : zw D cl A s (wr ++ w) H1 locs1 := by
  obtain ⟨hP1, -, hD1⟩ := hB
  rw [ht] at hP1
  obtain ⟨hP, hD⟩ := va_join (wr := wr) (w1 := w) hW.1 hW.2.1 isC isR hC hR hn hdis hk (va_free hW.2.1 hW.2.2 C.2.2.2.2.2.2.1 isC hC) hP1 hD1
  exact ⟨hP, hD, hS⟩
/-- the words of a call of an own method, of a static one, of a constructor -/
def kV (own : String) (index : Nat) (y : MethodName) (b : ByteArray) (n : Nat) (ret : Option FieldType) : List Cond := [.methodLink own index y, .instanceMethod y, .selects y.cls y y, .initialized y.cls, .code y b n ret]
def kS (own : String) (index : Nat) (y : MethodName) (b : ByteArray) (n : Nat) (ret : Option FieldType) : List Cond := [.methodLink own index y, .static y, .initialized y.cls, .code y b n ret]
def kI (own : String) (index : Nat) (y : MethodName) (b : ByteArray) (n : Nat) : List Cond := [.methodLink own index y, .instanceMethod y, .initialized y.cls, .code y b n none]
def kVN (y : MethodName) (b : ByteArray) (n : Nat) (ret : Option FieldType) : List Cond := [.instanceMethod y, .selects y.cls y y, .initialized y.cls, .code y b n ret]
def kSN (y : MethodName) (b : ByteArray) (n : Nat) (ret : Option FieldType) : List Cond := [.static y, .initialized y.cls, .code y b n ret]
def kIN (y : MethodName) (b : ByteArray) (n : Nat) : List Cond := [.instanceMethod y, .initialized y.cls, .code y b n none]
/-- they stand in the tables -/
abbrev inT (L : List Cond) : Prop := ∀ w ∈ L, w ∈ gW
abbrev fitsIn (R : Room) (d n : Nat) : Prop := d + 1 ≤ R.frames ∧ 8 + (n + 11) + 64 * d ≤ R.locals
abbrev dOk (y : MethodName) (k : Nat) : Prop := y.cls ≠ "java/lang/invoke/MethodHandle" ∧ y.cls ≠ "java/lang/invoke/VarHandle" ∧ (parseMethodDescriptor y.desc).map (fun d => d.parameters.length) = some k
theorem zRunV (C : zx p s m args meth c cc nL own D cl tys A) (hW : zw D cl A s ws H locs) {Qc : Array Value → State → Outcome → State → Prop} (hM : Met l y (wY y b n ret) (zr d mc ms) (va_Pc (.ref b0 :: As) (Zb D cl tys wc H.size)) Qc mc ms (va_A wc H.size))
    (isC : List Nat) (hC : isC.map (fun i => ws[i]?) = wc.map some) (hnd : va_nd isC = true) (hT : inT (kV own index y b n ret)) (hd : dOk y k) (hR : fitsIn R d n) (q0 : Nat) {ci : Nat} {T : u_T} {N : Nat} {fs : List Value} (he : ws[q0]? = some (b0, .inr (ci, fs))) (hci : cl[ci]? = some (y.cls, T, N))
    (hn : As.length = k) (hsz : ls.size = nL) (hrest : (rest.map fun v => v.category).sum ≤ 8) (hdg : decode cc pc = .ok (.invokevirtual index, 3)) (hf : cells + mc ≤ R.cells ∧ slots + ms ≤ R.slots) :
    va_Run p l e R s m args below meth c H locs cells slots mc ms (F0 m pc ls (As.reverse ++ .ref b0 :: rest)) rest (Qc (Value.ref b0 :: As).toArray) (va_A wc H.size) := by
  have hG : GoodIn gW (wsV own index y.cls y (wY y b n ret)) := gIn (fun w h => h) (fun w h => by
    rcases List.mem_append.mp h with h | h
    · exact hT w (by simp only [List.mem_cons, List.not_mem_nil, or_false] at h; simp only [kV, List.mem_cons]; rcases h with h | h | h | h <;> simp [h])
    · exact wY_in (hT _ (by simp [kV])) w h)
  exact va_runV (As := As) (rest := rest) ⟨C.1, C.2.1, C.2.2.1, C.2.2.2.1, C.2.2.2.2.1⟩ hM (cwV k C.2.2.2.2.1 hG rfl rfl rfl ⟨rfl, hd⟩ hR) ⟨Zb_blind, va_recv C.2.2.2.2.2.1 hW.1 (q := (y.cls, T, N)) hci he, zPre C hW isC hC hnd⟩ rfl hn hsz rfl (lv_room hrest) hdg hf
theorem zRunVN (C : zx p s m args meth c cc nL own D cl tys A) (hW : zw D cl A s ws H locs) {Qc : Array Value → State → Outcome → State → Prop} (hM : Met l y (wY y b n ret) (zr d mc ms) (va_Pc (.ref b0 :: As) (Zb D cl tys wc H.size)) Qc mc ms (va_A wc H.size))
    (isC : List Nat) (hC : isC.map (fun i => ws[i]?) = wc.map some) (hnd : va_nd isC = true) {host : String} (hT : inT (kVN y b n ret)) (hTn : Cond.methodLinkNest own index y host ∈ gN) (hd : dOk y k) (hR : fitsIn R d n) (q0 : Nat) {ci : Nat} {T : u_T} {N : Nat} {fs : List Value} (he : ws[q0]? = some (b0, .inr (ci, fs))) (hci : cl[ci]? = some (y.cls, T, N))
    (hn : As.length = k) (hsz : ls.size = nL) (hrest : (rest.map fun v => v.category).sum ≤ 8) (hdg : decode cc pc = .ok (.invokevirtual index, 3)) (hf : cells + mc ≤ R.cells ∧ slots + ms ≤ R.slots) :
    va_Run p l e R s m args below meth c H locs cells slots mc ms (F0 m pc ls (As.reverse ++ .ref b0 :: rest)) rest (Qc (Value.ref b0 :: As).toArray) (va_A wc H.size) := by
  have hG : GoodIn gW (wY y b n ret) := gIn (fun w h => h) (wY_in (hT _ (by simp [kVN])))
  exact va_runVN (C := y.cls) (As := As) (rest := rest) ⟨C.1, C.2.1, C.2.2.1, C.2.2.2.1, C.2.2.2.2.1⟩ hM ⟨va_cnB k C.2.2.2.2.1 hG rfl rfl rfl (zN_nest C.2.2.2.2.2.2.2.2.1 hTn) (C.2.2.2.2.1 _ (hT _ (by simp [kVN]))) hd hR, C.2.2.2.2.1 _ (hT _ (by simp [kVN])), C.2.2.2.2.1 _ (hT _ (by simp [kVN]))⟩ ⟨Zb_blind, va_recv C.2.2.2.2.2.1 hW.1 (q := (y.cls, T, N)) hci he, zPre C hW isC hC hnd⟩ rfl hn hsz rfl (lv_room hrest) hdg hf
theorem zRunS (C : zx p s m args meth c cc nL own D cl tys A) (hW : zw D cl A s ws H locs) {Qc : Array Value → State → Outcome → State → Prop} (hM : Met l y (wY y b n ret) (zr d mc ms) (va_Pc As (Zb D cl tys wc H.size)) Qc mc ms (va_A wc H.size))
    (isC : List Nat) (hC : isC.map (fun i => ws[i]?) = wc.map some) (hnd : va_nd isC = true) (hT : inT (kS own index y b n ret)) (hd : dOk y k) (hR : fitsIn R d n)
    (hn : As.length = k) (hsz : ls.size = nL) (hrest : (rest.map fun v => v.category).sum ≤ 8) (hdg : decode cc pc = .ok (.invokestatic index, 3)) (hf : cells + mc ≤ R.cells ∧ slots + ms ≤ R.slots) :
    va_Run p l e R s m args below meth c H locs cells slots mc ms (F0 m pc ls (As.reverse ++ rest)) rest (Qc As.toArray) (va_A wc H.size) := by
  have hG : GoodIn gW (va_wsS own index y (wY y b n ret)) := gIn (fun w h => h) (fun w h => by
    rcases List.mem_append.mp h with h | h
    · exact hT w (by simp only [List.mem_cons, List.not_mem_nil, or_false] at h; simp only [kS, List.mem_cons]; rcases h with h | h | h <;> simp [h])
    · exact wY_in (hT _ (by simp [kS])) w h)
  exact va_runS (As := As) (rest := rest) ⟨C.1, C.2.1, C.2.2.1, C.2.2.2.1, C.2.2.2.2.1⟩ hM (va_cwS k C.2.2.2.2.1 hG rfl rfl rfl hd hR) ⟨Zb_blind, zPre C hW isC hC hnd⟩ rfl hn hsz rfl (lv_room hrest) hdg hf
theorem zRunSN (C : zx p s m args meth c cc nL own D cl tys A) (hW : zw D cl A s ws H locs) {Qc : Array Value → State → Outcome → State → Prop} (hM : Met l y (wY y b n ret) (zr d mc ms) (va_Pc As (Zb D cl tys wc H.size)) Qc mc ms (va_A wc H.size))
    (isC : List Nat) (hC : isC.map (fun i => ws[i]?) = wc.map some) (hnd : va_nd isC = true) {host : String} (hT : inT (kSN y b n ret)) (hTn : Cond.methodLinkNest own index y host ∈ gN) (hd : dOk y k) (hR : fitsIn R d n)
    (hn : As.length = k) (hsz : ls.size = nL) (hrest : (rest.map fun v => v.category).sum ≤ 8) (hdg : decode cc pc = .ok (.invokestatic index, 3)) (hf : cells + mc ≤ R.cells ∧ slots + ms ≤ R.slots) :
    va_Run p l e R s m args below meth c H locs cells slots mc ms (F0 m pc ls (As.reverse ++ rest)) rest (Qc As.toArray) (va_A wc H.size) := by
  have hG : GoodIn gW (wY y b n ret) := gIn (fun w h => h) (wY_in (hT _ (by simp [kSN])))
  exact va_runSN (As := As) (rest := rest) ⟨C.1, C.2.1, C.2.2.1, C.2.2.2.1, C.2.2.2.2.1⟩ hM ⟨va_cnB k C.2.2.2.2.1 hG rfl rfl rfl (zN_nest C.2.2.2.2.2.2.2.2.1 hTn) (C.2.2.2.2.1 _ (hT _ (by simp [kSN]))) hd hR, C.2.2.2.2.1 _ (hT _ (by simp [kSN])), trivial⟩ ⟨Zb_blind, zPre C hW isC hC hnd⟩ rfl hn hsz rfl (lv_room hrest) hdg hf
theorem zRunI (C : zx p s m args meth c cc nL own D cl tys A) (hW : zw D cl A s ws H locs) {Qc : Array Value → State → Outcome → State → Prop} (hM : Met l y (wY y b n none) (zr d mc ms) (va_Pc (.ref b0 :: As) (Zb D cl tys wc H.size)) Qc mc ms (va_A wc H.size))
    (isC : List Nat) (hC : isC.map (fun i => ws[i]?) = wc.map some) (hnd : va_nd isC = true) (hT : inT (kI own index y b n)) (hy1 : y.name = "<init>") (hd : dOk y k) (hR : fitsIn R d n)
    (hn : As.length = k) (hsz : ls.size = nL) (hrest : (rest.map fun v => v.category).sum ≤ 8) (hdg : decode cc pc = .ok (.invokespecial index, 3)) (hf : cells + mc ≤ R.cells ∧ slots + ms ≤ R.slots) :
    va_Run p l e R s m args below meth c H locs cells slots mc ms (F0 m pc ls (As.reverse ++ .ref b0 :: rest)) rest (Qc (Value.ref b0 :: As).toArray) (va_A wc H.size) := by
  have hG : GoodIn gW (wY y b n none) := gIn (fun w h => h) (wY_in (hT _ (by simp [kI])))
  exact va_runI (As := As) (rest := rest) ⟨C.1, C.2.1, C.2.2.1, C.2.2.2.1, C.2.2.2.2.1⟩ hM (cwI k C.2.2.2.2.1 hG rfl rfl rfl (C.2.2.2.2.1 _ (hT _ (by simp [kI]))) (C.2.2.2.2.1 _ (hT _ (by simp [kI]))) (C.2.2.2.2.1 _ (hT _ (by simp [kI]))) hy1 hd hR) ⟨Zb_blind, zPre C hW isC hC hnd⟩ rfl hn hsz rfl (lv_room hrest) hdg hf
theorem zRunIN (C : zx p s m args meth c cc nL own D cl tys A) (hW : zw D cl A s ws H locs) {Qc : Array Value → State → Outcome → State → Prop} (hM : Met l y (wY y b n none) (zr d mc ms) (va_Pc (.ref b0 :: As) (Zb D cl tys wc H.size)) Qc mc ms (va_A wc H.size))
    (isC : List Nat) (hC : isC.map (fun i => ws[i]?) = wc.map some) (hnd : va_nd isC = true) {host : String} (hT : inT (kIN y b n)) (hTn : Cond.methodLinkNest own index y host ∈ gN) (hy1 : y.name = "<init>") (hd : dOk y k) (hR : fitsIn R d n)
    (hn : As.length = k) (hsz : ls.size = nL) (hrest : (rest.map fun v => v.category).sum ≤ 8) (hdg : decode cc pc = .ok (.invokespecial index, 3)) (hf : cells + mc ≤ R.cells ∧ slots + ms ≤ R.slots) :
    va_Run p l e R s m args below meth c H locs cells slots mc ms (F0 m pc ls (As.reverse ++ .ref b0 :: rest)) rest (Qc (Value.ref b0 :: As).toArray) (va_A wc H.size) := by
  have hG : GoodIn gW (wY y b n none) := gIn (fun w h => h) (wY_in (hT _ (by simp [kIN])))
  exact va_runIN (As := As) (rest := rest) ⟨C.1, C.2.1, C.2.2.1, C.2.2.2.1, C.2.2.2.2.1⟩ hM ⟨va_cnB k C.2.2.2.2.1 hG rfl rfl rfl (zN_nest C.2.2.2.2.2.2.2.2.1 hTn) (C.2.2.2.2.1 _ (hT _ (by simp [kIN]))) hd hR, hy1, C.2.2.2.2.1 _ (hT _ (by simp [kIN]))⟩ ⟨Zb_blind, zPre C hW isC hC hnd⟩ rfl hn hsz rfl (lv_room hrest) hdg hf
/-- behind the call: an int, a long, nothing -/
theorem zcalli (C : zx p s m args meth c cc nL own D cl tys A) (hW : zw D cl A s ws H locs) (isC isR : List Nat) (hC : isC.map (fun i => ws[i]?) = wc.map some) (hR : isR.map (fun i => ws[i]?) = wr.map some) (hn : va_nd isR = true) (hdis : ∀ i ∈ isR, i ∉ isC) {post : Int32 → va_W → Prop} {st0 : List Value} {av : Array Value}
    (hr : va_Run p l e R s m args below meth c H locs cells slots mc ms (F0 m pc ls st0) rest (va_Qi post (fun w t => Za D cl tys (va_A wc H.size) w t) (va_A wc H.size) av) (va_A wc H.size))
    (kk : ∀ (x : Int32) (w : va_W) (H1 : Heap) (locs1 : List Loc), post x w → zw D cl A s (wr ++ w) H1 locs1 → W p l e R s m args below meth c H1 locs1 (cells + mc) (slots + ms) Q (F0 m (pc + 3) ls (.int x :: rest))) : W p l e R s m args below meth c H locs cells slots Q (F0 m pc ls st0) :=
  have hF := va_free (wc := wc) hW.2.1 hW.2.2 C.2.2.2.2.2.2.1 isC hC
  va_calli hr hW.2.2 (fun q _ h => hF q h) hF (fun x w t H1 locs1 ht _ hp hB _ hk hS => kk x w H1 locs1 hp (zJoin C hW isC isR hC hR hn hdis ht hB hk hS))
theorem zcalll (C : zx p s m args meth c cc nL own D cl tys A) (hW : zw D cl A s ws H locs) (isC isR : List Nat) (hC : isC.map (fun i => ws[i]?) = wc.map some) (hR : isR.map (fun i => ws[i]?) = wr.map some) (hn : va_nd isR = true) (hdis : ∀ i ∈ isR, i ∉ isC) {post : Int64 → va_W → Prop} {st0 : List Value} {av : Array Value}
    (hr : va_Run p l e R s m args below meth c H locs cells slots mc ms (F0 m pc ls st0) rest (va_Ql post (fun w t => Za D cl tys (va_A wc H.size) w t) (va_A wc H.size) av) (va_A wc H.size))
    (kk : ∀ (x : Int64) (w : va_W) (H1 : Heap) (locs1 : List Loc), post x w → zw D cl A s (wr ++ w) H1 locs1 → W p l e R s m args below meth c H1 locs1 (cells + mc) (slots + ms) Q (F0 m (pc + 3) ls (.long x :: rest))) : W p l e R s m args below meth c H locs cells slots Q (F0 m pc ls st0) :=
  have hF := va_free (wc := wc) hW.2.1 hW.2.2 C.2.2.2.2.2.2.1 isC hC
  va_calll hr hW.2.2 (fun q _ h => hF q h) hF (fun x w t H1 locs1 ht _ hp hB _ hk hS => kk x w H1 locs1 hp (zJoin C hW isC isR hC hR hn hdis ht hB hk hS))
theorem zcallv (C : zx p s m args meth c cc nL own D cl tys A) (hW : zw D cl A s ws H locs) (isC isR : List Nat) (hC : isC.map (fun i => ws[i]?) = wc.map some) (hR : isR.map (fun i => ws[i]?) = wr.map some) (hn : va_nd isR = true) (hdis : ∀ i ∈ isR, i ∉ isC) {post : va_W → Prop} {st0 : List Value} {av : Array Value}
    (hr : va_Run p l e R s m args below meth c H locs cells slots mc ms (F0 m pc ls st0) rest (va_Qv post (fun w t => Za D cl tys (va_A wc H.size) w t) (va_A wc H.size) av) (va_A wc H.size))
    (kk : ∀ (w : va_W) (H1 : Heap) (locs1 : List Loc), post w → zw D cl A s (wr ++ w) H1 locs1 → W p l e R s m args below meth c H1 locs1 (cells + mc) (slots + ms) Q (F0 m (pc + 3) ls rest)) : W p l e R s m args below meth c H locs cells slots Q (F0 m pc ls st0) :=
  have hF := va_free (wc := wc) hW.2.1 hW.2.2 C.2.2.2.2.2.2.1 isC hC
  va_callv hr hW.2.2 (fun q _ h => hF q h) hF (fun w t H1 locs1 ht _ hp hB _ hk hS => kk w H1 locs1 hp (zJoin C hW isC isR hC hR hn hdis ht hB hk hS))
end ZCalls

/-! CATCHES: methods with handlers -/
section ZCatch
variable {p : Program} {l : Launch} {e : Env} {R : Room} {s : State} {m : MethodId} {args : Array Value} {below : List Frame} {meth : Method} {c : Code} {H : Heap} {locs : List Loc} {cells slots : Nat} {Q : State → Prop}
variable {cc : ByteArray} {pc nL index : Nat} {own : String} {ls : Array Slot} {rest : List Value} {D : va_G} {cl : List vw_C} {A : Nat → Prop} {tys : List (ClassId × FieldType)} {ws : va_W}
variable {mc ms : Nat} {wc wr : va_W}
/-- the caller goes on at its handler -/
theorem zcatch (C : zx p s m args meth c cc nL own D cl tys A) (hW : zw D cl A s ws H locs) (isC isR : List Nat) (hC : isC.map (fun i => ws[i]?) = wc.map some) (hR : isR.map (fun i => ws[i]?) = wr.map some) (hn : va_nd isR = true) (hdis : ∀ i ∈ isR, i ∉ isC)
    {X : String} {post1 : va_W → Prop} {st0 : List Value} {av : Array Value} {mc1 ms1 hpc : Nat} (hr : zRunX p l e R s m args below meth c H locs cells slots mc1 ms1 (F0 m pc ls st0) rest (zThr X post1 (fun w t => Za D cl tys (va_A wc H.size) w t) (va_A wc H.size) av) (va_A wc H.size))
    (hfind : ∀ (U : State) (x : Nat) (cell : Cell), s.WarmedH U.vm → U.vm.method? m = some meth → U.heap[x]? = some cell → cell.vm = .none → s.vm.findClass X = some cell.cls → meth.code = some c → Finds e U (F0 m pc ls rest) x (.found hpc))
    (kk : ∀ (x : Nat) (w : va_W) (H1 : Heap) (locs1 : List Loc), post1 w → zw D cl A s (wr ++ w) H1 locs1 → W p l e R s m args below meth c H1 locs1 (cells + mc1) (slots + ms1) Q (F0 m hpc ls [.ref x])) :
    W p l e R s m args below meth c H locs cells slots Q (F0 m pc ls st0) := by
  intro T hT Y
  obtain ⟨x, st₀, t, T', L, h0, hWm0, Y', hL, e1, ⟨⟨x', cell, w, hx', hnew, hcell, hvm, hcl, hp1, hB⟩, hF⟩, st⟩ := hr T hT Y
  cases hx'
  have hZ := zAfterT C hW isC isR hC hR hn hdis h0 hB hF hL
  obtain ⟨U, a1, b1⟩ := kk x w t.heap (locs ++ L) hp1 hZ T' e1 Y'
  refine ⟨U, st _ (Y'.catchAt x (g := F0 m pc ls rest) rfl (pc := hpc) ?_ a1), b1⟩
  refine hfind _ x cell ?_ ?_ ?_ hvm ?_ Y'.code
  · rw [Stand.throwing_vm]; exact Y'.warmed
  · rw [Stand.throwing_vm]; exact Y'.method'
  · rw [Stand.throwing_heap, e1]; exact hcell
  · rw [← hWm0.alike.findClass]; exact hcl
/-- entry k of the table, and those ahead of it -/
theorem zEntry {hs : List (Nat × Nat × Nat × Nat)} (ht : c.exceptionTable.toList.map (fun h => (h.startPc, h.endPc, h.handlerPc, h.catchType)) = hs) (k : Nat) {q : Nat × Nat × Nat × Nat} (hk : hs[k]? = some q) :
    ∃ x : ExceptionTableEntry, c.exceptionTable.toList = c.exceptionTable.toList.take k ++ x :: c.exceptionTable.toList.drop (k + 1) ∧ (x.startPc, x.endPc, x.handlerPc, x.catchType) = q ∧ ∀ y ∈ c.exceptionTable.toList.take k, ∃ j : Nat, j < k ∧ hs[j]? = some (y.startPc, y.endPc, y.handlerPc, y.catchType) := by
  generalize c.exceptionTable.toList = E at ht
  subst ht
  rw [List.getElem?_map] at hk
  cases he : E[k]? with
  | none => rw [he] at hk; cases hk
  | some x =>
    rw [he] at hk
    have hlt : k < E.length := (List.getElem?_eq_some_iff.mp he).1
    have hx : E[k] = x := (List.getElem?_eq_some_iff.mp he).2
    refine ⟨x, ?_, Option.some.inj hk, fun y hy => ?_⟩
    · have h1 := List.take_append_drop k E
      rw [List.drop_eq_getElem_cons hlt, hx] at h1
      exact h1.symm
    · obtain ⟨j, hj⟩ := List.getElem?_of_mem hy
      have hjk : j < k := by
        have := (List.getElem?_eq_some_iff.mp hj).1
        rw [List.length_take] at this
        omega
      rw [List.getElem?_take_of_lt hjk] at hj
      exact ⟨j, hjk, by rw [List.getElem?_map, hj]; rfl⟩
end ZCatch

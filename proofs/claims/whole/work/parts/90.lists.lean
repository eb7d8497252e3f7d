/-! tables of one, two, three entries -/
abbrev zF4 (h : ExceptionTableEntry) : Nat × Nat × Nat × Nat := (h.startPc, h.endPc, h.handlerPc, h.catchType)
theorem zL1 {L : List ExceptionTableEntry} {q1 : Nat × Nat × Nat × Nat} (h : L.map (fun h => (h.startPc, h.endPc, h.handlerPc, h.catchType)) = [q1]) : ∃ x1, L = [x1] ∧ (x1.startPc, x1.endPc, x1.handlerPc, x1.catchType) = q1 := by
  match L, h with
  | [x1], h => exact ⟨x1, rfl, by simpa using h⟩
theorem zL2 {L : List ExceptionTableEntry} {q1 q2 : Nat × Nat × Nat × Nat} (h : L.map (fun h => (h.startPc, h.endPc, h.handlerPc, h.catchType)) = [q1, q2]) : ∃ x1 x2, L = [x1, x2] ∧ (x1.startPc, x1.endPc, x1.handlerPc, x1.catchType) = q1 ∧ (x2.startPc, x2.endPc, x2.handlerPc, x2.catchType) = q2 := by
  match L, h with
  | [x1, x2], h => exact ⟨x1, x2, rfl, by simpa using h⟩
theorem zL3 {L : List ExceptionTableEntry} {q1 q2 q3 : Nat × Nat × Nat × Nat} (h : L.map (fun h => (h.startPc, h.endPc, h.handlerPc, h.catchType)) = [q1, q2, q3]) : ∃ x1 x2 x3, L = [x1, x2, x3] ∧ (x1.startPc, x1.endPc, x1.handlerPc, x1.catchType) = q1 ∧ (x2.startPc, x2.endPc, x2.handlerPc, x2.catchType) = q2 ∧ (x3.startPc, x3.endPc, x3.handlerPc, x3.catchType) = q3 := by
  match L, h with
  | [x1, x2, x3], h => exact ⟨x1, x2, x3, rfl, by simpa using h⟩

/-! constants, Math, System.arraycopy -/
section ZMore
variable {p : Program} {l : Launch} {e : Env} {R : Room} {s : State} {m : MethodId} {args : Array Value} {below : List Frame} {meth : Method} {c : Code} {H : Heap} {locs : List Loc} {cells slots : Nat} {Q : State → Prop}
variable {cc : ByteArray} {pc nL index : Nat} {own : String} {ls : Array Slot} {rest : List Value} {D : va_G} {cl : List vw_C} {A : Nat → Prop} {tys : List (ClassId × FieldType)} {ws : va_W}
theorem zldc (C : zx p s m args meth c cc nL own D cl tys A) {n : Int} (hw : Cond.constant own index (zI n) ∈ gW) (d : decode cc pc = .ok (.ldc index, 2)) (k : W p l e R s m args below meth c H locs cells slots Q (F0 m (pc + 2) ls (.int (zI n) :: rest))) : W p l e R s m args below meth c H locs cells slots Q (F0 m pc ls rest) := lv_ldc C.1 C.2.1 C.2.2.2.1 (C.2.2.2.2.1 _ hw) d k
theorem zldcw (C : zx p s m args meth c cc nL own D cl tys A) {n : Int} (hw : Cond.constant own index (zI n) ∈ gW) (d : decode cc pc = .ok (.ldc_w index, 3)) (k : W p l e R s m args below meth c H locs cells slots Q (F0 m (pc + 3) ls (.int (zI n) :: rest))) : W p l e R s m args below meth c H locs cells slots Q (F0 m pc ls rest) := lv_ldcw C.1 C.2.1 C.2.2.2.1 (C.2.2.2.2.1 _ hw) d k
theorem zldc2 (C : zx p s m args meth c cc nL own D cl tys A) {n : Int} (hw : Cond.constantLong own index (zL n) ∈ gW) (d : decode cc pc = .ok (.ldc2_w index, 3)) (k : W p l e R s m args below meth c H locs cells slots Q (F0 m (pc + 3) ls (.long (zL n) :: rest))) : W p l e R s m args below meth c H locs cells slots Q (F0 m pc ls rest) := lv_ldc2 C.1 C.2.1 C.2.2.2.1 (C.2.2.2.2.1 _ hw) d k
theorem zI_max {a b : Int} (ha : I32 a) (hb : I32 b) : (if zI a < zI b then zI b else zI a) = zI (max a b) := by
  by_cases h : a < b
  · rw [if_pos ((zI_lt ha hb).mpr h), Int.max_eq_right (by omega)]
  · rw [if_neg (fun q => h ((zI_lt ha hb).mp q)), Int.max_eq_left (by omega)]
theorem zI_min {a b : Int} (ha : I32 a) (hb : I32 b) : (if zI b < zI a then zI b else zI a) = zI (min a b) := by
  by_cases h : b < a
  · rw [if_pos ((zI_lt hb ha).mpr h), Int.min_eq_right (by omega)]
  · rw [if_neg (fun q => h ((zI_lt hb ha).mp q)), Int.min_eq_left (by omega)]
def kMax (own : String) (index : Nat) : List Cond := [.methodLink own index Lib.Math.max.name, .static Lib.Math.max.name, .initialized "java/lang/Math", .code Lib.Math.max.name Lib.Math.max.code 2 (some .int)]
def kMin (own : String) (index : Nat) : List Cond := [.methodLink own index Lib.Math.min.name, .static Lib.Math.min.name, .initialized "java/lang/Math", .code Lib.Math.min.name Lib.Math.min.code 2 (some .int)]
theorem zmax (C : zx p s m args meth c cc nL own D cl tys A) (hw : inT (kMax own index)) (hl : ls.size = nL) (hf : 1 ≤ R.frames) (hlo : (rest.map fun v => v.category).sum + 13 ≤ R.locals) (hc : cells ≤ R.cells) (hs : slots ≤ R.slots) {a b : Int} (ha : I32 a) (hb : I32 b) (d : decode cc pc = .ok (.invokestatic index, 3))
    (k : W p l e R s m args below meth c H locs cells slots Q (F0 m (pc + 3) ls (.int (zI (max a b)) :: rest))) : W p l e R s m args below meth c H locs cells slots Q (F0 m pc ls (.int (zI b) :: .int (zI a) :: rest)) :=
  va_mmax C.1 C.2.1 (C.2.2.1.trans hl.symm) C.2.2.2.1 (C.2.2.2.2.1 _ (hw _ (by simp [kMax]))) (C.2.2.2.2.1 _ (hw _ (by simp [kMax]))) (C.2.2.2.2.1 _ (hw _ (by simp [kMax]))) (C.2.2.2.2.1 _ (hw _ (by simp [kMax]))) hf hlo hc hs d (by rw [zI_max ha hb]; exact k)
theorem zmin (C : zx p s m args meth c cc nL own D cl tys A) (hw : inT (kMin own index)) (hl : ls.size = nL) (hf : 1 ≤ R.frames) (hlo : (rest.map fun v => v.category).sum + 13 ≤ R.locals) (hc : cells ≤ R.cells) (hs : slots ≤ R.slots) {a b : Int} (ha : I32 a) (hb : I32 b) (d : decode cc pc = .ok (.invokestatic index, 3))
    (k : W p l e R s m args below meth c H locs cells slots Q (F0 m (pc + 3) ls (.int (zI (min a b)) :: rest))) : W p l e R s m args below meth c H locs cells slots Q (F0 m pc ls (.int (zI b) :: .int (zI a) :: rest)) :=
  va_mmin C.1 C.2.1 (C.2.2.1.trans hl.symm) C.2.2.2.1 (C.2.2.2.2.1 _ (hw _ (by simp [kMin]))) (C.2.2.2.2.1 _ (hw _ (by simp [kMin]))) (C.2.2.2.2.1 _ (hw _ (by simp [kMin]))) (C.2.2.2.2.1 _ (hw _ (by simp [kMin]))) hf hlo hc hs d (by rw [zI_min ha hb]; exact k)
end ZMore

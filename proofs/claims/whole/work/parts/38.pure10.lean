section ZMathL
variable {p : Program} {l : Launch} {e : Env} {R : Room} {s : State} {m : MethodId} {args : Array Value} {below : List Frame} {meth : Method} {c : Code} {H : Heap} {locs : List Loc} {cells slots : Nat} {Q : State → Prop}
variable {cc : ByteArray} {pc nL index : Nat} {own : String} {ls : Array Slot} {rest : List Value} {D : va_G} {cl : List vw_C} {A : Nat → Prop} {tys : List (ClassId × FieldType)}
theorem zL_max {a b : Int} (ha : I64 a) (hb : I64 b) : (if zL b < zL a then zL a else zL b) = zL (max a b) := by
  by_cases h : b < a
  · rw [if_pos ((zL_lt hb ha).mpr h), Int.max_eq_left (by omega)]
  · rw [if_neg (fun q => h ((zL_lt hb ha).mp q)), Int.max_eq_right (by omega)]
theorem zL_min {a b : Int} (ha : I64 a) (hb : I64 b) : (if zL b < zL a then zL b else zL a) = zL (min a b) := by
  by_cases h : b < a
  · rw [if_pos ((zL_lt hb ha).mpr h), Int.min_eq_right (by omega)]
  · rw [if_neg (fun q => h ((zL_lt hb ha).mp q)), Int.min_eq_left (by omega)]
def kMaxL (own : String) (index : Nat) : List Cond := [.methodLink own index Lib.MathLoose.max_long.x, .static Lib.MathLoose.max_long.x, .initialized "java/lang/Math", .code Lib.MathLoose.max_long.x Lib.MathLoose.max_long.code 4 (some .long)]
def kMinL (own : String) (index : Nat) : List Cond := [.methodLink own index Lib.MathLoose.min_long.x, .static Lib.MathLoose.min_long.x, .initialized "java/lang/Math", .code Lib.MathLoose.min_long.x Lib.MathLoose.min_long.code 4 (some .long)]
theorem zmaxl (C : zx p s m args meth c cc nL own D cl tys A) (hw : inT (kMaxL own index)) (hl : ls.size = nL) (hf : 1 ≤ R.frames) (hlo : (rest.map fun v => v.category).sum + 15 ≤ R.locals) (hc : cells ≤ R.cells) (hs : slots ≤ R.slots) {a b : Int} (ha : I64 a) (hb : I64 b) (d : decode cc pc = .ok (.invokestatic index, 3))
    (k : W p l e R s m args below meth c H locs cells slots Q (F0 m (pc + 3) ls (.long (zL (max a b)) :: rest))) : W p l e R s m args below meth c H locs cells slots Q (F0 m pc ls (.long (zL b) :: .long (zL a) :: rest)) :=
  va_mmax_long C.1 C.2.1 (C.2.2.1.trans hl.symm) C.2.2.2.1 (C.2.2.2.2.1 _ (hw _ (by simp [kMaxL]))) (C.2.2.2.2.1 _ (hw _ (by simp [kMaxL]))) (C.2.2.2.2.1 _ (hw _ (by simp [kMaxL]))) (C.2.2.2.2.1 _ (hw _ (by simp [kMaxL]))) hf hlo hc hs d (by rw [zL_max ha hb]; exact k)
theorem zminl (C : zx p s m args meth c cc nL own D cl tys A) (hw : inT (kMinL own index)) (hl : ls.size = nL) (hf : 1 ≤ R.frames) (hlo : (rest.map fun v => v.category).sum + 15 ≤ R.locals) (hc : cells ≤ R.cells) (hs : slots ≤ R.slots) {a b : Int} (ha : I64 a) (hb : I64 b) (d : decode cc pc = .ok (.invokestatic index, 3))
    (k : W p l e R s m args below meth c H locs cells slots Q (F0 m (pc + 3) ls (.long (zL (min a b)) :: rest))) : W p l e R s m args below meth c H locs cells slots Q (F0 m pc ls (.long (zL b) :: .long (zL a) :: rest)) :=
  va_mmin_long C.1 C.2.1 (C.2.2.1.trans hl.symm) C.2.2.2.1 (C.2.2.2.2.1 _ (hw _ (by simp [kMinL]))) (C.2.2.2.2.1 _ (hw _ (by simp [kMinL]))) (C.2.2.2.2.1 _ (hw _ (by simp [kMinL]))) (C.2.2.2.2.1 _ (hw _ (by simp [kMinL]))) hf hlo hc hs d (by rw [zL_min ha hb]; exact k)
end ZMathL
theorem tdiv_b {a b M : Int} (h0 : -M ≤ a) (h1 : a ≤ M) (hb : 0 < b) : -M ≤ a.tdiv b ∧ a.tdiv b ≤ M := by
  by_cases h : 0 ≤ a
  · have := Int.tdiv_le_self (a := a) b h
    have := Int.tdiv_nonneg h (Int.le_of_lt hb)
    omega
  · have h3 : (-a).tdiv b = - (a.tdiv b) := Int.neg_tdiv a b
    have := Int.tdiv_le_self (a := -a) b (by omega)
    have := Int.tdiv_nonneg (a := -a) (b := b) (by omega) (Int.le_of_lt hb)
    omega
def pgF (len each : Int) : Int := max 1 ((len + each - 1).tdiv each)
def layP (ac n : Int) (Li : Int → Int) (wd hg co ro oa ou : Int) : Prop := (0 < ac ∧ ac < n → co = pgF (Li (n - 1) - Li ac) wd ∧ ro = pgF (Li (ac - 1) - Li 0) hg ∧ oa = Li ac ∧ ou = Li 0) ∧ (¬ (0 < ac ∧ ac < n) → co = 1 ∧ ro = 1 ∧ oa = 0 ∧ ou = 0)
def tchP (Li : Int → Int) (a b k : Int) : Bool := decide (a ≤ Li k ∧ Li k ≤ b)
def rnsP (Be En : Int → Int) (a b k : Int) : Bool := decide (Be k < b ∧ a < En k)
def onPg (ac : Int) (Li Be En : Int → Int) (lf rt lw up k : Int) : Bool := if wayZ ac k = 0 then tchP Li lw up k && rnsP Be En lf rt k else tchP Li lf rt k && rnsP Be En lw up k
def mkAt (lw up tp y : Int) : Bool := decide (lw ≤ y ∧ (y < up ∨ (tp ≠ 0 ∧ y = up)))
def mkPg (Li Be En : Int → Int) (rt lw up tp k : Int) : Bool := decide (Be k < rt ∧ rt < En k) && mkAt lw up tp (Li k)
theorem bzA_t {a b : Bool} (ha : bz a ≠ 0) (hb : bz b ≠ 0) : 1 = bz (a && b) := by rw [(bz_eq1 a).mpr ha, (bz_eq1 b).mpr hb]; rfl
theorem bzA_1 {a b : Bool} (ha : bz a = 0) : 0 = bz (a && b) := by rw [(bz_eq0 a).mpr ha]; rfl
theorem bzA_2 {a b : Bool} (hb : bz b = 0) : 0 = bz (a && b) := by rw [(bz_eq0 b).mpr hb]; cases a <;> rfl
theorem cntZ_le (P : Int → Bool) (n : Int) (hn : 0 ≤ n) : 0 ≤ cntZ P n ∧ cntZ P n ≤ n := by
  have := sumZ_le (f := fun j => bz (P j)) (B := 1) (by omega) (fun i => bz_01 (P i)) n
  unfold cntZ
  omega

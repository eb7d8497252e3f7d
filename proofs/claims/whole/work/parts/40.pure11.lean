theorem zlneg {p : Program} {l : Launch} {e : Env} {R : Room} {s : State} {m : MethodId} {args : Array Value} {below : List Frame} {meth : Method} {c : Code} {H : Heap} {locs : List Loc} {cells slots : Nat} {Q : State → Prop} {cc : ByteArray} {pc nL : Nat} {own : String} {ls : Array Slot} {rest : List Value} {D : va_G} {cl : List vw_C} {A : Nat → Prop} {tys : List (ClassId × FieldType)} (C : zx p s m args meth c cc nL own D cl tys A) {a : Int} (d : decode cc pc = .ok (.lneg, 1)) (k : W p l e R s m args below meth c H locs cells slots Q (F0 m (pc + 1) ls (.long (zL (-a)) :: rest))) : W p l e R s m args below meth c H locs cells slots Q (F0 m pc ls (.long (zL a) :: rest)) := lv_lneg C.1 C.2.1 d (by rw [zL_neg]; exact k)
theorem upz_bL {g : Int → Int} (h : ∀ j : Int, I64 (g j)) {i v : Int} (hv : I64 v) : ∀ j : Int, I64 (upz g i v j) := fun j => by
  unfold upz
  split
  · exact hv
  · exact h j
theorem acx_dax (v : Int) : acx (dax v) = if 2 ≤ v ∧ v < 4 then 1 else 0 := by
  unfold acx dax
  by_cases h1 : v < 2
  · rw [if_pos h1, if_neg (by decide), if_neg (by omega)]
  · rw [if_neg h1]
    by_cases h2 : v < 4
    · rw [if_pos h2, if_pos rfl, if_pos (by omega)]
    · rw [if_neg h2, if_neg (by decide), if_neg (by omega)]
theorem upx_dax (v : Int) : upx (dax v) = if v < 2 then 1 else 2 := by
  unfold upx dax
  by_cases h1 : v < 2
  · rw [if_pos h1, if_pos rfl, if_pos h1]
  · rw [if_neg h1, if_neg h1]
    by_cases h2 : v < 4
    · rw [if_pos h2, if_neg (by decide)]
    · rw [if_neg h2, if_neg (by decide)]
def inR (v a b : Int) : Bool := decide (a ≤ v ∧ v ≤ b)
def noB (bn b : Int) : Int := if 0 ≤ b ∧ b < bn then 0 else 1
def mGo (From : Int → Int) (k w : Int) : Bool := inR w (-2000000) 2000000 && inR (From k + w) (-1000000) 1000000
def mFt (From To : Int → Int) (vw b : Int) : Int := if vw.tmod 2 = 0 then From (3 * b + dax vw) else -(To (3 * b + dax vw))
def mBk (From To : Int → Int) (vw b : Int) : Int := if vw.tmod 2 = 0 then To (3 * b + dax vw) else -(From (3 * b + dax vw))
def mCut (From To : Int → Int) (vw q b : Int) : Bool := decide (From (3 * b + dax vw) < q ∧ q < To (3 * b + dax vw))
/-- the model's boxes: places and far sides, three a box -/
def moB (bn : Int) (From To : Int → Int) : Prop := ∀ j : Int, 0 ≤ j → j < 3 * bn → -1000000 ≤ From j ∧ From j ≤ 1000000 ∧ From j < To j ∧ To j ≤ From j + 1000000

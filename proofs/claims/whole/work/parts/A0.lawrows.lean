/-! THE LAW: its script, its words, its small method -/
def scX (xs : Nat → Int32) (j : Int) : Int := (xs j.toNat).toInt
theorem i32_I (x : Int32) : I32 x.toInt := ⟨by have := x.le_toInt; omega, by have := x.toInt_lt; omega⟩
theorem i64_I (x : Int64) : I64 x.toInt := ⟨by have := x.le_toInt; omega, by have := x.toInt_lt; omega⟩
theorem scX_I (xs : Nat → Int32) (j : Int) : I32 (scX xs j) := i32_I _
theorem scX_z (xs : Nat → Int32) (j : Int) : zI (scX xs j) = xs j.toNat := Int32.ofInt_toInt _
def andZ (a b : Int) : Int := (zI a &&& zI b).toInt
def shlZ (a : Int) : Int := (zL a <<< ((zI 32).toInt64 &&& 63)).toInt
def lndZ (a b : Int) : Int := (zL a &&& zL b).toInt
def lorZ (a b : Int) : Int := (zL a ||| zL b).toInt
theorem lorZ_I (a b : Int) : I64 (lorZ a b) := i64_I _
theorem andZ_in (a : Int) : 0 ≤ andZ a 15 ∧ andZ a 15 ≤ 15 := by
  unfold andZ
  have h1 : (zI a &&& zI 15).toBitVec.toNat ≤ 15 := by
    rw [Int32.toBitVec_and, BitVec.toNat_and]
    exact Nat.and_le_right
  have h2 : (zI a &&& zI 15).toInt = ((zI a &&& zI 15).toBitVec.toNat : Int) := by
    rw [← Int32.toInt_toBitVec, BitVec.toInt_eq_toNat_of_lt (by omega)]
  omega
def celX (xs : Nat → Int32) (L : Nat) (k : Int) : Int := if k < (L : Int) then scX xs k else 0
theorem celX_I (xs : Nat → Int32) (L : Nat) (k : Int) : I32 (celX xs L k) := by
  unfold celX
  split
  · exact scX_I _ _
  · exact I32_0
section ZLaw
variable {p : Program} {l : Launch} {e : Env} {R : Room} {s : State} {m : MethodId} {args : Array Value} {below : List Frame} {meth : Method} {c : Code} {H : Heap} {locs : List Loc} {cells slots : Nat} {Q : State → Prop}
variable {cc : ByteArray} {pc nL index : Nat} {own : String} {ls : Array Slot} {rest : List Value} {D : va_G} {cl : List vw_C} {A : Nat → Prop} {tys : List (ClassId × FieldType)} {ws : va_W} {b L : Nat} {xs : Nat → Int32}
theorem zsld (C : zx p s m args meth c cc nL own D cl tys A) (hX : va_X b L xs s s.heap) (hbl : b < s.heap.size) (hbA : ¬ A b) (hW : zw D cl A s ws H locs) {j : Int} (h0 : 0 ≤ j) (h1 : j < L) (hL : L ≤ 5634) (hdg : decode cc pc = .ok (.iaload, 1))
    (kk : W p l e R s m args below meth c H locs cells slots Q (F0 m (pc + 1) ls (.int (zI (scX xs j)) :: rest))) : W p l e R s m args below meth c H locs cells slots Q (F0 m pc ls (.int (zI j) :: .ref b :: rest)) := by
  refine va_sld C.1 C.2.1 hX hbl hbA hW.2.2 (zI_in h0 h1 (by omega)) hdg ?_
  rw [zI_cl (by unfold I32; omega), ← scX_z xs j]
  exact kk
theorem zslen (C : zx p s m args meth c cc nL own D cl tys A) (hX : va_X b L xs s s.heap) (hbl : b < s.heap.size) (hbA : ¬ A b) (hW : zw D cl A s ws H locs) (hdg : decode cc pc = .ok (.arraylength, 1))
    (kk : W p l e R s m args below meth c H locs cells slots Q (F0 m (pc + 1) ls (.int (zI (L : Int)) :: rest))) : W p l e R s m args below meth c H locs cells slots Q (F0 m pc ls (.ref b :: rest)) := by
  refine va_slen C.1 C.2.1 hX hbl hbA hW.2.2 hdg ?_
  rw [show Int32.ofNat L = zI (L : Int) from zI_nI L]
  exact kk
theorem ziand (C : zx p s m args meth c cc nL own D cl tys A) {a d : Int} (hdg : decode cc pc = .ok (.iand, 1)) (kk : W p l e R s m args below meth c H locs cells slots Q (F0 m (pc + 1) ls (.int (zI (andZ a d)) :: rest))) : W p l e R s m args below meth c H locs cells slots Q (F0 m pc ls (.int (zI d) :: .int (zI a) :: rest)) :=
  lv_iand C.1 C.2.1 hdg (by rw [show zI a &&& zI d = zI (andZ a d) from (Int32.ofInt_toInt _).symm]; exact kk)
theorem zlshl (C : zx p s m args meth c cc nL own D cl tys A) {a : Int} (hdg : decode cc pc = .ok (.lshl, 1)) (kk : W p l e R s m args below meth c H locs cells slots Q (F0 m (pc + 1) ls (.long (zL (shlZ a)) :: rest))) : W p l e R s m args below meth c H locs cells slots Q (F0 m pc ls (.int (zI 32) :: .long (zL a) :: rest)) :=
  lv_lshl C.1 C.2.1 hdg (show zL a <<< ((zI 32).toInt64 &&& 63) = zL (shlZ a) from (Int64.ofInt_toInt _).symm) kk
theorem zland (C : zx p s m args meth c cc nL own D cl tys A) {a d : Int} (hdg : decode cc pc = .ok (.land, 1)) (kk : W p l e R s m args below meth c H locs cells slots Q (F0 m (pc + 1) ls (.long (zL (lndZ a d)) :: rest))) : W p l e R s m args below meth c H locs cells slots Q (F0 m pc ls (.long (zL d) :: .long (zL a) :: rest)) :=
  lv_land C.1 C.2.1 hdg (by rw [show zL a &&& zL d = zL (lndZ a d) from (Int64.ofInt_toInt _).symm]; exact kk)
theorem zlor (C : zx p s m args meth c cc nL own D cl tys A) {a d : Int} (hdg : decode cc pc = .ok (.lor, 1)) (kk : W p l e R s m args below meth c H locs cells slots Q (F0 m (pc + 1) ls (.long (zL (lorZ a d)) :: rest))) : W p l e R s m args below meth c H locs cells slots Q (F0 m pc ls (.long (zL d) :: .long (zL a) :: rest)) :=
  lv_lor C.1 C.2.1 hdg (by rw [show zL a ||| zL d = zL (lorZ a d) from (Int64.ofInt_toInt _).symm]; exact kk)
end ZLaw
/-- what cell may rest on -/
def Zx (D : va_G) (cl : List vw_C) (tys : List (ClassId × FieldType)) (sz b L : Nat) (xs : Nat → Int32) (U : State) : Prop := Zb D cl tys [] sz U ∧ va_X b L xs U U.heap
theorem Zx_blind {D : va_G} {cl : List vw_C} {tys : List (ClassId × FieldType)} {sz b L : Nat} {xs : Nat → Int32} {av : List Value} : FrameBlind (va_Pc av (Zx D cl tys sz b L xs)) := fun a U g mk q => by
  obtain ⟨q0, ⟨q1, qP, qK, qD, qN⟩, qX⟩ := q
  exact ⟨q0, ⟨q1, qP, va_K.moved (u := U) (U := U.calling g mk a) (Vm.Alike.refl U.vm) qK, qD, qN⟩, va_X.moved (u := U) (U := U.calling g mk a) (Vm.Alike.refl U.vm) qX⟩

/-! THE LAW: what joins the class's answers to the model's -/
theorem bm_sel {bn : Int} {P0 P1 P2 S0 S1 S2 From To : Int → Int} (h : bmR bn P0 P1 P2 S0 S1 S2 From To) {ax c : Int} (ha : ax = 0 ∨ ax = 1 ∨ ax = 2) (hc : 0 ≤ c ∧ c < bn) : From (3 * c + ax) = sel3 ax P0 P1 P2 c := by
  have h1 := h c hc.1 hc.2
  rcases ha with rfl | rfl | rfl
  · rw [Int.add_zero]; exact h1.1.1
  · exact h1.2.1.1
  · exact h1.2.2.1
theorem pg_B {n ac : Int} {Li Be En St Ups Pla Beg Ens Hid : Int → Int} (h : eqA n ac Li Be En St Ups Pla Beg Ens Hid) (hn : 0 ≤ n) {wd hg oa ou k co la : Int} : cntZ (pgP Ups Pla Beg Ens wd hg (oa + wd * k.tmod co) (ou + hg * k.tdiv co) la 0) n = cntZ (onPg ac Li Be En (oa + (k - (k.tdiv co) * co) * wd) (oa + (k - (k.tdiv co) * co) * wd + wd) (ou + (k.tdiv co) * hg) (ou + (k.tdiv co) * hg + hg)) n := by
  rw [pg_k, Int.mul_comm (k.tmod co) wd, Int.mul_comm (k.tdiv co) hg]
  exact (pg_on h hn).symm
theorem pg_C {n ac : Int} {Li Be En St Ups Pla Beg Ens Hid : Int → Int} (h : eqA n ac Li Be En St Ups Pla Beg Ens Hid) (h0 : 0 ≤ ac) (h1 : ac ≤ n) {wd hg oa ou k co ro : Int} : cntZ (pgP Ups Pla Beg Ens wd hg (oa + wd * k.tmod co) (ou + hg * k.tdiv co) (bz (decide (k.tdiv co = ro - 1))) 1) n = cntZ (mkPg Li Be En (oa + (k - (k.tdiv co) * co) * wd + wd) (ou + (k.tdiv co) * hg) (ou + (k.tdiv co) * hg + hg) (bz (decide ((k.tdiv co) + 1 = ro)))) ac := by
  rw [pg_k, pg_la, Int.mul_comm (k.tmod co) wd, Int.mul_comm (k.tdiv co) hg]
  exact (pg_mk h h0 h1).symm
theorem paC_0 {cr k wh : Int} (h : -1 ≤ k ∧ k < cr) (hw : 0 ≤ wh ∧ wh ≤ 1) : paC cr k wh = 0 := by unfold paC; rw [if_pos h, if_pos hw]
theorem paC_2 {cr k wh : Int} (h : ¬ (-1 ≤ k ∧ k < cr)) : paC cr k wh = 2 := by unfold paC; rw [if_neg h]
theorem paC_3 {cr k wh : Int} (h : -1 ≤ k ∧ k < cr) (hw : ¬ (0 ≤ wh ∧ wh ≤ 1)) : paC cr k wh = 3 := by unfold paC; rw [if_pos h, if_neg hw]
theorem liC_0 {ln k wh : Int} (h : -1 ≤ k ∧ k < ln) (hw : 0 ≤ wh ∧ wh ≤ 3) : liC ln k wh = 0 := by unfold liC; rw [if_pos h, if_pos hw]
theorem liC_1 {ln k wh : Int} (h : ¬ (-1 ≤ k ∧ k < ln)) : liC ln k wh = 1 := by unfold liC; rw [if_neg h]
theorem liC_2 {ln k wh : Int} (h : -1 ≤ k ∧ k < ln) (hw : ¬ (0 ≤ wh ∧ wh ≤ 3)) : liC ln k wh = 2 := by unfold liC; rw [if_pos h, if_neg hw]
theorem noB_f {bn b : Int} (h : ¬ (0 ≤ b ∧ b < bn)) : noB bn b = 1 := by unfold noB; rw [if_neg h]
theorem deC_f {bn b : Int} {g : Bool} (h : ¬ (0 ≤ b ∧ b < bn)) : deC bn b g = 1 := by unfold deC; rw [noB_f h]; rfl
theorem bm_c {bn : Int} {P0 P1 P2 S0 S1 S2 From To : Int → Int} (h : bmR bn P0 P1 P2 S0 S1 S2 From To) {b i : Int} (h0 : 0 ≤ b) (h1 : b < bn) : chrL (To (3 * b + 0) - From (3 * b + 0)) (To (3 * b + 1) - From (3 * b + 1)) (To (3 * b + 2) - From (3 * b + 2)) i = chrL (S0 b) (S1 b) (S2 b) i := by
  have h9 := bm_z h h0 h1
  unfold mS at h9
  rw [h9.1, h9.2.1, h9.2.2]
section ZSame
variable {p : Program} {l : Launch} {e : Env} {R : Room} {s : State} {m : MethodId} {args : Array Value} {below : List Frame} {meth : Method} {c : Code} {H : Heap} {locs : List Loc} {cells slots : Nat} {Q : State → Prop}
variable {cc : ByteArray} {pc nL : Nat} {own : String} {ls : Array Slot} {rest : List Value} {D : va_G} {cl : List vw_C} {A : Nat → Prop} {tys : List (ClassId × FieldType)}
theorem zlcmp_s (C : zx p s m args meth c cc nL own D cl tys A) {a b : Int} {off : Int} {tgt : Nat} (h : a = b) (d : decode cc pc = .ok (.lcmp, 1)) (d1 : decode cc (pc + 1) = .ok (.ifCond .eq off, 3)) (ht : ((pc + 1 : Nat) : Int) + off = (tgt : Int)) (kt : W p l e R s m args below meth c H locs cells slots Q (F0 m tgt ls (rest))) : W p l e R s m args below meth c H locs cells slots Q (F0 m pc ls (.long (zL b) :: .long (zL a) :: rest)) := by
  subst h
  have hz : zL a = zL (zL a).toInt := (Int64.ofInt_toInt _).symm
  rw [hz]
  exact zlcmp_eq C (i64_I _) (i64_I _) d d1 ht (fun _ => kt) (fun h => absurd rfl h)
end ZSame

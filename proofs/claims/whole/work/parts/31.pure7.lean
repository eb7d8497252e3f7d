theorem arrL_ex (L : List Int) : ∃ (g : Int → Int) (k : Int), arrL g k L := ⟨fun j => L.getD j.toNat 0, (L.length : Int), rfl, fun k _ => rfl⟩
/-- an array's first n places copied -/
def cpz (f g : Int → Int) (n : Int) : Int → Int := fun j => if 0 ≤ j ∧ j < n then f j else g j
theorem cpz_in {f g : Int → Int} {n j : Int} (h0 : 0 ≤ j) (h1 : j < n) : cpz f g n j = f j := if_pos ⟨h0, h1⟩
theorem cpz_b {f g : Int → Int} (n : Int) (hf : ∀ j : Int, I32 (f j)) (hg : ∀ j : Int, I32 (g j)) : ∀ j : Int, I32 (cpz f g n j) := fun j => by
  unfold cpz
  split
  · exact hf j
  · exact hg j
def kCopy (own : String) (index : Nat) : List Cond := [.methodLink own index arraycopyName, .native arraycopyName, .static arraycopyName, .initialized "java/lang/System"]
section ZCopy
variable {p : Program} {l : Launch} {e : Env} {R : Room} {s : State} {m : MethodId} {args : Array Value} {below : List Frame} {meth : Method} {c : Code} {H : Heap} {locs : List Loc} {cells slots : Nat} {Q : State → Prop}
variable {cc : ByteArray} {pc nL index : Nat} {own : String} {ls : Array Slot} {rest : List Value} {D : va_G} {cl : List vw_C} {A : Nat → Prop} {tys : List (ClassId × FieldType)} {ws : va_W}
theorem zcopy0 (C : zx p s m args meth c cc nL own D cl tys A) (hW : zw D cl A s ws H locs) (q0 q1 t0 t1 : Nat) {a0 a n0 n1 : Nat} {c0 c1 : ClassId} {f g : Int → Int} (ha0 : ws[q0]? = some (a0, .inl (c0, n0, .inl (fI f)))) (ha1 : ws[q1]? = some (a, .inl (c1, n1, .inl (fI g)))) (ht0 : tys[t0]? = some (c0, .int)) (ht1 : tys[t1]? = some (c1, .int)) {n : Int} (h0 : 0 ≤ n) (h1 : n ≤ n0) (h2 : n ≤ n1) (hn0 : (n0 : Int) ≤ 2147483647) (hw : inT (kCopy own index)) (hl : ls.size = nL) (hf : 1 ≤ R.frames) (hlo : (rest.map fun v => v.category).sum + (nativeFrameWords "java/lang/System" "arraycopy" 5 + 11) ≤ R.locals) (hdg : decode cc pc = .ok (.invokestatic index, 3))
    (kk : ∀ (H1 : Heap) (locs1 : List Loc), zw D cl A s (ws.set q1 (a, .inl (c1, n1, .inl (fI (cpz f g n))))) H1 locs1 → W p l e R s m args below meth c H1 locs1 cells slots Q (F0 m (pc + 3) ls rest)) : W p l e R s m args below meth c H locs cells slots Q (F0 m pc ls (.int (zI n) :: .int (zI 0) :: .ref a :: .int (zI 0) :: .ref a0 :: rest)) := by
  have hz : (zI 0).toNatClampNeg = 0 := by decide
  have hnn : (zI n).toNatClampNeg = n.toNat := zI_cl (by omega)
  have e1 : va_cpy (fI f) (fI g) (zI 0).toNatClampNeg (zI 0).toNatClampNeg (zI n).toNatClampNeg = fI (cpz f g n) := by
    rw [hz, hnn]
    funext k
    show (if 0 ≤ k ∧ k < 0 + n.toNat then zI (f ((0 + (k - 0) : Nat) : Int)) else zI (g (k : Int))) = zI (if 0 ≤ (k : Int) ∧ (k : Int) < n then f (k : Int) else g (k : Int))
    by_cases h : k < n.toNat
    · rw [if_pos (by omega), if_pos (by omega)]; simp
    · rw [if_neg (by omega), if_neg (by omega)]
  refine va_copyi C.1 C.2.1 (C.2.2.1.trans hl.symm) C.2.2.2.1 (C.2.2.2.2.1 _ (hw _ (by simp [kCopy]))) (C.2.2.2.2.1 _ (hw _ (by simp [kCopy]))) (C.2.2.2.2.1 _ (hw _ (by simp [kCopy]))) (C.2.2.2.2.1 _ (hw _ (by simp [kCopy]))) C.2.2.2.2.2.1 hW.1 hW.2.1 hW.2.2 q0 q1 t0 t1 ha0 ha1 ht0 ht1 rfl (by decide) (by decide) (by rw [zI_0, zI_lt (by omega) (by omega)]; omega) (by rw [hz, hnn]; omega) (by rw [hz, hnn]; omega) (fun i _ => rfl) hf hlo hdg ?_
  rw [e1]
  exact fun H1 locs1 g1 g2 g3 => kk H1 locs1 ⟨g1, g2, g3⟩
end ZCopy
def cmpZ (a b : Int) : Int := if a < b then -1 else if a = b then 0 else 1
theorem cmpZ_in (a b : Int) : cmpZ a b = -1 ∧ a < b ∨ cmpZ a b = 0 ∧ a = b ∨ cmpZ a b = 1 ∧ b < a := by
  unfold cmpZ
  by_cases h : a < b
  · rw [if_pos h]; omega
  · rw [if_neg h]
    by_cases h2 : a = b
    · rw [if_pos h2]; omega
    · rw [if_neg h2]; omega
def cmpS (w1 l1 b1 w2 l2 b2 : Int) : Int := if w1 = w2 then (if l1 = l2 then cmpZ b1 b2 else cmpZ l1 l2) else cmpZ w1 w2
abbrev lexL (w1 l1 b1 w2 l2 b2 : Int) : Prop := w1 < w2 ∨ (w1 = w2 ∧ (l1 < l2 ∨ (l1 = l2 ∧ b1 < b2)))
theorem cmpS_in (w1 l1 b1 w2 l2 b2 : Int) : (cmpS w1 l1 b1 w2 l2 b2 = -1 ∧ lexL w1 l1 b1 w2 l2 b2) ∨ (cmpS w1 l1 b1 w2 l2 b2 = 0 ∧ w1 = w2 ∧ l1 = l2 ∧ b1 = b2) ∨ (cmpS w1 l1 b1 w2 l2 b2 = 1 ∧ lexL w2 l2 b2 w1 l1 b1) := by
  unfold cmpS
  by_cases h : w1 = w2
  · rw [if_pos h]
    by_cases h2 : l1 = l2
    · rw [if_pos h2]; have := cmpZ_in b1 b2; omega
    · rw [if_neg h2]; have := cmpZ_in l1 l2; omega
  · rw [if_neg h]; have := cmpZ_in w1 w2; omega

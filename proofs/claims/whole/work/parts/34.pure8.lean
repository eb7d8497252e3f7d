/-- the k-th of those for which P, among the first n; else -1 -/
def cntZ (P : Int → Bool) (n : Int) : Int := sumZ (fun j => bz (P j)) n
theorem cntZ_s (P : Int → Bool) {i : Int} (h : 0 ≤ i) : cntZ P (i + 1) = cntZ P i + bz (P i) := sumZ_s _ h
def kthZ (P : Int → Bool) (k n : Int) : Int := if leastZ (fun i => P i && decide (cntZ P i = k)) n < n then leastZ (fun i => P i && decide (cntZ P i = k)) n else -1
theorem kthZ_at {P : Int → Bool} {k n i : Int} (h0 : 0 ≤ i) (h1 : i < n) (h : anyZ (fun i => P i && decide (cntZ P i = k)) i = false) (h2 : P i = true) (h3 : cntZ P i = k) : kthZ P k n = i := by
  have e : leastZ (fun i => P i && decide (cntZ P i = k)) n = i := leastZ_at h0 h1 h (by rw [h2, decide_eq_true h3]; rfl)
  unfold kthZ
  rw [e, if_pos h1]
theorem kthZ_no {P : Int → Bool} {k n : Int} (hn : 0 ≤ n) (h : anyZ (fun i => P i && decide (cntZ P i = k)) n = false) : kthZ P k n = -1 := by
  unfold kthZ
  rw [leastZ_no hn h, if_neg (by omega)]
/-- strokes: the same in all five numbers; not just so among others -/
def sameS (oac : Int) (oLi oBe oEn oSt : Int → Int) (tac : Int) (tLi tBe tEn tSt : Int → Int) (j i : Int) : Bool := decide (wayZ oac j = wayZ tac i ∧ oLi j = tLi i ∧ oBe j = tBe i ∧ oEn j = tEn i ∧ oSt j = tSt i)
def newP (on oac : Int) (oLi oBe oEn oSt : Int → Int) (tac : Int) (tLi tBe tEn tSt : Int → Int) (i : Int) : Bool := !(anyZ (fun j => sameS oac oLi oBe oEn oSt tac tLi tBe tEn tSt j i) on)
theorem newP_t {on oac tac a i : Int} {oLi oBe oEn oSt tLi tBe tEn tSt : Int → Int} (hat : 0 ≤ a) (hA : ∀ j : Int, 0 ≤ j → j < a → lexL (wayZ oac j) (oLi j) (oBe j) (wayZ tac i) (tLi i) (tBe i)) (hge : a < on → ¬ lexL (wayZ oac a) (oLi a) (oBe a) (wayZ tac i) (tLi i) (tBe i)) (hso : ∀ j j2 : Int, 0 ≤ j → j < j2 → j2 < on → lexL (wayZ oac j) (oLi j) (oBe j) (wayZ oac j2) (oLi j2) (oBe j2)) (hs : a < on → sameS oac oLi oBe oEn oSt tac tLi tBe tEn tSt a i = false) : newP on oac oLi oBe oEn oSt tac tLi tBe tEn tSt i = true := by
  unfold newP
  cases e : anyZ (fun j => sameS oac oLi oBe oEn oSt tac tLi tBe tEn tSt j i) on with
  | false => rfl
  | true =>
    obtain ⟨j, h0, h1, h2⟩ := (anyZ_iff _ _).mp e
    have h3 := of_decide_eq_true h2
    rcases Int.lt_trichotomy j a with h | h | h
    · have := hA j h0 h; omega
    · subst h
      have h4 := hs h1
      rw [h2] at h4
      cases h4
    · have := hso a j hat h h1
      have := hge (by omega)
      omega
theorem newP_f {on oac tac a i : Int} {oLi oBe oEn oSt tLi tBe tEn tSt : Int → Int} (hat : 0 ≤ a) (h : a < on) (hs : sameS oac oLi oBe oEn oSt tac tLi tBe tEn tSt a i = true) : newP on oac oLi oBe oEn oSt tac tLi tBe tEn tSt i = false := by
  unfold newP
  rw [anyZ_t hat h hs]; rfl

/-! THE MODEL'S CUT LIST AND PAGES -/
def mS (F T : Int → Int) (i b : Int) : Int := T (3 * b + i) - F (3 * b + i)
def sm1 (F T : Int → Int) (b : Int) : Int := max (mS F T 0 b) (max (mS F T 1 b) (mS F T 2 b))
def sm3 (F T : Int → Int) (b : Int) : Int := min (mS F T 0 b) (min (mS F T 1 b) (mS F T 2 b))
def sm2 (F T : Int → Int) (b : Int) : Int := mS F T 0 b + mS F T 1 b + mS F T 2 b - sm1 F T b - sm3 F T b
def srtP (F T : Int → Int) (n : Int) (S : Int → Int) : Prop := ∀ b : Int, 0 ≤ b → b < n → S (3 * b + 0) = sm1 F T b ∧ S (3 * b + 1) = sm2 F T b ∧ S (3 * b + 2) = sm3 F T b
theorem srtP_s {F T S : Int → Int} {n a b d : Int} (h0 : 0 ≤ n) (h : srtP F T n S) (ha : a = sm1 F T n) (hb : b = sm2 F T n) (hd : d = sm3 F T n) : srtP F T (n + 1) (upz (upz (upz S (3 * n) a) (3 * n + 1) b) (3 * n + 2) d) := by
  intro k h1 h2
  by_cases e : k = n
  · subst e
    refine ⟨?_, ?_, ?_⟩
    · rw [upz_n (by omega), upz_n (by omega), show 3 * k + 0 = 3 * k by omega, upz_s, ha]
    · rw [upz_n (by omega), upz_s, hb]
    · rw [upz_s, hd]
  · obtain ⟨g1, g2, g3⟩ := h k h1 (by omega)
    refine ⟨?_, ?_, ?_⟩
    · rw [upz_n (by omega), upz_n (by omega), upz_n (by omega), g1]
    · rw [upz_n (by omega), upz_n (by omega), upz_n (by omega), g2]
    · rw [upz_n (by omega), upz_n (by omega), upz_n (by omega), g3]
def cq (S : Int → Int) (a b : Int) : Int := cmpS (S (3 * a + 0)) (S (3 * a + 1)) (S (3 * a + 2)) (S (3 * b + 0)) (S (3 * b + 1)) (S (3 * b + 2))
theorem cq_in (S : Int → Int) (a b : Int) : cq S a b = -1 ∨ cq S a b = 0 ∨ cq S a b = 1 := by
  have := cmpS_in (S (3 * a + 0)) (S (3 * a + 1)) (S (3 * a + 2)) (S (3 * b + 0)) (S (3 * b + 1)) (S (3 * b + 2))
  unfold cq
  omega
theorem cq_d {S : Int → Int} {a b k : Int} (h0 : 0 ≤ k) (h1 : k < 3) (h : ∀ i : Int, 0 ≤ i → i < k → S (3 * a + i) = S (3 * b + i)) (h2 : S (3 * a + k) ≠ S (3 * b + k)) : cq S a b = cmpZ (S (3 * a + k)) (S (3 * b + k)) := by
  unfold cq cmpS
  have e : k = 0 ∨ k = 1 ∨ k = 2 := by omega
  rcases e with e | e | e
  · subst e; rw [if_neg h2]
  · subst e; rw [if_pos (h 0 (by omega) (by omega)), if_neg h2]
  · subst e; rw [if_pos (h 0 (by omega) (by omega)), if_pos (h 1 (by omega) (by omega))]
theorem cq_e {S : Int → Int} {a b : Int} (h : ∀ i : Int, 0 ≤ i → i < 3 → S (3 * a + i) = S (3 * b + i)) : cq S a b = 0 := by
  unfold cq cmpS
  rw [if_pos (h 0 (by omega) (by omega)), if_pos (h 1 (by omega) (by omega)), h 2 (by omega) (by omega)]
  unfold cmpZ
  rw [if_neg (by omega), if_pos rfl]
def eqQ (S : Int → Int) (o e : Int) : Bool := decide (cq S e o = 0)
def fsQ (S : Int → Int) (o : Int) : Bool := !(anyZ (eqQ S o) o)
def upQ (S : Int → Int) (b o : Int) : Bool := fsQ S o && decide (0 < cq S o b)
def lnQ (S : Int → Int) (bn b : Int) : Int := cntZ (upQ S b) bn
def lnsQ (S : Int → Int) (bn n : Int) : Int := foldZ (fun b x => if x ≤ lnQ S bn b then lnQ S bn b + 1 else x) 0 n
def fndQ (S : Int → Int) (bn k n : Int) : Int := foldZ (fun b x => if lnQ S bn b = k then b else x) (-1) n
def isQ (S : Int → Int) (bn k b : Int) : Bool := decide (lnQ S bn b = k)
theorem lnsQ_s (S : Int → Int) (bn : Int) {i : Int} (h : 0 ≤ i) : lnsQ S bn (i + 1) = if lnsQ S bn i ≤ lnQ S bn i then lnQ S bn i + 1 else lnsQ S bn i := foldZ_s _ _ h
theorem fndQ_s (S : Int → Int) (bn k : Int) {i : Int} (h : 0 ≤ i) : fndQ S bn k (i + 1) = if lnQ S bn i = k then i else fndQ S bn k i := foldZ_s _ _ h
theorem lnQ_in (S : Int → Int) {bn : Int} (b : Int) (h : 0 ≤ bn) : 0 ≤ lnQ S bn b ∧ lnQ S bn b ≤ bn := cntZ_le _ _ h
theorem bz_and {a b : Bool} {u : Int} (hu : u = bz a) : bz (a && b) = if u = 0 then 0 else bz b := by
  subst hu
  cases a <;> cases b <;> rfl
theorem bz_no (a : Bool) : bz (!a) = 1 - bz a := by cases a <;> rfl
def liC (ls k wh : Int) : Int := if -1 ≤ k ∧ k < ls then (if 0 ≤ wh ∧ wh ≤ 3 then 0 else 2) else 1
/-- pages -/
def edA (Ups Pla Beg Ens : Int → Int) (up gr k : Int) : Int := if Ups k = up then (if gr = 0 then Beg k else Ens k) else Pla k
def edB (gr a v : Int) : Int := if gr = 0 then (if a < v then 1 else 0) else (if v < a then 1 else 0)
def edM (Ups Pla Beg Ens : Int → Int) (up gr n : Int) : Int := foldZ (fun k v => if k = 0 ∨ edB gr (edA Ups Pla Beg Ens up gr k) v = 1 then edA Ups Pla Beg Ens up gr k else v) 0 n
theorem edM_s (Ups Pla Beg Ens : Int → Int) (up gr : Int) {i : Int} (h : 0 ≤ i) : edM Ups Pla Beg Ens up gr (i + 1) = if i = 0 ∨ edB gr (edA Ups Pla Beg Ens up gr i) (edM Ups Pla Beg Ens up gr i) = 1 then edA Ups Pla Beg Ens up gr i else edM Ups Pla Beg Ens up gr i := foldZ_s _ _ h
abbrev B2 (a : Int) : Prop := -2000000 ≤ a ∧ a ≤ 2000000
/-- the strokes of the model lie in the room of the boxes -/
def moS (n : Int) (Ups Pla Beg Ens Hid : Int → Int) : Prop := ∀ k : Int, 0 ≤ k → k < n → B2 (Pla k) ∧ B2 (Beg k) ∧ B2 (Ens k) ∧ (Ups k = 0 ∨ Ups k = 1) ∧ (Hid k = 0 ∨ Hid k = 1)
theorem edA_in {n : Int} {Ups Pla Beg Ens Hid : Int → Int} (h : moS n Ups Pla Beg Ens Hid) (up gr : Int) {k : Int} (h0 : 0 ≤ k) (h1 : k < n) : B2 (edA Ups Pla Beg Ens up gr k) := by
  have := h k h0 h1
  unfold edA
  split
  · split <;> omega
  · omega
def onM (Ups Pla Beg Ens : Int → Int) (wi hi x y k : Int) : Bool := if Ups k = 0 then decide (y ≤ Pla k ∧ Pla k ≤ y + hi ∧ Beg k < x + wi ∧ x < Ens k) else decide (x ≤ Pla k ∧ Pla k ≤ x + wi ∧ Beg k < y + hi ∧ y < Ens k)
def irM (Pla : Int → Int) (hi y la k : Int) : Bool := decide (y ≤ Pla k ∧ (Pla k < y + hi ∨ (la ≠ 0 ∧ Pla k = y + hi)))
def mkM (Ups Pla Beg Ens : Int → Int) (wi hi x y la k : Int) : Bool := decide (Ups k = 0 ∧ Beg k < x + wi ∧ x + wi < Ens k ∧ irM Pla hi y la k = true)
def pgP (Ups Pla Beg Ens : Int → Int) (wi hi x y la wh k : Int) : Bool := if wh = 0 then onM Ups Pla Beg Ens wi hi x y k else mkM Ups Pla Beg Ens wi hi x y la k
def paC (cr k wh : Int) : Int := if -1 ≤ k ∧ k < cr then (if 0 ≤ wh ∧ wh ≤ 1 then 0 else 3) else 2
theorem pgF_in {len ea : Int} (h0 : -10000000 ≤ len) (h1 : len ≤ 10000000) (h2 : 1 ≤ ea) (h3 : ea ≤ 65536) : 1 ≤ pgF len ea ∧ pgF len ea ≤ 20000000 := by
  have htd := tdiv_b (a := len + ea - 1) (b := ea) (M := 20000000) (by omega) (by omega) (by omega)
  unfold pgF
  omega
theorem mul_in {a b A B : Int} (a0 : 0 ≤ a) (a1 : a ≤ A) (b0 : 0 ≤ b) (b1 : b ≤ B) : 0 ≤ a * b ∧ a * b ≤ A * B :=
  ⟨Int.mul_nonneg a0 b0, Int.mul_le_mul a1 b1 b0 (by omega)⟩
theorem edM_in {n : Int} {Ups Pla Beg Ens Hid : Int → Int} (h : moS n Ups Pla Beg Ens Hid) (up gr : Int) (hn : 0 ≤ n) : B2 (edM Ups Pla Beg Ens up gr n) := by
  have key : ∀ k : Nat, (k : Int) ≤ n → B2 (edM Ups Pla Beg Ens up gr (k : Int)) := by
    intro k
    induction k with
    | zero => intro _; show (-2000000 : Int) ≤ 0 ∧ (0 : Int) ≤ 2000000; omega
    | succ k ih =>
      intro hk
      have h1 := ih (by omega)
      have h2 := edA_in h up gr (k := (k : Int)) (by omega) (by omega)
      rw [show ((k + 1 : Nat) : Int) = (k : Int) + 1 by omega, edM_s _ _ _ _ _ _ (by omega)]
      split <;> assumption
  have := key n.toNat (by omega)
  rw [Int.toNat_of_nonneg hn] at this
  exact this

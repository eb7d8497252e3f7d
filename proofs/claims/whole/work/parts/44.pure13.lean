theorem mGo_s {From : Int → Int} {k w : Int} (h : mGo From k w = true) : (-2000000 ≤ w ∧ w ≤ 2000000) ∧ (-1000000 ≤ From k + w ∧ From k + w ≤ 1000000) := by
  simp only [mGo, inR, Bool.and_eq_true, decide_eq_true_eq] at h
  omega
def mSame (Ups Pla Beg Ens Hid KUp KPl KBe KEn KHi : Int → Int) (q k : Int) : Bool := decide (KUp k = Ups q ∧ KPl k = Pla q ∧ KBe k = Beg q ∧ KEn k = Ens q ∧ KHi k = Hid q)
def mNew (Ups Pla Beg Ens Hid KUp KPl KBe KEn KHi : Int → Int) (ks q : Int) : Bool := !(anyZ (mSame Ups Pla Beg Ens Hid KUp KPl KBe KEn KHi q) ks)
def lnT (Axs Rws MFr MTo : Int → Int) (ax ro i : Int) : Int := if Axs i = ax ∧ Rws i = ro then MTo i - MFr i else 0
theorem bz_or {a b : Bool} {u v : Int} (hu : u = bz a) (hv : v = bz b) (h : v = 0 ∨ v = 1) : bz (a || b) = if u = 0 then v else 1 := by
  subst hu; subst hv
  cases a <;> cases b <;> rfl
theorem bz_not (a : Bool) : bz (!a) = 1 - bz a := by cases a <;> rfl

/-! NUMBERS: ints and longs of the machine by their values in Int -/
def zI (z : Int) : Int32 := Int32.ofInt z
def zL (z : Int) : Int64 := Int64.ofInt z
abbrev I32 (z : Int) : Prop := -2147483648 ≤ z ∧ z ≤ 2147483647
abbrev I64 (z : Int) : Prop := -9223372036854775808 ≤ z ∧ z ≤ 9223372036854775807
theorem zI_t {z : Int} (h : I32 z) : (zI z).toInt = z := Int32.toInt_ofInt_of_le (by have := h.1; omega) (by have := h.2; omega)
theorem zL_t {z : Int} (h : I64 z) : (zL z).toInt = z := Int64.toInt_ofInt_of_le (by have := h.1; omega) (by have := h.2; omega)
theorem zI_of (x : Int32) : ∃ z : Int, I32 z ∧ x = zI z := ⟨x.toInt, ⟨by have := x.le_toInt; omega, by have := x.toInt_lt; omega⟩, (Int32.ofInt_toInt x).symm⟩
theorem zL_of (x : Int64) : ∃ z : Int, I64 z ∧ x = zL z := ⟨x.toInt, ⟨by have := x.le_toInt; omega, by have := x.toInt_lt; omega⟩, (Int64.ofInt_toInt x).symm⟩
theorem zI_add (a b : Int) : zI a + zI b = zI (a + b) := (Int32.ofInt_add a b).symm
theorem zI_sub (a b : Int) : zI a - zI b = zI (a - b) := (Int32.ofInt_sub a b).symm
theorem zI_mul (a b : Int) : zI a * zI b = zI (a * b) := (Int32.ofInt_mul a b).symm
theorem zI_neg (a : Int) : -zI a = zI (-a) := (Int32.ofInt_neg a).symm
theorem zL_add (a b : Int) : zL a + zL b = zL (a + b) := (Int64.ofInt_add a b).symm
theorem zL_sub (a b : Int) : zL a - zL b = zL (a - b) := (Int64.ofInt_sub a b).symm
theorem zL_mul (a b : Int) : zL a * zL b = zL (a * b) := (Int64.ofInt_mul a b).symm
theorem zL_neg (a : Int) : -zL a = zL (-a) := (Int64.ofInt_neg a).symm
theorem zI_lt {a b : Int} (ha : I32 a) (hb : I32 b) : zI a < zI b ↔ a < b := by rw [Int32.lt_iff_toInt_lt, zI_t ha, zI_t hb]
theorem zI_le {a b : Int} (ha : I32 a) (hb : I32 b) : zI a ≤ zI b ↔ a ≤ b := by rw [Int32.le_iff_toInt_le, zI_t ha, zI_t hb]
theorem zI_eq {a b : Int} (ha : I32 a) (hb : I32 b) : zI a = zI b ↔ a = b := by rw [← Int32.toInt_inj, zI_t ha, zI_t hb]
theorem zL_lt {a b : Int} (ha : I64 a) (hb : I64 b) : zL a < zL b ↔ a < b := by rw [Int64.lt_iff_toInt_lt, zL_t ha, zL_t hb]
theorem zL_le {a b : Int} (ha : I64 a) (hb : I64 b) : zL a ≤ zL b ↔ a ≤ b := by rw [Int64.le_iff_toInt_le, zL_t ha, zL_t hb]
theorem zL_eq {a b : Int} (ha : I64 a) (hb : I64 b) : zL a = zL b ↔ a = b := by rw [← Int64.toInt_inj, zL_t ha, zL_t hb]
theorem zI_0 : (0 : Int32) = zI 0 := by decide
theorem I32_0 : I32 0 := by unfold I32; omega
theorem I32_1 : I32 1 := by unfold I32; omega
theorem I32_64 {a : Int} (h : I32 a) : I64 a := by unfold I32 at h; unfold I64; omega
theorem zI_i2l {a : Int} (h : I32 a) : (zI a).toInt64 = zL a := by
  apply Int64.toInt.inj
  rw [Int32.toInt_toInt64, zI_t h, zL_t (I32_64 h)]
theorem zL_l2i (a : Int) : (zL a).toInt32 = zI a := Int64.toInt32_ofInt
theorem zI_cl {a : Int} (h : I32 a) : (zI a).toNatClampNeg = a.toNat := by
  rw [← Int32.toNat_toInt, zI_t h]
theorem zI_in {i : Int} {n : Nat} (h0 : 0 ≤ i) (h1 : i < n) (hn : (n : Int) ≤ 2147483647) : vp_in (zI i) n := by
  rw [vp_in_iff, zI_t (by unfold I32; omega)]
  omega
theorem zI_nI (n : Nat) : nI n = zI (n : Int) := (Int32.ofInt_eq_ofNat).symm
theorem zI_div {a b : Int} (ha : I32 a) (hb : 0 < b) (hb2 : I32 b) : zI a / zI b = zI (a.tdiv b) := by
  apply Int32.toInt.inj
  rw [Int32.toInt_div_of_ne_right _ _ (by
    intro h
    have h2 := congrArg Int32.toInt h
    rw [zI_t hb2] at h2
    have : (-1 : Int32).toInt = -1 := by decide
    omega), zI_t ha, zI_t hb2, zI_t]
  have h1 := Int.tdiv_nonneg (a := a) (b := b)
  unfold I32 at *
  by_cases h : 0 ≤ a
  · have := Int.tdiv_le_self (a := a) b h
    have := Int.tdiv_nonneg h (Int.le_of_lt hb)
    omega
  · have h3 : (-a).tdiv b = - (a.tdiv b) := Int.neg_tdiv a b
    have := Int.tdiv_le_self (a := -a) b (by omega)
    have := Int.tdiv_nonneg (a := -a) (b := b) (by omega) (Int.le_of_lt hb)
    omega
theorem zL_div {a b : Int} (ha : I64 a) (hb : 0 < b) (hb2 : I64 b) : zL a / zL b = zL (a.tdiv b) := by
  apply Int64.toInt.inj
  rw [Int64.toInt_div_of_ne_right _ _ (by
    intro h
    have h2 := congrArg Int64.toInt h
    rw [zL_t hb2] at h2
    have : (-1 : Int64).toInt = -1 := by decide
    omega), zL_t ha, zL_t hb2, zL_t]
  unfold I64 at *
  by_cases h : 0 ≤ a
  · have := Int.tdiv_le_self (a := a) b h
    have := Int.tdiv_nonneg h (Int.le_of_lt hb)
    omega
  · have h3 : (-a).tdiv b = - (a.tdiv b) := Int.neg_tdiv a b
    have := Int.tdiv_le_self (a := -a) b (by omega)
    have := Int.tdiv_nonneg (a := -a) (b := b) (by omega) (Int.le_of_lt hb)
    omega
/-- an array of ints by a function on Int; a place written -/
def upz (g : Int → Int) (i v : Int) : Int → Int := fun j => if j = i then v else g j
theorem upz_s {g : Int → Int} {i v : Int} : upz g i v i = v := if_pos rfl
theorem upz_n {g : Int → Int} {i v j : Int} (h : j ≠ i) : upz g i v j = g j := if_neg h
def fI (g : Int → Int) : Nat → Int32 := fun j => zI (g (j : Int))
def fL (g : Int → Int) : Nat → Int64 := fun j => zL (g (j : Int))
theorem fI_at {g : Int → Int} {i : Int} (h0 : 0 ≤ i) (h1 : I32 i) : fI g (zI i).toNatClampNeg = zI (g i) := by
  rw [zI_cl h1]
  show zI (g ((i.toNat : Nat) : Int)) = _
  rw [Int.toNat_of_nonneg h0]
theorem fI_up {g : Int → Int} {i v : Int} (h0 : 0 ≤ i) (h1 : I32 i) : upd (fI g) (zI i).toNatClampNeg (zI v) = fI (upz g i v) := by
  rw [zI_cl h1]
  funext j
  show (if j = i.toNat then zI v else zI (g (j : Int))) = zI (if (j : Int) = i then v else g (j : Int))
  by_cases h : j = i.toNat
  · rw [if_pos h, if_pos (by omega)]
  · rw [if_neg h, if_neg (by omega)]
theorem fL_at {g : Int → Int} {i : Int} (h0 : 0 ≤ i) (h1 : I32 i) : fL g (zI i).toNatClampNeg = zL (g i) := by
  rw [zI_cl h1]
  show zL (g ((i.toNat : Nat) : Int)) = _
  rw [Int.toNat_of_nonneg h0]
theorem fL_up {g : Int → Int} {i v : Int} (h0 : 0 ≤ i) (h1 : I32 i) : vp_updL (fL g) (zI i).toNatClampNeg (zL v) = fL (upz g i v) := by
  rw [zI_cl h1]
  funext j
  show (if j = i.toNat then zL v else zL (g (j : Int))) = zL (if (j : Int) = i then v else g (j : Int))
  by_cases h : j = i.toNat
  · rw [if_pos h, if_pos (by omega)]
  · rw [if_neg h, if_neg (by omega)]

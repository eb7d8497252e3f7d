/-! PAGES, DRAWINGS: bounds for the face -/
theorem lay_in {ac n wd hg co ro oa ou : Int} {Li : Int → Int} (hl : layP ac n Li wd hg co ro oa ou) (hL : ∀ j : Int, 0 ≤ j → j < n → -2000000 ≤ Li j ∧ Li j ≤ 2000000) (hw : 1 ≤ wd ∧ wd ≤ 65536) (hg1 : 1 ≤ hg ∧ hg ≤ 65536) : (1 ≤ co ∧ co ≤ 20000000) ∧ (1 ≤ ro ∧ ro ≤ 20000000) ∧ (-2000000 ≤ oa ∧ oa ≤ 2000000) ∧ (-2000000 ≤ ou ∧ ou ≤ 2000000) := by
  by_cases g : 0 < ac ∧ ac < n
  · obtain ⟨l1, l2, l3, l4⟩ := hl.1 g
    have a1 := hL ac (by omega) (by omega)
    have a2 := hL 0 (by omega) (by omega)
    have a3 := hL (n - 1) (by omega) (by omega)
    have a4 := hL (ac - 1) (by omega) (by omega)
    have p1 := pgF_in (len := Li (n - 1) - Li ac) (ea := wd) (by omega) (by omega) (by omega) (by omega)
    have p2 := pgF_in (len := Li (ac - 1) - Li 0) (ea := hg) (by omega) (by omega) (by omega) (by omega)
    rw [← l1] at p1
    rw [← l2] at p2
    omega
  · obtain ⟨l1, l2, l3, l4⟩ := hl.2 g
    omega
/-- places and far sides in one row, three a box -/
def frB (P0 P1 P2 : Int → Int) (j : Int) : Int := if j % 3 = 0 then P0 (j / 3) else if j % 3 = 1 then P1 (j / 3) else P2 (j / 3)
def toB (P0 P1 P2 S0 S1 S2 : Int → Int) (j : Int) : Int := if j % 3 = 0 then P0 (j / 3) + S0 (j / 3) else if j % 3 = 1 then P1 (j / 3) + S1 (j / 3) else P2 (j / 3) + S2 (j / 3)
theorem bm_ex (bn : Int) (P0 P1 P2 S0 S1 S2 : Int → Int) : bmR bn P0 P1 P2 S0 S1 S2 (frB P0 P1 P2) (toB P0 P1 P2 S0 S1 S2) := by
  intro c c0 c1
  unfold frB toB
  have e0 : (3 * c) % 3 = 0 := by omega
  have e1 : (3 * c) / 3 = c := by omega
  have e2 : (3 * c + 1) % 3 = 1 := by omega
  have e3 : (3 * c + 1) / 3 = c := by omega
  have e4 : (3 * c + 2) % 3 = 2 := by omega
  have e5 : (3 * c + 2) / 3 = c := by omega
  rw [e0, e1, e2, e3, e4, e5]
  exact ⟨⟨rfl, rfl⟩, ⟨rfl, rfl⟩, ⟨rfl, rfl⟩⟩
/-- the strokes of both ways: runs of the state, at most 1200 -/
theorem way_en {bn vw : Int} {P0 P1 P2 S0 S1 S2 From To Fa Fb Ta Tb Z GK : Int → Int} {nk u : Int} (hbn : 0 ≤ bn) (h : bmR bn P0 P1 P2 S0 S1 S2 From To) (hB : boxB bn P0 P1 P2 S0 S1 S2) (hr : ∀ j : Int, 0 ≤ j → j < bn → rcAt P0 P1 P2 S0 S1 S2 vw (Fa j) (Fb j) (Ta j) (Tb j) (Z j) j) (hG : arrL GK nk (gathL (sel2 u Fa Fb) (sel2 u Ta Tb) bn)) : enY (stW From To vw bn u) 10000000 (wayL (sel2 u Fa Fb) (sel2 u Ta Tb) (sel2 (owy u) Fa Fb) (sel2 (owy u) Ta Tb) Z bn GK nk (gathL (sel2 (owy u) Fa Fb) (sel2 (owy u) Ta Tb) bn)) :=
  wayL_en hbn (bm_M h hB) (bm_r h hr u) hG
theorem cap_way {bn vw : Int} {P0 P1 P2 S0 S1 S2 Fa Fb Ta Tb Z : Int → Int} (hbn : 0 ≤ bn) (hbn1 : bn ≤ 24) (hB : boxB bn P0 P1 P2 S0 S1 S2) (hr : ∀ j : Int, 0 ≤ j → j < bn → rcAt P0 P1 P2 S0 S1 S2 vw (Fa j) (Fb j) (Ta j) (Tb j) (Z j) j) : ∀ (g : Int → Int) (k : Int) (g2 : Int → Int) (k2 : Int), arrL g k (gathL (sel2 0 Fa Fb) (sel2 0 Ta Tb) bn) → arrL g2 k2 (gathL (sel2 1 Fa Fb) (sel2 1 Ta Tb) bn) → ((wayL (sel2 0 Fa Fb) (sel2 0 Ta Tb) (sel2 (owy 0) Fa Fb) (sel2 (owy 0) Ta Tb) Z bn g k (gathL (sel2 (owy 0) Fa Fb) (sel2 (owy 0) Ta Tb) bn)).length : Int) + ((wayL (sel2 1 Fa Fb) (sel2 1 Ta Tb) (sel2 (owy 1) Fa Fb) (sel2 (owy 1) Ta Tb) Z bn g2 k2 (gathL (sel2 (owy 1) Fa Fb) (sel2 (owy 1) Ta Tb) bn)).length : Int) ≤ 1200 := by
  intro g k g2 k2 h1 h2
  have hb := bm_ex bn P0 P1 P2 S0 S1 S2
  have := cap1200 hbn1 (bm_M hb hB) (way_en hbn hb hB hr h1) (way_en hbn hb hB hr h2)
  omega
theorem rc_FT {bn vw q rn : Int} {P0 P1 P2 S0 S1 S2 Fa Fb Ta Tb Z IX : Int → Int} (hbn : 0 ≤ bn) (hB : boxB bn P0 P1 P2 S0 S1 S2) (hL : arrL IX rn (cutL P0 P1 P2 S0 S1 S2 (dax vw) q bn)) (hR : ∀ j : Int, 0 ≤ j → j < rn → rcAt P0 P1 P2 S0 S1 S2 vw (Fa j) (Fb j) (Ta j) (Tb j) (Z j) (IX j)) : ∀ j : Int, 0 ≤ j → j < rn → (-2000000 ≤ Fa j ∧ Fa j ≤ 2000000) ∧ (-2000000 ≤ Fb j ∧ Fb j ≤ 2000000) ∧ (-2000000 ≤ Ta j ∧ Ta j ≤ 2000000) ∧ (-2000000 ≤ Tb j ∧ Tb j ≤ 2000000) := by
  intro j j0 j1
  have hb := bm_ex bn P0 P1 P2 S0 S1 S2
  have hM := bm_M hb hB
  obtain ⟨c0, c1, -⟩ := arrL_all hL (P := fun c => 0 ≤ c ∧ c < bn ∧ insB P0 P1 P2 S0 S1 S2 (dax vw) q c = true) (fun c hc => (cutL_mem hbn).mp hc) j j0 j1
  obtain ⟨r1, r2, r3, r4, -⟩ := hR j j0 j1
  have x1 := acx_in (dax vw)
  have x2 := upx_in (dax vw)
  obtain ⟨a1, a2⟩ := bm_s hb x1 c0 c1
  obtain ⟨b1, b2⟩ := bm_s hb x2 c0 c1
  have m1 := hM (3 * IX j + acx (dax vw)) (by omega) (by omega)
  have m2 := hM (3 * IX j + upx (dax vw)) (by omega) (by omega)
  rw [r1, r2, r3, r4, a1, a2, b1, b2]
  omega

theorem alW_0 (vw : Int) : alW vw 0 = beW vw 1 := by unfold alW beW; rw [if_pos rfl, if_neg (by decide)]
theorem alW_1 (vw : Int) : alW vw 1 = beW vw 0 := by unfold alW beW; rw [if_pos rfl, if_neg (by decide)]
def cdX (From To : Int → Int) (vw bn u y b k : Int) : Prop := cdA From To (alW vw u) (beW vw u) y b bn u k ∨ cdB From To vw (alW vw 0) (beW vw 0) (if u = 0 then b else y) (if u = 0 then y else b) (alW vw u) (beW vw u) y b bn k
theorem cdX_ex {From To : Int → Int} {vw bn u y b e h : Int} (hb : bn ≤ 24) (hM : moB bn From To) (hu : u = 0 ∨ u = 1) (r : isRun (stW From To vw bn u y) b e h) : ∃ k : Int, 0 ≤ k ∧ k < 1200 ∧ cdX From To vw bn u y b k := by
  have ha := alW_in vw u
  have hbe := beW_in vw u
  have hm : ∀ k : Int, 0 ≤ k → k < bn → From (3 * k + alW vw u) < To (3 * k + alW vw u) ∧ From (3 * k + beW vw u) < To (3 * k + beW vw u) := fun k k0 k1 => by
    have h1 := hM (3 * k + alW vw u) (by omega) (by omega)
    have h2 := hM (3 * k + beW vw u) (by omega) (by omega)
    omega
  rcases charge (From := From) (To := To) (vw := vw) (al := alW vw u) (be := beW vw u) (y := y) (bn := bn) r with g | g
  · obtain ⟨c, c0, c1, c2, c3⟩ := g
    rcases c2 with c2 | c2
    · have hA : cdA From To (alW vw u) (beW vw u) y b bn u (48 * u + 24 * 0 + c) := ⟨c, 0, c0, c1, Or.inl rfl, fun _ => c2, fun z => absurd z (by decide), c3, rfl⟩
      have := cdA_in hb hu hA
      exact ⟨_, by omega, by omega, Or.inl hA⟩
    · have hA : cdA From To (alW vw u) (beW vw u) y b bn u (48 * u + 24 * 1 + c) := ⟨c, 1, c0, c1, Or.inr rfl, fun z => absurd z (by decide), fun _ => c2, c3, rfl⟩
      have := cdA_in hb hu hA
      exact ⟨_, by omega, by omega, Or.inl hA⟩
  · obtain ⟨k, hk⟩ := cdB_of (A := alW vw 0) (U := beW vw 0) (x := if u = 0 then b else y) (z := if u = 0 then y else b) (by
      rcases hu with e | e
      · subst e; left; rw [if_pos rfl, if_pos rfl]; exact ⟨rfl, rfl, rfl, rfl⟩
      · subst e; right; rw [if_neg (by decide), if_neg (by decide), alW_0, alW_1]; exact ⟨rfl, rfl, rfl, rfl⟩) hm g
    have := cdB_in hb hk
    exact ⟨k, by omega, by omega, Or.inr hk⟩
theorem cdX_in {From To : Int → Int} {vw bn u y b u2 y2 b2 k : Int} (hb : bn ≤ 24) (hu : u = 0 ∨ u = 1) (hu2 : u2 = 0 ∨ u2 = 1) (h : cdX From To vw bn u y b k) (h2 : cdX From To vw bn u2 y2 b2 k) : u = u2 ∧ y = y2 ∧ b = b2 := by
  rcases h with h | h <;> rcases h2 with h2 | h2
  · obtain ⟨c, s, c0, c1, c2, c3, c4, c5, c6⟩ := h
    obtain ⟨d, t, d0, d1, d2, d3, d4, d5, d6⟩ := h2
    have e1 : u = u2 := by omega
    have e2 : s = t := by omega
    have e3 : c = d := by omega
    subst e1; subst e2; subst e3
    refine ⟨rfl, ?_, by rw [← c5, ← d5]⟩
    rcases c2 with e | e
    · rw [← c3 e, ← d3 e]
    · rw [← c4 e, ← d4 e]
  · have := cdA_in hb hu h
    have := cdB_in hb h2
    omega
  · have := cdB_in hb h
    have := cdA_in hb hu2 h2
    omega
  · obtain ⟨i, c, p, r, h1, h3, h4, h5, h6, h7, h8, h9⟩ := h
    obtain ⟨j, d, q, t, k1, k3, k4, k5, k6, k7, k8, k9⟩ := h2
    have e1 : tri c + i = tri d + j := by omega
    have e2 : p = q := by omega
    have e3 : r = t := by omega
    obtain ⟨e4, e5⟩ := tri_in h1 k1 e1
    subst e2; subst e3; subst e4; subst e5
    have ex := h6.symm.trans k6
    have ez := h7.symm.trans k7
    rcases hu with e | e <;> rcases hu2 with f | f
    · subst e; subst f
      rw [if_pos rfl, if_pos rfl] at ex ez
      exact ⟨rfl, ez, ex⟩
    · subst e; subst f
      rw [if_pos rfl, if_neg (by decide)] at ex ez
      rw [alW_1, ← alW_0, ← ex, ← ez] at k8
      exact (xB_w h8 k8).elim
    · subst e; subst f
      rw [if_neg (by decide), if_pos rfl] at ex ez
      rw [alW_1, ← alW_0, ex, ez] at h8
      exact (xB_w k8 h8).elim
    · subst e; subst f
      rw [if_neg (by decide), if_neg (by decide)] at ex ez
      exact ⟨rfl, ex, ez⟩
noncomputable def cdF (From To : Int → Int) (vw bn u : Int) (q : Int × Int × Int × Int) : Int := by
  classical
  exact if h : ∃ k : Int, 0 ≤ k ∧ k < 1200 ∧ cdX From To vw bn u q.1 q.2.1 k then Classical.choose h else 0
theorem cdF_s {From To : Int → Int} {vw bn u : Int} {q : Int × Int × Int × Int} (h : ∃ k : Int, 0 ≤ k ∧ k < 1200 ∧ cdX From To vw bn u q.1 q.2.1 k) : 0 ≤ cdF From To vw bn u q ∧ cdF From To vw bn u q < 1200 ∧ cdX From To vw bn u q.1 q.2.1 (cdF From To vw bn u q) := by
  unfold cdF
  rw [dif_pos h]
  exact Classical.choose_spec h
theorem cap1200 {From To : Int → Int} {vw bn a : Int} {L0 L1 : List (Int × Int × Int × Int)} (hb : bn ≤ 24) (hM : moB bn From To) (h0 : enY (stW From To vw bn 0) a L0) (h1 : enY (stW From To vw bn 1) a L1) : L0.length + L1.length ≤ 1200 := by
  have s0 : ∀ q ∈ L0, _ := fun q hq => cdF_s (cdX_ex hb hM (Or.inl rfl) (h0.1 q hq).1)
  have s1 : ∀ q ∈ L1, _ := fun q hq => cdF_s (cdX_ex hb hM (Or.inr rfl) (h1.1 q hq).1)
  have pw : ∀ {u : Int} {L : List (Int × Int × Int × Int)}, (u = 0 ∨ u = 1) → enY (stW From To vw bn u) a L → (L.map (cdF From To vw bn u)).Pairwise (fun x y => x ≠ y) := by
    intro u L hu h
    rw [List.pairwise_map]
    refine h.2.1.imp_of_mem (fun {p q} hp hq g e => ?_)
    have g1 := cdF_s (cdX_ex hb hM hu (h.1 p hp).1)
    have g2 := cdF_s (cdX_ex hb hM hu (h.1 q hq).1)
    rw [← e] at g2
    have g3 := cdX_in hb hu hu g1.2.2 g2.2.2
    have := (h.1 p hp).1.lt
    omega
  have hp : (L0.map (cdF From To vw bn 0) ++ L1.map (cdF From To vw bn 1)).Pairwise (fun x y => x ≠ y) := by
    refine List.pairwise_append.mpr ⟨pw (Or.inl rfl) h0, pw (Or.inr rfl) h1, fun x hx y hy e => ?_⟩
    obtain ⟨p, hp, rfl⟩ := List.mem_map.mp hx
    obtain ⟨q, hq, rfl⟩ := List.mem_map.mp hy
    have g1 := s0 p hp
    have g2 := s1 q hq
    rw [← e] at g2
    have g3 := cdX_in hb (Or.inl rfl) (Or.inr rfl) g1.2.2 g2.2.2
    exact absurd g3.1 (by decide)
  have := nd_len _ ((List.range 1200).map (fun n : Nat => (n : Int))) hp (fun x hx => by
    have hr : 0 ≤ x ∧ x < 1200 := by
      rcases List.mem_append.mp hx with g | g
      · obtain ⟨p, hp, rfl⟩ := List.mem_map.mp g
        exact ⟨(s0 p hp).1, (s0 p hp).2.1⟩
      · obtain ⟨p, hp, rfl⟩ := List.mem_map.mp g
        exact ⟨(s1 p hp).1, (s1 p hp).2.1⟩
    exact List.mem_map.mpr ⟨x.toNat, List.mem_range.mpr (by omega), by omega⟩)
  rw [List.length_append, List.length_map, List.length_map, List.length_map, List.length_range] at this
  exact this

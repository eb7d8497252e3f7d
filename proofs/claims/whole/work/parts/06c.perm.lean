/-- the same world, its cells in another order, or fewer -/
theorem zwp {D : va_G} {cl : List vw_C} {A : Nat → Prop} {s : State} {ws ws' : va_W} {H : Heap} {locs : List Loc} (hW : zw D cl A s ws H locs) (is : List Nat) (hs : is.map (fun i => ws[i]?) = ws'.map some) (hn : va_nd is = true) : zw D cl A s ws' H locs := by
  refine ⟨hW.1.sub is ?_, hW.2.1.sub is hn hs, hW.2.2⟩
  have h9 := congrArg (List.filterMap id) hs
  rw [List.filterMap_map, List.filterMap_map] at h9
  simpa using h9

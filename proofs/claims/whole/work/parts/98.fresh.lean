/-! the fresh states -/
theorem rel_fresh {S4 : PS} (h : RSm S4) : RelW RP zX6 zX3 zX2 zX7 zX2 zX8 zX0 S4 zX5 zX5 zX1 zX10 := by
  refine ⟨⟨0, by omega, rfl, rfl, fun j hj => by omega⟩, ?_, ?_, h, ?_, ?_⟩
  · refine ⟨0, 0, 1, 0, fun _ => 0, fun _ => 0, fun _ => 0, fun _ => 0, fun _ => 0, fun _ => 0, fun _ => 0, ?_, by omega, rfl, rfl, rfl, ?_, ?_, rfl⟩
    · exact ⟨by omega, by omega, by omega, by omega, rfl, rfl, rfl, rfl, rfl, rfl, fun i hi => by omega, fun k hk => by omega, fun k hk => by omega, rfl⟩
    · exact ⟨0, by decide, rfl, fun inp _ k => by simp at k⟩
    · intro z
      exact absurd z (by decide)
  · exact ⟨4, 0, 0, 0, fun _ => 0, fun _ => 0, fun _ => 0, fun _ => 0, fun _ => 0, by omega, by omega, by omega, by omega, by omega, rfl, rfl, rfl, rfl, rfl, rfl, rfl, rfl, fun k hk => by omega, fun k hk => by omega, fun k hk => by omega⟩
  · exact ⟨0, fun _ => 0, fun _ => 0, fun _ => 0, fun _ => 0, by omega, rfl, rfl, fun k hk => by omega, fun k hk => by omega, fun p hp => rfl⟩
  · exact ⟨0, fun _ => 0, fun _ => 0, fun _ => 0, fun _ => 0, by omega, rfl, rfl, fun k hk => by omega, fun k hk => by omega, fun p hp => rfl⟩

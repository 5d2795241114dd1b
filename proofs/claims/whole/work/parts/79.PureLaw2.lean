/-! the end -/
theorem DOK_0 : DOK 0 0 0 0 0 0 := Or.inl ⟨rfl, rfl⟩
theorem law_pure (hB : ∃ FU, 700 < FU ∧ BookOK FU) (L : Nat) (hL : L ≤ 2560) (xs : Nat → Int32) : ∃ FU, lawOf FU L xs = some 1 := by
  obtain ⟨FU, hF, hB⟩ := hB
  refine ⟨FU, ?_⟩
  unfold lawOf
  refine law_all hF hL hB xs 600 0 _ _ _ _ _ _ _ _ _ _ _ _ _ _ _ _ _ _ _ _ _ _ _ _ _ _ _ _ _ _ _ _ _ _ _ _ _ _ _ _ _ _ _ _ _ _ _ _ _ _ _ _ _ _ _ _ _ _ _ _ _ _ _ _ _ _ _ _ _ _ _ _ _ _ _ _ _ _ _ _ _ _ _ _ _ _ _ _ _ _ _ _ _ _ _ _ _ _ _ _ (by omega) (by omega) ?_ ?_ ?_ DOK_0 DOK_0
  · intro z hz
    exact ⟨0, ⟨hz, by omega, fun j hj => by omega⟩, rfl, rfl, fun j hj => by omega⟩
  · exact ⟨0, by omega, rfl, rfl, fun j hj => by omega⟩
  · intro p hp
    refine ⟨0, fun _ => 0, fun _ => 0, 0, ⟨hp, by omega, rfl, fun e he => by omega⟩, rfl, fun e he => by omega, by omega, rfl, BT.empty.iff (fun m => ⟨fun ⟨i, _, h, _⟩ => by omega, fun h => h.elim⟩)⟩

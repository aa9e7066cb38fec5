/-! THE LAW ANSWERS 1, as a function -/
theorem lawGoal : LawGoal := by
  intro L xs hL
  obtain ⟨s', e, R, h40, c1, c2⟩ := F0_law (n := 5000) (by decide) L xs
  obtain ⟨st', e2, q⟩ := lb_all (n := 5000) (L := L) (xs := xs) hL (by decide) 513 0 s' (by omega) (by omega) ⟨⟨G00, _, R⟩, h40, by omega, by omega⟩ 5000 (by decide)
  exact ⟨5000, st', e.trans e2, q⟩

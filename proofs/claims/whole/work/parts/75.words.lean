/-! THE WORDS OF THE LINES -/
theorem hsh1 (tp : Nat → Nat) (q : Nat) : hsh tp q 1 = 32 * (0) + (tp (q + 0) - 96) := rfl
theorem hsh2 (tp : Nat → Nat) (q : Nat) : hsh tp q 2 = 32 * (32 * (0) + (tp (q + 0) - 96)) + (tp (q + 1) - 96) := rfl
theorem hsh3 (tp : Nat → Nat) (q : Nat) : hsh tp q 3 = 32 * (32 * (32 * (0) + (tp (q + 0) - 96)) + (tp (q + 1) - 96)) + (tp (q + 2) - 96) := rfl
theorem hsh4 (tp : Nat → Nat) (q : Nat) : hsh tp q 4 = 32 * (32 * (32 * (32 * (0) + (tp (q + 0) - 96)) + (tp (q + 1) - 96)) + (tp (q + 2) - 96)) + (tp (q + 3) - 96) := rfl
theorem hsh5 (tp : Nat → Nat) (q : Nat) : hsh tp q 5 = 32 * (32 * (32 * (32 * (32 * (0) + (tp (q + 0) - 96)) + (tp (q + 1) - 96)) + (tp (q + 2) - 96)) + (tp (q + 3) - 96)) + (tp (q + 4) - 96) := rfl
theorem hsh6 (tp : Nat → Nat) (q : Nat) : hsh tp q 6 = 32 * (32 * (32 * (32 * (32 * (32 * (0) + (tp (q + 0) - 96)) + (tp (q + 1) - 96)) + (tp (q + 2) - 96)) + (tp (q + 3) - 96)) + (tp (q + 4) - 96)) + (tp (q + 5) - 96) := rfl
theorem wOi0 {v : Nat} (h : wO v = 1) : v = 254268868 := by
  unfold wO at h
  by_cases c0 : v = 254268868
  · exact c0
  rw [if_neg c0] at h
  by_cases c1 : v = 631941
  · rw [if_pos c1] at h; exact absurd h (by decide)
  rw [if_neg c1] at h
  by_cases c2 : v = 67173
  · rw [if_pos c2] at h; exact absurd h (by decide)
  rw [if_neg c2] at h
  by_cases c3 : v = 12009198
  · rw [if_pos c3] at h; exact absurd h (by decide)
  rw [if_neg c3] at h
  by_cases c4 : v = 13938867
  · rw [if_pos c4] at h; exact absurd h (by decide)
  rw [if_neg c4] at h
  by_cases c5 : v = 595572
  · rw [if_pos c5] at h; exact absurd h (by decide)
  rw [if_neg c5] at h
  by_cases c6 : v = 644551
  · rw [if_pos c6] at h; exact absurd h (by decide)
  rw [if_neg c6] at h
  by_cases c7 : v = 357702820
  · rw [if_pos c7] at h; exact absurd h (by decide)
  rw [if_neg c7] at h
  by_cases c8 : v = 273980692
  · rw [if_pos c8] at h; exact absurd h (by decide)
  rw [if_neg c8] at h
  by_cases c9 : v = 4153
  · rw [if_pos c9] at h; exact absurd h (by decide)
  rw [if_neg c9] at h
  by_cases c10 : v = 542622085
  · rw [if_pos c10] at h; exact absurd h (by decide)
  rw [if_neg c10] at h
  by_cases c11 : v = 5685913
  · rw [if_pos c11] at h; exact absurd h (by decide)
  rw [if_neg c11] at h
  by_cases c12 : v = 638164
  · rw [if_pos c12] at h; exact absurd h (by decide)
  rw [if_neg c12] at h
  by_cases c13 : v = 659104884
  · rw [if_pos c13] at h; exact absurd h (by decide)
  rw [if_neg c13] at h
  by_cases c14 : v = 52
  · rw [if_pos c14] at h; exact absurd h (by decide)
  rw [if_neg c14] at h
  by_cases c15 : v = 230821
  · rw [if_pos c15] at h; exact absurd h (by decide)
  rw [if_neg c15] at h
  exact absurd h (by decide)
theorem wOi1 {v : Nat} (h : wO v = 2) : v = 631941 := by
  unfold wO at h
  by_cases c0 : v = 254268868
  · rw [if_pos c0] at h; exact absurd h (by decide)
  rw [if_neg c0] at h
  by_cases c1 : v = 631941
  · exact c1
  rw [if_neg c1] at h
  by_cases c2 : v = 67173
  · rw [if_pos c2] at h; exact absurd h (by decide)
  rw [if_neg c2] at h
  by_cases c3 : v = 12009198
  · rw [if_pos c3] at h; exact absurd h (by decide)
  rw [if_neg c3] at h
  by_cases c4 : v = 13938867
  · rw [if_pos c4] at h; exact absurd h (by decide)
  rw [if_neg c4] at h
  by_cases c5 : v = 595572
  · rw [if_pos c5] at h; exact absurd h (by decide)
  rw [if_neg c5] at h
  by_cases c6 : v = 644551
  · rw [if_pos c6] at h; exact absurd h (by decide)
  rw [if_neg c6] at h
  by_cases c7 : v = 357702820
  · rw [if_pos c7] at h; exact absurd h (by decide)
  rw [if_neg c7] at h
  by_cases c8 : v = 273980692
  · rw [if_pos c8] at h; exact absurd h (by decide)
  rw [if_neg c8] at h
  by_cases c9 : v = 4153
  · rw [if_pos c9] at h; exact absurd h (by decide)
  rw [if_neg c9] at h
  by_cases c10 : v = 542622085
  · rw [if_pos c10] at h; exact absurd h (by decide)
  rw [if_neg c10] at h
  by_cases c11 : v = 5685913
  · rw [if_pos c11] at h; exact absurd h (by decide)
  rw [if_neg c11] at h
  by_cases c12 : v = 638164
  · rw [if_pos c12] at h; exact absurd h (by decide)
  rw [if_neg c12] at h
  by_cases c13 : v = 659104884
  · rw [if_pos c13] at h; exact absurd h (by decide)
  rw [if_neg c13] at h
  by_cases c14 : v = 52
  · rw [if_pos c14] at h; exact absurd h (by decide)
  rw [if_neg c14] at h
  by_cases c15 : v = 230821
  · rw [if_pos c15] at h; exact absurd h (by decide)
  rw [if_neg c15] at h
  exact absurd h (by decide)
theorem wOi3 {v : Nat} (h : wO v = 11) : v = 67173 := by
  unfold wO at h
  by_cases c0 : v = 254268868
  · rw [if_pos c0] at h; exact absurd h (by decide)
  rw [if_neg c0] at h
  by_cases c1 : v = 631941
  · rw [if_pos c1] at h; exact absurd h (by decide)
  rw [if_neg c1] at h
  by_cases c2 : v = 67173
  · exact c2
  rw [if_neg c2] at h
  by_cases c3 : v = 12009198
  · rw [if_pos c3] at h; exact absurd h (by decide)
  rw [if_neg c3] at h
  by_cases c4 : v = 13938867
  · rw [if_pos c4] at h; exact absurd h (by decide)
  rw [if_neg c4] at h
  by_cases c5 : v = 595572
  · rw [if_pos c5] at h; exact absurd h (by decide)
  rw [if_neg c5] at h
  by_cases c6 : v = 644551
  · rw [if_pos c6] at h; exact absurd h (by decide)
  rw [if_neg c6] at h
  by_cases c7 : v = 357702820
  · rw [if_pos c7] at h; exact absurd h (by decide)
  rw [if_neg c7] at h
  by_cases c8 : v = 273980692
  · rw [if_pos c8] at h; exact absurd h (by decide)
  rw [if_neg c8] at h
  by_cases c9 : v = 4153
  · rw [if_pos c9] at h; exact absurd h (by decide)
  rw [if_neg c9] at h
  by_cases c10 : v = 542622085
  · rw [if_pos c10] at h; exact absurd h (by decide)
  rw [if_neg c10] at h
  by_cases c11 : v = 5685913
  · rw [if_pos c11] at h; exact absurd h (by decide)
  rw [if_neg c11] at h
  by_cases c12 : v = 638164
  · rw [if_pos c12] at h; exact absurd h (by decide)
  rw [if_neg c12] at h
  by_cases c13 : v = 659104884
  · rw [if_pos c13] at h; exact absurd h (by decide)
  rw [if_neg c13] at h
  by_cases c14 : v = 52
  · rw [if_pos c14] at h; exact absurd h (by decide)
  rw [if_neg c14] at h
  by_cases c15 : v = 230821
  · rw [if_pos c15] at h; exact absurd h (by decide)
  rw [if_neg c15] at h
  exact absurd h (by decide)
theorem wOi4 {v : Nat} (h : wO v = 12) : v = 12009198 := by
  unfold wO at h
  by_cases c0 : v = 254268868
  · rw [if_pos c0] at h; exact absurd h (by decide)
  rw [if_neg c0] at h
  by_cases c1 : v = 631941
  · rw [if_pos c1] at h; exact absurd h (by decide)
  rw [if_neg c1] at h
  by_cases c2 : v = 67173
  · rw [if_pos c2] at h; exact absurd h (by decide)
  rw [if_neg c2] at h
  by_cases c3 : v = 12009198
  · exact c3
  rw [if_neg c3] at h
  by_cases c4 : v = 13938867
  · rw [if_pos c4] at h; exact absurd h (by decide)
  rw [if_neg c4] at h
  by_cases c5 : v = 595572
  · rw [if_pos c5] at h; exact absurd h (by decide)
  rw [if_neg c5] at h
  by_cases c6 : v = 644551
  · rw [if_pos c6] at h; exact absurd h (by decide)
  rw [if_neg c6] at h
  by_cases c7 : v = 357702820
  · rw [if_pos c7] at h; exact absurd h (by decide)
  rw [if_neg c7] at h
  by_cases c8 : v = 273980692
  · rw [if_pos c8] at h; exact absurd h (by decide)
  rw [if_neg c8] at h
  by_cases c9 : v = 4153
  · rw [if_pos c9] at h; exact absurd h (by decide)
  rw [if_neg c9] at h
  by_cases c10 : v = 542622085
  · rw [if_pos c10] at h; exact absurd h (by decide)
  rw [if_neg c10] at h
  by_cases c11 : v = 5685913
  · rw [if_pos c11] at h; exact absurd h (by decide)
  rw [if_neg c11] at h
  by_cases c12 : v = 638164
  · rw [if_pos c12] at h; exact absurd h (by decide)
  rw [if_neg c12] at h
  by_cases c13 : v = 659104884
  · rw [if_pos c13] at h; exact absurd h (by decide)
  rw [if_neg c13] at h
  by_cases c14 : v = 52
  · rw [if_pos c14] at h; exact absurd h (by decide)
  rw [if_neg c14] at h
  by_cases c15 : v = 230821
  · rw [if_pos c15] at h; exact absurd h (by decide)
  rw [if_neg c15] at h
  exact absurd h (by decide)
theorem wOi2 {v : Nat} (h : wO v = 13) : v = 13938867 := by
  unfold wO at h
  by_cases c0 : v = 254268868
  · rw [if_pos c0] at h; exact absurd h (by decide)
  rw [if_neg c0] at h
  by_cases c1 : v = 631941
  · rw [if_pos c1] at h; exact absurd h (by decide)
  rw [if_neg c1] at h
  by_cases c2 : v = 67173
  · rw [if_pos c2] at h; exact absurd h (by decide)
  rw [if_neg c2] at h
  by_cases c3 : v = 12009198
  · rw [if_pos c3] at h; exact absurd h (by decide)
  rw [if_neg c3] at h
  by_cases c4 : v = 13938867
  · exact c4
  rw [if_neg c4] at h
  by_cases c5 : v = 595572
  · rw [if_pos c5] at h; exact absurd h (by decide)
  rw [if_neg c5] at h
  by_cases c6 : v = 644551
  · rw [if_pos c6] at h; exact absurd h (by decide)
  rw [if_neg c6] at h
  by_cases c7 : v = 357702820
  · rw [if_pos c7] at h; exact absurd h (by decide)
  rw [if_neg c7] at h
  by_cases c8 : v = 273980692
  · rw [if_pos c8] at h; exact absurd h (by decide)
  rw [if_neg c8] at h
  by_cases c9 : v = 4153
  · rw [if_pos c9] at h; exact absurd h (by decide)
  rw [if_neg c9] at h
  by_cases c10 : v = 542622085
  · rw [if_pos c10] at h; exact absurd h (by decide)
  rw [if_neg c10] at h
  by_cases c11 : v = 5685913
  · rw [if_pos c11] at h; exact absurd h (by decide)
  rw [if_neg c11] at h
  by_cases c12 : v = 638164
  · rw [if_pos c12] at h; exact absurd h (by decide)
  rw [if_neg c12] at h
  by_cases c13 : v = 659104884
  · rw [if_pos c13] at h; exact absurd h (by decide)
  rw [if_neg c13] at h
  by_cases c14 : v = 52
  · rw [if_pos c14] at h; exact absurd h (by decide)
  rw [if_neg c14] at h
  by_cases c15 : v = 230821
  · rw [if_pos c15] at h; exact absurd h (by decide)
  rw [if_neg c15] at h
  exact absurd h (by decide)
theorem wOi5 {v : Nat} (h : wO v = 14) : v = 595572 := by
  unfold wO at h
  by_cases c0 : v = 254268868
  · rw [if_pos c0] at h; exact absurd h (by decide)
  rw [if_neg c0] at h
  by_cases c1 : v = 631941
  · rw [if_pos c1] at h; exact absurd h (by decide)
  rw [if_neg c1] at h
  by_cases c2 : v = 67173
  · rw [if_pos c2] at h; exact absurd h (by decide)
  rw [if_neg c2] at h
  by_cases c3 : v = 12009198
  · rw [if_pos c3] at h; exact absurd h (by decide)
  rw [if_neg c3] at h
  by_cases c4 : v = 13938867
  · rw [if_pos c4] at h; exact absurd h (by decide)
  rw [if_neg c4] at h
  by_cases c5 : v = 595572
  · exact c5
  rw [if_neg c5] at h
  by_cases c6 : v = 644551
  · rw [if_pos c6] at h; exact absurd h (by decide)
  rw [if_neg c6] at h
  by_cases c7 : v = 357702820
  · rw [if_pos c7] at h; exact absurd h (by decide)
  rw [if_neg c7] at h
  by_cases c8 : v = 273980692
  · rw [if_pos c8] at h; exact absurd h (by decide)
  rw [if_neg c8] at h
  by_cases c9 : v = 4153
  · rw [if_pos c9] at h; exact absurd h (by decide)
  rw [if_neg c9] at h
  by_cases c10 : v = 542622085
  · rw [if_pos c10] at h; exact absurd h (by decide)
  rw [if_neg c10] at h
  by_cases c11 : v = 5685913
  · rw [if_pos c11] at h; exact absurd h (by decide)
  rw [if_neg c11] at h
  by_cases c12 : v = 638164
  · rw [if_pos c12] at h; exact absurd h (by decide)
  rw [if_neg c12] at h
  by_cases c13 : v = 659104884
  · rw [if_pos c13] at h; exact absurd h (by decide)
  rw [if_neg c13] at h
  by_cases c14 : v = 52
  · rw [if_pos c14] at h; exact absurd h (by decide)
  rw [if_neg c14] at h
  by_cases c15 : v = 230821
  · rw [if_pos c15] at h; exact absurd h (by decide)
  rw [if_neg c15] at h
  exact absurd h (by decide)
theorem wOi6 {v : Nat} (h : wO v = 15) : v = 644551 := by
  unfold wO at h
  by_cases c0 : v = 254268868
  · rw [if_pos c0] at h; exact absurd h (by decide)
  rw [if_neg c0] at h
  by_cases c1 : v = 631941
  · rw [if_pos c1] at h; exact absurd h (by decide)
  rw [if_neg c1] at h
  by_cases c2 : v = 67173
  · rw [if_pos c2] at h; exact absurd h (by decide)
  rw [if_neg c2] at h
  by_cases c3 : v = 12009198
  · rw [if_pos c3] at h; exact absurd h (by decide)
  rw [if_neg c3] at h
  by_cases c4 : v = 13938867
  · rw [if_pos c4] at h; exact absurd h (by decide)
  rw [if_neg c4] at h
  by_cases c5 : v = 595572
  · rw [if_pos c5] at h; exact absurd h (by decide)
  rw [if_neg c5] at h
  by_cases c6 : v = 644551
  · exact c6
  rw [if_neg c6] at h
  by_cases c7 : v = 357702820
  · rw [if_pos c7] at h; exact absurd h (by decide)
  rw [if_neg c7] at h
  by_cases c8 : v = 273980692
  · rw [if_pos c8] at h; exact absurd h (by decide)
  rw [if_neg c8] at h
  by_cases c9 : v = 4153
  · rw [if_pos c9] at h; exact absurd h (by decide)
  rw [if_neg c9] at h
  by_cases c10 : v = 542622085
  · rw [if_pos c10] at h; exact absurd h (by decide)
  rw [if_neg c10] at h
  by_cases c11 : v = 5685913
  · rw [if_pos c11] at h; exact absurd h (by decide)
  rw [if_neg c11] at h
  by_cases c12 : v = 638164
  · rw [if_pos c12] at h; exact absurd h (by decide)
  rw [if_neg c12] at h
  by_cases c13 : v = 659104884
  · rw [if_pos c13] at h; exact absurd h (by decide)
  rw [if_neg c13] at h
  by_cases c14 : v = 52
  · rw [if_pos c14] at h; exact absurd h (by decide)
  rw [if_neg c14] at h
  by_cases c15 : v = 230821
  · rw [if_pos c15] at h; exact absurd h (by decide)
  rw [if_neg c15] at h
  exact absurd h (by decide)
theorem wOi7 {v : Nat} (h : wO v = 16) : v = 357702820 := by
  unfold wO at h
  by_cases c0 : v = 254268868
  · rw [if_pos c0] at h; exact absurd h (by decide)
  rw [if_neg c0] at h
  by_cases c1 : v = 631941
  · rw [if_pos c1] at h; exact absurd h (by decide)
  rw [if_neg c1] at h
  by_cases c2 : v = 67173
  · rw [if_pos c2] at h; exact absurd h (by decide)
  rw [if_neg c2] at h
  by_cases c3 : v = 12009198
  · rw [if_pos c3] at h; exact absurd h (by decide)
  rw [if_neg c3] at h
  by_cases c4 : v = 13938867
  · rw [if_pos c4] at h; exact absurd h (by decide)
  rw [if_neg c4] at h
  by_cases c5 : v = 595572
  · rw [if_pos c5] at h; exact absurd h (by decide)
  rw [if_neg c5] at h
  by_cases c6 : v = 644551
  · rw [if_pos c6] at h; exact absurd h (by decide)
  rw [if_neg c6] at h
  by_cases c7 : v = 357702820
  · exact c7
  rw [if_neg c7] at h
  by_cases c8 : v = 273980692
  · rw [if_pos c8] at h; exact absurd h (by decide)
  rw [if_neg c8] at h
  by_cases c9 : v = 4153
  · rw [if_pos c9] at h; exact absurd h (by decide)
  rw [if_neg c9] at h
  by_cases c10 : v = 542622085
  · rw [if_pos c10] at h; exact absurd h (by decide)
  rw [if_neg c10] at h
  by_cases c11 : v = 5685913
  · rw [if_pos c11] at h; exact absurd h (by decide)
  rw [if_neg c11] at h
  by_cases c12 : v = 638164
  · rw [if_pos c12] at h; exact absurd h (by decide)
  rw [if_neg c12] at h
  by_cases c13 : v = 659104884
  · rw [if_pos c13] at h; exact absurd h (by decide)
  rw [if_neg c13] at h
  by_cases c14 : v = 52
  · rw [if_pos c14] at h; exact absurd h (by decide)
  rw [if_neg c14] at h
  by_cases c15 : v = 230821
  · rw [if_pos c15] at h; exact absurd h (by decide)
  rw [if_neg c15] at h
  exact absurd h (by decide)
theorem wOi8 {v : Nat} (h : wO v = 17) : v = 273980692 := by
  unfold wO at h
  by_cases c0 : v = 254268868
  · rw [if_pos c0] at h; exact absurd h (by decide)
  rw [if_neg c0] at h
  by_cases c1 : v = 631941
  · rw [if_pos c1] at h; exact absurd h (by decide)
  rw [if_neg c1] at h
  by_cases c2 : v = 67173
  · rw [if_pos c2] at h; exact absurd h (by decide)
  rw [if_neg c2] at h
  by_cases c3 : v = 12009198
  · rw [if_pos c3] at h; exact absurd h (by decide)
  rw [if_neg c3] at h
  by_cases c4 : v = 13938867
  · rw [if_pos c4] at h; exact absurd h (by decide)
  rw [if_neg c4] at h
  by_cases c5 : v = 595572
  · rw [if_pos c5] at h; exact absurd h (by decide)
  rw [if_neg c5] at h
  by_cases c6 : v = 644551
  · rw [if_pos c6] at h; exact absurd h (by decide)
  rw [if_neg c6] at h
  by_cases c7 : v = 357702820
  · rw [if_pos c7] at h; exact absurd h (by decide)
  rw [if_neg c7] at h
  by_cases c8 : v = 273980692
  · exact c8
  rw [if_neg c8] at h
  by_cases c9 : v = 4153
  · rw [if_pos c9] at h; exact absurd h (by decide)
  rw [if_neg c9] at h
  by_cases c10 : v = 542622085
  · rw [if_pos c10] at h; exact absurd h (by decide)
  rw [if_neg c10] at h
  by_cases c11 : v = 5685913
  · rw [if_pos c11] at h; exact absurd h (by decide)
  rw [if_neg c11] at h
  by_cases c12 : v = 638164
  · rw [if_pos c12] at h; exact absurd h (by decide)
  rw [if_neg c12] at h
  by_cases c13 : v = 659104884
  · rw [if_pos c13] at h; exact absurd h (by decide)
  rw [if_neg c13] at h
  by_cases c14 : v = 52
  · rw [if_pos c14] at h; exact absurd h (by decide)
  rw [if_neg c14] at h
  by_cases c15 : v = 230821
  · rw [if_pos c15] at h; exact absurd h (by decide)
  rw [if_neg c15] at h
  exact absurd h (by decide)
theorem wOi9 {v : Nat} (h : wO v = 21) : v = 4153 := by
  unfold wO at h
  by_cases c0 : v = 254268868
  · rw [if_pos c0] at h; exact absurd h (by decide)
  rw [if_neg c0] at h
  by_cases c1 : v = 631941
  · rw [if_pos c1] at h; exact absurd h (by decide)
  rw [if_neg c1] at h
  by_cases c2 : v = 67173
  · rw [if_pos c2] at h; exact absurd h (by decide)
  rw [if_neg c2] at h
  by_cases c3 : v = 12009198
  · rw [if_pos c3] at h; exact absurd h (by decide)
  rw [if_neg c3] at h
  by_cases c4 : v = 13938867
  · rw [if_pos c4] at h; exact absurd h (by decide)
  rw [if_neg c4] at h
  by_cases c5 : v = 595572
  · rw [if_pos c5] at h; exact absurd h (by decide)
  rw [if_neg c5] at h
  by_cases c6 : v = 644551
  · rw [if_pos c6] at h; exact absurd h (by decide)
  rw [if_neg c6] at h
  by_cases c7 : v = 357702820
  · rw [if_pos c7] at h; exact absurd h (by decide)
  rw [if_neg c7] at h
  by_cases c8 : v = 273980692
  · rw [if_pos c8] at h; exact absurd h (by decide)
  rw [if_neg c8] at h
  by_cases c9 : v = 4153
  · exact c9
  rw [if_neg c9] at h
  by_cases c10 : v = 542622085
  · rw [if_pos c10] at h; exact absurd h (by decide)
  rw [if_neg c10] at h
  by_cases c11 : v = 5685913
  · rw [if_pos c11] at h; exact absurd h (by decide)
  rw [if_neg c11] at h
  by_cases c12 : v = 638164
  · rw [if_pos c12] at h; exact absurd h (by decide)
  rw [if_neg c12] at h
  by_cases c13 : v = 659104884
  · rw [if_pos c13] at h; exact absurd h (by decide)
  rw [if_neg c13] at h
  by_cases c14 : v = 52
  · rw [if_pos c14] at h; exact absurd h (by decide)
  rw [if_neg c14] at h
  by_cases c15 : v = 230821
  · rw [if_pos c15] at h; exact absurd h (by decide)
  rw [if_neg c15] at h
  exact absurd h (by decide)
theorem wOi10 {v : Nat} (h : wO v = 22) : v = 542622085 := by
  unfold wO at h
  by_cases c0 : v = 254268868
  · rw [if_pos c0] at h; exact absurd h (by decide)
  rw [if_neg c0] at h
  by_cases c1 : v = 631941
  · rw [if_pos c1] at h; exact absurd h (by decide)
  rw [if_neg c1] at h
  by_cases c2 : v = 67173
  · rw [if_pos c2] at h; exact absurd h (by decide)
  rw [if_neg c2] at h
  by_cases c3 : v = 12009198
  · rw [if_pos c3] at h; exact absurd h (by decide)
  rw [if_neg c3] at h
  by_cases c4 : v = 13938867
  · rw [if_pos c4] at h; exact absurd h (by decide)
  rw [if_neg c4] at h
  by_cases c5 : v = 595572
  · rw [if_pos c5] at h; exact absurd h (by decide)
  rw [if_neg c5] at h
  by_cases c6 : v = 644551
  · rw [if_pos c6] at h; exact absurd h (by decide)
  rw [if_neg c6] at h
  by_cases c7 : v = 357702820
  · rw [if_pos c7] at h; exact absurd h (by decide)
  rw [if_neg c7] at h
  by_cases c8 : v = 273980692
  · rw [if_pos c8] at h; exact absurd h (by decide)
  rw [if_neg c8] at h
  by_cases c9 : v = 4153
  · rw [if_pos c9] at h; exact absurd h (by decide)
  rw [if_neg c9] at h
  by_cases c10 : v = 542622085
  · exact c10
  rw [if_neg c10] at h
  by_cases c11 : v = 5685913
  · rw [if_pos c11] at h; exact absurd h (by decide)
  rw [if_neg c11] at h
  by_cases c12 : v = 638164
  · rw [if_pos c12] at h; exact absurd h (by decide)
  rw [if_neg c12] at h
  by_cases c13 : v = 659104884
  · rw [if_pos c13] at h; exact absurd h (by decide)
  rw [if_neg c13] at h
  by_cases c14 : v = 52
  · rw [if_pos c14] at h; exact absurd h (by decide)
  rw [if_neg c14] at h
  by_cases c15 : v = 230821
  · rw [if_pos c15] at h; exact absurd h (by decide)
  rw [if_neg c15] at h
  exact absurd h (by decide)
theorem wOi11 {v : Nat} (h : wO v = 23) : v = 5685913 := by
  unfold wO at h
  by_cases c0 : v = 254268868
  · rw [if_pos c0] at h; exact absurd h (by decide)
  rw [if_neg c0] at h
  by_cases c1 : v = 631941
  · rw [if_pos c1] at h; exact absurd h (by decide)
  rw [if_neg c1] at h
  by_cases c2 : v = 67173
  · rw [if_pos c2] at h; exact absurd h (by decide)
  rw [if_neg c2] at h
  by_cases c3 : v = 12009198
  · rw [if_pos c3] at h; exact absurd h (by decide)
  rw [if_neg c3] at h
  by_cases c4 : v = 13938867
  · rw [if_pos c4] at h; exact absurd h (by decide)
  rw [if_neg c4] at h
  by_cases c5 : v = 595572
  · rw [if_pos c5] at h; exact absurd h (by decide)
  rw [if_neg c5] at h
  by_cases c6 : v = 644551
  · rw [if_pos c6] at h; exact absurd h (by decide)
  rw [if_neg c6] at h
  by_cases c7 : v = 357702820
  · rw [if_pos c7] at h; exact absurd h (by decide)
  rw [if_neg c7] at h
  by_cases c8 : v = 273980692
  · rw [if_pos c8] at h; exact absurd h (by decide)
  rw [if_neg c8] at h
  by_cases c9 : v = 4153
  · rw [if_pos c9] at h; exact absurd h (by decide)
  rw [if_neg c9] at h
  by_cases c10 : v = 542622085
  · rw [if_pos c10] at h; exact absurd h (by decide)
  rw [if_neg c10] at h
  by_cases c11 : v = 5685913
  · exact c11
  rw [if_neg c11] at h
  by_cases c12 : v = 638164
  · rw [if_pos c12] at h; exact absurd h (by decide)
  rw [if_neg c12] at h
  by_cases c13 : v = 659104884
  · rw [if_pos c13] at h; exact absurd h (by decide)
  rw [if_neg c13] at h
  by_cases c14 : v = 52
  · rw [if_pos c14] at h; exact absurd h (by decide)
  rw [if_neg c14] at h
  by_cases c15 : v = 230821
  · rw [if_pos c15] at h; exact absurd h (by decide)
  rw [if_neg c15] at h
  exact absurd h (by decide)
theorem wOi12 {v : Nat} (h : wO v = 24) : v = 638164 := by
  unfold wO at h
  by_cases c0 : v = 254268868
  · rw [if_pos c0] at h; exact absurd h (by decide)
  rw [if_neg c0] at h
  by_cases c1 : v = 631941
  · rw [if_pos c1] at h; exact absurd h (by decide)
  rw [if_neg c1] at h
  by_cases c2 : v = 67173
  · rw [if_pos c2] at h; exact absurd h (by decide)
  rw [if_neg c2] at h
  by_cases c3 : v = 12009198
  · rw [if_pos c3] at h; exact absurd h (by decide)
  rw [if_neg c3] at h
  by_cases c4 : v = 13938867
  · rw [if_pos c4] at h; exact absurd h (by decide)
  rw [if_neg c4] at h
  by_cases c5 : v = 595572
  · rw [if_pos c5] at h; exact absurd h (by decide)
  rw [if_neg c5] at h
  by_cases c6 : v = 644551
  · rw [if_pos c6] at h; exact absurd h (by decide)
  rw [if_neg c6] at h
  by_cases c7 : v = 357702820
  · rw [if_pos c7] at h; exact absurd h (by decide)
  rw [if_neg c7] at h
  by_cases c8 : v = 273980692
  · rw [if_pos c8] at h; exact absurd h (by decide)
  rw [if_neg c8] at h
  by_cases c9 : v = 4153
  · rw [if_pos c9] at h; exact absurd h (by decide)
  rw [if_neg c9] at h
  by_cases c10 : v = 542622085
  · rw [if_pos c10] at h; exact absurd h (by decide)
  rw [if_neg c10] at h
  by_cases c11 : v = 5685913
  · rw [if_pos c11] at h; exact absurd h (by decide)
  rw [if_neg c11] at h
  by_cases c12 : v = 638164
  · exact c12
  rw [if_neg c12] at h
  by_cases c13 : v = 659104884
  · rw [if_pos c13] at h; exact absurd h (by decide)
  rw [if_neg c13] at h
  by_cases c14 : v = 52
  · rw [if_pos c14] at h; exact absurd h (by decide)
  rw [if_neg c14] at h
  by_cases c15 : v = 230821
  · rw [if_pos c15] at h; exact absurd h (by decide)
  rw [if_neg c15] at h
  exact absurd h (by decide)
theorem wOi13 {v : Nat} (h : wO v = 25) : v = 659104884 := by
  unfold wO at h
  by_cases c0 : v = 254268868
  · rw [if_pos c0] at h; exact absurd h (by decide)
  rw [if_neg c0] at h
  by_cases c1 : v = 631941
  · rw [if_pos c1] at h; exact absurd h (by decide)
  rw [if_neg c1] at h
  by_cases c2 : v = 67173
  · rw [if_pos c2] at h; exact absurd h (by decide)
  rw [if_neg c2] at h
  by_cases c3 : v = 12009198
  · rw [if_pos c3] at h; exact absurd h (by decide)
  rw [if_neg c3] at h
  by_cases c4 : v = 13938867
  · rw [if_pos c4] at h; exact absurd h (by decide)
  rw [if_neg c4] at h
  by_cases c5 : v = 595572
  · rw [if_pos c5] at h; exact absurd h (by decide)
  rw [if_neg c5] at h
  by_cases c6 : v = 644551
  · rw [if_pos c6] at h; exact absurd h (by decide)
  rw [if_neg c6] at h
  by_cases c7 : v = 357702820
  · rw [if_pos c7] at h; exact absurd h (by decide)
  rw [if_neg c7] at h
  by_cases c8 : v = 273980692
  · rw [if_pos c8] at h; exact absurd h (by decide)
  rw [if_neg c8] at h
  by_cases c9 : v = 4153
  · rw [if_pos c9] at h; exact absurd h (by decide)
  rw [if_neg c9] at h
  by_cases c10 : v = 542622085
  · rw [if_pos c10] at h; exact absurd h (by decide)
  rw [if_neg c10] at h
  by_cases c11 : v = 5685913
  · rw [if_pos c11] at h; exact absurd h (by decide)
  rw [if_neg c11] at h
  by_cases c12 : v = 638164
  · rw [if_pos c12] at h; exact absurd h (by decide)
  rw [if_neg c12] at h
  by_cases c13 : v = 659104884
  · exact c13
  rw [if_neg c13] at h
  by_cases c14 : v = 52
  · rw [if_pos c14] at h; exact absurd h (by decide)
  rw [if_neg c14] at h
  by_cases c15 : v = 230821
  · rw [if_pos c15] at h; exact absurd h (by decide)
  rw [if_neg c15] at h
  exact absurd h (by decide)
theorem wOi14 {v : Nat} (h : wO v = 26) : v = 52 := by
  unfold wO at h
  by_cases c0 : v = 254268868
  · rw [if_pos c0] at h; exact absurd h (by decide)
  rw [if_neg c0] at h
  by_cases c1 : v = 631941
  · rw [if_pos c1] at h; exact absurd h (by decide)
  rw [if_neg c1] at h
  by_cases c2 : v = 67173
  · rw [if_pos c2] at h; exact absurd h (by decide)
  rw [if_neg c2] at h
  by_cases c3 : v = 12009198
  · rw [if_pos c3] at h; exact absurd h (by decide)
  rw [if_neg c3] at h
  by_cases c4 : v = 13938867
  · rw [if_pos c4] at h; exact absurd h (by decide)
  rw [if_neg c4] at h
  by_cases c5 : v = 595572
  · rw [if_pos c5] at h; exact absurd h (by decide)
  rw [if_neg c5] at h
  by_cases c6 : v = 644551
  · rw [if_pos c6] at h; exact absurd h (by decide)
  rw [if_neg c6] at h
  by_cases c7 : v = 357702820
  · rw [if_pos c7] at h; exact absurd h (by decide)
  rw [if_neg c7] at h
  by_cases c8 : v = 273980692
  · rw [if_pos c8] at h; exact absurd h (by decide)
  rw [if_neg c8] at h
  by_cases c9 : v = 4153
  · rw [if_pos c9] at h; exact absurd h (by decide)
  rw [if_neg c9] at h
  by_cases c10 : v = 542622085
  · rw [if_pos c10] at h; exact absurd h (by decide)
  rw [if_neg c10] at h
  by_cases c11 : v = 5685913
  · rw [if_pos c11] at h; exact absurd h (by decide)
  rw [if_neg c11] at h
  by_cases c12 : v = 638164
  · rw [if_pos c12] at h; exact absurd h (by decide)
  rw [if_neg c12] at h
  by_cases c13 : v = 659104884
  · rw [if_pos c13] at h; exact absurd h (by decide)
  rw [if_neg c13] at h
  by_cases c14 : v = 52
  · exact c14
  rw [if_neg c14] at h
  by_cases c15 : v = 230821
  · rw [if_pos c15] at h; exact absurd h (by decide)
  rw [if_neg c15] at h
  exact absurd h (by decide)
theorem wOi15 {v : Nat} (h : wO v = 27) : v = 230821 := by
  unfold wO at h
  by_cases c0 : v = 254268868
  · rw [if_pos c0] at h; exact absurd h (by decide)
  rw [if_neg c0] at h
  by_cases c1 : v = 631941
  · rw [if_pos c1] at h; exact absurd h (by decide)
  rw [if_neg c1] at h
  by_cases c2 : v = 67173
  · rw [if_pos c2] at h; exact absurd h (by decide)
  rw [if_neg c2] at h
  by_cases c3 : v = 12009198
  · rw [if_pos c3] at h; exact absurd h (by decide)
  rw [if_neg c3] at h
  by_cases c4 : v = 13938867
  · rw [if_pos c4] at h; exact absurd h (by decide)
  rw [if_neg c4] at h
  by_cases c5 : v = 595572
  · rw [if_pos c5] at h; exact absurd h (by decide)
  rw [if_neg c5] at h
  by_cases c6 : v = 644551
  · rw [if_pos c6] at h; exact absurd h (by decide)
  rw [if_neg c6] at h
  by_cases c7 : v = 357702820
  · rw [if_pos c7] at h; exact absurd h (by decide)
  rw [if_neg c7] at h
  by_cases c8 : v = 273980692
  · rw [if_pos c8] at h; exact absurd h (by decide)
  rw [if_neg c8] at h
  by_cases c9 : v = 4153
  · rw [if_pos c9] at h; exact absurd h (by decide)
  rw [if_neg c9] at h
  by_cases c10 : v = 542622085
  · rw [if_pos c10] at h; exact absurd h (by decide)
  rw [if_neg c10] at h
  by_cases c11 : v = 5685913
  · rw [if_pos c11] at h; exact absurd h (by decide)
  rw [if_neg c11] at h
  by_cases c12 : v = 638164
  · rw [if_pos c12] at h; exact absurd h (by decide)
  rw [if_neg c12] at h
  by_cases c13 : v = 659104884
  · rw [if_pos c13] at h; exact absurd h (by decide)
  rw [if_neg c13] at h
  by_cases c14 : v = 52
  · rw [if_pos c14] at h; exact absurd h (by decide)
  rw [if_neg c14] at h
  by_cases c15 : v = 230821
  · exact c15
  rw [if_neg c15] at h
  exact absurd h (by decide)
/-- the code of a word by its letters -/
def wK (tp : Nat → Nat) (q L : Nat) : Nat := if L ≤ 6 then wO (hsh tp q L) else 99
theorem word0 {tp : Nat → Nat} {q L : Nat} (h0 : 1 ≤ L) (hl : ∀ i, i < L → 97 ≤ tp (q + i) ∧ tp (q + i) ≤ 122) : (L = 6 ∧ tp (q + 0) = 103 ∧ tp (q + 1) = 114 ∧ tp (q + 2) = 111 ∧ tp (q + 3) = 117 ∧ tp (q + 4) = 110 ∧ tp (q + 5) = 100) ↔ wK tp q L = 1 := by
  constructor
  · rintro ⟨rfl, e0, e1, e2, e3, e4, e5⟩
    have e : hsh tp q 6 = 254268868 := by rw [hsh6]; omega
    unfold wK
    rw [if_pos (by decide), e]
    rfl
  · intro h
    unfold wK at h
    by_cases c6 : L ≤ 6
    · rw [if_pos c6] at h
      have hv : hsh tp q L = 254268868 := wOi0 h
      have l0 := hl 0
      have l1 := hl 1
      have l2 := hl 2
      have l3 := hl 3
      have l4 := hl 4
      have l5 := hl 5
      rcases (show L = 1 ∨ L = 2 ∨ L = 3 ∨ L = 4 ∨ L = 5 ∨ L = 6 by omega) with rfl | rfl | rfl | rfl | rfl | rfl
      · rw [hsh1] at hv; omega
      · rw [hsh2] at hv; omega
      · rw [hsh3] at hv; omega
      · rw [hsh4] at hv; omega
      · rw [hsh5] at hv; omega
      · rw [hsh6] at hv
        refine ⟨rfl, ?_, ?_, ?_, ?_, ?_, ?_⟩ <;> omega
    · rw [if_neg c6] at h; omega
theorem word1 {tp : Nat → Nat} {q L : Nat} (h0 : 1 ≤ L) (hl : ∀ i, i < L → 97 ≤ tp (q + i) ∧ tp (q + i) ≤ 122) : (L = 4 ∧ tp (q + 0) = 115 ∧ tp (q + 1) = 105 ∧ tp (q + 2) = 100 ∧ tp (q + 3) = 101) ↔ wK tp q L = 2 := by
  constructor
  · rintro ⟨rfl, e0, e1, e2, e3⟩
    have e : hsh tp q 4 = 631941 := by rw [hsh4]; omega
    unfold wK
    rw [if_pos (by decide), e]
    rfl
  · intro h
    unfold wK at h
    by_cases c6 : L ≤ 6
    · rw [if_pos c6] at h
      have hv : hsh tp q L = 631941 := wOi1 h
      have l0 := hl 0
      have l1 := hl 1
      have l2 := hl 2
      have l3 := hl 3
      have l4 := hl 4
      have l5 := hl 5
      rcases (show L = 1 ∨ L = 2 ∨ L = 3 ∨ L = 4 ∨ L = 5 ∨ L = 6 by omega) with rfl | rfl | rfl | rfl | rfl | rfl
      · rw [hsh1] at hv; omega
      · rw [hsh2] at hv; omega
      · rw [hsh3] at hv; omega
      · rw [hsh4] at hv
        refine ⟨rfl, ?_, ?_, ?_, ?_⟩ <;> omega
      · rw [hsh5] at hv; omega
      · rw [hsh6] at hv; omega
    · rw [if_neg c6] at h; omega
theorem word2 {tp : Nat → Nat} {q L : Nat} (h0 : 1 ≤ L) (hl : ∀ i, i < L → 97 ≤ tp (q + i) ∧ tp (q + i) ≤ 122) : (L = 5 ∧ tp (q + 0) = 109 ∧ tp (q + 1) = 105 ∧ tp (q + 2) = 108 ∧ tp (q + 3) = 101 ∧ tp (q + 4) = 115) ↔ wK tp q L = 13 := by
  constructor
  · rintro ⟨rfl, e0, e1, e2, e3, e4⟩
    have e : hsh tp q 5 = 13938867 := by rw [hsh5]; omega
    unfold wK
    rw [if_pos (by decide), e]
    rfl
  · intro h
    unfold wK at h
    by_cases c6 : L ≤ 6
    · rw [if_pos c6] at h
      have hv : hsh tp q L = 13938867 := wOi2 h
      have l0 := hl 0
      have l1 := hl 1
      have l2 := hl 2
      have l3 := hl 3
      have l4 := hl 4
      have l5 := hl 5
      rcases (show L = 1 ∨ L = 2 ∨ L = 3 ∨ L = 4 ∨ L = 5 ∨ L = 6 by omega) with rfl | rfl | rfl | rfl | rfl | rfl
      · rw [hsh1] at hv; omega
      · rw [hsh2] at hv; omega
      · rw [hsh3] at hv; omega
      · rw [hsh4] at hv; omega
      · rw [hsh5] at hv
        refine ⟨rfl, ?_, ?_, ?_, ?_, ?_⟩ <;> omega
      · rw [hsh6] at hv; omega
    · rw [if_neg c6] at h; omega
theorem word3 {tp : Nat → Nat} {q L : Nat} (h0 : 1 ≤ L) (hl : ∀ i, i < L → 97 ≤ tp (q + i) ∧ tp (q + i) ≤ 122) : (L = 4 ∧ tp (q + 0) = 98 ∧ tp (q + 1) = 97 ∧ tp (q + 2) = 115 ∧ tp (q + 3) = 101) ↔ wK tp q L = 11 := by
  constructor
  · rintro ⟨rfl, e0, e1, e2, e3⟩
    have e : hsh tp q 4 = 67173 := by rw [hsh4]; omega
    unfold wK
    rw [if_pos (by decide), e]
    rfl
  · intro h
    unfold wK at h
    by_cases c6 : L ≤ 6
    · rw [if_pos c6] at h
      have hv : hsh tp q L = 67173 := wOi3 h
      have l0 := hl 0
      have l1 := hl 1
      have l2 := hl 2
      have l3 := hl 3
      have l4 := hl 4
      have l5 := hl 5
      rcases (show L = 1 ∨ L = 2 ∨ L = 3 ∨ L = 4 ∨ L = 5 ∨ L = 6 by omega) with rfl | rfl | rfl | rfl | rfl | rfl
      · rw [hsh1] at hv; omega
      · rw [hsh2] at hv; omega
      · rw [hsh3] at hv; omega
      · rw [hsh4] at hv
        refine ⟨rfl, ?_, ?_, ?_, ?_⟩ <;> omega
      · rw [hsh5] at hv; omega
      · rw [hsh6] at hv; omega
    · rw [if_neg c6] at h; omega
theorem word4 {tp : Nat → Nat} {q L : Nat} (h0 : 1 ≤ L) (hl : ∀ i, i < L → 97 ≤ tp (q + i) ∧ tp (q + i) ≤ 122) : (L = 5 ∧ tp (q + 0) = 107 ∧ tp (q + 1) = 110 ∧ tp (q + 2) = 111 ∧ tp (q + 3) = 119 ∧ tp (q + 4) = 110) ↔ wK tp q L = 12 := by
  constructor
  · rintro ⟨rfl, e0, e1, e2, e3, e4⟩
    have e : hsh tp q 5 = 12009198 := by rw [hsh5]; omega
    unfold wK
    rw [if_pos (by decide), e]
    rfl
  · intro h
    unfold wK at h
    by_cases c6 : L ≤ 6
    · rw [if_pos c6] at h
      have hv : hsh tp q L = 12009198 := wOi4 h
      have l0 := hl 0
      have l1 := hl 1
      have l2 := hl 2
      have l3 := hl 3
      have l4 := hl 4
      have l5 := hl 5
      rcases (show L = 1 ∨ L = 2 ∨ L = 3 ∨ L = 4 ∨ L = 5 ∨ L = 6 by omega) with rfl | rfl | rfl | rfl | rfl | rfl
      · rw [hsh1] at hv; omega
      · rw [hsh2] at hv; omega
      · rw [hsh3] at hv; omega
      · rw [hsh4] at hv; omega
      · rw [hsh5] at hv
        refine ⟨rfl, ?_, ?_, ?_, ?_, ?_⟩ <;> omega
      · rw [hsh6] at hv; omega
    · rw [if_neg c6] at h; omega
theorem word5 {tp : Nat → Nat} {q L : Nat} (h0 : 1 ≤ L) (hl : ∀ i, i < L → 97 ≤ tp (q + i) ∧ tp (q + i) ≤ 122) : (L = 4 ∧ tp (q + 0) = 114 ∧ tp (q + 1) = 101 ∧ tp (q + 2) = 115 ∧ tp (q + 3) = 116) ↔ wK tp q L = 14 := by
  constructor
  · rintro ⟨rfl, e0, e1, e2, e3⟩
    have e : hsh tp q 4 = 595572 := by rw [hsh4]; omega
    unfold wK
    rw [if_pos (by decide), e]
    rfl
  · intro h
    unfold wK at h
    by_cases c6 : L ≤ 6
    · rw [if_pos c6] at h
      have hv : hsh tp q L = 595572 := wOi5 h
      have l0 := hl 0
      have l1 := hl 1
      have l2 := hl 2
      have l3 := hl 3
      have l4 := hl 4
      have l5 := hl 5
      rcases (show L = 1 ∨ L = 2 ∨ L = 3 ∨ L = 4 ∨ L = 5 ∨ L = 6 by omega) with rfl | rfl | rfl | rfl | rfl | rfl
      · rw [hsh1] at hv; omega
      · rw [hsh2] at hv; omega
      · rw [hsh3] at hv; omega
      · rw [hsh4] at hv
        refine ⟨rfl, ?_, ?_, ?_, ?_⟩ <;> omega
      · rw [hsh5] at hv; omega
      · rw [hsh6] at hv; omega
    · rw [if_neg c6] at h; omega
theorem word6 {tp : Nat → Nat} {q L : Nat} (h0 : 1 ≤ L) (hl : ∀ i, i < L → 97 ≤ tp (q + i) ∧ tp (q + i) ≤ 122) : (L = 4 ∧ tp (q + 0) = 115 ∧ tp (q + 1) = 117 ∧ tp (q + 2) = 110 ∧ tp (q + 3) = 103) ↔ wK tp q L = 15 := by
  constructor
  · rintro ⟨rfl, e0, e1, e2, e3⟩
    have e : hsh tp q 4 = 644551 := by rw [hsh4]; omega
    unfold wK
    rw [if_pos (by decide), e]
    rfl
  · intro h
    unfold wK at h
    by_cases c6 : L ≤ 6
    · rw [if_pos c6] at h
      have hv : hsh tp q L = 644551 := wOi6 h
      have l0 := hl 0
      have l1 := hl 1
      have l2 := hl 2
      have l3 := hl 3
      have l4 := hl 4
      have l5 := hl 5
      rcases (show L = 1 ∨ L = 2 ∨ L = 3 ∨ L = 4 ∨ L = 5 ∨ L = 6 by omega) with rfl | rfl | rfl | rfl | rfl | rfl
      · rw [hsh1] at hv; omega
      · rw [hsh2] at hv; omega
      · rw [hsh3] at hv; omega
      · rw [hsh4] at hv
        refine ⟨rfl, ?_, ?_, ?_, ?_⟩ <;> omega
      · rw [hsh5] at hv; omega
      · rw [hsh6] at hv; omega
    · rw [if_neg c6] at h; omega
theorem word7 {tp : Nat → Nat} {q L : Nat} (h0 : 1 ≤ L) (hl : ∀ i, i < L → 97 ≤ tp (q + i) ∧ tp (q + i) ≤ 122) : (L = 6 ∧ tp (q + 0) = 106 ∧ tp (q + 1) = 117 ∧ tp (q + 2) = 100 ∧ tp (q + 3) = 103 ∧ tp (q + 4) = 101 ∧ tp (q + 5) = 100) ↔ wK tp q L = 16 := by
  constructor
  · rintro ⟨rfl, e0, e1, e2, e3, e4, e5⟩
    have e : hsh tp q 6 = 357702820 := by rw [hsh6]; omega
    unfold wK
    rw [if_pos (by decide), e]
    rfl
  · intro h
    unfold wK at h
    by_cases c6 : L ≤ 6
    · rw [if_pos c6] at h
      have hv : hsh tp q L = 357702820 := wOi7 h
      have l0 := hl 0
      have l1 := hl 1
      have l2 := hl 2
      have l3 := hl 3
      have l4 := hl 4
      have l5 := hl 5
      rcases (show L = 1 ∨ L = 2 ∨ L = 3 ∨ L = 4 ∨ L = 5 ∨ L = 6 by omega) with rfl | rfl | rfl | rfl | rfl | rfl
      · rw [hsh1] at hv; omega
      · rw [hsh2] at hv; omega
      · rw [hsh3] at hv; omega
      · rw [hsh4] at hv; omega
      · rw [hsh5] at hv; omega
      · rw [hsh6] at hv
        refine ⟨rfl, ?_, ?_, ?_, ?_, ?_, ?_⟩ <;> omega
    · rw [if_neg c6] at h; omega
theorem word8 {tp : Nat → Nat} {q L : Nat} (h0 : 1 ≤ L) (hl : ∀ i, i < L → 97 ≤ tp (q + i) ∧ tp (q + i) ≤ 122) : (L = 6 ∧ tp (q + 0) = 104 ∧ tp (q + 1) = 101 ∧ tp (q + 2) = 105 ∧ tp (q + 3) = 103 ∧ tp (q + 4) = 104 ∧ tp (q + 5) = 116) ↔ wK tp q L = 17 := by
  constructor
  · rintro ⟨rfl, e0, e1, e2, e3, e4, e5⟩
    have e : hsh tp q 6 = 273980692 := by rw [hsh6]; omega
    unfold wK
    rw [if_pos (by decide), e]
    rfl
  · intro h
    unfold wK at h
    by_cases c6 : L ≤ 6
    · rw [if_pos c6] at h
      have hv : hsh tp q L = 273980692 := wOi8 h
      have l0 := hl 0
      have l1 := hl 1
      have l2 := hl 2
      have l3 := hl 3
      have l4 := hl 4
      have l5 := hl 5
      rcases (show L = 1 ∨ L = 2 ∨ L = 3 ∨ L = 4 ∨ L = 5 ∨ L = 6 by omega) with rfl | rfl | rfl | rfl | rfl | rfl
      · rw [hsh1] at hv; omega
      · rw [hsh2] at hv; omega
      · rw [hsh3] at hv; omega
      · rw [hsh4] at hv; omega
      · rw [hsh5] at hv; omega
      · rw [hsh6] at hv
        refine ⟨rfl, ?_, ?_, ?_, ?_, ?_, ?_⟩ <;> omega
    · rw [if_neg c6] at h; omega
theorem word9 {tp : Nat → Nat} {q L : Nat} (h0 : 1 ≤ L) (hl : ∀ i, i < L → 97 ≤ tp (q + i) ∧ tp (q + i) ≤ 122) : (L = 3 ∧ tp (q + 0) = 100 ∧ tp (q + 1) = 97 ∧ tp (q + 2) = 121) ↔ wK tp q L = 21 := by
  constructor
  · rintro ⟨rfl, e0, e1, e2⟩
    have e : hsh tp q 3 = 4153 := by rw [hsh3]; omega
    unfold wK
    rw [if_pos (by decide), e]
    rfl
  · intro h
    unfold wK at h
    by_cases c6 : L ≤ 6
    · rw [if_pos c6] at h
      have hv : hsh tp q L = 4153 := wOi9 h
      have l0 := hl 0
      have l1 := hl 1
      have l2 := hl 2
      have l3 := hl 3
      have l4 := hl 4
      have l5 := hl 5
      rcases (show L = 1 ∨ L = 2 ∨ L = 3 ∨ L = 4 ∨ L = 5 ∨ L = 6 by omega) with rfl | rfl | rfl | rfl | rfl | rfl
      · rw [hsh1] at hv; omega
      · rw [hsh2] at hv; omega
      · rw [hsh3] at hv
        refine ⟨rfl, ?_, ?_, ?_⟩ <;> omega
      · rw [hsh4] at hv; omega
      · rw [hsh5] at hv; omega
      · rw [hsh6] at hv; omega
    · rw [if_neg c6] at h; omega
theorem word10 {tp : Nat → Nat} {q L : Nat} (h0 : 1 ≤ L) (hl : ∀ i, i < L → 97 ≤ tp (q + i) ∧ tp (q + i) ≤ 122) : (L = 6 ∧ tp (q + 0) = 112 ∧ tp (q + 1) = 101 ∧ tp (q + 2) = 111 ∧ tp (q + 3) = 112 ∧ tp (q + 4) = 108 ∧ tp (q + 5) = 101) ↔ wK tp q L = 22 := by
  constructor
  · rintro ⟨rfl, e0, e1, e2, e3, e4, e5⟩
    have e : hsh tp q 6 = 542622085 := by rw [hsh6]; omega
    unfold wK
    rw [if_pos (by decide), e]
    rfl
  · intro h
    unfold wK at h
    by_cases c6 : L ≤ 6
    · rw [if_pos c6] at h
      have hv : hsh tp q L = 542622085 := wOi10 h
      have l0 := hl 0
      have l1 := hl 1
      have l2 := hl 2
      have l3 := hl 3
      have l4 := hl 4
      have l5 := hl 5
      rcases (show L = 1 ∨ L = 2 ∨ L = 3 ∨ L = 4 ∨ L = 5 ∨ L = 6 by omega) with rfl | rfl | rfl | rfl | rfl | rfl
      · rw [hsh1] at hv; omega
      · rw [hsh2] at hv; omega
      · rw [hsh3] at hv; omega
      · rw [hsh4] at hv; omega
      · rw [hsh5] at hv; omega
      · rw [hsh6] at hv
        refine ⟨rfl, ?_, ?_, ?_, ?_, ?_, ?_⟩ <;> omega
    · rw [if_neg c6] at h; omega
theorem word11 {tp : Nat → Nat} {q L : Nat} (h0 : 1 ≤ L) (hl : ∀ i, i < L → 97 ≤ tp (q + i) ∧ tp (q + i) ≤ 122) : (L = 5 ∧ tp (q + 0) = 101 ∧ tp (q + 1) = 109 ∧ tp (q + 2) = 112 ∧ tp (q + 3) = 116 ∧ tp (q + 4) = 121) ↔ wK tp q L = 23 := by
  constructor
  · rintro ⟨rfl, e0, e1, e2, e3, e4⟩
    have e : hsh tp q 5 = 5685913 := by rw [hsh5]; omega
    unfold wK
    rw [if_pos (by decide), e]
    rfl
  · intro h
    unfold wK at h
    by_cases c6 : L ≤ 6
    · rw [if_pos c6] at h
      have hv : hsh tp q L = 5685913 := wOi11 h
      have l0 := hl 0
      have l1 := hl 1
      have l2 := hl 2
      have l3 := hl 3
      have l4 := hl 4
      have l5 := hl 5
      rcases (show L = 1 ∨ L = 2 ∨ L = 3 ∨ L = 4 ∨ L = 5 ∨ L = 6 by omega) with rfl | rfl | rfl | rfl | rfl | rfl
      · rw [hsh1] at hv; omega
      · rw [hsh2] at hv; omega
      · rw [hsh3] at hv; omega
      · rw [hsh4] at hv; omega
      · rw [hsh5] at hv
        refine ⟨rfl, ?_, ?_, ?_, ?_, ?_⟩ <;> omega
      · rw [hsh6] at hv; omega
    · rw [if_neg c6] at h; omega
theorem word12 {tp : Nat → Nat} {q L : Nat} (h0 : 1 ≤ L) (hl : ∀ i, i < L → 97 ≤ tp (q + i) ∧ tp (q + i) ≤ 122) : (L = 4 ∧ tp (q + 0) = 115 ∧ tp (q + 1) = 111 ∧ tp (q + 2) = 102 ∧ tp (q + 3) = 116) ↔ wK tp q L = 24 := by
  constructor
  · rintro ⟨rfl, e0, e1, e2, e3⟩
    have e : hsh tp q 4 = 638164 := by rw [hsh4]; omega
    unfold wK
    rw [if_pos (by decide), e]
    rfl
  · intro h
    unfold wK at h
    by_cases c6 : L ≤ 6
    · rw [if_pos c6] at h
      have hv : hsh tp q L = 638164 := wOi12 h
      have l0 := hl 0
      have l1 := hl 1
      have l2 := hl 2
      have l3 := hl 3
      have l4 := hl 4
      have l5 := hl 5
      rcases (show L = 1 ∨ L = 2 ∨ L = 3 ∨ L = 4 ∨ L = 5 ∨ L = 6 by omega) with rfl | rfl | rfl | rfl | rfl | rfl
      · rw [hsh1] at hv; omega
      · rw [hsh2] at hv; omega
      · rw [hsh3] at hv; omega
      · rw [hsh4] at hv
        refine ⟨rfl, ?_, ?_, ?_, ?_⟩ <;> omega
      · rw [hsh5] at hv; omega
      · rw [hsh6] at hv; omega
    · rw [if_neg c6] at h; omega
theorem word13 {tp : Nat → Nat} {q L : Nat} (h0 : 1 ≤ L) (hl : ∀ i, i < L → 97 ≤ tp (q + i) ∧ tp (q + i) ≤ 122) : (L = 6 ∧ tp (q + 0) = 115 ∧ tp (q + 1) = 116 ∧ tp (q + 2) = 114 ∧ tp (q + 3) = 105 ∧ tp (q + 4) = 99 ∧ tp (q + 5) = 116) ↔ wK tp q L = 25 := by
  constructor
  · rintro ⟨rfl, e0, e1, e2, e3, e4, e5⟩
    have e : hsh tp q 6 = 659104884 := by rw [hsh6]; omega
    unfold wK
    rw [if_pos (by decide), e]
    rfl
  · intro h
    unfold wK at h
    by_cases c6 : L ≤ 6
    · rw [if_pos c6] at h
      have hv : hsh tp q L = 659104884 := wOi13 h
      have l0 := hl 0
      have l1 := hl 1
      have l2 := hl 2
      have l3 := hl 3
      have l4 := hl 4
      have l5 := hl 5
      rcases (show L = 1 ∨ L = 2 ∨ L = 3 ∨ L = 4 ∨ L = 5 ∨ L = 6 by omega) with rfl | rfl | rfl | rfl | rfl | rfl
      · rw [hsh1] at hv; omega
      · rw [hsh2] at hv; omega
      · rw [hsh3] at hv; omega
      · rw [hsh4] at hv; omega
      · rw [hsh5] at hv; omega
      · rw [hsh6] at hv
        refine ⟨rfl, ?_, ?_, ?_, ?_, ?_, ?_⟩ <;> omega
    · rw [if_neg c6] at h; omega
theorem word14 {tp : Nat → Nat} {q L : Nat} (h0 : 1 ≤ L) (hl : ∀ i, i < L → 97 ≤ tp (q + i) ∧ tp (q + i) ≤ 122) : (L = 2 ∧ tp (q + 0) = 97 ∧ tp (q + 1) = 116) ↔ wK tp q L = 26 := by
  constructor
  · rintro ⟨rfl, e0, e1⟩
    have e : hsh tp q 2 = 52 := by rw [hsh2]; omega
    unfold wK
    rw [if_pos (by decide), e]
    rfl
  · intro h
    unfold wK at h
    by_cases c6 : L ≤ 6
    · rw [if_pos c6] at h
      have hv : hsh tp q L = 52 := wOi14 h
      have l0 := hl 0
      have l1 := hl 1
      have l2 := hl 2
      have l3 := hl 3
      have l4 := hl 4
      have l5 := hl 5
      rcases (show L = 1 ∨ L = 2 ∨ L = 3 ∨ L = 4 ∨ L = 5 ∨ L = 6 by omega) with rfl | rfl | rfl | rfl | rfl | rfl
      · rw [hsh1] at hv; omega
      · rw [hsh2] at hv
        refine ⟨rfl, ?_, ?_⟩ <;> omega
      · rw [hsh3] at hv; omega
      · rw [hsh4] at hv; omega
      · rw [hsh5] at hv; omega
      · rw [hsh6] at hv; omega
    · rw [if_neg c6] at h; omega
theorem word15 {tp : Nat → Nat} {q L : Nat} (h0 : 1 ≤ L) (hl : ∀ i, i < L → 97 ≤ tp (q + i) ∧ tp (q + i) ≤ 122) : (L = 4 ∧ tp (q + 0) = 103 ∧ tp (q + 1) = 97 ∧ tp (q + 2) = 109 ∧ tp (q + 3) = 101) ↔ wK tp q L = 27 := by
  constructor
  · rintro ⟨rfl, e0, e1, e2, e3⟩
    have e : hsh tp q 4 = 230821 := by rw [hsh4]; omega
    unfold wK
    rw [if_pos (by decide), e]
    rfl
  · intro h
    unfold wK at h
    by_cases c6 : L ≤ 6
    · rw [if_pos c6] at h
      have hv : hsh tp q L = 230821 := wOi15 h
      have l0 := hl 0
      have l1 := hl 1
      have l2 := hl 2
      have l3 := hl 3
      have l4 := hl 4
      have l5 := hl 5
      rcases (show L = 1 ∨ L = 2 ∨ L = 3 ∨ L = 4 ∨ L = 5 ∨ L = 6 by omega) with rfl | rfl | rfl | rfl | rfl | rfl
      · rw [hsh1] at hv; omega
      · rw [hsh2] at hv; omega
      · rw [hsh3] at hv; omega
      · rw [hsh4] at hv
        refine ⟨rfl, ?_, ?_, ?_, ?_⟩ <;> omega
      · rw [hsh5] at hv; omega
      · rw [hsh6] at hv; omega
    · rw [if_neg c6] at h; omega

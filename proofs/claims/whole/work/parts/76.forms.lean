/-! WHICH LINE IT IS -/
/-- whether all letters from i on are those of a word -/
def alN (tp : Nat → Nat) (q : Nat) (cs : Nat → Nat) : Nat → Nat → Nat
  | 0, _ => 1
  | f + 1, i => if cs i = tp (q + i) then alN tp q cs f (i + 1) else 0
theorem alN_1 (tp : Nat → Nat) (q : Nat) (cs : Nat → Nat) : ∀ f i, (alN tp q cs f i = 1 ↔ ∀ j, i ≤ j → j < i + f → tp (q + j) = cs j) ∧ alN tp q cs f i ≤ 1 := by
  intro f
  induction f with
  | zero => exact fun i => ⟨⟨fun _ j h1 h2 => by omega, fun _ => rfl⟩, Nat.le_refl 1⟩
  | succ f ih =>
    intro i
    obtain ⟨a, b⟩ := ih (i + 1)
    unfold alN
    by_cases c : cs i = tp (q + i)
    · rw [if_pos c]
      refine ⟨⟨fun h j h1 h2 => ?_, fun h => a.mpr fun j h1 h2 => h j (by omega) (by omega)⟩, b⟩
      by_cases hj : j = i
      · rw [hj]; exact c.symm
      · exact a.mp h j (by omega) (by omega)
    · rw [if_neg c]
      exact ⟨⟨fun h => by omega, fun h => absurd (h i (Nat.le_refl i) (by omega)).symm c⟩, by omega⟩
/-- which line a word begins: of a sort -/
def fO (sort code : Nat) : Int32 := if sort = 0 then (if code = 1 then 0 else if code = 2 then 1 else if code = 13 then 2 else -1) else if sort = 1 then (if 11 ≤ code ∧ code ≤ 17 then nI (code - 1) else -1) else if 21 ≤ code ∧ code ≤ 27 then nI (code - 1) else -1
theorem fO_1 (c : Nat) : fO 1 c = if 11 ≤ c ∧ c ≤ 17 then nI (c - 1) else -1 := by
  unfold fO
  rw [if_neg (by decide), if_pos rfl]
theorem fO_2 (c : Nat) : fO 2 c = if 21 ≤ c ∧ c ≤ 27 then nI (c - 1) else -1 := by
  unfold fO
  rw [if_neg (by decide), if_neg (by decide)]
section WD
variable {st st1 st2 s s1 : xS} {n len p : Nat} {tp : Nat → Nat}
theorem C_spl (h : RB st tp len) {q w m : Nat} (g4 : gI st (some 75) 7 4 = some (nI q)) (cs : Nat → Nat) (hq : q + m ≤ len) (hw : sLen (some w) = some (nI m)) (hc : ∀ i, i < m → sCh (some w) (nI i) = some (nI (cs i))) (hcs : ∀ i, i < m → cs i < 256) : ∀ f i, m - i = f → i ≤ m → ∀ k, f < k → F_X7_spells_L20 n k st (some 75) (some w) (nI i) = some (nI (alN tp q cs f i)) := by
  have b5 := h.2.2.2.1
  intro f
  induction f with
  | zero =>
    intro i hf hi k hk
    obtain ⟨k, rfl⟩ : ∃ j, k = j + 1 := ⟨k - 1, by omega⟩
    rw [F_X7_spells_L20]
    dsimp only
    simp (disch := omega) only [↓bnd (hw), nLe_t, if_true, rz1, Option.bind_some]
    rfl
  | succ f ih =>
    intro i hf hi k hk
    obtain ⟨k, rfl⟩ : ∃ j, k = j + 1 := ⟨k - 1, by omega⟩
    have c2 := hcs i (by omega)
    have t2 := h.2.2.2.2.1 (q + i)
    have sg : F_X7_signAt n st (some 75) (nI q + nI i) = some (nI (tp (q + i))) := by rw [nAdd, C_sign h (by omega)]; unfold sgn; rw [if_pos (by omega)]
    have e : (nI (cs i) = nI (tp (q + i))) = (cs i = tp (q + i)) := nEq (by omega) (by omega)
    rw [F_X7_spells_L20, alN]
    dsimp only
    simp (disch := omega) only [↓bnd (hw), nLe_f, if_false, ↓bnd (hc i (by omega)), ↓bnd (g4), ↓bnd (o75 h.1), ↓bnd (sg), e]
    by_cases c : cs i = tp (q + i)
    · simp only [c, if_true, Option.bind_some, nI_1, ih (i + 1) (by omega) (by omega) k (by omega)]
    · simp only [c, if_false, rz0, Option.bind_some]
      rfl
theorem C_spells (h : RB st tp len) {q x w m : Nat} (g2 : gI st (some 75) 7 2 = some (nI x)) (g4 : gI st (some 75) 7 4 = some (nI q)) (cs : Nat → Nat) (hqx : q ≤ x) (hx : x ≤ len) (hm : m < 256) (hw : sLen (some w) = some (nI m)) (hc : ∀ i, i < m → sCh (some w) (nI i) = some (nI (cs i))) (hcs : ∀ i, i < m → cs i < 256) (hn : 3000 ≤ n) : F_X7_spells n st (some 75) (some w) = some (nI (if x - q = m then alN tp q cs m 0 else 0)) := by
  have b5 := h.2.2.2.1
  unfold F_X7_spells
  have e : (nI m = nI x - nI q) = (x - q = m) := by
    rw [nSub hqx, nEq (by omega) (by omega)]
    exact propext eq_comm
  simp only [↓bnd (hw), ↓bnd (g2), ↓bnd (g4), e]
  by_cases c : x - q = m
  · rw [if_pos c, if_pos c]
    exact C_spl h g4 cs (by omega) hw hc hcs m 0 rfl (Nat.zero_le _) n (by omega)
  · rw [if_neg c, if_neg c]
    rfl
theorem lettersW (h : kD tp len p = 1) (hp : p ≤ len) : 1 ≤ nX tp len p - qB tp len p ∧ ∀ i, i < nX tp len p - qB tp len p → 97 ≤ tp (qB tp len p + i) ∧ tp (qB tp len p + i) ≤ 122 := by
  unfold kD at h
  by_cases c0 : qB tp len p < len
  · rw [if_pos c0] at h
    by_cases cl : ltB (tp (qB tp len p)) = true
    · have nx : nX tp len p = scA ltB tp len (qB tp len p) := by unfold nX; rw [if_pos c0, if_pos cl]
      have s1 := sc_leL (tp := tp) (len := len) (qB tp len p)
      have s2 := (sc_le (P := ltB) (tp := tp) (len := len) _ (qB tp len p + 1) rfl).1
      have s3 := scA_t c0 cl
      rw [← nx] at s1
      refine ⟨by omega, fun i hi => ?_⟩
      have := s1 (qB tp len p + i) (by omega) (by omega)
      unfold ltB at this
      exact of_decide_eq_true this
    · rw [if_neg cl] at h
      split at h
      · split at h <;> omega
      · split at h <;> omega
  · rw [if_neg c0] at h; omega
theorem C_sp16 (h : RB st tp len) {q x : Nat} (g2 : gI st (some 75) 7 2 = some (nI x)) (g4 : gI st (some 75) 7 4 = some (nI q)) (hqx : q < x) (hx : x ≤ len) (hn : 3000 ≤ n) : F_X7_spells n st (some 75) (some 16) = some 0 := by
  rw [C_spells h g2 g4 (fun _ => 0) (by omega) hx (m := 0) (by decide) rfl (fun i hi => absurd hi (Nat.not_lt_zero i)) (fun i hi => absurd hi (Nat.not_lt_zero i)) hn, if_neg (by omega)]
  rfl
theorem C_sp0 (h : RB st tp len) (hk : kD tp len p = 1) (hp : p ≤ len) (g2 : gI st (some 75) 7 2 = some (nI (nX tp len p))) (g4 : gI st (some 75) 7 4 = some (nI (qB tp len p))) (hn : 3000 ≤ n) : F_X7_spells n st (some 75) (some 0) = some (if wC tp len p = 1 then 1 else 0) := by
  have nl := nX_le (tp := tp) hp
  have lw := lettersW hk hp
  have wd := word0 lw.1 lw.2
  have ch : ∀ i, i < 6 → sCh (some 0) (nI i) = some (nI (([103, 114, 111, 117, 110, 100] : List Nat).getD i 0)) := by
    intro i hi
    rcases (show i = 0 ∨ i = 1 ∨ i = 2 ∨ i = 3 ∨ i = 4 ∨ i = 5 by omega) with rfl | rfl | rfl | rfl | rfl | rfl <;> rfl
  have cb : ∀ i, i < 6 → ([103, 114, 111, 117, 110, 100] : List Nat).getD i 0 < 256 := by
    intro i hi
    rcases (show i = 0 ∨ i = 1 ∨ i = 2 ∨ i = 3 ∨ i = 4 ∨ i = 5 by omega) with rfl | rfl | rfl | rfl | rfl | rfl <;> decide
  rw [C_spells h g2 g4 (fun i => ([103, 114, 111, 117, 110, 100] : List Nat).getD i 0) nl.1 nl.2.1 (m := 6) (by decide) rfl ch cb hn]
  have al := alN_1 tp (qB tp len p) (fun i => ([103, 114, 111, 117, 110, 100] : List Nat).getD i 0) 6 0
  have e : wC tp len p = wK tp (qB tp len p) (nX tp len p - qB tp len p) := rfl
  rw [e]
  by_cases c : wK tp (qB tp len p) (nX tp len p - qB tp len p) = 1
  · obtain ⟨w0, x0, x1, x2, x3, x4, x5⟩ := wd.mpr c
    rw [if_pos c, if_pos w0, al.1.mpr fun j _ hj => by
      rcases (show j = 0 ∨ j = 1 ∨ j = 2 ∨ j = 3 ∨ j = 4 ∨ j = 5 by omega) with rfl | rfl | rfl | rfl | rfl | rfl <;> assumption]
    rfl
  · rw [if_neg c]
    by_cases w0 : nX tp len p - qB tp len p = 6
    · have a0 : alN tp (qB tp len p) (fun i => ([103, 114, 111, 117, 110, 100] : List Nat).getD i 0) 6 0 ≠ 1 := fun q => c (wd.mp ⟨w0, al.1.mp q 0 (by decide) (by decide), al.1.mp q 1 (by decide) (by decide), al.1.mp q 2 (by decide) (by decide), al.1.mp q 3 (by decide) (by decide), al.1.mp q 4 (by decide) (by decide), al.1.mp q 5 (by decide) (by decide)⟩)
      have a1 := al.2
      rw [if_pos w0, show alN tp (qB tp len p) (fun i => ([103, 114, 111, 117, 110, 100] : List Nat).getD i 0) 6 0 = 0 by omega]
      rfl
    · rw [if_neg w0]
      rfl
theorem C_sp1 (h : RB st tp len) (hk : kD tp len p = 1) (hp : p ≤ len) (g2 : gI st (some 75) 7 2 = some (nI (nX tp len p))) (g4 : gI st (some 75) 7 4 = some (nI (qB tp len p))) (hn : 3000 ≤ n) : F_X7_spells n st (some 75) (some 1) = some (if wC tp len p = 2 then 1 else 0) := by
  have nl := nX_le (tp := tp) hp
  have lw := lettersW hk hp
  have wd := word1 lw.1 lw.2
  have ch : ∀ i, i < 4 → sCh (some 1) (nI i) = some (nI (([115, 105, 100, 101] : List Nat).getD i 0)) := by
    intro i hi
    rcases (show i = 0 ∨ i = 1 ∨ i = 2 ∨ i = 3 by omega) with rfl | rfl | rfl | rfl <;> rfl
  have cb : ∀ i, i < 4 → ([115, 105, 100, 101] : List Nat).getD i 0 < 256 := by
    intro i hi
    rcases (show i = 0 ∨ i = 1 ∨ i = 2 ∨ i = 3 by omega) with rfl | rfl | rfl | rfl <;> decide
  rw [C_spells h g2 g4 (fun i => ([115, 105, 100, 101] : List Nat).getD i 0) nl.1 nl.2.1 (m := 4) (by decide) rfl ch cb hn]
  have al := alN_1 tp (qB tp len p) (fun i => ([115, 105, 100, 101] : List Nat).getD i 0) 4 0
  have e : wC tp len p = wK tp (qB tp len p) (nX tp len p - qB tp len p) := rfl
  rw [e]
  by_cases c : wK tp (qB tp len p) (nX tp len p - qB tp len p) = 2
  · obtain ⟨w0, x0, x1, x2, x3⟩ := wd.mpr c
    rw [if_pos c, if_pos w0, al.1.mpr fun j _ hj => by
      rcases (show j = 0 ∨ j = 1 ∨ j = 2 ∨ j = 3 by omega) with rfl | rfl | rfl | rfl <;> assumption]
    rfl
  · rw [if_neg c]
    by_cases w0 : nX tp len p - qB tp len p = 4
    · have a0 : alN tp (qB tp len p) (fun i => ([115, 105, 100, 101] : List Nat).getD i 0) 4 0 ≠ 1 := fun q => c (wd.mp ⟨w0, al.1.mp q 0 (by decide) (by decide), al.1.mp q 1 (by decide) (by decide), al.1.mp q 2 (by decide) (by decide), al.1.mp q 3 (by decide) (by decide)⟩)
      have a1 := al.2
      rw [if_pos w0, show alN tp (qB tp len p) (fun i => ([115, 105, 100, 101] : List Nat).getD i 0) 4 0 = 0 by omega]
      rfl
    · rw [if_neg w0]
      rfl
theorem C_sp2 (h : RB st tp len) (hk : kD tp len p = 1) (hp : p ≤ len) (g2 : gI st (some 75) 7 2 = some (nI (nX tp len p))) (g4 : gI st (some 75) 7 4 = some (nI (qB tp len p))) (hn : 3000 ≤ n) : F_X7_spells n st (some 75) (some 2) = some (if wC tp len p = 13 then 1 else 0) := by
  have nl := nX_le (tp := tp) hp
  have lw := lettersW hk hp
  have wd := word2 lw.1 lw.2
  have ch : ∀ i, i < 5 → sCh (some 2) (nI i) = some (nI (([109, 105, 108, 101, 115] : List Nat).getD i 0)) := by
    intro i hi
    rcases (show i = 0 ∨ i = 1 ∨ i = 2 ∨ i = 3 ∨ i = 4 by omega) with rfl | rfl | rfl | rfl | rfl <;> rfl
  have cb : ∀ i, i < 5 → ([109, 105, 108, 101, 115] : List Nat).getD i 0 < 256 := by
    intro i hi
    rcases (show i = 0 ∨ i = 1 ∨ i = 2 ∨ i = 3 ∨ i = 4 by omega) with rfl | rfl | rfl | rfl | rfl <;> decide
  rw [C_spells h g2 g4 (fun i => ([109, 105, 108, 101, 115] : List Nat).getD i 0) nl.1 nl.2.1 (m := 5) (by decide) rfl ch cb hn]
  have al := alN_1 tp (qB tp len p) (fun i => ([109, 105, 108, 101, 115] : List Nat).getD i 0) 5 0
  have e : wC tp len p = wK tp (qB tp len p) (nX tp len p - qB tp len p) := rfl
  rw [e]
  by_cases c : wK tp (qB tp len p) (nX tp len p - qB tp len p) = 13
  · obtain ⟨w0, x0, x1, x2, x3, x4⟩ := wd.mpr c
    rw [if_pos c, if_pos w0, al.1.mpr fun j _ hj => by
      rcases (show j = 0 ∨ j = 1 ∨ j = 2 ∨ j = 3 ∨ j = 4 by omega) with rfl | rfl | rfl | rfl | rfl <;> assumption]
    rfl
  · rw [if_neg c]
    by_cases w0 : nX tp len p - qB tp len p = 5
    · have a0 : alN tp (qB tp len p) (fun i => ([109, 105, 108, 101, 115] : List Nat).getD i 0) 5 0 ≠ 1 := fun q => c (wd.mp ⟨w0, al.1.mp q 0 (by decide) (by decide), al.1.mp q 1 (by decide) (by decide), al.1.mp q 2 (by decide) (by decide), al.1.mp q 3 (by decide) (by decide), al.1.mp q 4 (by decide) (by decide)⟩)
      have a1 := al.2
      rw [if_pos w0, show alN tp (qB tp len p) (fun i => ([109, 105, 108, 101, 115] : List Nat).getD i 0) 5 0 = 0 by omega]
      rfl
    · rw [if_neg w0]
      rfl
theorem C_sp3 (h : RB st tp len) (hk : kD tp len p = 1) (hp : p ≤ len) (g2 : gI st (some 75) 7 2 = some (nI (nX tp len p))) (g4 : gI st (some 75) 7 4 = some (nI (qB tp len p))) (hn : 3000 ≤ n) : F_X7_spells n st (some 75) (some 3) = some (if wC tp len p = 11 then 1 else 0) := by
  have nl := nX_le (tp := tp) hp
  have lw := lettersW hk hp
  have wd := word3 lw.1 lw.2
  have ch : ∀ i, i < 4 → sCh (some 3) (nI i) = some (nI (([98, 97, 115, 101] : List Nat).getD i 0)) := by
    intro i hi
    rcases (show i = 0 ∨ i = 1 ∨ i = 2 ∨ i = 3 by omega) with rfl | rfl | rfl | rfl <;> rfl
  have cb : ∀ i, i < 4 → ([98, 97, 115, 101] : List Nat).getD i 0 < 256 := by
    intro i hi
    rcases (show i = 0 ∨ i = 1 ∨ i = 2 ∨ i = 3 by omega) with rfl | rfl | rfl | rfl <;> decide
  rw [C_spells h g2 g4 (fun i => ([98, 97, 115, 101] : List Nat).getD i 0) nl.1 nl.2.1 (m := 4) (by decide) rfl ch cb hn]
  have al := alN_1 tp (qB tp len p) (fun i => ([98, 97, 115, 101] : List Nat).getD i 0) 4 0
  have e : wC tp len p = wK tp (qB tp len p) (nX tp len p - qB tp len p) := rfl
  rw [e]
  by_cases c : wK tp (qB tp len p) (nX tp len p - qB tp len p) = 11
  · obtain ⟨w0, x0, x1, x2, x3⟩ := wd.mpr c
    rw [if_pos c, if_pos w0, al.1.mpr fun j _ hj => by
      rcases (show j = 0 ∨ j = 1 ∨ j = 2 ∨ j = 3 by omega) with rfl | rfl | rfl | rfl <;> assumption]
    rfl
  · rw [if_neg c]
    by_cases w0 : nX tp len p - qB tp len p = 4
    · have a0 : alN tp (qB tp len p) (fun i => ([98, 97, 115, 101] : List Nat).getD i 0) 4 0 ≠ 1 := fun q => c (wd.mp ⟨w0, al.1.mp q 0 (by decide) (by decide), al.1.mp q 1 (by decide) (by decide), al.1.mp q 2 (by decide) (by decide), al.1.mp q 3 (by decide) (by decide)⟩)
      have a1 := al.2
      rw [if_pos w0, show alN tp (qB tp len p) (fun i => ([98, 97, 115, 101] : List Nat).getD i 0) 4 0 = 0 by omega]
      rfl
    · rw [if_neg w0]
      rfl
theorem C_sp4 (h : RB st tp len) (hk : kD tp len p = 1) (hp : p ≤ len) (g2 : gI st (some 75) 7 2 = some (nI (nX tp len p))) (g4 : gI st (some 75) 7 4 = some (nI (qB tp len p))) (hn : 3000 ≤ n) : F_X7_spells n st (some 75) (some 4) = some (if wC tp len p = 12 then 1 else 0) := by
  have nl := nX_le (tp := tp) hp
  have lw := lettersW hk hp
  have wd := word4 lw.1 lw.2
  have ch : ∀ i, i < 5 → sCh (some 4) (nI i) = some (nI (([107, 110, 111, 119, 110] : List Nat).getD i 0)) := by
    intro i hi
    rcases (show i = 0 ∨ i = 1 ∨ i = 2 ∨ i = 3 ∨ i = 4 by omega) with rfl | rfl | rfl | rfl | rfl <;> rfl
  have cb : ∀ i, i < 5 → ([107, 110, 111, 119, 110] : List Nat).getD i 0 < 256 := by
    intro i hi
    rcases (show i = 0 ∨ i = 1 ∨ i = 2 ∨ i = 3 ∨ i = 4 by omega) with rfl | rfl | rfl | rfl | rfl <;> decide
  rw [C_spells h g2 g4 (fun i => ([107, 110, 111, 119, 110] : List Nat).getD i 0) nl.1 nl.2.1 (m := 5) (by decide) rfl ch cb hn]
  have al := alN_1 tp (qB tp len p) (fun i => ([107, 110, 111, 119, 110] : List Nat).getD i 0) 5 0
  have e : wC tp len p = wK tp (qB tp len p) (nX tp len p - qB tp len p) := rfl
  rw [e]
  by_cases c : wK tp (qB tp len p) (nX tp len p - qB tp len p) = 12
  · obtain ⟨w0, x0, x1, x2, x3, x4⟩ := wd.mpr c
    rw [if_pos c, if_pos w0, al.1.mpr fun j _ hj => by
      rcases (show j = 0 ∨ j = 1 ∨ j = 2 ∨ j = 3 ∨ j = 4 by omega) with rfl | rfl | rfl | rfl | rfl <;> assumption]
    rfl
  · rw [if_neg c]
    by_cases w0 : nX tp len p - qB tp len p = 5
    · have a0 : alN tp (qB tp len p) (fun i => ([107, 110, 111, 119, 110] : List Nat).getD i 0) 5 0 ≠ 1 := fun q => c (wd.mp ⟨w0, al.1.mp q 0 (by decide) (by decide), al.1.mp q 1 (by decide) (by decide), al.1.mp q 2 (by decide) (by decide), al.1.mp q 3 (by decide) (by decide), al.1.mp q 4 (by decide) (by decide)⟩)
      have a1 := al.2
      rw [if_pos w0, show alN tp (qB tp len p) (fun i => ([107, 110, 111, 119, 110] : List Nat).getD i 0) 5 0 = 0 by omega]
      rfl
    · rw [if_neg w0]
      rfl
theorem C_sp5 (h : RB st tp len) (hk : kD tp len p = 1) (hp : p ≤ len) (g2 : gI st (some 75) 7 2 = some (nI (nX tp len p))) (g4 : gI st (some 75) 7 4 = some (nI (qB tp len p))) (hn : 3000 ≤ n) : F_X7_spells n st (some 75) (some 5) = some (if wC tp len p = 14 then 1 else 0) := by
  have nl := nX_le (tp := tp) hp
  have lw := lettersW hk hp
  have wd := word5 lw.1 lw.2
  have ch : ∀ i, i < 4 → sCh (some 5) (nI i) = some (nI (([114, 101, 115, 116] : List Nat).getD i 0)) := by
    intro i hi
    rcases (show i = 0 ∨ i = 1 ∨ i = 2 ∨ i = 3 by omega) with rfl | rfl | rfl | rfl <;> rfl
  have cb : ∀ i, i < 4 → ([114, 101, 115, 116] : List Nat).getD i 0 < 256 := by
    intro i hi
    rcases (show i = 0 ∨ i = 1 ∨ i = 2 ∨ i = 3 by omega) with rfl | rfl | rfl | rfl <;> decide
  rw [C_spells h g2 g4 (fun i => ([114, 101, 115, 116] : List Nat).getD i 0) nl.1 nl.2.1 (m := 4) (by decide) rfl ch cb hn]
  have al := alN_1 tp (qB tp len p) (fun i => ([114, 101, 115, 116] : List Nat).getD i 0) 4 0
  have e : wC tp len p = wK tp (qB tp len p) (nX tp len p - qB tp len p) := rfl
  rw [e]
  by_cases c : wK tp (qB tp len p) (nX tp len p - qB tp len p) = 14
  · obtain ⟨w0, x0, x1, x2, x3⟩ := wd.mpr c
    rw [if_pos c, if_pos w0, al.1.mpr fun j _ hj => by
      rcases (show j = 0 ∨ j = 1 ∨ j = 2 ∨ j = 3 by omega) with rfl | rfl | rfl | rfl <;> assumption]
    rfl
  · rw [if_neg c]
    by_cases w0 : nX tp len p - qB tp len p = 4
    · have a0 : alN tp (qB tp len p) (fun i => ([114, 101, 115, 116] : List Nat).getD i 0) 4 0 ≠ 1 := fun q => c (wd.mp ⟨w0, al.1.mp q 0 (by decide) (by decide), al.1.mp q 1 (by decide) (by decide), al.1.mp q 2 (by decide) (by decide), al.1.mp q 3 (by decide) (by decide)⟩)
      have a1 := al.2
      rw [if_pos w0, show alN tp (qB tp len p) (fun i => ([114, 101, 115, 116] : List Nat).getD i 0) 4 0 = 0 by omega]
      rfl
    · rw [if_neg w0]
      rfl
theorem C_sp6 (h : RB st tp len) (hk : kD tp len p = 1) (hp : p ≤ len) (g2 : gI st (some 75) 7 2 = some (nI (nX tp len p))) (g4 : gI st (some 75) 7 4 = some (nI (qB tp len p))) (hn : 3000 ≤ n) : F_X7_spells n st (some 75) (some 6) = some (if wC tp len p = 15 then 1 else 0) := by
  have nl := nX_le (tp := tp) hp
  have lw := lettersW hk hp
  have wd := word6 lw.1 lw.2
  have ch : ∀ i, i < 4 → sCh (some 6) (nI i) = some (nI (([115, 117, 110, 103] : List Nat).getD i 0)) := by
    intro i hi
    rcases (show i = 0 ∨ i = 1 ∨ i = 2 ∨ i = 3 by omega) with rfl | rfl | rfl | rfl <;> rfl
  have cb : ∀ i, i < 4 → ([115, 117, 110, 103] : List Nat).getD i 0 < 256 := by
    intro i hi
    rcases (show i = 0 ∨ i = 1 ∨ i = 2 ∨ i = 3 by omega) with rfl | rfl | rfl | rfl <;> decide
  rw [C_spells h g2 g4 (fun i => ([115, 117, 110, 103] : List Nat).getD i 0) nl.1 nl.2.1 (m := 4) (by decide) rfl ch cb hn]
  have al := alN_1 tp (qB tp len p) (fun i => ([115, 117, 110, 103] : List Nat).getD i 0) 4 0
  have e : wC tp len p = wK tp (qB tp len p) (nX tp len p - qB tp len p) := rfl
  rw [e]
  by_cases c : wK tp (qB tp len p) (nX tp len p - qB tp len p) = 15
  · obtain ⟨w0, x0, x1, x2, x3⟩ := wd.mpr c
    rw [if_pos c, if_pos w0, al.1.mpr fun j _ hj => by
      rcases (show j = 0 ∨ j = 1 ∨ j = 2 ∨ j = 3 by omega) with rfl | rfl | rfl | rfl <;> assumption]
    rfl
  · rw [if_neg c]
    by_cases w0 : nX tp len p - qB tp len p = 4
    · have a0 : alN tp (qB tp len p) (fun i => ([115, 117, 110, 103] : List Nat).getD i 0) 4 0 ≠ 1 := fun q => c (wd.mp ⟨w0, al.1.mp q 0 (by decide) (by decide), al.1.mp q 1 (by decide) (by decide), al.1.mp q 2 (by decide) (by decide), al.1.mp q 3 (by decide) (by decide)⟩)
      have a1 := al.2
      rw [if_pos w0, show alN tp (qB tp len p) (fun i => ([115, 117, 110, 103] : List Nat).getD i 0) 4 0 = 0 by omega]
      rfl
    · rw [if_neg w0]
      rfl
theorem C_sp7 (h : RB st tp len) (hk : kD tp len p = 1) (hp : p ≤ len) (g2 : gI st (some 75) 7 2 = some (nI (nX tp len p))) (g4 : gI st (some 75) 7 4 = some (nI (qB tp len p))) (hn : 3000 ≤ n) : F_X7_spells n st (some 75) (some 7) = some (if wC tp len p = 16 then 1 else 0) := by
  have nl := nX_le (tp := tp) hp
  have lw := lettersW hk hp
  have wd := word7 lw.1 lw.2
  have ch : ∀ i, i < 6 → sCh (some 7) (nI i) = some (nI (([106, 117, 100, 103, 101, 100] : List Nat).getD i 0)) := by
    intro i hi
    rcases (show i = 0 ∨ i = 1 ∨ i = 2 ∨ i = 3 ∨ i = 4 ∨ i = 5 by omega) with rfl | rfl | rfl | rfl | rfl | rfl <;> rfl
  have cb : ∀ i, i < 6 → ([106, 117, 100, 103, 101, 100] : List Nat).getD i 0 < 256 := by
    intro i hi
    rcases (show i = 0 ∨ i = 1 ∨ i = 2 ∨ i = 3 ∨ i = 4 ∨ i = 5 by omega) with rfl | rfl | rfl | rfl | rfl | rfl <;> decide
  rw [C_spells h g2 g4 (fun i => ([106, 117, 100, 103, 101, 100] : List Nat).getD i 0) nl.1 nl.2.1 (m := 6) (by decide) rfl ch cb hn]
  have al := alN_1 tp (qB tp len p) (fun i => ([106, 117, 100, 103, 101, 100] : List Nat).getD i 0) 6 0
  have e : wC tp len p = wK tp (qB tp len p) (nX tp len p - qB tp len p) := rfl
  rw [e]
  by_cases c : wK tp (qB tp len p) (nX tp len p - qB tp len p) = 16
  · obtain ⟨w0, x0, x1, x2, x3, x4, x5⟩ := wd.mpr c
    rw [if_pos c, if_pos w0, al.1.mpr fun j _ hj => by
      rcases (show j = 0 ∨ j = 1 ∨ j = 2 ∨ j = 3 ∨ j = 4 ∨ j = 5 by omega) with rfl | rfl | rfl | rfl | rfl | rfl <;> assumption]
    rfl
  · rw [if_neg c]
    by_cases w0 : nX tp len p - qB tp len p = 6
    · have a0 : alN tp (qB tp len p) (fun i => ([106, 117, 100, 103, 101, 100] : List Nat).getD i 0) 6 0 ≠ 1 := fun q => c (wd.mp ⟨w0, al.1.mp q 0 (by decide) (by decide), al.1.mp q 1 (by decide) (by decide), al.1.mp q 2 (by decide) (by decide), al.1.mp q 3 (by decide) (by decide), al.1.mp q 4 (by decide) (by decide), al.1.mp q 5 (by decide) (by decide)⟩)
      have a1 := al.2
      rw [if_pos w0, show alN tp (qB tp len p) (fun i => ([106, 117, 100, 103, 101, 100] : List Nat).getD i 0) 6 0 = 0 by omega]
      rfl
    · rw [if_neg w0]
      rfl
theorem C_sp8 (h : RB st tp len) (hk : kD tp len p = 1) (hp : p ≤ len) (g2 : gI st (some 75) 7 2 = some (nI (nX tp len p))) (g4 : gI st (some 75) 7 4 = some (nI (qB tp len p))) (hn : 3000 ≤ n) : F_X7_spells n st (some 75) (some 8) = some (if wC tp len p = 17 then 1 else 0) := by
  have nl := nX_le (tp := tp) hp
  have lw := lettersW hk hp
  have wd := word8 lw.1 lw.2
  have ch : ∀ i, i < 6 → sCh (some 8) (nI i) = some (nI (([104, 101, 105, 103, 104, 116] : List Nat).getD i 0)) := by
    intro i hi
    rcases (show i = 0 ∨ i = 1 ∨ i = 2 ∨ i = 3 ∨ i = 4 ∨ i = 5 by omega) with rfl | rfl | rfl | rfl | rfl | rfl <;> rfl
  have cb : ∀ i, i < 6 → ([104, 101, 105, 103, 104, 116] : List Nat).getD i 0 < 256 := by
    intro i hi
    rcases (show i = 0 ∨ i = 1 ∨ i = 2 ∨ i = 3 ∨ i = 4 ∨ i = 5 by omega) with rfl | rfl | rfl | rfl | rfl | rfl <;> decide
  rw [C_spells h g2 g4 (fun i => ([104, 101, 105, 103, 104, 116] : List Nat).getD i 0) nl.1 nl.2.1 (m := 6) (by decide) rfl ch cb hn]
  have al := alN_1 tp (qB tp len p) (fun i => ([104, 101, 105, 103, 104, 116] : List Nat).getD i 0) 6 0
  have e : wC tp len p = wK tp (qB tp len p) (nX tp len p - qB tp len p) := rfl
  rw [e]
  by_cases c : wK tp (qB tp len p) (nX tp len p - qB tp len p) = 17
  · obtain ⟨w0, x0, x1, x2, x3, x4, x5⟩ := wd.mpr c
    rw [if_pos c, if_pos w0, al.1.mpr fun j _ hj => by
      rcases (show j = 0 ∨ j = 1 ∨ j = 2 ∨ j = 3 ∨ j = 4 ∨ j = 5 by omega) with rfl | rfl | rfl | rfl | rfl | rfl <;> assumption]
    rfl
  · rw [if_neg c]
    by_cases w0 : nX tp len p - qB tp len p = 6
    · have a0 : alN tp (qB tp len p) (fun i => ([104, 101, 105, 103, 104, 116] : List Nat).getD i 0) 6 0 ≠ 1 := fun q => c (wd.mp ⟨w0, al.1.mp q 0 (by decide) (by decide), al.1.mp q 1 (by decide) (by decide), al.1.mp q 2 (by decide) (by decide), al.1.mp q 3 (by decide) (by decide), al.1.mp q 4 (by decide) (by decide), al.1.mp q 5 (by decide) (by decide)⟩)
      have a1 := al.2
      rw [if_pos w0, show alN tp (qB tp len p) (fun i => ([104, 101, 105, 103, 104, 116] : List Nat).getD i 0) 6 0 = 0 by omega]
      rfl
    · rw [if_neg w0]
      rfl
theorem C_sp9 (h : RB st tp len) (hk : kD tp len p = 1) (hp : p ≤ len) (g2 : gI st (some 75) 7 2 = some (nI (nX tp len p))) (g4 : gI st (some 75) 7 4 = some (nI (qB tp len p))) (hn : 3000 ≤ n) : F_X7_spells n st (some 75) (some 9) = some (if wC tp len p = 21 then 1 else 0) := by
  have nl := nX_le (tp := tp) hp
  have lw := lettersW hk hp
  have wd := word9 lw.1 lw.2
  have ch : ∀ i, i < 3 → sCh (some 9) (nI i) = some (nI (([100, 97, 121] : List Nat).getD i 0)) := by
    intro i hi
    rcases (show i = 0 ∨ i = 1 ∨ i = 2 by omega) with rfl | rfl | rfl <;> rfl
  have cb : ∀ i, i < 3 → ([100, 97, 121] : List Nat).getD i 0 < 256 := by
    intro i hi
    rcases (show i = 0 ∨ i = 1 ∨ i = 2 by omega) with rfl | rfl | rfl <;> decide
  rw [C_spells h g2 g4 (fun i => ([100, 97, 121] : List Nat).getD i 0) nl.1 nl.2.1 (m := 3) (by decide) rfl ch cb hn]
  have al := alN_1 tp (qB tp len p) (fun i => ([100, 97, 121] : List Nat).getD i 0) 3 0
  have e : wC tp len p = wK tp (qB tp len p) (nX tp len p - qB tp len p) := rfl
  rw [e]
  by_cases c : wK tp (qB tp len p) (nX tp len p - qB tp len p) = 21
  · obtain ⟨w0, x0, x1, x2⟩ := wd.mpr c
    rw [if_pos c, if_pos w0, al.1.mpr fun j _ hj => by
      rcases (show j = 0 ∨ j = 1 ∨ j = 2 by omega) with rfl | rfl | rfl <;> assumption]
    rfl
  · rw [if_neg c]
    by_cases w0 : nX tp len p - qB tp len p = 3
    · have a0 : alN tp (qB tp len p) (fun i => ([100, 97, 121] : List Nat).getD i 0) 3 0 ≠ 1 := fun q => c (wd.mp ⟨w0, al.1.mp q 0 (by decide) (by decide), al.1.mp q 1 (by decide) (by decide), al.1.mp q 2 (by decide) (by decide)⟩)
      have a1 := al.2
      rw [if_pos w0, show alN tp (qB tp len p) (fun i => ([100, 97, 121] : List Nat).getD i 0) 3 0 = 0 by omega]
      rfl
    · rw [if_neg w0]
      rfl
theorem C_sp10 (h : RB st tp len) (hk : kD tp len p = 1) (hp : p ≤ len) (g2 : gI st (some 75) 7 2 = some (nI (nX tp len p))) (g4 : gI st (some 75) 7 4 = some (nI (qB tp len p))) (hn : 3000 ≤ n) : F_X7_spells n st (some 75) (some 10) = some (if wC tp len p = 22 then 1 else 0) := by
  have nl := nX_le (tp := tp) hp
  have lw := lettersW hk hp
  have wd := word10 lw.1 lw.2
  have ch : ∀ i, i < 6 → sCh (some 10) (nI i) = some (nI (([112, 101, 111, 112, 108, 101] : List Nat).getD i 0)) := by
    intro i hi
    rcases (show i = 0 ∨ i = 1 ∨ i = 2 ∨ i = 3 ∨ i = 4 ∨ i = 5 by omega) with rfl | rfl | rfl | rfl | rfl | rfl <;> rfl
  have cb : ∀ i, i < 6 → ([112, 101, 111, 112, 108, 101] : List Nat).getD i 0 < 256 := by
    intro i hi
    rcases (show i = 0 ∨ i = 1 ∨ i = 2 ∨ i = 3 ∨ i = 4 ∨ i = 5 by omega) with rfl | rfl | rfl | rfl | rfl | rfl <;> decide
  rw [C_spells h g2 g4 (fun i => ([112, 101, 111, 112, 108, 101] : List Nat).getD i 0) nl.1 nl.2.1 (m := 6) (by decide) rfl ch cb hn]
  have al := alN_1 tp (qB tp len p) (fun i => ([112, 101, 111, 112, 108, 101] : List Nat).getD i 0) 6 0
  have e : wC tp len p = wK tp (qB tp len p) (nX tp len p - qB tp len p) := rfl
  rw [e]
  by_cases c : wK tp (qB tp len p) (nX tp len p - qB tp len p) = 22
  · obtain ⟨w0, x0, x1, x2, x3, x4, x5⟩ := wd.mpr c
    rw [if_pos c, if_pos w0, al.1.mpr fun j _ hj => by
      rcases (show j = 0 ∨ j = 1 ∨ j = 2 ∨ j = 3 ∨ j = 4 ∨ j = 5 by omega) with rfl | rfl | rfl | rfl | rfl | rfl <;> assumption]
    rfl
  · rw [if_neg c]
    by_cases w0 : nX tp len p - qB tp len p = 6
    · have a0 : alN tp (qB tp len p) (fun i => ([112, 101, 111, 112, 108, 101] : List Nat).getD i 0) 6 0 ≠ 1 := fun q => c (wd.mp ⟨w0, al.1.mp q 0 (by decide) (by decide), al.1.mp q 1 (by decide) (by decide), al.1.mp q 2 (by decide) (by decide), al.1.mp q 3 (by decide) (by decide), al.1.mp q 4 (by decide) (by decide), al.1.mp q 5 (by decide) (by decide)⟩)
      have a1 := al.2
      rw [if_pos w0, show alN tp (qB tp len p) (fun i => ([112, 101, 111, 112, 108, 101] : List Nat).getD i 0) 6 0 = 0 by omega]
      rfl
    · rw [if_neg w0]
      rfl
theorem C_sp11 (h : RB st tp len) (hk : kD tp len p = 1) (hp : p ≤ len) (g2 : gI st (some 75) 7 2 = some (nI (nX tp len p))) (g4 : gI st (some 75) 7 4 = some (nI (qB tp len p))) (hn : 3000 ≤ n) : F_X7_spells n st (some 75) (some 11) = some (if wC tp len p = 23 then 1 else 0) := by
  have nl := nX_le (tp := tp) hp
  have lw := lettersW hk hp
  have wd := word11 lw.1 lw.2
  have ch : ∀ i, i < 5 → sCh (some 11) (nI i) = some (nI (([101, 109, 112, 116, 121] : List Nat).getD i 0)) := by
    intro i hi
    rcases (show i = 0 ∨ i = 1 ∨ i = 2 ∨ i = 3 ∨ i = 4 by omega) with rfl | rfl | rfl | rfl | rfl <;> rfl
  have cb : ∀ i, i < 5 → ([101, 109, 112, 116, 121] : List Nat).getD i 0 < 256 := by
    intro i hi
    rcases (show i = 0 ∨ i = 1 ∨ i = 2 ∨ i = 3 ∨ i = 4 by omega) with rfl | rfl | rfl | rfl | rfl <;> decide
  rw [C_spells h g2 g4 (fun i => ([101, 109, 112, 116, 121] : List Nat).getD i 0) nl.1 nl.2.1 (m := 5) (by decide) rfl ch cb hn]
  have al := alN_1 tp (qB tp len p) (fun i => ([101, 109, 112, 116, 121] : List Nat).getD i 0) 5 0
  have e : wC tp len p = wK tp (qB tp len p) (nX tp len p - qB tp len p) := rfl
  rw [e]
  by_cases c : wK tp (qB tp len p) (nX tp len p - qB tp len p) = 23
  · obtain ⟨w0, x0, x1, x2, x3, x4⟩ := wd.mpr c
    rw [if_pos c, if_pos w0, al.1.mpr fun j _ hj => by
      rcases (show j = 0 ∨ j = 1 ∨ j = 2 ∨ j = 3 ∨ j = 4 by omega) with rfl | rfl | rfl | rfl | rfl <;> assumption]
    rfl
  · rw [if_neg c]
    by_cases w0 : nX tp len p - qB tp len p = 5
    · have a0 : alN tp (qB tp len p) (fun i => ([101, 109, 112, 116, 121] : List Nat).getD i 0) 5 0 ≠ 1 := fun q => c (wd.mp ⟨w0, al.1.mp q 0 (by decide) (by decide), al.1.mp q 1 (by decide) (by decide), al.1.mp q 2 (by decide) (by decide), al.1.mp q 3 (by decide) (by decide), al.1.mp q 4 (by decide) (by decide)⟩)
      have a1 := al.2
      rw [if_pos w0, show alN tp (qB tp len p) (fun i => ([101, 109, 112, 116, 121] : List Nat).getD i 0) 5 0 = 0 by omega]
      rfl
    · rw [if_neg w0]
      rfl
theorem C_sp12 (h : RB st tp len) (hk : kD tp len p = 1) (hp : p ≤ len) (g2 : gI st (some 75) 7 2 = some (nI (nX tp len p))) (g4 : gI st (some 75) 7 4 = some (nI (qB tp len p))) (hn : 3000 ≤ n) : F_X7_spells n st (some 75) (some 12) = some (if wC tp len p = 24 then 1 else 0) := by
  have nl := nX_le (tp := tp) hp
  have lw := lettersW hk hp
  have wd := word12 lw.1 lw.2
  have ch : ∀ i, i < 4 → sCh (some 12) (nI i) = some (nI (([115, 111, 102, 116] : List Nat).getD i 0)) := by
    intro i hi
    rcases (show i = 0 ∨ i = 1 ∨ i = 2 ∨ i = 3 by omega) with rfl | rfl | rfl | rfl <;> rfl
  have cb : ∀ i, i < 4 → ([115, 111, 102, 116] : List Nat).getD i 0 < 256 := by
    intro i hi
    rcases (show i = 0 ∨ i = 1 ∨ i = 2 ∨ i = 3 by omega) with rfl | rfl | rfl | rfl <;> decide
  rw [C_spells h g2 g4 (fun i => ([115, 111, 102, 116] : List Nat).getD i 0) nl.1 nl.2.1 (m := 4) (by decide) rfl ch cb hn]
  have al := alN_1 tp (qB tp len p) (fun i => ([115, 111, 102, 116] : List Nat).getD i 0) 4 0
  have e : wC tp len p = wK tp (qB tp len p) (nX tp len p - qB tp len p) := rfl
  rw [e]
  by_cases c : wK tp (qB tp len p) (nX tp len p - qB tp len p) = 24
  · obtain ⟨w0, x0, x1, x2, x3⟩ := wd.mpr c
    rw [if_pos c, if_pos w0, al.1.mpr fun j _ hj => by
      rcases (show j = 0 ∨ j = 1 ∨ j = 2 ∨ j = 3 by omega) with rfl | rfl | rfl | rfl <;> assumption]
    rfl
  · rw [if_neg c]
    by_cases w0 : nX tp len p - qB tp len p = 4
    · have a0 : alN tp (qB tp len p) (fun i => ([115, 111, 102, 116] : List Nat).getD i 0) 4 0 ≠ 1 := fun q => c (wd.mp ⟨w0, al.1.mp q 0 (by decide) (by decide), al.1.mp q 1 (by decide) (by decide), al.1.mp q 2 (by decide) (by decide), al.1.mp q 3 (by decide) (by decide)⟩)
      have a1 := al.2
      rw [if_pos w0, show alN tp (qB tp len p) (fun i => ([115, 111, 102, 116] : List Nat).getD i 0) 4 0 = 0 by omega]
      rfl
    · rw [if_neg w0]
      rfl
theorem C_sp13 (h : RB st tp len) (hk : kD tp len p = 1) (hp : p ≤ len) (g2 : gI st (some 75) 7 2 = some (nI (nX tp len p))) (g4 : gI st (some 75) 7 4 = some (nI (qB tp len p))) (hn : 3000 ≤ n) : F_X7_spells n st (some 75) (some 13) = some (if wC tp len p = 25 then 1 else 0) := by
  have nl := nX_le (tp := tp) hp
  have lw := lettersW hk hp
  have wd := word13 lw.1 lw.2
  have ch : ∀ i, i < 6 → sCh (some 13) (nI i) = some (nI (([115, 116, 114, 105, 99, 116] : List Nat).getD i 0)) := by
    intro i hi
    rcases (show i = 0 ∨ i = 1 ∨ i = 2 ∨ i = 3 ∨ i = 4 ∨ i = 5 by omega) with rfl | rfl | rfl | rfl | rfl | rfl <;> rfl
  have cb : ∀ i, i < 6 → ([115, 116, 114, 105, 99, 116] : List Nat).getD i 0 < 256 := by
    intro i hi
    rcases (show i = 0 ∨ i = 1 ∨ i = 2 ∨ i = 3 ∨ i = 4 ∨ i = 5 by omega) with rfl | rfl | rfl | rfl | rfl | rfl <;> decide
  rw [C_spells h g2 g4 (fun i => ([115, 116, 114, 105, 99, 116] : List Nat).getD i 0) nl.1 nl.2.1 (m := 6) (by decide) rfl ch cb hn]
  have al := alN_1 tp (qB tp len p) (fun i => ([115, 116, 114, 105, 99, 116] : List Nat).getD i 0) 6 0
  have e : wC tp len p = wK tp (qB tp len p) (nX tp len p - qB tp len p) := rfl
  rw [e]
  by_cases c : wK tp (qB tp len p) (nX tp len p - qB tp len p) = 25
  · obtain ⟨w0, x0, x1, x2, x3, x4, x5⟩ := wd.mpr c
    rw [if_pos c, if_pos w0, al.1.mpr fun j _ hj => by
      rcases (show j = 0 ∨ j = 1 ∨ j = 2 ∨ j = 3 ∨ j = 4 ∨ j = 5 by omega) with rfl | rfl | rfl | rfl | rfl | rfl <;> assumption]
    rfl
  · rw [if_neg c]
    by_cases w0 : nX tp len p - qB tp len p = 6
    · have a0 : alN tp (qB tp len p) (fun i => ([115, 116, 114, 105, 99, 116] : List Nat).getD i 0) 6 0 ≠ 1 := fun q => c (wd.mp ⟨w0, al.1.mp q 0 (by decide) (by decide), al.1.mp q 1 (by decide) (by decide), al.1.mp q 2 (by decide) (by decide), al.1.mp q 3 (by decide) (by decide), al.1.mp q 4 (by decide) (by decide), al.1.mp q 5 (by decide) (by decide)⟩)
      have a1 := al.2
      rw [if_pos w0, show alN tp (qB tp len p) (fun i => ([115, 116, 114, 105, 99, 116] : List Nat).getD i 0) 6 0 = 0 by omega]
      rfl
    · rw [if_neg w0]
      rfl
theorem C_sp14 (h : RB st tp len) (hk : kD tp len p = 1) (hp : p ≤ len) (g2 : gI st (some 75) 7 2 = some (nI (nX tp len p))) (g4 : gI st (some 75) 7 4 = some (nI (qB tp len p))) (hn : 3000 ≤ n) : F_X7_spells n st (some 75) (some 14) = some (if wC tp len p = 26 then 1 else 0) := by
  have nl := nX_le (tp := tp) hp
  have lw := lettersW hk hp
  have wd := word14 lw.1 lw.2
  have ch : ∀ i, i < 2 → sCh (some 14) (nI i) = some (nI (([97, 116] : List Nat).getD i 0)) := by
    intro i hi
    rcases (show i = 0 ∨ i = 1 by omega) with rfl | rfl <;> rfl
  have cb : ∀ i, i < 2 → ([97, 116] : List Nat).getD i 0 < 256 := by
    intro i hi
    rcases (show i = 0 ∨ i = 1 by omega) with rfl | rfl <;> decide
  rw [C_spells h g2 g4 (fun i => ([97, 116] : List Nat).getD i 0) nl.1 nl.2.1 (m := 2) (by decide) rfl ch cb hn]
  have al := alN_1 tp (qB tp len p) (fun i => ([97, 116] : List Nat).getD i 0) 2 0
  have e : wC tp len p = wK tp (qB tp len p) (nX tp len p - qB tp len p) := rfl
  rw [e]
  by_cases c : wK tp (qB tp len p) (nX tp len p - qB tp len p) = 26
  · obtain ⟨w0, x0, x1⟩ := wd.mpr c
    rw [if_pos c, if_pos w0, al.1.mpr fun j _ hj => by
      rcases (show j = 0 ∨ j = 1 by omega) with rfl | rfl <;> assumption]
    rfl
  · rw [if_neg c]
    by_cases w0 : nX tp len p - qB tp len p = 2
    · have a0 : alN tp (qB tp len p) (fun i => ([97, 116] : List Nat).getD i 0) 2 0 ≠ 1 := fun q => c (wd.mp ⟨w0, al.1.mp q 0 (by decide) (by decide), al.1.mp q 1 (by decide) (by decide)⟩)
      have a1 := al.2
      rw [if_pos w0, show alN tp (qB tp len p) (fun i => ([97, 116] : List Nat).getD i 0) 2 0 = 0 by omega]
      rfl
    · rw [if_neg w0]
      rfl
theorem C_sp15 (h : RB st tp len) (hk : kD tp len p = 1) (hp : p ≤ len) (g2 : gI st (some 75) 7 2 = some (nI (nX tp len p))) (g4 : gI st (some 75) 7 4 = some (nI (qB tp len p))) (hn : 3000 ≤ n) : F_X7_spells n st (some 75) (some 15) = some (if wC tp len p = 27 then 1 else 0) := by
  have nl := nX_le (tp := tp) hp
  have lw := lettersW hk hp
  have wd := word15 lw.1 lw.2
  have ch : ∀ i, i < 4 → sCh (some 15) (nI i) = some (nI (([103, 97, 109, 101] : List Nat).getD i 0)) := by
    intro i hi
    rcases (show i = 0 ∨ i = 1 ∨ i = 2 ∨ i = 3 by omega) with rfl | rfl | rfl | rfl <;> rfl
  have cb : ∀ i, i < 4 → ([103, 97, 109, 101] : List Nat).getD i 0 < 256 := by
    intro i hi
    rcases (show i = 0 ∨ i = 1 ∨ i = 2 ∨ i = 3 by omega) with rfl | rfl | rfl | rfl <;> decide
  rw [C_spells h g2 g4 (fun i => ([103, 97, 109, 101] : List Nat).getD i 0) nl.1 nl.2.1 (m := 4) (by decide) rfl ch cb hn]
  have al := alN_1 tp (qB tp len p) (fun i => ([103, 97, 109, 101] : List Nat).getD i 0) 4 0
  have e : wC tp len p = wK tp (qB tp len p) (nX tp len p - qB tp len p) := rfl
  rw [e]
  by_cases c : wK tp (qB tp len p) (nX tp len p - qB tp len p) = 27
  · obtain ⟨w0, x0, x1, x2, x3⟩ := wd.mpr c
    rw [if_pos c, if_pos w0, al.1.mpr fun j _ hj => by
      rcases (show j = 0 ∨ j = 1 ∨ j = 2 ∨ j = 3 by omega) with rfl | rfl | rfl | rfl <;> assumption]
    rfl
  · rw [if_neg c]
    by_cases w0 : nX tp len p - qB tp len p = 4
    · have a0 : alN tp (qB tp len p) (fun i => ([103, 97, 109, 101] : List Nat).getD i 0) 4 0 ≠ 1 := fun q => c (wd.mp ⟨w0, al.1.mp q 0 (by decide) (by decide), al.1.mp q 1 (by decide) (by decide), al.1.mp q 2 (by decide) (by decide), al.1.mp q 3 (by decide) (by decide)⟩)
      have a1 := al.2
      rw [if_pos w0, show alN tp (qB tp len p) (fun i => ([103, 97, 109, 101] : List Nat).getD i 0) 4 0 = 0 by omega]
      rfl
    · rw [if_neg w0]
      rfl
theorem F_st {sort i w : Nat} {v : Int32} (hs : sort < 3) (hi : i < 10) (hS : Sh st) (hw : F_X7_wordOf n st (nI (10 * sort + i)) = some (some w)) (hv : F_X7_spells n st (some 75) (some w) = some v) (k : Nat) : F_X7_formOf_L2 n (k + 1) st (some 75) (nI sort) (nI i) = if v = 0 then F_X7_formOf_L2 n k st (some 75) (nI sort) (nI (i + 1)) else some (nI (10 * sort + i)) := by
  have e : (10 : Int32) * nI sort + nI i = nI (10 * sort + i) := by rw [show (10 : Int32) * nI sort = nI (10 * sort) from nMul 10 _, nAdd]
  rw [F_X7_formOf_L2]
  dsimp only
  simp (disch := omega) only [l10, nLe_f, if_false]
  rw [← l10, e]
  simp only [↓bnd (hw), ↓bnd (o75 hS), ↓bnd (hv), nI_1, Option.bind_some]
theorem ite_10 {α : Type} (c : Prop) [Decidable c] (a b : α) : (if (if c then (1 : Int32) else 0) = 0 then a else b) = if c then b else a := by
  by_cases h : c
  · rw [if_pos h, if_pos h, if_neg (by decide)]
  · rw [if_neg h, if_neg h, if_pos rfl]
theorem C_form0 (h : RB st tp len) (hk : kD tp len p = 1) (hp : p ≤ len) (g2 : gI st (some 75) 7 2 = some (nI (nX tp len p))) (g4 : gI st (some 75) 7 4 = some (nI (qB tp len p))) (hn : 3000 ≤ n) : F_X7_formOf n st (some 75) (nI 0) = some (fO 0 (wC tp len p)) := by
  have nl := nX_le (tp := tp) hp
  have lw := lettersW hk hp
  have z := C_sp16 (n := n) h g2 g4 (by omega) nl.2.1 hn
  have s0 := C_sp0 (n := n) h hk hp g2 g4 hn
  have s1 := C_sp1 (n := n) h hk hp g2 g4 hn
  have s2 := C_sp2 (n := n) h hk hp g2 g4 hn
  have en : F_X7_formOf_L2 n n st (some 75) (nI 0) (nI 0) = some (fO 0 (wC tp len p)) := by
    obtain ⟨k, rfl⟩ : ∃ k, n = k + 11 := ⟨n - 11, by omega⟩
    have tail : F_X7_formOf_L2 (k + 11) (k + 1) st (some 75) (nI 0) (nI (9 + 1)) = some (-1) := by
      rw [F_X7_formOf_L2]
      dsimp only
      rw [if_pos (by decide)]
    rw [F_st (sort := 0) (i := 0) (w := 0) (by decide) (by decide) h.1 rfl s0, ite_10]
    rw [F_st (sort := 0) (i := 1) (w := 1) (by decide) (by decide) h.1 rfl s1, ite_10]
    rw [F_st (sort := 0) (i := 2) (w := 2) (by decide) (by decide) h.1 rfl s2, ite_10]
    rw [F_st (sort := 0) (i := 3) (w := 16) (by decide) (by decide) h.1 rfl z, if_pos rfl]
    rw [F_st (sort := 0) (i := 4) (w := 16) (by decide) (by decide) h.1 rfl z, if_pos rfl]
    rw [F_st (sort := 0) (i := 5) (w := 16) (by decide) (by decide) h.1 rfl z, if_pos rfl]
    rw [F_st (sort := 0) (i := 6) (w := 16) (by decide) (by decide) h.1 rfl z, if_pos rfl]
    rw [F_st (sort := 0) (i := 7) (w := 16) (by decide) (by decide) h.1 rfl z, if_pos rfl]
    rw [F_st (sort := 0) (i := 8) (w := 16) (by decide) (by decide) h.1 rfl z, if_pos rfl]
    rw [F_st (sort := 0) (i := 9) (w := 16) (by decide) (by decide) h.1 rfl z, if_pos rfl]
    rw [tail]
    unfold fO
    rw [if_pos rfl]
    generalize wC tp len p = c
    by_cases c1 : c = 1
    · subst c1; rfl
    rw [if_neg c1]
    by_cases c2 : c = 2
    · subst c2; rfl
    rw [if_neg c2]
    by_cases c13 : c = 13
    · subst c13; rfl
    rw [if_neg c13]
    rw [if_neg c1, if_neg c2, if_neg c13]
  unfold F_X7_formOf
  exact en
theorem C_form1 (h : RB st tp len) (hk : kD tp len p = 1) (hp : p ≤ len) (g2 : gI st (some 75) 7 2 = some (nI (nX tp len p))) (g4 : gI st (some 75) 7 4 = some (nI (qB tp len p))) (hn : 3000 ≤ n) : F_X7_formOf n st (some 75) (nI 1) = some (fO 1 (wC tp len p)) := by
  have nl := nX_le (tp := tp) hp
  have lw := lettersW hk hp
  have z := C_sp16 (n := n) h g2 g4 (by omega) nl.2.1 hn
  have s3 := C_sp3 (n := n) h hk hp g2 g4 hn
  have s4 := C_sp4 (n := n) h hk hp g2 g4 hn
  have s2 := C_sp2 (n := n) h hk hp g2 g4 hn
  have s5 := C_sp5 (n := n) h hk hp g2 g4 hn
  have s6 := C_sp6 (n := n) h hk hp g2 g4 hn
  have s7 := C_sp7 (n := n) h hk hp g2 g4 hn
  have s8 := C_sp8 (n := n) h hk hp g2 g4 hn
  have en : F_X7_formOf_L2 n n st (some 75) (nI 1) (nI 0) = some (fO 1 (wC tp len p)) := by
    obtain ⟨k, rfl⟩ : ∃ k, n = k + 11 := ⟨n - 11, by omega⟩
    have tail : F_X7_formOf_L2 (k + 11) (k + 1) st (some 75) (nI 1) (nI (9 + 1)) = some (-1) := by
      rw [F_X7_formOf_L2]
      dsimp only
      rw [if_pos (by decide)]
    rw [F_st (sort := 1) (i := 0) (w := 3) (by decide) (by decide) h.1 rfl s3, ite_10]
    rw [F_st (sort := 1) (i := 1) (w := 4) (by decide) (by decide) h.1 rfl s4, ite_10]
    rw [F_st (sort := 1) (i := 2) (w := 2) (by decide) (by decide) h.1 rfl s2, ite_10]
    rw [F_st (sort := 1) (i := 3) (w := 5) (by decide) (by decide) h.1 rfl s5, ite_10]
    rw [F_st (sort := 1) (i := 4) (w := 6) (by decide) (by decide) h.1 rfl s6, ite_10]
    rw [F_st (sort := 1) (i := 5) (w := 7) (by decide) (by decide) h.1 rfl s7, ite_10]
    rw [F_st (sort := 1) (i := 6) (w := 8) (by decide) (by decide) h.1 rfl s8, ite_10]
    rw [F_st (sort := 1) (i := 7) (w := 16) (by decide) (by decide) h.1 rfl z, if_pos rfl]
    rw [F_st (sort := 1) (i := 8) (w := 16) (by decide) (by decide) h.1 rfl z, if_pos rfl]
    rw [F_st (sort := 1) (i := 9) (w := 16) (by decide) (by decide) h.1 rfl z, if_pos rfl]
    rw [tail, fO_1]
    generalize wC tp len p = c
    by_cases c11 : c = 11
    · subst c11; rfl
    rw [if_neg c11]
    by_cases c12 : c = 12
    · subst c12; rfl
    rw [if_neg c12]
    by_cases c13 : c = 13
    · subst c13; rfl
    rw [if_neg c13]
    by_cases c14 : c = 14
    · subst c14; rfl
    rw [if_neg c14]
    by_cases c15 : c = 15
    · subst c15; rfl
    rw [if_neg c15]
    by_cases c16 : c = 16
    · subst c16; rfl
    rw [if_neg c16]
    by_cases c17 : c = 17
    · subst c17; rfl
    rw [if_neg c17]
    rw [if_neg (by omega)]
  unfold F_X7_formOf
  exact en
theorem C_form2 (h : RB st tp len) (hk : kD tp len p = 1) (hp : p ≤ len) (g2 : gI st (some 75) 7 2 = some (nI (nX tp len p))) (g4 : gI st (some 75) 7 4 = some (nI (qB tp len p))) (hn : 3000 ≤ n) : F_X7_formOf n st (some 75) (nI 2) = some (fO 2 (wC tp len p)) := by
  have nl := nX_le (tp := tp) hp
  have lw := lettersW hk hp
  have z := C_sp16 (n := n) h g2 g4 (by omega) nl.2.1 hn
  have s9 := C_sp9 (n := n) h hk hp g2 g4 hn
  have s10 := C_sp10 (n := n) h hk hp g2 g4 hn
  have s11 := C_sp11 (n := n) h hk hp g2 g4 hn
  have s12 := C_sp12 (n := n) h hk hp g2 g4 hn
  have s13 := C_sp13 (n := n) h hk hp g2 g4 hn
  have s14 := C_sp14 (n := n) h hk hp g2 g4 hn
  have s15 := C_sp15 (n := n) h hk hp g2 g4 hn
  have en : F_X7_formOf_L2 n n st (some 75) (nI 2) (nI 0) = some (fO 2 (wC tp len p)) := by
    obtain ⟨k, rfl⟩ : ∃ k, n = k + 11 := ⟨n - 11, by omega⟩
    have tail : F_X7_formOf_L2 (k + 11) (k + 1) st (some 75) (nI 2) (nI (9 + 1)) = some (-1) := by
      rw [F_X7_formOf_L2]
      dsimp only
      rw [if_pos (by decide)]
    rw [F_st (sort := 2) (i := 0) (w := 9) (by decide) (by decide) h.1 rfl s9, ite_10]
    rw [F_st (sort := 2) (i := 1) (w := 10) (by decide) (by decide) h.1 rfl s10, ite_10]
    rw [F_st (sort := 2) (i := 2) (w := 11) (by decide) (by decide) h.1 rfl s11, ite_10]
    rw [F_st (sort := 2) (i := 3) (w := 12) (by decide) (by decide) h.1 rfl s12, ite_10]
    rw [F_st (sort := 2) (i := 4) (w := 13) (by decide) (by decide) h.1 rfl s13, ite_10]
    rw [F_st (sort := 2) (i := 5) (w := 14) (by decide) (by decide) h.1 rfl s14, ite_10]
    rw [F_st (sort := 2) (i := 6) (w := 15) (by decide) (by decide) h.1 rfl s15, ite_10]
    rw [F_st (sort := 2) (i := 7) (w := 16) (by decide) (by decide) h.1 rfl z, if_pos rfl]
    rw [F_st (sort := 2) (i := 8) (w := 16) (by decide) (by decide) h.1 rfl z, if_pos rfl]
    rw [F_st (sort := 2) (i := 9) (w := 16) (by decide) (by decide) h.1 rfl z, if_pos rfl]
    rw [tail, fO_2]
    generalize wC tp len p = c
    by_cases c21 : c = 21
    · subst c21; rfl
    rw [if_neg c21]
    by_cases c22 : c = 22
    · subst c22; rfl
    rw [if_neg c22]
    by_cases c23 : c = 23
    · subst c23; rfl
    rw [if_neg c23]
    by_cases c24 : c = 24
    · subst c24; rfl
    rw [if_neg c24]
    by_cases c25 : c = 25
    · subst c25; rfl
    rw [if_neg c25]
    by_cases c26 : c = 26
    · subst c26; rfl
    rw [if_neg c26]
    by_cases c27 : c = 27
    · subst c27; rfl
    rw [if_neg c27]
    rw [if_neg (by omega)]
  unfold F_X7_formOf
  exact en
end WD

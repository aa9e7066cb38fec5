/-! WHETHER A LINE'S NUMBERS CAN BE -/
/-- number k can't be -/
abbrev bdP (le mo : Nat → Int) (cpl : Prop) (v : Nat → Nat) (k : Nat) : Prop := (k = 1 ∧ cpl ∧ v 1 = v 0) ∨ (v k : Int) < le k ∨ mo k < (v k : Int)
def fbR (le mo : Nat → Int) (cpl : Prop) [Decidable cpl] (v : Nat → Nat) : Nat → Nat → Option Nat
  | 0, _ => none
  | r + 1, k => if bdP le mo cpl v k then some k else fbR le mo cpl v r (k + 1)
theorem bnd_id {α : Type} (o : Option α) : (o.bind fun x => some x) = o := by cases o <;> rfl
section CK
variable {st st1 st2 s s1 : xS} {n len p i m a : Nat} {fs : List Value} {le mo : Nat → Int} {v q : Nat → Nat} {fi fo : Int32}
theorem C_lp3 {cpl : Prop} [Decidable cpl] (S : Sh s) (hv : ∀ j, j < 3 → cI s 77 j = nI (v j)) (hq : ∀ j, j < m → cI s 78 j = nI (q j)) (ck : s.2.2 a = .inr (3, fs)) (hm : m ≤ 3) (bv : ∀ j, v j ≤ 9999) (bl : ∀ k, -10000 ≤ le k ∧ le k ≤ 10000) (bm : ∀ k, -10000 ≤ mo k ∧ mo k ≤ 10000) (hl : ∀ k, k < 3 → F_X3_leastOf n s (some a) fo (nI k) = some (zI (le k))) (hmo : ∀ k, k < 3 → F_X3_mostOf n s (some a) fo (nI k) = some (zI (mo k))) (cp : F_X7_isCouple n s fo = some (bI cpl)) : ∀ r k, k + r = m → ∀ f, r < f → F_X7_check_L19 n f s (some 75) fo (nI m) (some a) (nI k) = match fbR le mo cpl v r k with | some k => F_X7_fail n s (some 75) 2 (nI (q k)) | none => F_X3_take n s (some a) fo (nI (v 0)) (nI (v 1)) (nI (v 2)) := by
  have rd : ∀ j, j < 3 → aI s (some 77) (nI j) = some (nI (v j)) := fun j hj => by rw [a77 S, if_pos (ixT hj (by decide)), nIc (by omega), hv j hj]
  have rq : ∀ j, j < m → aI s (some 78) (nI j) = some (nI (q j)) := fun j hj => by rw [a78 S, if_pos (ixT (by omega) (by decide)), nIc (by omega), hq j hj]
  have r0 : aI s (some 77) (0 : Int32) = _ := rd 0 (by decide)
  have r1 : aI s (some 77) (1 : Int32) = _ := rd 1 (by decide)
  have r2 : aI s (some 77) (2 : Int32) = _ := rd 2 (by decide)
  have co : ckO s (some a) = some 3 := ckO_of ck
  intro r
  induction r with
  | zero =>
    intro k hk f hf
    obtain ⟨f, rfl⟩ : ∃ j, f = j + 1 := ⟨f - 1, by omega⟩
    rw [F_X7_check_L19]
    dsimp only [fbR]
    simp (disch := omega) only [nLe_t, if_true, ↓bnd (g75_6 S), ↓bnd (r0), ↓bnd (r1), ↓bnd (r2), ↓bnd (co), if_true]
    exact bnd_id _
  | succ r ih =>
    intro k hk f hf
    obtain ⟨f, rfl⟩ : ∃ j, f = j + 1 := ⟨f - 1, by omega⟩
    have i := ih (k + 1) (by omega) f (by omega)
    have b0 := bv 0
    have b1 := bv 1
    have bk := bv k
    have l1 := bl k
    have l2 := bm k
    have q23 : ((if nI k = (1 : Int32) then (F_X7_isCouple n s fo).bind fun v18 => if v18 = (0 : Int32) then some (0 : Int32) else (gR s (some 75) 7 6).bind fun v19 => (aI s v19 (1 : Int32)).bind fun v20 => (gR s (some 75) 7 6).bind fun v21 => (aI s v21 (0 : Int32)).bind fun v22 => if v20 = v22 then some (1 : Int32) else some (0 : Int32) else some (0 : Int32)) : Option Int32) = some (bI (k = 1 ∧ cpl ∧ v 1 = v 0)) := by
      have e1 : (nI k = (1 : Int32)) = (k = 1) := nEq (b := 1) (by omega) (by decide)
      have e2 : (nI (v 1) = nI (v 0)) = (v 1 = v 0) := nEq (by omega) (by omega)
      simp only [e1, ↓bnd (cp), ↓bnd (g75_6 S), ↓bnd (r1), ↓bnd (r0), e2]
      by_cases c1 : k = 1
      · by_cases c2 : cpl
        · by_cases c3 : v 1 = v 0
          · rw [if_pos c1, bI_t c2, if_neg (by decide), if_pos c3, bI_t ⟨c1, c2, c3⟩]
          · rw [if_pos c1, bI_t c2, if_neg (by decide), if_neg c3, bI_f fun h => c3 h.2.2]
        · rw [if_pos c1, bI_f c2, if_pos rfl, bI_f fun h => c2 h.2.1]
      · rw [if_neg c1, bI_f fun h => c1 h.1]
    have e3 : (nI (v k) < zI (le k)) = ((v k : Int) < le k) := by rw [nZ, zLt (by omega) (by omega) (by omega) (by omega)]
    have e4 : (nI (v k) ≤ zI (mo k)) = ((v k : Int) ≤ mo k) := by rw [nZ, zLe (by omega) (by omega) (by omega) (by omega)]
    rw [F_X7_check_L19]
    dsimp only
    simp (disch := omega) only [nLe_f, show ((3 : Int32) ≤ nI k) = False from nLe_f (a := 3) (by omega) (by decide), if_false, ↓bnd (g75_6 S), ↓bnd (q23), ↓bnd (rd k (by omega)), ↓bnd (co), if_true, ↓bnd (hl k (by omega)), ↓bnd (hmo k (by omega)), e3, e4, nI_1, i, ↓bnd (g75_7 S), ↓bnd (rq k (by omega)), ↓bnd (o75 S), Option.bind_some]
    rw [fbR]
    by_cases c1 : k = 1 ∧ cpl ∧ v 1 = v 0
    · rw [bI_t c1, if_neg (by decide), if_pos (Or.inl c1)]
      exact bnd_id _
    · rw [bI_f c1, if_pos rfl]
      by_cases c2 : (v k : Int) < le k
      · rw [if_pos c2, if_pos (Or.inr (Or.inl c2))]
        exact bnd_id _
      · rw [if_neg c2]
        by_cases c3 : (v k : Int) ≤ mo k
        · rw [if_pos c3, if_neg (fun h => by
            rcases h with h | h | h
            · exact c1 h
            · exact c2 h
            · omega)]
        · rw [if_neg c3, if_pos (Or.inr (Or.inr (by omega)))]
          exact bnd_id _
theorem C_chk3 {cpl full : Prop} [Decidable cpl] [Decidable full] (S : Sh s) (hv : ∀ j, j < 3 → cI s 77 j = nI (v j)) (hq : ∀ j, j < m → cI s 78 j = nI (q j)) (ck : s.2.2 a = .inr (3, fs)) (hm : m ≤ 3) (bv : ∀ j, v j ≤ 9999) (bl : ∀ k, -10000 ≤ le k ∧ le k ≤ 10000) (bm : ∀ k, -10000 ≤ mo k ∧ mo k ≤ 10000) (hf : F_X3_isFull n s (some a) fo = some (bI full)) (hl : ∀ k, k < 3 → F_X3_leastOf n s (some a) fo (nI k) = some (zI (le k))) (hmo : ∀ k, k < 3 → F_X3_mostOf n s (some a) fo (nI k) = some (zI (mo k))) (cp : F_X7_isCouple n s fo = some (bI cpl)) (hn : 3000 ≤ n) : F_X7_check n s (some 75) fo (nI m) fi (some a) = if full then F_X7_fail n s (some 75) 3 fi else match fbR le mo cpl v m 0 with | some k => F_X7_fail n s (some 75) 2 (nI (q k)) | none => F_X3_take n s (some a) fo (nI (v 0)) (nI (v 1)) (nI (v 2)) := by
  have co : ckO s (some a) = some 3 := ckO_of ck
  have l : F_X7_check_L19 n n s (some 75) fo (nI m) (some a) (0 : Int32) = _ := C_lp3 S hv hq ck hm bv bl bm hl hmo cp m 0 (by omega) n (by omega)
  unfold F_X7_check
  simp only [↓bnd (co), if_true, ↓bnd (hf), ↓bnd (o75 S)]
  by_cases c : full
  · rw [bI_t c, if_neg (by decide), if_pos c]
    exact bnd_id _
  · rw [bI_f c, if_pos rfl, if_neg c, l]
theorem C_lp4 {cpl : Prop} [Decidable cpl] (S : Sh s) (hv : ∀ j, j < 3 → cI s 77 j = nI (v j)) (hq : ∀ j, j < m → cI s 78 j = nI (q j)) (ck : s.2.2 a = .inr (4, fs)) (hm : m ≤ 3) (bv : ∀ j, v j ≤ 9999) (bl : ∀ k, -10000 ≤ le k ∧ le k ≤ 10000) (bm : ∀ k, -10000 ≤ mo k ∧ mo k ≤ 10000) (hl : ∀ k, k < 3 → F_X4_leastOf n s (some a) fo (nI k) = some (zI (le k))) (hmo : ∀ k, k < 3 → F_X4_mostOf n s (some a) fo (nI k) = some (zI (mo k))) (cp : F_X7_isCouple n s fo = some (bI cpl)) : ∀ r k, k + r = m → ∀ f, r < f → F_X7_check_L19 n f s (some 75) fo (nI m) (some a) (nI k) = match fbR le mo cpl v r k with | some k => F_X7_fail n s (some 75) 2 (nI (q k)) | none => F_X4_take n s (some a) fo (nI (v 0)) (nI (v 1)) (nI (v 2)) := by
  have rd : ∀ j, j < 3 → aI s (some 77) (nI j) = some (nI (v j)) := fun j hj => by rw [a77 S, if_pos (ixT hj (by decide)), nIc (by omega), hv j hj]
  have rq : ∀ j, j < m → aI s (some 78) (nI j) = some (nI (q j)) := fun j hj => by rw [a78 S, if_pos (ixT (by omega) (by decide)), nIc (by omega), hq j hj]
  have r0 : aI s (some 77) (0 : Int32) = _ := rd 0 (by decide)
  have r1 : aI s (some 77) (1 : Int32) = _ := rd 1 (by decide)
  have r2 : aI s (some 77) (2 : Int32) = _ := rd 2 (by decide)
  have co : ckO s (some a) = some 4 := ckO_of ck
  intro r
  induction r with
  | zero =>
    intro k hk f hf
    obtain ⟨f, rfl⟩ : ∃ j, f = j + 1 := ⟨f - 1, by omega⟩
    rw [F_X7_check_L19]
    dsimp only [fbR]
    simp (disch := omega) only [nLe_t, if_true, ↓bnd (g75_6 S), ↓bnd (r0), ↓bnd (r1), ↓bnd (r2), ↓bnd (co), show ((4 : Nat) = 3) = False by decide, if_false, if_true]
    exact bnd_id _
  | succ r ih =>
    intro k hk f hf
    obtain ⟨f, rfl⟩ : ∃ j, f = j + 1 := ⟨f - 1, by omega⟩
    have i := ih (k + 1) (by omega) f (by omega)
    have b0 := bv 0
    have b1 := bv 1
    have bk := bv k
    have l1 := bl k
    have l2 := bm k
    have q23 : ((if nI k = (1 : Int32) then (F_X7_isCouple n s fo).bind fun v18 => if v18 = (0 : Int32) then some (0 : Int32) else (gR s (some 75) 7 6).bind fun v19 => (aI s v19 (1 : Int32)).bind fun v20 => (gR s (some 75) 7 6).bind fun v21 => (aI s v21 (0 : Int32)).bind fun v22 => if v20 = v22 then some (1 : Int32) else some (0 : Int32) else some (0 : Int32)) : Option Int32) = some (bI (k = 1 ∧ cpl ∧ v 1 = v 0)) := by
      have e1 : (nI k = (1 : Int32)) = (k = 1) := nEq (b := 1) (by omega) (by decide)
      have e2 : (nI (v 1) = nI (v 0)) = (v 1 = v 0) := nEq (by omega) (by omega)
      simp only [e1, ↓bnd (cp), ↓bnd (g75_6 S), ↓bnd (r1), ↓bnd (r0), e2]
      by_cases c1 : k = 1
      · by_cases c2 : cpl
        · by_cases c3 : v 1 = v 0
          · rw [if_pos c1, bI_t c2, if_neg (by decide), if_pos c3, bI_t ⟨c1, c2, c3⟩]
          · rw [if_pos c1, bI_t c2, if_neg (by decide), if_neg c3, bI_f fun h => c3 h.2.2]
        · rw [if_pos c1, bI_f c2, if_pos rfl, bI_f fun h => c2 h.2.1]
      · rw [if_neg c1, bI_f fun h => c1 h.1]
    have e3 : (nI (v k) < zI (le k)) = ((v k : Int) < le k) := by rw [nZ, zLt (by omega) (by omega) (by omega) (by omega)]
    have e4 : (nI (v k) ≤ zI (mo k)) = ((v k : Int) ≤ mo k) := by rw [nZ, zLe (by omega) (by omega) (by omega) (by omega)]
    rw [F_X7_check_L19]
    dsimp only
    simp (disch := omega) only [nLe_f, show ((3 : Int32) ≤ nI k) = False from nLe_f (a := 3) (by omega) (by decide), if_false, ↓bnd (g75_6 S), ↓bnd (q23), ↓bnd (rd k (by omega)), ↓bnd (co), show ((4 : Nat) = 3) = False by decide, if_false, if_true, ↓bnd (hl k (by omega)), ↓bnd (hmo k (by omega)), e3, e4, nI_1, i, ↓bnd (g75_7 S), ↓bnd (rq k (by omega)), ↓bnd (o75 S), Option.bind_some]
    rw [fbR]
    by_cases c1 : k = 1 ∧ cpl ∧ v 1 = v 0
    · rw [bI_t c1, if_neg (by decide), if_pos (Or.inl c1)]
      exact bnd_id _
    · rw [bI_f c1, if_pos rfl]
      by_cases c2 : (v k : Int) < le k
      · rw [if_pos c2, if_pos (Or.inr (Or.inl c2))]
        exact bnd_id _
      · rw [if_neg c2]
        by_cases c3 : (v k : Int) ≤ mo k
        · rw [if_pos c3, if_neg (fun h => by
            rcases h with h | h | h
            · exact c1 h
            · exact c2 h
            · omega)]
        · rw [if_neg c3, if_pos (Or.inr (Or.inr (by omega)))]
          exact bnd_id _
theorem C_chk4 {cpl full : Prop} [Decidable cpl] [Decidable full] (S : Sh s) (hv : ∀ j, j < 3 → cI s 77 j = nI (v j)) (hq : ∀ j, j < m → cI s 78 j = nI (q j)) (ck : s.2.2 a = .inr (4, fs)) (hm : m ≤ 3) (bv : ∀ j, v j ≤ 9999) (bl : ∀ k, -10000 ≤ le k ∧ le k ≤ 10000) (bm : ∀ k, -10000 ≤ mo k ∧ mo k ≤ 10000) (hf : F_X4_isFull n s (some a) fo = some (bI full)) (hl : ∀ k, k < 3 → F_X4_leastOf n s (some a) fo (nI k) = some (zI (le k))) (hmo : ∀ k, k < 3 → F_X4_mostOf n s (some a) fo (nI k) = some (zI (mo k))) (cp : F_X7_isCouple n s fo = some (bI cpl)) (hn : 3000 ≤ n) : F_X7_check n s (some 75) fo (nI m) fi (some a) = if full then F_X7_fail n s (some 75) 3 fi else match fbR le mo cpl v m 0 with | some k => F_X7_fail n s (some 75) 2 (nI (q k)) | none => F_X4_take n s (some a) fo (nI (v 0)) (nI (v 1)) (nI (v 2)) := by
  have co : ckO s (some a) = some 4 := ckO_of ck
  have l : F_X7_check_L19 n n s (some 75) fo (nI m) (some a) (0 : Int32) = _ := C_lp4 S hv hq ck hm bv bl bm hl hmo cp m 0 (by omega) n (by omega)
  unfold F_X7_check
  simp only [↓bnd (co), show ((4 : Nat) = 3) = False by decide, if_false, if_true, ↓bnd (hf), ↓bnd (o75 S)]
  by_cases c : full
  · rw [bI_t c, if_neg (by decide), if_pos c]
    exact bnd_id _
  · rw [bI_f c, if_pos rfl, if_neg c, l]
theorem C_lp6 {cpl : Prop} [Decidable cpl] (S : Sh s) (hv : ∀ j, j < 3 → cI s 77 j = nI (v j)) (hq : ∀ j, j < m → cI s 78 j = nI (q j)) (ck : s.2.2 a = .inr (6, fs)) (hm : m ≤ 3) (bv : ∀ j, v j ≤ 9999) (bl : ∀ k, -10000 ≤ le k ∧ le k ≤ 10000) (bm : ∀ k, -10000 ≤ mo k ∧ mo k ≤ 10000) (hl : ∀ k, k < 3 → F_X6_leastOf n s (some a) fo (nI k) = some (zI (le k))) (hmo : ∀ k, k < 3 → F_X6_mostOf n s (some a) fo (nI k) = some (zI (mo k))) (cp : F_X7_isCouple n s fo = some (bI cpl)) : ∀ r k, k + r = m → ∀ f, r < f → F_X7_check_L19 n f s (some 75) fo (nI m) (some a) (nI k) = match fbR le mo cpl v r k with | some k => F_X7_fail n s (some 75) 2 (nI (q k)) | none => F_X6_take n s (some a) fo (nI (v 0)) (nI (v 1)) (nI (v 2)) := by
  have rd : ∀ j, j < 3 → aI s (some 77) (nI j) = some (nI (v j)) := fun j hj => by rw [a77 S, if_pos (ixT hj (by decide)), nIc (by omega), hv j hj]
  have rq : ∀ j, j < m → aI s (some 78) (nI j) = some (nI (q j)) := fun j hj => by rw [a78 S, if_pos (ixT (by omega) (by decide)), nIc (by omega), hq j hj]
  have r0 : aI s (some 77) (0 : Int32) = _ := rd 0 (by decide)
  have r1 : aI s (some 77) (1 : Int32) = _ := rd 1 (by decide)
  have r2 : aI s (some 77) (2 : Int32) = _ := rd 2 (by decide)
  have co : ckO s (some a) = some 6 := ckO_of ck
  intro r
  induction r with
  | zero =>
    intro k hk f hf
    obtain ⟨f, rfl⟩ : ∃ j, f = j + 1 := ⟨f - 1, by omega⟩
    rw [F_X7_check_L19]
    dsimp only [fbR]
    simp (disch := omega) only [nLe_t, if_true, ↓bnd (g75_6 S), ↓bnd (r0), ↓bnd (r1), ↓bnd (r2), ↓bnd (co), show ((6 : Nat) = 3) = False by decide, show ((6 : Nat) = 4) = False by decide, if_false, if_true]
    exact bnd_id _
  | succ r ih =>
    intro k hk f hf
    obtain ⟨f, rfl⟩ : ∃ j, f = j + 1 := ⟨f - 1, by omega⟩
    have i := ih (k + 1) (by omega) f (by omega)
    have b0 := bv 0
    have b1 := bv 1
    have bk := bv k
    have l1 := bl k
    have l2 := bm k
    have q23 : ((if nI k = (1 : Int32) then (F_X7_isCouple n s fo).bind fun v18 => if v18 = (0 : Int32) then some (0 : Int32) else (gR s (some 75) 7 6).bind fun v19 => (aI s v19 (1 : Int32)).bind fun v20 => (gR s (some 75) 7 6).bind fun v21 => (aI s v21 (0 : Int32)).bind fun v22 => if v20 = v22 then some (1 : Int32) else some (0 : Int32) else some (0 : Int32)) : Option Int32) = some (bI (k = 1 ∧ cpl ∧ v 1 = v 0)) := by
      have e1 : (nI k = (1 : Int32)) = (k = 1) := nEq (b := 1) (by omega) (by decide)
      have e2 : (nI (v 1) = nI (v 0)) = (v 1 = v 0) := nEq (by omega) (by omega)
      simp only [e1, ↓bnd (cp), ↓bnd (g75_6 S), ↓bnd (r1), ↓bnd (r0), e2]
      by_cases c1 : k = 1
      · by_cases c2 : cpl
        · by_cases c3 : v 1 = v 0
          · rw [if_pos c1, bI_t c2, if_neg (by decide), if_pos c3, bI_t ⟨c1, c2, c3⟩]
          · rw [if_pos c1, bI_t c2, if_neg (by decide), if_neg c3, bI_f fun h => c3 h.2.2]
        · rw [if_pos c1, bI_f c2, if_pos rfl, bI_f fun h => c2 h.2.1]
      · rw [if_neg c1, bI_f fun h => c1 h.1]
    have e3 : (nI (v k) < zI (le k)) = ((v k : Int) < le k) := by rw [nZ, zLt (by omega) (by omega) (by omega) (by omega)]
    have e4 : (nI (v k) ≤ zI (mo k)) = ((v k : Int) ≤ mo k) := by rw [nZ, zLe (by omega) (by omega) (by omega) (by omega)]
    rw [F_X7_check_L19]
    dsimp only
    simp (disch := omega) only [nLe_f, show ((3 : Int32) ≤ nI k) = False from nLe_f (a := 3) (by omega) (by decide), if_false, ↓bnd (g75_6 S), ↓bnd (q23), ↓bnd (rd k (by omega)), ↓bnd (co), show ((6 : Nat) = 3) = False by decide, show ((6 : Nat) = 4) = False by decide, if_false, if_true, ↓bnd (hl k (by omega)), ↓bnd (hmo k (by omega)), e3, e4, nI_1, i, ↓bnd (g75_7 S), ↓bnd (rq k (by omega)), ↓bnd (o75 S), Option.bind_some]
    rw [fbR]
    by_cases c1 : k = 1 ∧ cpl ∧ v 1 = v 0
    · rw [bI_t c1, if_neg (by decide), if_pos (Or.inl c1)]
      exact bnd_id _
    · rw [bI_f c1, if_pos rfl]
      by_cases c2 : (v k : Int) < le k
      · rw [if_pos c2, if_pos (Or.inr (Or.inl c2))]
        exact bnd_id _
      · rw [if_neg c2]
        by_cases c3 : (v k : Int) ≤ mo k
        · rw [if_pos c3, if_neg (fun h => by
            rcases h with h | h | h
            · exact c1 h
            · exact c2 h
            · omega)]
        · rw [if_neg c3, if_pos (Or.inr (Or.inr (by omega)))]
          exact bnd_id _
theorem C_chk6 {cpl full : Prop} [Decidable cpl] [Decidable full] (S : Sh s) (hv : ∀ j, j < 3 → cI s 77 j = nI (v j)) (hq : ∀ j, j < m → cI s 78 j = nI (q j)) (ck : s.2.2 a = .inr (6, fs)) (hm : m ≤ 3) (bv : ∀ j, v j ≤ 9999) (bl : ∀ k, -10000 ≤ le k ∧ le k ≤ 10000) (bm : ∀ k, -10000 ≤ mo k ∧ mo k ≤ 10000) (hf : F_X6_isFull n s (some a) fo = some (bI full)) (hl : ∀ k, k < 3 → F_X6_leastOf n s (some a) fo (nI k) = some (zI (le k))) (hmo : ∀ k, k < 3 → F_X6_mostOf n s (some a) fo (nI k) = some (zI (mo k))) (cp : F_X7_isCouple n s fo = some (bI cpl)) (hn : 3000 ≤ n) : F_X7_check n s (some 75) fo (nI m) fi (some a) = if full then F_X7_fail n s (some 75) 3 fi else match fbR le mo cpl v m 0 with | some k => F_X7_fail n s (some 75) 2 (nI (q k)) | none => F_X6_take n s (some a) fo (nI (v 0)) (nI (v 1)) (nI (v 2)) := by
  have co : ckO s (some a) = some 6 := ckO_of ck
  have l : F_X7_check_L19 n n s (some 75) fo (nI m) (some a) (0 : Int32) = _ := C_lp6 S hv hq ck hm bv bl bm hl hmo cp m 0 (by omega) n (by omega)
  unfold F_X7_check
  simp only [↓bnd (co), show ((6 : Nat) = 3) = False by decide, show ((6 : Nat) = 4) = False by decide, if_false, if_true, ↓bnd (hf), ↓bnd (o75 S)]
  by_cases c : full
  · rw [bI_t c, if_neg (by decide), if_pos c]
    exact bnd_id _
  · rw [bI_f c, if_pos rfl, if_neg c, l]
end CK

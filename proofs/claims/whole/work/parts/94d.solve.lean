/-! BOTH, OFF: the class clears its rows -/
def SvC (st : xS) (m : Nat) (R : Nat → Nat → Int64) (r : Option (Int32 × xS)) : Prop := (∃ st', r = some (1, st') ∧ Only FIT st st' ∧ (∀ a b, a < m → b < 7 → cL st' (93 + a) b = (gSu m R m).2 a b) ∧ ∀ k, k < m → ¬ (gSu m R k).2 k k = 0) ∨ ∃ st' p, r = some (0, st') ∧ Only FIT st st' ∧ p < m ∧ (gSu m R p).2 p p = 0 ∧ ∀ k, k < p → ¬ (gSu m R k).2 k k = 0
theorem gSu_q {m : Nat} {R : Nat → Nat → Int64} {p : Nat} (hz : ∀ k, k < p → ¬ (gSu m R k).2 k k = 0) : ¬ (gSu m R p).1 = 0 := by
  cases p with
  | zero => exact (by decide : ¬ (1 : Int64) = 0)
  | succ p => exact hz p (Nat.lt_succ_self p)
section FS
variable {st st1 : xS} {n : Nat} {G : Gh} {I : Im} {x y : Int32}
theorem C_takeOut (hS : Sh st) {i k : Nat} (hi : i < 6) (hk : k < 6) (hik : ¬ i = k) (p : Int64) {q : Int64} (hq : ¬ q = 0) (hn : 3000 ≤ n) : ∃ st', F_X1_takeOut n st (some 90) (nI i) (nI k) p q = some st' ∧ Only (fun a => a = 93 + i) st st' ∧ ∀ b, b < 7 → cL st' (93 + i) b = (p * cL st (93 + i) b - cL st (93 + i) k * cL st (93 + k) b) / q := by
  have hl : ∃ st', F_X1_takeOut_L21 n n st (some 90) (nI i) (nI k) p q (cL st (93 + i) k) (0 : Int32) = some st' ∧ Only (fun a => a = 93 + i) st st' ∧ ∀ b, b < 7 → cL st' (93 + i) b = (p * cL st (93 + i) b - cL st (93 + i) k * cL st (93 + k) b) / q := by
    refine loop_ex (fun m (s : xS × Int32) => F_X1_takeOut_L21 n m s.1 (some 90) (nI i) (nI k) p q (cL st (93 + i) k) s.2) (fun j s => Only (fun a => a = 93 + i) st s.1 ∧ (∀ b, b < 7 → cL s.1 (93 + i) b = if b < j then (p * cL st (93 + i) b - cL st (93 + i) k * cL st (93 + k) b) / q else cL st (93 + i) b) ∧ s.2 = nI j) 7 (fun r => ∃ st', r = some st' ∧ Only (fun a => a = 93 + i) st st' ∧ ∀ b, b < 7 → cL st' (93 + i) b = (p * cL st (93 + i) b - cL st (93 + i) k * cL st (93 + k) b) / q) ?_ ?_ n (by omega) (st, 0) ⟨Only.refl hS, fun b hb => by rw [if_neg (Nat.not_lt_zero b)], rfl⟩
    · rintro m j ⟨s, z⟩ hj ⟨h1, h2, h3⟩
      dsimp only at h1 h2 h3 ⊢
      subst h3
      have S := h1.2.2.1
      have r1 : aL s (some (93 + i)) (nI j) = some (cL st (93 + i) j) := by rw [rRow S hi hj, h2 j hj, if_neg (Nat.lt_irrefl j)]
      have r2 : aL s (some (93 + k)) (nI j) = some (cL st (93 + k) j) := by rw [rRow S hk hj, oRow h1 (fun e => hik e.symm)]
      have d1 : dL (p * cL st (93 + i) j - cL st (93 + i) k * cL st (93 + k) j) q = _ := dLw hq
      obtain ⟨s1, w1, o1, k1, k2⟩ := wRow S hi hj ((p * cL st (93 + i) j - cL st (93 + i) k * cL st (93 + k) j) / q)
      refine ⟨(s1, nI (j + 1)), ⟨h1.trans o1, fun b hb => ?_, rfl⟩, ?_⟩
      · dsimp only
        by_cases qb : b = j
        · rw [qb, k1, if_pos (Nat.lt_succ_self j)]
        · rw [k2 b qb, h2 b hb]
          by_cases q2 : b < j
          · rw [if_pos q2, if_pos (show b < j + 1 by omega)]
          · rw [if_neg q2, if_neg (show ¬ b < j + 1 by omega)]
      · dsimp only
        rw [F_X1_takeOut_L21]
        dsimp only
        simp (disch := omega) only [↓Option.bind_some, ↓reduceIte, ↓bnd (g90_1 S), ↓bnd (r92 S hi), ↓bnd (r92 S hk), ↓bnd (r1), ↓bnd (r2), ↓bnd (d1), ↓bnd (w1), l6, nLt_f, nI_1]
    · rintro m ⟨s, z⟩ ⟨h1, h2, h3⟩
      dsimp only at h1 h2 h3 ⊢
      subst h3
      refine ⟨s, ?_, h1, fun b hb => by rw [h2 b hb, if_pos hb]⟩
      rw [F_X1_takeOut_L21]
      dsimp only
      simp (disch := omega) only [l6, nLt_t, ↓reduceIte]
  obtain ⟨st', e, o, q'⟩ := hl
  refine ⟨st', ?_, o, q'⟩
  unfold F_X1_takeOut
  simp only [cmpE, eq_false hq, if_false, ↓bnd (g90_1 hS), ↓bnd (r92 hS hi), ↓bnd (rRow hS hi (show k < 7 by omega)), ↓bnd (e)]
theorem C_sol40 (hS : Sh st) {m k : Nat} (hm6 : m ≤ 6) (hk : k < m) (hf : fI st 90 2 = nI m) {R : Nat → Nat → Int64} (hR : ∀ a b, a < m → b < 7 → cL st (93 + a) b = R a b) {q : Int64} (hq : ¬ q = 0) (hn : 3000 ≤ n) : ∃ st', F_X1_solve_L40 n n st (some 90) q (nI k) (R k k) (0 : Int32) = some st' ∧ Only FIT st st' ∧ ∀ a b, a < m → b < 7 → cL st' (93 + a) b = gst m k q R a b := by
  have gk : ∀ b, gst m k q R k b = R k b := fun b => if_neg fun h => h.2 rfl
  refine loop_ex (fun f (s : xS × Int32) => F_X1_solve_L40 n f s.1 (some 90) q (nI k) (R k k) s.2) (fun i s => Only FIT st s.1 ∧ (∀ a b, a < m → b < 7 → cL s.1 (93 + a) b = if a < i then gst m k q R a b else R a b) ∧ s.2 = nI i) m (fun r => ∃ st', r = some st' ∧ Only FIT st st' ∧ ∀ a b, a < m → b < 7 → cL st' (93 + a) b = gst m k q R a b) ?_ ?_ n (by omega) (st, 0) ⟨Only.refl hS, fun a b ha hb => by rw [if_neg (Nat.not_lt_zero a)]; exact hR a b ha hb, rfl⟩
  · rintro f i ⟨s, z⟩ hi ⟨h1, h2, h3⟩
    dsimp only at h1 h2 h3 ⊢
    subst h3
    have S := h1.2.2.1
    have g1 : gI s (some 90) 1 2 = some (nI m) := by rw [g90_2 S, fI_o h1 (by unfold FIT; omega), hf]
    by_cases c : i = k
    · refine ⟨(s, nI (i + 1)), ⟨h1, fun a b ha hb => ?_, rfl⟩, ?_⟩
      · dsimp only
        rw [h2 a b ha hb]
        by_cases q1 : a = i
        · rw [if_neg (by omega), if_pos (by omega), q1, c, gk]
        · by_cases q2 : a < i
          · rw [if_pos q2, if_pos (show a < i + 1 by omega)]
          · rw [if_neg q2, if_neg (show ¬ a < i + 1 by omega)]
      · dsimp only
        rw [F_X1_solve_L40]
        dsimp only
        simp (disch := omega) only [↓Option.bind_some, ↓reduceIte, ↓bnd (g1), l6, nLe_f, nI_1, c]
    · obtain ⟨s1, e1, o1, k1⟩ := C_takeOut (n := n) S (i := i) (k := k) (by omega) (by omega) c (R k k) hq hn
      have nk : (nI i = nI k) = False := nEq_f c (by omega) (by omega)
      refine ⟨(s1, nI (i + 1)), ⟨h1.trans (o1.mono fun a h => by unfold FIT; omega), fun a b ha hb => ?_, rfl⟩, ?_⟩
      · dsimp only
        by_cases q1 : a = i
        · subst q1
          have kb : cL s (93 + k) b = R k b := by
            rw [h2 k b hk hb]
            split
            · exact gk b
            · rfl
          rw [k1 b hb, if_pos (Nat.lt_succ_self a), h2 a b ha hb, if_neg (Nat.lt_irrefl a), h2 a k ha (by omega), if_neg (Nat.lt_irrefl a), kb]
          exact (if_pos ⟨ha, c⟩).symm
        · rw [oRow o1 q1, h2 a b ha hb]
          by_cases q2 : a < i
          · rw [if_pos q2, if_pos (show a < i + 1 by omega)]
          · rw [if_neg q2, if_neg (show ¬ a < i + 1 by omega)]
      · dsimp only
        rw [F_X1_solve_L40]
        dsimp only
        simp (disch := omega) only [↓Option.bind_some, ↓reduceIte, ↓bnd (g1), ↓bnd (o90 S), ↓bnd (e1), l6, nLe_f, nI_1, nk]
  · rintro f ⟨s, z⟩ ⟨h1, h2, h3⟩
    dsimp only at h1 h2 h3 ⊢
    subst h3
    have g1 : gI s (some 90) 1 2 = some (nI m) := by rw [g90_2 h1.2.2.1, fI_o h1 (by unfold FIT; omega), hf]
    refine ⟨s, ?_, h1, fun a b ha hb => by rw [h2 a b ha hb, if_pos ha]⟩
    rw [F_X1_solve_L40]
    dsimp only
    simp (disch := omega) only [↓Option.bind_some, ↓reduceIte, ↓bnd (g1), nLe_t]
theorem C_sol4 {m : Nat} (hm6 : m ≤ 6) (hf : fI st 90 2 = nI m) {R : Nat → Nat → Int64} (hn : 3000 ≤ n) : ∀ d p, p + d = m → ∀ f s, d < f → Only FIT st s → (∀ a b, a < m → b < 7 → cL s (93 + a) b = (gSu m R p).2 a b) → (∀ k, k < p → ¬ (gSu m R k).2 k k = 0) → SvC st m R (F_X1_solve_L4 n f s (some 90) (gSu m R p).1 (nI p)) := by
  intro d
  induction d with
  | zero =>
    intro p hp f s hf2 o h hz
    obtain ⟨f, rfl⟩ : ∃ j, f = j + 1 := ⟨f - 1, by omega⟩
    obtain rfl : p = m := hp
    have g1 : gI s (some 90) 1 2 = some (nI p) := by rw [g90_2 o.2.2.1, fI_o o (by unfold FIT; omega), hf]
    refine Or.inl ⟨s, ?_, o, h, hz⟩
    rw [F_X1_solve_L4]
    dsimp only
    simp (disch := omega) only [↓Option.bind_some, ↓reduceIte, ↓bnd (g1), ↓bnd (rz1), nLe_t]
  | succ d ih =>
    intro p hp f s hf2 o h hz
    obtain ⟨f, rfl⟩ : ∃ j, f = j + 1 := ⟨f - 1, by omega⟩
    have S := o.2.2.1
    have g1 : gI s (some 90) 1 2 = some (nI m) := by rw [g90_2 S, fI_o o (by unfold FIT; omega), hf]
    have r1 : aL s (some (93 + p)) (nI p) = some ((gSu m R p).2 p p) := by rw [rRow S (show p < 6 by omega) (show p < 7 by omega), h p p (by omega) (by omega)]
    by_cases c : (gSu m R p).2 p p = 0
    · refine Or.inr ⟨s, p, ?_, o, by omega, c, hz⟩
      rw [F_X1_solve_L4]
      dsimp only
      simp (disch := omega) only [↓Option.bind_some, ↓reduceIte, ↓bnd (g1), ↓bnd (g90_1 S), ↓bnd (r92 S (show p < 6 by omega)), ↓bnd (r1), ↓bnd (rz0), l6, nLe_f, cmpE, eq_true c]
    · obtain ⟨s1, e1, o1, k1⟩ := C_sol40 (n := n) S hm6 (show p < m by omega) (by rw [fI_o o (by unfold FIT; omega), hf]) h (gSu_q hz) hn
      have k := ih (p + 1) (by omega) f s1 (by omega) (o.trans o1) k1 (fun k hk => by
        by_cases q : k = p
        · rw [q]; exact c
        · exact hz k (by omega))
      rw [F_X1_solve_L4]
      dsimp only
      simp (disch := omega) only [↓Option.bind_some, ↓reduceIte, ↓bnd (g1), ↓bnd (g90_1 S), ↓bnd (r92 S (show p < 6 by omega)), ↓bnd (r1), ↓bnd (e1), l6, nLe_f, cmpE, eq_false c, nI_1]
      exact k
theorem C_solve (hS : Sh st) {m : Nat} (hm6 : m ≤ 6) (hf : fI st 90 2 = nI m) {R : Nat → Nat → Int64} (hR : ∀ a b, a < m → b < 7 → cL st (93 + a) b = R a b) (hn : 3000 ≤ n) : SvC st m R (F_X1_solve n st (some 90)) := C_sol4 hm6 hf hn m 0 (Nat.zero_add m) n st (by omega) (Only.refl hS) hR fun k hk => absurd hk (Nat.not_lt_zero k)
/-- reading -/
theorem C_played_t (hS : Sh st) {T : Nat → Int} (hu : ∀ s, s < 8 → cI st 91 s = if T s = 0 then -1 else nI (uNn T s)) {s : Nat} (hs : s < 8) : F_X1_played n st (some 90) (nI s) = some (bI (¬ T s = 0)) := by
  have u := uNn_le T s
  have r1 : aI st (some 91) (nI s) = some (if T s = 0 then -1 else nI (uNn T s)) := by rw [a91 hS, if_pos (ixT hs (by decide)), nIc (by omega), hu s hs]
  unfold F_X1_played
  simp (disch := omega) only [l0, l8, nLt_f, nLe_f, if_false, ↓bnd (g90_0 hS), ↓bnd (r1)]
  by_cases c : T s = 0
  · rw [if_pos c, bI_f (fun h => h c)]
    rfl
  · rw [if_neg c, bI_t c, if_neg (show ¬ nI (uNn T s) = -1 from of_eq_false (nNeg1 (by omega)))]
    rfl
theorem C_played_f (hS : Sh st) {z : Int32} (hz : ∀ j, j < 8 → ¬ z = nI j) : F_X1_played n st (some 90) z = some 0 := by
  unfold F_X1_played
  by_cases h0 : z < 0
  · rw [if_pos h0]; rfl
  · have h8 : (8 : Int32) ≤ z := (nOut (N := 8) (by decide) hz).resolve_left h0
    rw [if_neg h0, if_pos h8]; rfl
theorem C_underF (hS : Sh st) : F_X1_under n st (some 90) = some (cL st 93 0) := by
  have r1 : aL st (some 93) (0 : Int32) = some (cL st 93 0) := rRow hS (i := 0) (j := 0) (by decide) (by decide)
  have r0 : aR st (some 92) (0 : Int32) = some (some 93) := r92 hS (i := 0) (by decide)
  unfold F_X1_under
  simp only [↓bnd (g90_1 hS), ↓bnd (r0), ↓bnd (r1)]
theorem C_homeF (hS : Sh st) : F_X1_home n st (some 90) = some (cL st 93 6) := by
  have r1 : aL st (some 93) (6 : Int32) = some (cL st 93 6) := rRow hS (i := 0) (j := 6) (by decide) (by decide)
  have r0 : aR st (some 92) (0 : Int32) = some (some 93) := r92 hS (i := 0) (by decide)
  unfold F_X1_home
  simp only [↓bnd (g90_1 hS), ↓bnd (r0), ↓bnd (r1)]
theorem C_strengthF (hS : Sh st) {T : Nat → Int} (hu : ∀ s, s < 8 → cI st 91 s = if T s = 0 then -1 else nI (uNn T s)) {s : Nat} (hs : s < 8) (h0 : ¬ T s = 0) (h6 : uNn T s < 6) : F_X1_strength n st (some 90) (nI s) = some (if uNn T s = 0 then 0 else cL st (93 + uNn T s) 6) := by
  have e1 : F_X10_valueAt n st (some 91) (nI s) = some (nI (uNn T s)) := by rw [C_val (c91 hS) hs (by decide), hu _ hs, if_neg h0]
  have r1 : aL st (some (93 + uNn T s)) (6 : Int32) = some (cL st (93 + uNn T s) 6) := rRow hS (j := 6) h6 (by decide)
  have q0 : (nI (uNn T s) ≤ (0 : Int32)) = (uNn T s ≤ 0) := nLe (b := 0) (by omega) (by decide)
  have q6 : ((6 : Int32) ≤ nI (uNn T s)) = False := nLe_f (a := 6) h6 (by decide)
  unfold F_X1_strength
  simp only [↓bnd (g90_0 hS), ↓bnd (e1), q0, q6, if_false]
  by_cases c : uNn T s = 0
  · rw [if_pos (show uNn T s ≤ 0 by omega), if_pos c]; rfl
  · rw [if_neg (show ¬ uNn T s ≤ 0 by omega), if_neg c]
    simp only [↓bnd (g90_1 hS), ↓bnd (r92 hS h6), ↓bnd (r1), Option.bind_some]
end FS

/-! READS: what class and model read of what is told -/
section RD
variable {st : xS} {n : Nat} {G : Gh}
theorem gR_of {a ci k r : Nat} {fs : List Value} (h : st.2.2 a = .inr (ci, fs)) (hk : fs[k]? = some (.ref r)) : gR st (some a) ci k = some (some r) := by
  unfold gR
  rw [gV_of h, hk]
  rfl
theorem gI_of {a ci k : Nat} {x : Int32} {fs : List Value} (h : st.2.2 a = .inr (ci, fs)) (hk : fs[k]? = some (.int x)) : gI st (some a) ci k = some x := by
  unfold gI
  rw [gV_of h, hk]
  rfl
theorem C_val {a N k : Nat} {f : Nat → Int32} (h : st.2.2 a = .inl (0, N, .inl f)) (hk : k < N) (hN : N < 2147483648) : F_X10_valueAt n st (some a) (nI k) = some (f k) := by
  have h0 : ¬ nI k < (0 : Int32) := nI_pos (by omega)
  have h1 : ¬ nI N ≤ nI k := nI_ge hk (by omega)
  simp (disch := omega) only [F_X10_valueAt, h0, if_false, aN_of h (by decide), Option.bind_some, h1, aI_of h, ixT, nIc, if_true]
theorem C_valB {a N : Nat} {x : Int32} {f : Nat → Int32} (h : st.2.2 a = .inl (0, N, .inl f)) (hx : x < 0 ∨ nI N ≤ x) : F_X10_valueAt n st (some a) x = some 0 := by
  unfold F_X10_valueAt
  by_cases h0 : x < 0
  · simp only [h0, if_true, Option.bind_some]
  · have h1 : nI N ≤ x := by
      rcases hx with h | h
      · exact absurd h h0
      · exact h
    simp only [h0, if_false, aN_of h (by decide), Option.bind_some, h1, if_true]
/-- a league -/
theorem LgR.o {a : Nat} {D : LgD} (h : LgR st a D) : isO st (some a) 4 = some 4 := by
  obtain ⟨r, q, f, g, h1, h2⟩ := h
  exact isO_of h1
theorem LgR.g {a : Nat} {D : LgD} (h : LgR st a D) : gI st (some a) 4 2 = some (nI D.g) := by
  obtain ⟨r, q, f, g, h1, h2⟩ := h
  exact gI_of h1 rfl
theorem LgR.s {a : Nat} {D : LgD} (h : LgR st a D) : gI st (some a) 4 3 = some (nI D.s) := by
  obtain ⟨r, q, f, g, h1, h2⟩ := h
  exact gI_of h1 rfl
theorem LgR.row {a i : Nat} {D : LgD} (h : LgR st a D) (hi : i < 60) : ((gR st (some a) 4 0).bind fun v => F_X10_valueAt n st v (nI i)) = some (nI (D.r i)) := by
  obtain ⟨r, q, f, g, h1, h2, h3, h4, h5, h6⟩ := h
  rw [gR_of h1 rfl, Option.bind_some, C_val h2 hi (by decide), h4 i hi]
theorem LgR.dis {a i : Nat} {D : LgD} (h : LgR st a D) (hi : i < 100) : ((gR st (some a) 4 1).bind fun v => F_X10_valueAt n st v (nI i)) = some (nI (D.d i)) := by
  obtain ⟨r, q, f, g, h1, h2, h3, h4, h5, h6⟩ := h
  rw [gR_of h1 rfl, Option.bind_some, C_val h3 hi (by decide), h5 i hi]
theorem bind_id {α : Type} (o : Option α) : (o.bind fun v => some v) = o := by cases o <;> rfl
theorem C_own {a s : Nat} {D : LgD} (h : LgR st a D) (hs : s < 20) : F_X4_own n st (some a) (nI s) = some (nI (D.r (40 + s))) := by
  unfold F_X4_own
  simp only [bind_id, l40, nAdd]
  exact h.row (by omega)
theorem C_strength {a s : Nat} {D : LgD} (h : LgR st a D) (hs : s < 10) : F_X4_strength n st (some a) (nI s) = some (nI (D.r (50 + s))) := by
  unfold F_X4_strength
  simp only [bind_id, l50, nAdd]
  exact h.row (by omega)
theorem C_height {a s : Nat} {D : LgD} (h : LgR st a D) (hs : s < 50) : F_X4_height n st (some a) (nI s) = some (nI (D.r (10 + s))) := by
  unfold F_X4_height
  simp only [bind_id, l10, nAdd]
  exact h.row (by omega)
theorem C_apart {a x y : Nat} {D : LgD} (h : LgR st a D) (hs : 10 * x + y < 100) : F_X4_apart n st (some a) (nI x) (nI y) = some (nI (D.d (10 * x + y))) := by
  unfold F_X4_apart
  simp only [bind_id, l10, nMul, nAdd]
  exact h.dis hs
theorem C_cut {x y : Nat} (hx : x < 2147483648) (hy : y < 2147483648) : F_X10_cut n st (nI x) (nI y) = some (nI (x / y)) := by
  unfold F_X10_cut
  by_cases h : y = 0
  · subst h
    rw [if_pos (by exact Int32.le_refl _)]
    rw [Nat.div_zero]
    rfl
  · rw [if_neg (by rw [l0, nLe hy (by omega)]; omega), dI_n hx (by omega) hy]
    rfl
theorem C_noise {a x : Nat} {D : LgD} (h : LgR st a D) (hx : x < 30) (hI : LgI D) : F_X4_noise n st (some a) (nI x) = some (nI (D.r (30 + x) / (1 + D.r (20 + x)))) := by
  unfold F_X4_noise
  obtain ⟨r, q, f, g, h1, h2, h3, h4, h5, h6⟩ := h
  have b1 := hI.2.2.1 (30 + x)
  have b2 := hI.2.2.1 (20 + x)
  simp (disch := omega) only [gR_of (k := 0) h1 rfl, Option.bind_some, l30, l20, l1, nAdd, C_val h2, h4, C_cut]
theorem C_hasGround {a x : Nat} {D : LgD} (h : LgR st a D) (hI : LgI D) (hx : x < 2147483648) : F_X4_hasGround n st (some a) (nI x) = some (bI (x < D.g)) := by
  have b := hI.1
  unfold F_X4_hasGround
  rw [if_neg (nI_pos (by omega)), h.g, Option.bind_some]
  by_cases h1 : D.g ≤ x
  · rw [if_pos (nI_le h1 (by omega)), bI_f (by omega)]; rfl
  · rw [if_neg (nI_ge (by omega) (by omega)), bI_t (by omega)]; rfl
theorem C_hasSide {a x : Nat} {D : LgD} (h : LgR st a D) (hI : LgI D) (hx : x < 2147483648) : F_X4_hasSide n st (some a) (nI x) = some (bI (x < D.s)) := by
  have b := hI.2.1
  unfold F_X4_hasSide
  rw [if_neg (nI_pos (by omega)), h.s, Option.bind_some]
  by_cases h1 : D.s ≤ x
  · rw [if_pos (nI_le h1 (by omega)), bI_f (by omega)]; rfl
  · rw [if_neg (nI_ge (by omega) (by omega)), bI_t (by omega)]; rfl
theorem C_hasGround_neg {a : Nat} {x : Int32} {D : LgD} (h : LgR st a D) (hI : LgI D) (hx : x < 0 ∨ nI D.g ≤ x) : F_X4_hasGround n st (some a) x = some 0 := by
  unfold F_X4_hasGround
  by_cases h0 : x < 0
  · rw [if_pos h0]; rfl
  · rw [if_neg h0, h.g, Option.bind_some, if_pos (hx.resolve_left h0)]; rfl
theorem C_hasSide_neg {a : Nat} {x : Int32} {D : LgD} (h : LgR st a D) (hI : LgI D) (hx : x < 0 ∨ nI D.s ≤ x) : F_X4_hasSide n st (some a) x = some 0 := by
  unfold F_X4_hasSide
  by_cases h0 : x < 0
  · rw [if_pos h0]; rfl
  · rw [if_neg h0, h.s, Option.bind_some, if_pos (hx.resolve_left h0)]; rfl
/-- a law -/
theorem LwR.o {a : Nat} {D : LwD} (h : LwR st a D) : isO st (some a) 3 = some 3 := by
  obtain ⟨r, f, h1, h2⟩ := h
  exact isO_of h1
theorem C_per {a p : Nat} {D : LwD} (h : LwR st a D) (hp : p < 6) : F_X3_per n st (some a) (nI p) = some (nI (D (20 + p))) := by
  obtain ⟨r, f, h1, h2, h3, h4⟩ := h
  unfold F_X3_per
  simp (disch := omega) only [gR_of (k := 0) h1 rfl, Option.bind_some, l20, nAdd, C_val h2, h3]
theorem C_worthOf {a p t : Nat} {D : LwD} (h : LwR st a D) (hI : LwI D) (hp : p < 6) (ht : t ≤ 99999) : F_X3_worthOf n st (some a) (nI p) (nI t) = some (nI (min 50 (D (10 + p) * t))) := by
  obtain ⟨r, f, h1, h2, h3, h4⟩ := h
  have b := hI.2.1 p hp
  have b2 : D (10 + p) * t ≤ 50 * 99999 := Nat.mul_le_mul b ht
  unfold F_X3_worthOf
  simp (disch := omega) only [gR_of (k := 0) h1 rfl, Option.bind_some, l10, nAdd, C_val h2, h3, nMul, imin, l50, nLt]
  by_cases hc : D (10 + p) * t < 50
  · rw [if_pos hc, Nat.min_eq_right (by omega)]
  · rw [if_neg hc, Nat.min_eq_left (by omega)]
theorem C_base {a : Nat} {D : LwD} (h : LwR st a D) : F_X3_base n st (some a) = some (nI (D 0)) := by
  obtain ⟨r, f, h1, h2, h3, h4⟩ := h
  unfold F_X3_base
  simp (disch := omega) only [gR_of (k := 0) h1 rfl, Option.bind_some, aI_of h2, l0, ixT, nIc, if_true, h3]
/-- a plan -/
theorem PlR.o {a : Nat} {D : PlD} (h : PlR st a D) : isO st (some a) 6 = some 6 := by
  obtain ⟨r, f, x1, x2, x3, x4, h1, h2⟩ := h
  exact isO_of h1
theorem PlR.gn {a : Nat} {D : PlD} (h : PlR st a D) : gI st (some a) 6 1 = some (nI D.n) := by
  obtain ⟨r, f, x1, x2, x3, x4, h1, h2⟩ := h
  exact gI_of h1 rfl
theorem C_of {a g w : Nat} {D : PlD} (h : PlR st a D) (hI : PlI D) (hg : g < D.n) (hw : w < 5) : F_X6_of n st (some a) (nI g) (nI w) = some (nI (D.c g w)) := by
  have b := hI.1
  obtain ⟨r, f, x1, x2, x3, x4, h1, h2, h3, h4⟩ := h
  unfold F_X6_of
  simp (disch := omega) only [gR_of (k := 0) h1 rfl, Option.bind_some, l6, nMul, nAdd, C_val h2, h3]
theorem C_of5 {a g : Nat} {D : PlD} (h : PlR st a D) (hI : PlI D) (hg : g < D.n) : F_X6_of n st (some a) (nI g) (nI 5) = some (eI (D.e g)) := by
  have b := hI.1
  obtain ⟨r, f, x1, x2, x3, x4, h1, h2, h3, h4, h5⟩ := h
  unfold F_X6_of
  simp (disch := omega) only [gR_of (k := 0) h1 rfl, Option.bind_some, l6, nMul, nAdd, C_val h2, h4]
theorem C_hasGame {a x : Nat} {D : PlD} (h : PlR st a D) (hI : PlI D) (hx : x < 2147483648) : F_X6_hasGame n st (some a) (nI x) = some (bI (x < D.n)) := by
  have b := hI.1
  unfold F_X6_hasGame
  rw [if_neg (nI_pos (by omega)), h.gn, Option.bind_some]
  by_cases h1 : D.n ≤ x
  · rw [if_pos (nI_le h1 (by omega)), bI_f (by omega)]; rfl
  · rw [if_neg (nI_ge (by omega) (by omega)), bI_t (by omega)]; rfl
theorem C_hasGame_neg {a : Nat} {x : Int32} {D : PlD} (h : PlR st a D) (hx : x < 0 ∨ nI D.n ≤ x) : F_X6_hasGame n st (some a) x = some 0 := by
  unfold F_X6_hasGame
  by_cases h0 : x < 0
  · rw [if_pos h0]; rfl
  · rw [if_neg h0, h.gn, Option.bind_some, if_pos (hx.resolve_left h0)]; rfl
/-- numbers of what is told now -/
theorem C_howMany (hS : Sh st) (hT : TolR st 65 G) {w : Nat} (hw : w < 4) : F_X9_howMany n st (some 65) (nI w) = some (nI (G.cn w)) := by
  unfold F_X9_howMany
  simp (disch := omega) only [g65_3 hS, Option.bind_some, C_val (c69 hS), hT.2.2.2.1 w hw]
theorem C_noteOf (hS : Sh st) (hT : TolR st 65 G) (hI : GhI G) {k w : Nat} (hk : k < G.cn 3) (hw : w < 10) : F_X9_noteOf n st (some 65) (nI k) (nI w) = some (nI (G.nt k w)) := by
  have b := hI.2.2.2.1
  unfold F_X9_noteOf
  simp (disch := omega) only [g65_4 hS, Option.bind_some, l10, nMul, nAdd, C_val (c70 hS), hT.2.2.2.2.1 k w hk hw]
/-- the model's -/
theorem M_noteAt (hS : Sh st) (hM : ModB (cI st 107) G) (hI : GhI G) {k w : Nat} (hk : k < G.cn 3) (hw : w < 10) : F_X11_noteAt n st (some 106) (nI k) (nI w) = some (nI (G.nt k w)) := by
  have b := hI.2.2.2.1
  unfold F_X11_noteAt
  simp (disch := omega) only [g106_0 hS, Option.bind_some, l10, l1730, nMul, nAdd, a107 hS, ixT, nIc, if_true, hM.2.2.2.2.2.2.2.2.1 k w hk hw]
theorem M_isOf_t (hS : Sh st) (hM : ModB (cI st 107) G) {w j : Nat} (hw : w < 3) (hj : j < G.cn w) (hb : G.cn w < 1000) : F_X11_isOf n st (some 106) (nI w) (nI j) = some 1 := by
  rw [M_isOf hS w hw, hM.1 w (by omega), bI_t (in_t hj (by omega))]
theorem M_isOf_f (hS : Sh st) (hM : ModB (cI st 107) G) {w : Nat} {x : Int32} (hw : w < 3) (hb : G.cn w < 1000) (hx : ∀ j, j < G.cn w → ¬ x = nI j) : F_X11_isOf n st (some 106) (nI w) x = some 0 := by
  rw [M_isOf hS w hw, hM.1 w (by omega), bI_f (in_f (by omega) hx)]
theorem rzN0 : rz (nI 0) = some (nI 0) := rfl
theorem rzN1 : rz (nI 1) = some (nI 1) := rfl
theorem nNegN (k : Nat) : -(nI k) = zI (-(k : Int)) := by rw [nZ, zNeg]
theorem nEqM {a k : Nat} (ha : a < 2147483648) (h0 : 0 < k) (hk : k < 2147483648) : (nI a = zI (-(k : Int))) = False := by
  rw [nZ, zEq (by omega) (by omega) (by omega) (by omega)]
  exact propext ⟨fun h => by omega, False.elim⟩
theorem nEqM' {a k : Nat} (ha : a < 2147483648) (h0 : 0 < k) (hk : k < 2147483648) : (zI (-(k : Int)) = nI a) = False := by
  rw [nZ, zEq (by omega) (by omega) (by omega) (by omega)]
  exact propext ⟨fun h => by omega, False.elim⟩
theorem M_in_t {j b : Nat} (h : j ≤ b) (hb : b < 2147483648) : F_X11_isIn n st (nI j) (nI 0) (nI b) = some 1 := by rw [M_isIn]; exact congrArg some (bI_t ⟨nI_pos' (by omega), nI_le h hb⟩)
theorem M_in_f {x : Int32} {b : Nat} (hx : ∀ j, j < b + 1 → ¬ x = nI j) (hb : b + 1 < 2147483648) : F_X11_isIn n st x (nI 0) (nI b) = some 0 := by rw [M_isIn]; exact congrArg some (bI_f (in_f2 hb hx))
theorem M_inc_t {j N : Nat} (h : j < N) (hb : N < 2147483648) : F_X11_isIn n st (nI j) (nI 0) (nI N - nI 1) = some 1 := by rw [M_isIn]; exact congrArg some (bI_t (in_t h hb))
theorem M_inc_f {x : Int32} {N : Nat} (hx : ∀ j, j < N → ¬ x = nI j) (hb : N < 2147483648) : F_X11_isIn n st x (nI 0) (nI N - nI 1) = some 0 := by rw [M_isIn]; exact congrArg some (bI_f (in_f hb hx))
theorem M_inr_t {j a b : Nat} (h1 : a ≤ j) (h : j ≤ b) (hb : b < 2147483648) : F_X11_isIn n st (nI j) (nI a) (nI b) = some 1 := by rw [M_isIn]; exact congrArg some (bI_t ⟨nI_le h1 (by omega), nI_le h hb⟩)
theorem M_inr_f {x : Int32} {a b : Nat} (hx : ∀ j, a ≤ j → j ≤ b → ¬ x = nI j) (ha : a < 2147483648) (hb : b + 1 < 2147483648) : F_X11_isIn n st x (nI a) (nI b) = some 0 := by
  rw [M_isIn, bI_f]
  rintro ⟨h1, h2⟩
  rcases pk_ix x (n := b + 1) hb with h3 | h3 | ⟨j, h3, rfl⟩
  · exact Int32.not_lt.mpr h1 (Int32.lt_of_lt_of_le h3 (nI_pos' (n := a) (by omega)))
  · exact absurd (Int32.le_trans h3 h2) (nI_ge (by omega) hb)
  · exact hx j (by
      refine Classical.byContradiction fun h => ?_
      exact nI_ge (a := j) (b := a) (by omega) (by omega) h1) (by omega) rfl
theorem C_in_t {j b : Nat} (h : j ≤ b) (hb : b < 2147483648) : F_X10_within n st (nI j) (nI 0) (nI b) = some 1 := M_in_t (n := n) (st := st) h hb
theorem C_in_f {x : Int32} {b : Nat} (hx : ∀ j, j < b + 1 → ¬ x = nI j) (hb : b + 1 < 2147483648) : F_X10_within n st x (nI 0) (nI b) = some 0 := M_in_f (n := n) (st := st) hx hb
theorem C_inr_t {j a b : Nat} (h1 : a ≤ j) (h : j ≤ b) (hb : b < 2147483648) : F_X10_within n st (nI j) (nI a) (nI b) = some 1 := M_inr_t (n := n) (st := st) h1 h hb
theorem C_inr_f {x : Int32} {a b : Nat} (hx : ∀ j, a ≤ j → j ≤ b → ¬ x = nI j) (ha : a < 2147483648) (hb : b + 1 < 2147483648) : F_X10_within n st x (nI a) (nI b) = some 0 := M_inr_f (n := n) (st := st) hx ha hb
theorem C_inc_t {j N : Nat} (h : j < N) (hb : N < 2147483648) : F_X10_within n st (nI j) (nI 0) (nI N - nI 1) = some 1 := M_inc_t (n := n) (st := st) h hb
theorem nOut4 {x : Int32} {N : Nat} (hN : N < 2147483648) (h : ∀ j, j < N → ¬ x = nI j) : x < nI 0 ∨ (¬ x < nI 0 ∧ nI N ≤ x ∧ ¬ x < nI N ∧ ∀ M, M < N → ¬ x ≤ nI M) := by
  by_cases h0 : x < nI 0
  · exact Or.inl h0
  · have h1 := (nOut hN h).resolve_left h0
    exact Or.inr ⟨h0, h1, Int32.not_lt.mpr h1, fun M hM h2 => nI_ge hM hN (Int32.le_trans h1 h2)⟩
end RD

/-! BOTH, OFF: the model clears its rows; shares of any long -/
def SvM (st : xS) (m : Nat) (R : Nat → Nat → Int64) (r : Option (Int64 × xS)) : Prop := (∃ st', r = some ((gSu m R m).1, st') ∧ MlL st st' ∧ (∀ a b, a < m → b < 7 → cL st' 111 (7 * a + b) = (gSu m R m).2 a b) ∧ ∀ k, k < m → ¬ (gSu m R k).2 k k = 0) ∨ ∃ st' p, r = some (0, st') ∧ MlL st st' ∧ p < m ∧ (gSu m R p).2 p p = 0 ∧ ∀ k, k < p → ¬ (gSu m R k).2 k k = 0
section MC
variable {st st1 : xS} {n : Nat} {G : Gh} {I : Im} {x y : Int32}
theorem M_first_t (hS : Sh st) {m p f : Nat} (hp : p < m) (hm6 : m ≤ 6) (hf : fI st 106 23 = nI m) (h : ¬ cL st 111 (7 * p + p) = 0) (q : Int64) (h0 : 0 < f) : F_X11_clears_L15 n f st (some 106) q (nI p) (nI p) = some (nI p) := by
  obtain ⟨f, rfl⟩ : ∃ j, f = j + 1 := ⟨f - 1, by omega⟩
  have g1 : gI st (some 106) 11 23 = some (nI m) := by rw [g106_23 hS, hf]
  have r1 : aL st (some 111) ((7 : Int32) * nI p + nI p) = some (cL st 111 (7 * p + p)) := by rw [ix7]; exact rM hS (by omega) (by omega)
  rw [F_X11_clears_L15]
  dsimp only
  simp (disch := omega) only [↓Option.bind_some, ↓reduceIte, ↓bnd (g1), ↓bnd (g106_21 hS), ↓bnd (r1), nLe_f, cmpE, eq_false h]
theorem M_first_f (hS : Sh st) {m p : Nat} (hp : p < m) (hm6 : m ≤ 6) (hf : fI st 106 23 = nI m) (q : Int64) : ∀ d i, i + d = m → ∀ f, d < f → (∀ j, i ≤ j → j < m → cL st 111 (7 * j + p) = 0) → F_X11_clears_L15 n f st (some 106) q (nI p) (nI i) = some (nI m) := by
  have g1 : gI st (some 106) 11 23 = some (nI m) := by rw [g106_23 hS, hf]
  intro d
  induction d with
  | zero =>
    intro i hi f h0 _
    obtain ⟨f, rfl⟩ : ∃ j, f = j + 1 := ⟨f - 1, by omega⟩
    obtain rfl : i = m := hi
    rw [F_X11_clears_L15]
    dsimp only
    simp (disch := omega) only [↓Option.bind_some, ↓reduceIte, ↓bnd (g1), nLe_t]
  | succ d ih =>
    intro i hi f h0 h
    obtain ⟨f, rfl⟩ : ∃ j, f = j + 1 := ⟨f - 1, by omega⟩
    have r1 : aL st (some 111) ((7 : Int32) * nI i + nI p) = some (cL st 111 (7 * i + p)) := by rw [ix7]; exact rM hS (by omega) (by omega)
    have z := h i (Nat.le_refl i) (by omega)
    rw [F_X11_clears_L15]
    dsimp only
    simp (disch := omega) only [↓Option.bind_some, ↓reduceIte, ↓bnd (g1), ↓bnd (g106_21 hS), ↓bnd (r1), nLe_f, cmpE, eq_true z, nI_1]
    exact ih (i + 1) (by omega) f (by omega) fun j h1 h2 => h j (by omega) h2
theorem M_swap0 {f p : Nat} (q : Int64) (h0 : 0 < f) : F_X11_clears_L61 n f st (some 106) q (nI p) (nI p) (0 : Int32) = some st := by
  obtain ⟨f, rfl⟩ : ∃ j, f = j + 1 := ⟨f - 1, by omega⟩
  rw [F_X11_clears_L61]
  dsimp only
  rw [if_neg (by decide), if_pos rfl]
theorem M_take0 {f p : Nat} (q w v : Int64) (h0 : 0 < f) : F_X11_clears_L177 n f st (some 106) q (nI p) w (nI p) v (0 : Int32) = some st := by
  obtain ⟨f, rfl⟩ : ∃ j, f = j + 1 := ⟨f - 1, by omega⟩
  rw [F_X11_clears_L177]
  dsimp only
  rw [if_neg (by decide), if_pos rfl]
theorem M_take (hS : Sh st) {i p : Nat} (hi : i < 6) (hp : p < 6) (hip : ¬ i = p) {q : Int64} (hq : ¬ q = 0) (w v : Int64) (hn : 3000 ≤ n) : ∃ st', F_X11_clears_L177 n n st (some 106) q (nI p) w (nI i) v (0 : Int32) = some st' ∧ MlL st st' ∧ ∀ a b, a < 6 → b < 7 → cL st' 111 (7 * a + b) = if a = i then (cL st 111 (7 * i + b) * w - cL st 111 (7 * p + b) * v) / q else cL st 111 (7 * a + b) := by
  refine loop_ex (fun f (s : xS × Int32) => F_X11_clears_L177 n f s.1 (some 106) q (nI p) w (nI i) v s.2) (fun j s => MlL st s.1 ∧ (∀ a b, a < 6 → b < 7 → cL s.1 111 (7 * a + b) = if a = i ∧ b < j then (cL st 111 (7 * i + b) * w - cL st 111 (7 * p + b) * v) / q else cL st 111 (7 * a + b)) ∧ s.2 = nI j) 7 (fun r => ∃ st', r = some st' ∧ MlL st st' ∧ ∀ a b, a < 6 → b < 7 → cL st' 111 (7 * a + b) = if a = i then (cL st 111 (7 * i + b) * w - cL st 111 (7 * p + b) * v) / q else cL st 111 (7 * a + b)) ?_ ?_ n (by omega) (st, 0) ⟨Only.refl hS, fun a b ha hb => by rw [if_neg (fun h => Nat.not_lt_zero b h.2)], rfl⟩
  · rintro f j ⟨s, z⟩ hj ⟨h1, h2, h3⟩
    dsimp only at h1 h2 h3 ⊢
    subst h3
    have S := h1.2.2.1
    have nk : (nI i = nI p) = False := nEq_f hip (by omega) (by omega)
    have r1 : aL s (some 111) ((7 : Int32) * nI i + nI j) = some (cL st 111 (7 * i + j)) := by rw [ix7, rM S hi hj, h2 i j hi hj, if_neg (fun h => Nat.lt_irrefl j h.2)]
    have r2 : aL s (some 111) ((7 : Int32) * nI p + nI j) = some (cL st 111 (7 * p + j)) := by rw [ix7, rM S hp hj, h2 p j hp hj, if_neg (fun h => hip h.1.symm)]
    have d1 : dL (cL st 111 (7 * i + j) * w - cL st 111 (7 * p + j) * v) q = _ := dLw hq
    obtain ⟨s1, w1, o1, k1, k2⟩ := wM S hi hj ((cL st 111 (7 * i + j) * w - cL st 111 (7 * p + j) * v) / q)
    rw [← ix7] at w1
    refine ⟨(s1, nI (j + 1)), ⟨h1.trans o1, fun a b ha hb => ?_, rfl⟩, ?_⟩
    · dsimp only
      by_cases qb : a = i ∧ b = j
      · rw [qb.1, qb.2, k1, if_pos ⟨rfl, Nat.lt_succ_self j⟩]
      · rw [k2 a b hb qb, h2 a b ha hb]
        by_cases q2 : a = i ∧ b < j
        · rw [if_pos q2, if_pos (show a = i ∧ b < j + 1 by omega)]
        · rw [if_neg q2, if_neg (show ¬ (a = i ∧ b < j + 1) by omega)]
    · dsimp only
      rw [F_X11_clears_L177]
      dsimp only
      simp (disch := omega) only [↓Option.bind_some, ↓reduceIte, ↓bnd (g106_21 S), ↓bnd (r1), ↓bnd (r2), ↓bnd (d1), ↓bnd (w1), nk, nI_1, show ((7 : Int32) ≤ nI j) = False from nLe_f (a := 7) hj (by decide)]
  · rintro f ⟨s, z⟩ ⟨h1, h2, h3⟩
    dsimp only at h1 h2 h3 ⊢
    subst h3
    refine ⟨s, ?_, h1, fun a b ha hb => ?_⟩
    · rw [F_X11_clears_L177]
      dsimp only
      rw [if_pos (by decide)]
    · rw [h2 a b ha hb]
      by_cases q1 : a = i
      · rw [if_pos ⟨q1, hb⟩, if_pos q1]
      · rw [if_neg (fun h => q1 h.1), if_neg q1]
theorem M_cl151 (hS : Sh st) {m k : Nat} (hm6 : m ≤ 6) (hk : k < m) (hf : fI st 106 23 = nI m) {R : Nat → Nat → Int64} (hR : ∀ a b, a < m → b < 7 → cL st 111 (7 * a + b) = R a b) {q : Int64} (hq : ¬ q = 0) (hn : 3000 ≤ n) : ∃ st', F_X11_clears_L151 n n st (some 106) q (nI k) (R k k) (0 : Int32) = some st' ∧ MlL st st' ∧ ∀ a b, a < m → b < 7 → cL st' 111 (7 * a + b) = gst m k q R a b := by
  have gk : ∀ b, gst m k q R k b = R k b := fun b => if_neg fun h => h.2 rfl
  refine loop_ex (fun f (s : xS × Int32) => F_X11_clears_L151 n f s.1 (some 106) q (nI k) (R k k) s.2) (fun i s => MlL st s.1 ∧ (∀ a b, a < m → b < 7 → cL s.1 111 (7 * a + b) = if a < i then gst m k q R a b else R a b) ∧ s.2 = nI i) m (fun r => ∃ st', r = some st' ∧ MlL st st' ∧ ∀ a b, a < m → b < 7 → cL st' 111 (7 * a + b) = gst m k q R a b) ?_ ?_ n (by omega) (st, 0) ⟨Only.refl hS, fun a b ha hb => by rw [if_neg (Nat.not_lt_zero a)]; exact hR a b ha hb, rfl⟩
  · rintro f i ⟨s, z⟩ hi ⟨h1, h2, h3⟩
    dsimp only at h1 h2 h3 ⊢
    subst h3
    have S := h1.2.2.1
    have g1 : gI s (some 106) 11 23 = some (nI m) := by rw [g106_23 S, fI_o h1 (by decide), hf]
    have r1 : aL s (some 111) ((7 : Int32) * nI i + nI k) = some (cL s 111 (7 * i + k)) := by rw [ix7]; exact rM S (by omega) (by omega)
    by_cases c : i = k
    · have e1 : F_X11_clears_L177 n n s (some 106) q (nI k) (R k k) (nI i) (cL s 111 (7 * i + k)) (0 : Int32) = some s := by rw [c]; exact M_take0 q _ _ (by omega)
      refine ⟨(s, nI (i + 1)), ⟨h1, fun a b ha hb => ?_, rfl⟩, ?_⟩
      · dsimp only
        rw [h2 a b ha hb]
        by_cases q1 : a = i
        · rw [if_neg (by omega), if_pos (by omega), q1, c, gk]
        · by_cases q2 : a < i
          · rw [if_pos q2, if_pos (show a < i + 1 by omega)]
          · rw [if_neg q2, if_neg (show ¬ a < i + 1 by omega)]
      · dsimp only
        rw [F_X11_clears_L151]
        dsimp only
        simp (disch := omega) only [↓Option.bind_some, ↓reduceIte, ↓bnd (g1), ↓bnd (g106_21 S), ↓bnd (r1), ↓bnd (e1), nLe_f, nI_1]
    · obtain ⟨s1, e1, o1, k1⟩ := M_take (n := n) S (i := i) (p := k) (by omega) (by omega) c hq (R k k) (cL s 111 (7 * i + k)) hn
      refine ⟨(s1, nI (i + 1)), ⟨h1.trans o1, fun a b ha hb => ?_, rfl⟩, ?_⟩
      · dsimp only
        rw [k1 a b (by omega) hb]
        by_cases q1 : a = i
        · subst q1
          have kb : cL s 111 (7 * k + b) = R k b := by
            rw [h2 k b hk hb]
            split
            · exact gk b
            · rfl
          rw [if_pos rfl, if_pos (Nat.lt_succ_self a), h2 a b ha hb, if_neg (Nat.lt_irrefl a), h2 a k ha (by omega), if_neg (Nat.lt_irrefl a), kb, Int64.mul_comm (R a b), Int64.mul_comm (R k b)]
          exact (if_pos ⟨ha, c⟩).symm
        · rw [if_neg q1, h2 a b ha hb]
          by_cases q2 : a < i
          · rw [if_pos q2, if_pos (show a < i + 1 by omega)]
          · rw [if_neg q2, if_neg (show ¬ a < i + 1 by omega)]
      · dsimp only
        rw [F_X11_clears_L151]
        dsimp only
        simp (disch := omega) only [↓Option.bind_some, ↓reduceIte, ↓bnd (g1), ↓bnd (g106_21 S), ↓bnd (r1), ↓bnd (e1), nLe_f, nI_1]
  · rintro f ⟨s, z⟩ ⟨h1, h2, h3⟩
    dsimp only at h1 h2 h3 ⊢
    subst h3
    have g1 : gI s (some 106) 11 23 = some (nI m) := by rw [g106_23 h1.2.2.1, fI_o h1 (by decide), hf]
    refine ⟨s, ?_, h1, fun a b ha hb => by rw [h2 a b ha hb, if_pos ha]⟩
    rw [F_X11_clears_L151]
    dsimp only
    simp (disch := omega) only [↓Option.bind_some, ↓reduceIte, ↓bnd (g1), nLe_t]
theorem M_cl4 {m : Nat} (hm6 : m ≤ 6) (hf : fI st 106 23 = nI m) {R : Nat → Nat → Int64} (Z : ∀ p, p < m → (∀ k, k < p → ¬ (gSu m R k).2 k k = 0) → (gSu m R p).2 p p = 0 → ∀ i, p ≤ i → i < m → (gSu m R p).2 i p = 0) (hn : 3000 ≤ n) : ∀ d p, p + d = m → ∀ f s, d < f → MlL st s → (∀ a b, a < m → b < 7 → cL s 111 (7 * a + b) = (gSu m R p).2 a b) → (∀ k, k < p → ¬ (gSu m R k).2 k k = 0) → SvM st m R (F_X11_clears_L4 n f s (some 106) (gSu m R p).1 (nI p)) := by
  intro d
  induction d with
  | zero =>
    intro p hp f s hf2 o h hz
    obtain ⟨f, rfl⟩ : ∃ j, f = j + 1 := ⟨f - 1, by omega⟩
    obtain rfl : p = m := hp
    have g1 : gI s (some 106) 11 23 = some (nI p) := by rw [g106_23 o.2.2.1, fI_o o (by decide), hf]
    refine Or.inl ⟨s, ?_, o, h, hz⟩
    rw [F_X11_clears_L4]
    dsimp only
    simp (disch := omega) only [↓Option.bind_some, ↓reduceIte, ↓bnd (g1), nLe_t]
  | succ d ih =>
    intro p hp f s hf2 o h hz
    obtain ⟨f, rfl⟩ : ∃ j, f = j + 1 := ⟨f - 1, by omega⟩
    have S := o.2.2.1
    have fs : fI s 106 23 = nI m := by rw [fI_o o (by decide), hf]
    have g1 : gI s (some 106) 11 23 = some (nI m) := by rw [g106_23 S, fs]
    by_cases c : (gSu m R p).2 p p = 0
    · have e1 := M_first_f (n := n) S (show p < m by omega) hm6 fs (gSu m R p).1 (d + 1) p hp n (by omega) fun j h1 h2 => by rw [h j p h2 (by omega)]; exact Z p (by omega) hz c j h1 h2
      refine Or.inr ⟨s, p, ?_, o, by omega, c, hz⟩
      rw [F_X11_clears_L4]
      dsimp only
      simp (disch := omega) only [↓Option.bind_some, ↓reduceIte, ↓bnd (g1), ↓bnd (e1), nLe_f]
    · have e1 := M_first_t (n := n) (f := n) S (show p < m by omega) hm6 fs (by rw [h p p (by omega) (by omega)]; exact c) (gSu m R p).1 (by omega)
      have e2 := M_swap0 (n := n) (st := s) (f := n) (p := p) (gSu m R p).1 (by omega)
      have r1 : aL s (some 111) ((7 : Int32) * nI p + nI p) = some ((gSu m R p).2 p p) := by rw [ix7, rM S (by omega) (by omega), h p p (by omega) (by omega)]
      have nk : (nI p = nI m) = False := nEq_f (by omega) (by omega) (by omega)
      obtain ⟨s1, e3, o1, k1⟩ := M_cl151 (n := n) S hm6 (show p < m by omega) fs h (gSu_q hz) hn
      have k := ih (p + 1) (by omega) f s1 (by omega) (o.trans o1) k1 (fun k hk => by
        by_cases q : k = p
        · rw [q]; exact c
        · exact hz k (by omega))
      rw [F_X11_clears_L4]
      dsimp only
      simp (disch := omega) only [↓Option.bind_some, ↓reduceIte, ↓bnd (g1), ↓bnd (e1), ↓bnd (e2), ↓bnd (g106_21 S), ↓bnd (r1), ↓bnd (e3), nLe_f, nk, nI_1]
      exact k
theorem M_clears (hS : Sh st) {m : Nat} (hm6 : m ≤ 6) (hf : fI st 106 23 = nI m) {R : Nat → Nat → Int64} (Z : ∀ p, p < m → (∀ k, k < p → ¬ (gSu m R k).2 k k = 0) → (gSu m R p).2 p p = 0 → ∀ i, p ≤ i → i < m → (gSu m R p).2 i p = 0) (hR : ∀ a b, a < m → b < 7 → cL st 111 (7 * a + b) = R a b) (hn : 3000 ≤ n) : SvM st m R (F_X11_clears n st (some 106)) := M_cl4 hm6 hf Z hn m 0 (Nat.zero_add m) n st (by omega) (Only.refl hS) hR fun k hk => absurd hk (Nat.not_lt_zero k)
end MC
/-! shares of any long -/
theorem cmpG (v : Int64) : ((0 : Int32) ≤ lg_cmp v (0 : Int64)) = ((0 : Int64) ≤ v) := propext (lg_cmp_ge _ _)
theorem dM_w {a b : Int} (ha : -9223372036854775808 ≤ a ∧ a < 9223372036854775808) (hb : sm b) (h0 : b ≠ 0) : dM (lZ a) (lZ b) = some (lZ (a.tmod b)) := by
  unfold sm at hb
  have e1 : Int64.minValue.toInt = -9223372036854775808 := by decide
  have e2 : Int64.maxValue.toInt = 9223372036854775807 := by decide
  have e : lZ a / lZ b = lZ (a.tdiv b) := (Int64.ofInt_tdiv (by rw [e1]; omega) (by rw [e2]; omega) (by rw [e1]; omega) (by rw [e2]; omega)).symm
  unfold dM
  rw [if_neg (by rw [lZ_0, lEq (by omega) (by omega) (by omega) (by omega)]; exact h0), e, lZMul, lZSub, Int.tmod_def, Int.mul_comm]
theorem lZ_of (v : Int64) : ∃ t : Int, v = lZ t ∧ -9223372036854775808 ≤ t ∧ t < 9223372036854775808 := by
  refine ⟨v.toInt, (Int64.ofInt_toInt v).symm, ?_, ?_⟩
  · have := Int64.le_toInt v
    omega
  · have := Int64.toInt_lt v
    omega
theorem tmod_lt (a : Int) {b : Int} (h : b ≠ 0) : (a.tmod b).natAbs < b.natAbs := by
  rw [Int.natAbs_tmod]
  exact Nat.mod_lt _ (by omega)
theorem CM_euc {n : Nat} {st st2 : xS} (m : Nat) : ∀ (a b : Int) i k k', (-9223372036854775808 ≤ a ∧ a < 9223372036854775808) → sm b → b.natAbs < 2 ^ m → i + 2 * m + 1 ≤ 100 → 2 * m + 2 ≤ k → 2 * m + 2 ≤ k' → (a ≠ 0 ∨ b ≠ 0) → ∃ g : Int64, F_X10_common_L15 n k st (lZ a) (lZ b) (nI i) = some g ∧ F_X11_common_L28 n k' st2 (lZ a) (lZ b) = some g ∧ ¬ g = 0 := by
  have stop : ∀ (a : Int) i k k', (-9223372036854775808 ≤ a ∧ a < 9223372036854775808) → a ≠ 0 → i < 100 → ∃ g : Int64, F_X10_common_L15 n (k + 1) st (lZ a) (lZ 0) (nI i) = some g ∧ F_X11_common_L28 n (k' + 1) st2 (lZ a) (lZ 0) = some g ∧ ¬ g = 0 := by
    intro a i k k' ha h0 hi
    refine ⟨lZ a, ?_, ?_, ?_⟩
    · rw [F_X10_common_L15]
      dsimp only
      simp (disch := omega) only [l100, nLe_f, if_false, cmpE, show (lZ 0 = 0) = True from eq_true rfl, if_true]
    · rw [F_X11_common_L28]
      dsimp only
      simp only [cmpE, show (lZ 0 = 0) = True from eq_true rfl, if_true]
    · rw [lZ_0, lEq (by omega) (by omega) (by omega) (by omega)]
      exact h0
  have step : ∀ (a b : Int) i k k', (-9223372036854775808 ≤ a ∧ a < 9223372036854775808) → sm b → b ≠ 0 → i < 100 → F_X10_common_L15 n (k + 1) st (lZ a) (lZ b) (nI i) = F_X10_common_L15 n k st (lZ b) (lZ (a.tmod b)) (nI (i + 1)) ∧ F_X11_common_L28 n (k' + 1) st2 (lZ a) (lZ b) = F_X11_common_L28 n k' st2 (lZ b) (lZ (a.tmod b)) := by
    intro a b i k k' ha hb h0 hi
    have nz : (lZ b = 0) = False := by
      unfold sm at hb
      rw [lZ_0, lEq (by omega) (by omega) (by omega) (by omega)]
      exact eq_false h0
    refine ⟨?_, ?_⟩
    · rw [F_X10_common_L15]
      dsimp only
      simp (disch := omega) only [l100, nLe_f, if_false, cmpE, nz, dM_w ha hb h0, Option.bind_some, nI_1]
    · rw [F_X11_common_L28]
      dsimp only
      simp only [cmpE, nz, if_false, dM_w ha hb h0, Option.bind_some]
  induction m with
  | zero =>
    intro a b i k k' ha hb h1 h2 h3 h4 hne
    obtain ⟨k, rfl⟩ : ∃ j, k = j + 1 := ⟨k - 1, by omega⟩
    obtain ⟨k', rfl⟩ : ∃ j, k' = j + 1 := ⟨k' - 1, by omega⟩
    have : b = 0 := by rw [Nat.pow_zero] at h1; omega
    subst this
    exact stop a i k k' ha (by omega) (by omega)
  | succ m ih =>
    intro a b i k k' ha hb h1 h2 h3 h4 hne
    obtain ⟨k, rfl⟩ : ∃ j, k = j + 2 := ⟨k - 2, by omega⟩
    obtain ⟨k', rfl⟩ : ∃ j, k' = j + 2 := ⟨k' - 2, by omega⟩
    by_cases h0 : b = 0
    · subst h0
      exact stop a i (k + 1) (k' + 1) ha (by omega) (by omega)
    · have s1 := step a b i (k + 1) (k' + 1) ha hb h0 (by omega)
      have r1 := tmod_lt a h0
      have hb' := hb
      unfold sm at hb'
      rw [s1.1, s1.2]
      by_cases hr : a.tmod b = 0
      · rw [hr]
        exact stop b (i + 1) k k' (by omega) h0 (by omega)
      · have s2 := step b (a.tmod b) (i + 1) k k' (by omega) (by unfold sm; omega) hr (by omega)
        rw [s2.1, s2.2]
        have hh := half_lt r1 h1 (by omega)
        rw [← Int.natAbs_tmod] at hh
        have r2 := tmod_lt b hr
        exact ih (a.tmod b) (b.tmod (a.tmod b)) (i + 1 + 1) k k' (by omega) (by unfold sm; omega) hh (by omega) (by omega) (by omega) (Or.inl hr)
theorem labs_if (a : Int64) : ((if (0 : Int32) ≤ lg_cmp a (0 : Int64) then some a else some (-a)) : Option Int64) = some (labs a) := by
  obtain ⟨t, rfl, h1, h2⟩ := lZ_of a
  have q1 : ((0 : Int64) ≤ lZ t) = (0 ≤ t) := by rw [lZ_0, lLe (by omega) (by omega) (by omega) (by omega)]
  have q2 : ((0 : Int64) < lZ t) = (0 < t) := by rw [lZ_0, lLt (by omega) (by omega) (by omega) (by omega)]
  unfold labs
  simp only [cmpG, q1, q2]
  by_cases c : 0 < t
  · rw [if_pos c, if_pos (by omega)]
  · rw [if_neg c]
    by_cases c0 : t = 0
    · subst c0; rfl
    · rw [if_neg (by omega)]
theorem CM_share {n : Nat} {st st2 : xS} (a : Int64) {d : Int} (hd : 0 < d) (hd2 : d < 281474976710656) (u : Int32) (hn : 3000 ≤ n) : ∃ v, F_X10_share n st a (lZ d) u = some v ∧ F_X11_least n st2 a (lZ d) u = some v := by
  have hs : sm d := ⟨by omega, by omega⟩
  obtain ⟨t, ht, h1, h2⟩ := lZ_of (labs a)
  obtain ⟨g, e1, e2, e3⟩ := CM_euc (n := n) (st := st) (st2 := st2) 48 t d 0 n n ⟨h1, h2⟩ hs (by omega) (by omega) (by omega) (by omega) (Or.inr (by omega))
  rw [← ht] at e1 e2
  have ld : labs (lZ d) = lZ d := by rw [labs_z hs, show ((d.natAbs : Nat) : Int) = d by omega]
  have e1' : F_X10_common_L15 n n st (labs a) (lZ d) (0 : Int32) = some g := e1
  have c1 : F_X10_common n st a (lZ d) = some g := by
    unfold F_X10_common
    simp only [↓Option.bind_some, ld, ↓bnd (e1')]
  have c2 : F_X11_common n st2 a (lZ d) = some g := by
    unfold F_X11_common
    simp only [labs_if, ld, Option.bind_some, e2]
  have q : ((if (0 : Int32) ≤ lg_cmp (lZ d) (0 : Int64) then some g else some (-g)) : Option Int64) = some g := by
    rw [if_pos]
    rw [cmpGe hs]
    omega
  refine ⟨if u = 0 then a / g else lZ d / g, ?_, ?_⟩
  · unfold F_X10_share
    simp only [↓bnd (c1), ↓bnd (q), cmpE, eq_false e3, if_false, dLw e3, Option.bind_some]
    split <;> rfl
  · unfold F_X11_least
    simp only [↓bnd (c2), ↓bnd (q), dLw e3, Option.bind_some]
    split <;> rfl
theorem lZ_32 {x : Int} (h1 : -2147483648 ≤ x) (h2 : x < 2147483648) : (lZ x).toInt32 = zI x := by
  rw [← Int32.toInt_inj, Int64.toInt_toInt32, lZ_toInt (by omega) (by omega), zI_toInt h1 h2, Int.bmod_eq_of_le (by omega) (by omega)]
theorem shV_c {c a b : Int} (hc : 0 < c) (hb : 0 < b) (u : Int32) : shV (c * a) (c * b) u = shV a b u := by
  have hcb := Int.mul_pos hc hb
  have s : sg (c * a) (c * b) = c * sg a b := by
    unfold sg
    rw [if_pos (by omega), if_pos (by omega), Int.natAbs_mul, Int.natAbs_mul, Nat.gcd_mul_left, Int.natCast_mul, show ((c.natAbs : Nat) : Int) = c by omega]
  unfold shV
  rw [s, Int.mul_tdiv_mul_of_pos _ _ hc, Int.mul_tdiv_mul_of_pos _ _ hc]
theorem sg_1 {a b : Int} (hb : 0 < b) : ∃ g p q : Int, 0 < g ∧ 0 < q ∧ a = g * p ∧ b = g * q ∧ (∀ u : Int32, u = 0 → shV a b u = p) ∧ ∀ u : Int32, ¬ u = 0 → shV a b u = q := by
  have hg : 0 < Nat.gcd a.natAbs b.natAbs := Nat.gcd_pos_of_pos_right _ (by omega)
  have e : sg a b = (Nat.gcd a.natAbs b.natAbs : Nat) := if_pos (by omega)
  have d1 : ((Nat.gcd a.natAbs b.natAbs : Nat) : Int) ∣ a := Int.ofNat_dvd_left.mpr (Nat.gcd_dvd_left _ _)
  have d2 : ((Nat.gcd a.natAbs b.natAbs : Nat) : Int) ∣ b := Int.ofNat_dvd_left.mpr (Nat.gcd_dvd_right _ _)
  obtain ⟨p, hp⟩ := d1
  obtain ⟨q, hq⟩ := d2
  have g0 : (0 : Int) < ((Nat.gcd a.natAbs b.natAbs : Nat) : Int) := by omega
  refine ⟨_, p, q, g0, ?_, hp, hq, fun u hu => ?_, fun u hu => ?_⟩
  · have h : 0 < ((Nat.gcd a.natAbs b.natAbs : Nat) : Int) * q := by rw [← hq]; exact hb
    exact Int.pos_of_mul_pos_right h g0
  · unfold shV
    rw [if_pos hu, e]
    generalize ((Nat.gcd a.natAbs b.natAbs : Nat) : Int) = g at *
    rw [hp, Int.mul_tdiv_cancel_left _ (by omega)]
  · unfold shV
    rw [if_neg hu, e]
    generalize ((Nat.gcd a.natAbs b.natAbs : Nat) : Int) = g at *
    rw [hq, Int.mul_tdiv_cancel_left _ (by omega)]

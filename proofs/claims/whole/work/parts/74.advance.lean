/-! TOKENS: the model -/
section AD
variable {st st1 st2 s s1 : xS} {n len p : Nat} {tp : Nat → Nat}
/-- the model over a text -/
def RN (st : xS) (tp : Nat → Nat) (len : Nat) : Prop := Sh st ∧ fI st 106 2 = nI len ∧ len ≤ 500 ∧ (∀ i, tp i < 256) ∧ ∀ i, i < 500 → cI st 107 (10 + i) = nI (tp i)
def MF (st st' : xS) : Prop := Only (fun a => a = 106) st st' ∧ ∀ k, k < 3 ∨ 7 < k → fV st' 106 k = fV st 106 k
theorem MF.refl (h : Sh st) : MF st st := ⟨Only.refl h, fun _ _ => rfl⟩
theorem MF.trans (h : MF st st1) (k : MF st1 st2) : MF st st2 := ⟨h.1.trans k.1, fun i hi => (k.2 i hi).trans (h.2 i hi)⟩
theorem MF.i (h : MF st st1) {k : Nat} (hk : k < 3 ∨ 7 < k) : fI st1 106 k = fI st 106 k := by unfold fI; rw [h.2 k hk]
theorem RN.mf (h : RN st tp len) (k : MF st st1) : RN st1 tp len := by
  obtain ⟨h1, h2, h3, h4, h5⟩ := h
  exact ⟨k.1.2.2.1, (k.i (by omega)).trans h2, h3, h4, by rw [cI_o k.1 (by decide)]; exact h5⟩
/-- where it stands: next, where, token, number, word -/
def MT (st : xS) (a b c d e : Int32) : Prop := fI st 106 3 = a ∧ fI st 106 4 = b ∧ fI st 106 5 = c ∧ fI st 106 6 = d ∧ fI st 106 7 = e
theorem MF_V {k : Nat} (hk : 3 ≤ k ∧ k ≤ 7) (v : Value) (hS : Sh (uV s 106 k v)) : MF s (uV s 106 k v) := ⟨Only.uV hS, fun j hj => fV_o (show j ≠ k by omega) v⟩
theorem A_3 (hS : Sh s) {a b c d e : Int32} (h : MT s a b c d e) (v : Int32) : ∃ s', pF s (some 106) 11 3 (.int v) = some s' ∧ MF s s' ∧ MT s' v b c d e := ⟨_, p106_3 hS v, MF_V (by decide) _ (s106_3 hS v), f106_3 hS v, (fI_oth (by decide) _).trans h.2.1, (fI_oth (by decide) _).trans h.2.2.1, (fI_oth (by decide) _).trans h.2.2.2.1, (fI_oth (by decide) _).trans h.2.2.2.2⟩
theorem A_4 (hS : Sh s) {a b c d e : Int32} (h : MT s a b c d e) (v : Int32) : ∃ s', pF s (some 106) 11 4 (.int v) = some s' ∧ MF s s' ∧ MT s' a v c d e := ⟨_, p106_4 hS v, MF_V (by decide) _ (s106_4 hS v), (fI_oth (by decide) _).trans h.1, f106_4 hS v, (fI_oth (by decide) _).trans h.2.2.1, (fI_oth (by decide) _).trans h.2.2.2.1, (fI_oth (by decide) _).trans h.2.2.2.2⟩
theorem A_5 (hS : Sh s) {a b c d e : Int32} (h : MT s a b c d e) (v : Int32) : ∃ s', pF s (some 106) 11 5 (.int v) = some s' ∧ MF s s' ∧ MT s' a b v d e := ⟨_, p106_5 hS v, MF_V (by decide) _ (s106_5 hS v), (fI_oth (by decide) _).trans h.1, (fI_oth (by decide) _).trans h.2.1, f106_5 hS v, (fI_oth (by decide) _).trans h.2.2.2.1, (fI_oth (by decide) _).trans h.2.2.2.2⟩
theorem A_6 (hS : Sh s) {a b c d e : Int32} (h : MT s a b c d e) (v : Int32) : ∃ s', pF s (some 106) 11 6 (.int v) = some s' ∧ MF s s' ∧ MT s' a b c v e := ⟨_, p106_6 hS v, MF_V (by decide) _ (s106_6 hS v), (fI_oth (by decide) _).trans h.1, (fI_oth (by decide) _).trans h.2.1, (fI_oth (by decide) _).trans h.2.2.1, f106_6 hS v, (fI_oth (by decide) _).trans h.2.2.2.2⟩
theorem A_7 (hS : Sh s) {a b c d e : Int32} (h : MT s a b c d e) (v : Int32) : ∃ s', pF s (some 106) 11 7 (.int v) = some s' ∧ MF s s' ∧ MT s' a b c d v := ⟨_, p106_7 hS v, MF_V (by decide) _ (s106_7 hS v), (fI_oth (by decide) _).trans h.1, (fI_oth (by decide) _).trans h.2.1, (fI_oth (by decide) _).trans h.2.2.1, (fI_oth (by decide) _).trans h.2.2.2.1, f106_7 hS v⟩
theorem M_byte (h : RN st tp len) {i : Nat} (hi : i < 2147483648) : F_X11_byteAt n st (some 106) (nI i) = some (sgn tp len i) := by
  obtain ⟨h1, h2, h3, h4, h5⟩ := h
  have gl : gI st (some 106) 11 2 = some (nI len) := by rw [g106_2 h1, h2]
  unfold F_X11_byteAt sgn
  by_cases c : i < len
  · have r : aI st (some 107) ((10 : Int32) + nI i) = some (nI (tp i)) := by
      rw [show (10 : Int32) + nI i = nI (10 + i) from nAdd 10 i, M_all h1 (by omega), h5 i (by omega)]
    simp (disch := omega) only [↓bnd (gl), ↓bnd (g106_0 h1), ↓bnd (r), nLe_f, if_false, c, if_true, Option.bind_some]
  · simp (disch := omega) only [↓bnd (gl), nLe_t, if_true, c, if_false, Option.bind_some]
theorem sgn_eq (h4 : ∀ i, tp i < 256) (len i b : Nat) (hb : b < 256) : (sgn tp len i = nI b) = (i < len ∧ tp i = b) := by
  have t := h4 i
  unfold sgn
  by_cases c : i < len
  · rw [if_pos c, nEq (by omega) (by omega)]
    exact propext ⟨fun h => ⟨c, h⟩, fun h => h.2⟩
  · rw [if_neg c, nNeg1' (by omega)]
    exact propext ⟨False.elim, fun h => c h.1⟩
theorem M_letS (h4 : ∀ i, tp i < 256) (len i : Nat) : F_X11_isLetter n st (sgn tp len i) = some (bI (i < len ∧ ltB (tp i) = true)) := by
  unfold sgn
  by_cases c : i < len
  · have e : F_X11_isLetter n st (nI (tp i)) = _ := C_letter (n := n) (st := st) (h4 i)
    rw [if_pos c, e]
    by_cases l : ltB (tp i) = true
    · rw [if_pos l, bI_t ⟨c, l⟩]
    · rw [if_neg l, bI_f fun q => l q.2]
  · rw [if_neg c, bI_f fun q => c q.1]
    rfl
theorem M_digS (h4 : ∀ i, tp i < 256) (len i : Nat) : F_X11_isDigit n st (sgn tp len i) = some (bI (i < len ∧ dgB (tp i) = true)) := by
  unfold sgn
  by_cases c : i < len
  · have e : F_X11_isDigit n st (nI (tp i)) = _ := C_digit (n := n) (st := st) (h4 i)
    rw [if_pos c, e]
    by_cases l : dgB (tp i) = true
    · rw [if_pos l, bI_t ⟨c, l⟩]
    · rw [if_neg l, bI_f fun q => l q.2]
  · rw [if_neg c, bI_f fun q => c q.1]
    rfl
theorem M_skip {b c d e : Int32} : ∀ f p s, RN s tp len → len - p = f → p ≤ len → MT s (nI p) b c d e → ∀ k, f < k → ∃ s', F_X11_advance_L0 n k s (some 106) = some s' ∧ MF s s' ∧ MT s' (nI (scA blB tp len p)) b c d e := by
  intro f
  induction f with
  | zero =>
    intro p s h hf hp ht k hk
    obtain ⟨k, rfl⟩ : ∃ j, k = j + 1 := ⟨k - 1, by omega⟩
    have b5 := h.2.2.1
    have g3 : gI s (some 106) 11 3 = some (nI p) := by rw [g106_3 h.1, ht.1]
    have sg : F_X11_byteAt n s (some 106) (nI p) = some (-1) := by rw [M_byte h (by omega)]; unfold sgn; rw [if_neg (by omega)]
    refine ⟨s, ?_, MF.refl h.1, by rw [scA_f (by omega)]; exact ht⟩
    rw [F_X11_advance_L0]
    dsimp only
    simp only [↓reduceIte, ↓bnd (g3), ↓bnd (o106 h.1), ↓bnd (sg), show ((-1 : Int32) = 10) = False by decide, show ((-1 : Int32) = 32) = False by decide]
  | succ f ih =>
    intro p s h hf hp ht k hk
    obtain ⟨k, rfl⟩ : ∃ j, k = j + 1 := ⟨k - 1, by omega⟩
    have b5 := h.2.2.1
    have hb := h.2.2.2.1 p
    have g3 : gI s (some 106) 11 3 = some (nI p) := by rw [g106_3 h.1, ht.1]
    have sg : F_X11_byteAt n s (some 106) (nI p) = some (nI (tp p)) := by rw [M_byte h (by omega)]; unfold sgn; rw [if_pos (by omega)]
    have e1 : (nI (tp p) = (10 : Int32)) = (tp p = 10) := nEq (b := 10) (by omega) (by decide)
    have e2 : (nI (tp p) = (32 : Int32)) = (tp p = 32) := nEq (b := 32) (by omega) (by decide)
    by_cases hB : blB (tp p) = true
    · obtain ⟨s1, q1, f1, t1⟩ := A_3 h.1 ht (nI (p + 1))
      obtain ⟨s2, q2, f2, t2⟩ := ih (p + 1) s1 (h.mf f1) (by omega) (by omega) t1 k (by omega)
      refine ⟨s2, ?_, f1.trans f2, by rw [scA_t (by omega) hB]; exact t2⟩
      have hB : tp p = 10 ∨ tp p = 32 := by unfold blB at hB; exact of_decide_eq_true hB
      rw [← q2, F_X11_advance_L0]
      dsimp only
      by_cases c1 : tp p = 10
      · simp only [↓bnd (g3), ↓bnd (o106 h.1), ↓bnd (sg), e1, eq_true c1, if_true, nI_1, ↓bnd (q1)]
      · simp only [↓bnd (g3), ↓bnd (o106 h.1), ↓bnd (sg), e1, e2, eq_false c1, eq_true (hB.resolve_left c1), if_true, if_false, nI_1, ↓bnd (q1)]
    · refine ⟨s, ?_, MF.refl h.1, by rw [scA_f fun q => hB q.2]; exact ht⟩
      have hB : ¬ (tp p = 10 ∨ tp p = 32) := by unfold blB at hB; exact fun q => hB (decide_eq_true q)
      rw [F_X11_advance_L0]
      dsimp only
      simp only [↓bnd (g3), ↓bnd (o106 h.1), ↓bnd (sg), e1, e2, eq_false (fun q => hB (Or.inl q)), eq_false (fun q => hB (Or.inr q)), if_false]
theorem M_letters {q : Nat} {c d e : Int32} : ∀ f p s, RN s tp len → len - p = f → p ≤ len → q ≤ p → (∀ i, q ≤ i → i < p → ltB (tp i) = true) → MT s (nI p) (nI q) c d e → ∀ k, f < k → ∃ s', F_X11_advance_L77 n k s (some 106) (nI (hsh tp q (p - q))) = some (nI (hsh tp q (scA ltB tp len p - q)), s') ∧ MF s s' ∧ MT s' (nI (scA ltB tp len p)) (nI q) c d e := by
  intro f
  induction f with
  | zero =>
    intro p s h hf hp hq hl ht k hk
    obtain ⟨k, rfl⟩ : ∃ j, k = j + 1 := ⟨k - 1, by omega⟩
    have b5 := h.2.2.1
    have g3 : gI s (some 106) 11 3 = some (nI p) := by rw [g106_3 h.1, ht.1]
    have sg := M_byte (n := n) h (show p < 2147483648 by omega)
    have le := M_letS (n := n) (st := s) h.2.2.2.1 len p
    rw [bI_f (by omega)] at le
    refine ⟨s, ?_, MF.refl h.1, by rw [scA_f (by omega)]; exact ht⟩
    rw [F_X11_advance_L77, scA_f (by omega)]
    dsimp only
    simp only [↓reduceIte, ↓bnd (g3), ↓bnd (o106 h.1), ↓bnd (sg), ↓bnd (le)]
  | succ f ih =>
    intro p s h hf hp hq hl ht k hk
    obtain ⟨k, rfl⟩ : ∃ j, k = j + 1 := ⟨k - 1, by omega⟩
    have b5 := h.2.2.1
    have hb := h.2.2.2.1 p
    have g3 : gI s (some 106) 11 3 = some (nI p) := by rw [g106_3 h.1, ht.1]
    have g4 : gI s (some 106) 11 4 = some (nI q) := by rw [g106_4 h.1, ht.2.1]
    have sg : F_X11_byteAt n s (some 106) (nI p) = some (sgn tp len p) := M_byte h (by omega)
    have sv : sgn tp len p = nI (tp p) := if_pos (by omega)
    have le := M_letS (n := n) (st := s) h.2.2.2.1 len p
    by_cases hB : ltB (tp p) = true
    · have hd : 97 ≤ tp p ∧ tp p ≤ 122 := by unfold ltB at hB; exact of_decide_eq_true hB
      rw [bI_t ⟨by omega, hB⟩] at le
      have hh := hsh_le tp q (p - q) fun i hi => by
        have := hl (q + i) (by omega) (by omega)
        unfold ltB at this
        exact (of_decide_eq_true this).2
      have mid : ((if (6 : Int32) ≤ (nI p - nI q) then some (nI (hsh tp q (p - q))) else (gI s (some 106) 11 3).bind fun v49 => (isO s (some 106) 11).bind fun q51 => (F_X11_byteAt n s (some 106) v49).bind fun v50 => (some ((((32 : Int32) * nI (hsh tp q (p - q))) + v50) - (96 : Int32))).bind fun v52 => some v52) : Option Int32) = some (nI (hsh tp q (p + 1 - q))) := by
        rw [show p + 1 - q = (p - q) + 1 by omega, hsh, nSub hq]
        have e : ((6 : Int32) ≤ nI (p - q)) = (6 ≤ p - q) := nLe (a := 6) (by decide) (by omega)
        simp only [e]
        by_cases c6 : 6 ≤ p - q
        · rw [if_pos c6, if_neg (by omega)]
        · rw [if_neg c6, if_pos (by omega), show q + (p - q) = p by omega]
          simp only [↓bnd (g3), ↓bnd (o106 h.1), ↓bnd (sg), sv, Option.bind_some]
          rw [show (32 : Int32) * nI (hsh tp q (p - q)) = nI (32 * hsh tp q (p - q)) from nMul 32 _, nAdd, show nI (32 * hsh tp q (p - q) + tp p) - (96 : Int32) = nI (32 * hsh tp q (p - q) + tp p - 96) from nSub (b := 96) (by omega)]
          exact congrArg (fun z => some (nI z)) (by omega)
      obtain ⟨s1, q1, f1, t1⟩ := A_3 h.1 ht (nI (p + 1))
      obtain ⟨s2, q2, f2, t2⟩ := ih (p + 1) s1 (h.mf f1) (by omega) (by omega) (by omega) (fun i h1 h2 => by
        by_cases hip : i = p
        · rw [hip]; exact hB
        · exact hl i h1 (by omega)) t1 k (by omega)
      refine ⟨s2, ?_, f1.trans f2, by rw [scA_t (by omega) hB]; exact t2⟩
      rw [scA_t (by omega) hB, ← q2, F_X11_advance_L77]
      dsimp only
      simp only [↓bnd (g3), ↓bnd (o106 h.1), ↓bnd (sg), ↓bnd (le), ↓bnd (g4), ↓bnd (mid), one0, if_false, nI_1, ↓bnd (q1)]
    · rw [bI_f fun q => hB q.2] at le
      refine ⟨s, ?_, MF.refl h.1, by rw [scA_f fun q => hB q.2]; exact ht⟩
      rw [F_X11_advance_L77, scA_f fun q => hB q.2]
      dsimp only
      simp only [↓reduceIte, ↓bnd (g3), ↓bnd (o106 h.1), ↓bnd (sg), ↓bnd (le)]
theorem M_digits {q : Nat} {c e : Int32} : ∀ f p s, RN s tp len → len - p = f → p ≤ len → q ≤ p → (∀ i, q ≤ i → i < p → dgB (tp i) = true) → MT s (nI p) (nI q) c (nI (vl tp q (p - q))) e → ∀ k, f < k → ∃ s', F_X11_advance_L195 n k s (some 106) = some s' ∧ MF s s' ∧ MT s' (nI (scA dgB tp len p)) (nI q) c (nI (vl tp q (scA dgB tp len p - q))) e := by
  intro f
  induction f with
  | zero =>
    intro p s h hf hp hq hl ht k hk
    obtain ⟨k, rfl⟩ : ∃ j, k = j + 1 := ⟨k - 1, by omega⟩
    have b5 := h.2.2.1
    have g3 : gI s (some 106) 11 3 = some (nI p) := by rw [g106_3 h.1, ht.1]
    have sg := M_byte (n := n) h (show p < 2147483648 by omega)
    have le := M_digS (n := n) (st := s) h.2.2.2.1 len p
    rw [bI_f (by omega)] at le
    refine ⟨s, ?_, MF.refl h.1, by rw [scA_f (by omega)]; exact ht⟩
    rw [F_X11_advance_L195]
    dsimp only
    simp only [↓reduceIte, ↓bnd (g3), ↓bnd (o106 h.1), ↓bnd (sg), ↓bnd (le)]
  | succ f ih =>
    intro p s h hf hp hq hl ht k hk
    obtain ⟨k, rfl⟩ : ∃ j, k = j + 1 := ⟨k - 1, by omega⟩
    have b5 := h.2.2.1
    have hb := h.2.2.2.1 p
    have g3 : gI s (some 106) 11 3 = some (nI p) := by rw [g106_3 h.1, ht.1]
    have g4 : gI s (some 106) 11 4 = some (nI q) := by rw [g106_4 h.1, ht.2.1]
    have g6 : gI s (some 106) 11 6 = some (nI (vl tp q (p - q))) := by rw [g106_6 h.1, ht.2.2.2.1]
    have sg : F_X11_byteAt n s (some 106) (nI p) = some (sgn tp len p) := M_byte h (by omega)
    have sv : sgn tp len p = nI (tp p) := if_pos (by omega)
    have le := M_digS (n := n) (st := s) h.2.2.2.1 len p
    by_cases hB : dgB (tp p) = true
    · have hd : 48 ≤ tp p ∧ tp p ≤ 57 := by unfold dgB at hB; exact of_decide_eq_true hB
      rw [bI_t ⟨by omega, hB⟩] at le
      have mid : ∃ s1, ((if (4 : Int32) ≤ (nI p - nI q) then some s else (gI s (some 106) 11 6).bind fun v30 => (gI s (some 106) 11 3).bind fun v31 => (isO s (some 106) 11).bind fun q33 => (F_X11_byteAt n s (some 106) v31).bind fun v32 => (pF s (some 106) 11 6 (.int ((((10 : Int32) * v30) + v32) - (48 : Int32)))).bind fun s34 => some s34) : Option xS) = some s1 ∧ MF s s1 ∧ MT s1 (nI p) (nI q) c (nI (vl tp q (p + 1 - q))) e := by
        rw [show p + 1 - q = (p - q) + 1 by omega, vl, nSub hq]
        have e4 : ((4 : Int32) ≤ nI (p - q)) = (4 ≤ p - q) := nLe (a := 4) (by decide) (by omega)
        simp only [e4]
        by_cases c4 : 4 ≤ p - q
        · rw [if_pos c4, if_neg (by omega)]
          exact ⟨s, rfl, MF.refl h.1, ht⟩
        · rw [if_neg c4, if_pos (by omega), show q + (p - q) = p by omega]
          have ev : (((10 : Int32) * nI (vl tp q (p - q))) + nI (tp p)) - (48 : Int32) = nI (10 * vl tp q (p - q) + (tp p - 48)) := by
            rw [show (10 : Int32) * nI (vl tp q (p - q)) = nI (10 * vl tp q (p - q)) from nMul 10 _, nAdd, show nI (10 * vl tp q (p - q) + tp p) - (48 : Int32) = nI (10 * vl tp q (p - q) + tp p - 48) from nSub (b := 48) (by omega)]
            exact congrArg nI (by omega)
          obtain ⟨s1, e1, f1, t1⟩ := A_6 h.1 ht (nI (10 * vl tp q (p - q) + (tp p - 48)))
          exact ⟨s1, by simp only [↓bnd (g6), ↓bnd (g3), ↓bnd (o106 h.1), ↓bnd (sg), sv, ev, ↓bnd (e1)], f1, t1⟩
      obtain ⟨s1, q1, f1, t1⟩ := mid
      have h1 := h.mf f1
      have g31 : gI s1 (some 106) 11 3 = some (nI p) := by rw [g106_3 h1.1, t1.1]
      obtain ⟨s2, q2, f2, t2⟩ := A_3 h1.1 t1 (nI (p + 1))
      obtain ⟨s3, q3, f3, t3⟩ := ih (p + 1) s2 (h1.mf f2) (by omega) (by omega) (by omega) (fun i h1 h2 => by
        by_cases hip : i = p
        · rw [hip]; exact hB
        · exact hl i h1 (by omega)) t2 k (by omega)
      refine ⟨s3, ?_, (f1.trans f2).trans f3, by rw [scA_t (by omega) hB]; exact t3⟩
      rw [← q3, F_X11_advance_L195]
      dsimp only
      simp only [↓bnd (g3), ↓bnd (o106 h.1), ↓bnd (sg), ↓bnd (le), ↓bnd (g4), ↓bnd (q1), ↓bnd (g31), one0, if_false, nI_1, ↓bnd (q2)]
    · rw [bI_f fun q => hB q.2] at le
      refine ⟨s, ?_, MF.refl h.1, by rw [scA_f fun q => hB q.2]; exact ht⟩
      rw [F_X11_advance_L195]
      dsimp only
      simp only [↓reduceIte, ↓bnd (g3), ↓bnd (o106 h.1), ↓bnd (sg), ↓bnd (le)]
theorem M_advance (h : RN st tp len) (hp : p ≤ len) {b c d e : Int32} (ht : MT st (nI p) b c d e) (hn : 3000 ≤ n) : ∃ s' v w, F_X11_advance n st (some 106) = some s' ∧ MF st s' ∧ MT s' (nI (nX tp len p)) (nI (qB tp len p)) (nI (kM tp len p)) v w ∧ (kD tp len p = 2 → v = nI (vN tp len p)) ∧ (kD tp len p = 1 → w = nI (wC tp len p)) := by
  have b5 := h.2.2.1
  have ql := qB_le (tp := tp) hp
  have nl := nX_le (tp := tp) hp
  obtain ⟨s1, e1, f1, t1⟩ := M_skip (n := n) _ p st h rfl hp ht n (by omega)
  have h1 := h.mf f1
  have g3 : gI s1 (some 106) 11 3 = some (nI (qB tp len p)) := by rw [g106_3 h1.1, t1.1]; rfl
  obtain ⟨s2, e2, f2, t2⟩ := A_4 h1.1 t1 (nI (qB tp len p))
  have h2 := h1.mf f2
  have g32 : gI s2 (some 106) 11 3 = some (nI (qB tp len p)) := by rw [g106_3 h2.1, t2.1]; rfl
  have sg : F_X11_byteAt n s2 (some 106) (nI (qB tp len p)) = some (sgn tp len (qB tp len p)) := M_byte h2 (by omega)
  have bl := M_letS (n := n) (st := s2) h.2.2.2.1 len (qB tp len p)
  have bd := M_digS (n := n) (st := s2) h.2.2.2.1 len (qB tp len p)
  by_cases c0 : qB tp len p < len
  · have b256 := h.2.2.2.1 (qB tp len p)
    have es : sgn tp len (qB tp len p) = nI (tp (qB tp len p)) := if_pos c0
    rw [es] at sg bl bd
    have n1 : ((0 : Int32) ≤ nI (tp (qB tp len p))) = True := eq_true (nI_pos' (by omega))
    by_cases cl : ltB (tp (qB tp len p)) = true
    · rw [bI_t ⟨c0, cl⟩] at bl
      obtain ⟨s3, e3, f3, t3⟩ := M_letters (n := n) _ (qB tp len p) s2 h2 rfl ql.2 (Nat.le_refl _) (fun i h1 h2 => by omega) t2 n (by omega)
      rw [Nat.sub_self] at e3
      have e3 : F_X11_advance_L77 n n s2 (some 106) (0 : Int32) = _ := e3
      have h3 := h2.mf f3
      have kx : kD tp len p = 1 := by unfold kD; rw [if_pos c0, if_pos cl]
      have nx : nX tp len p = scA ltB tp len (qB tp len p) := by unfold nX; rw [if_pos c0, if_pos cl]
      rw [← nx] at e3 t3
      have g33 : gI s3 (some 106) 11 3 = some (nI (nX tp len p)) := by rw [g106_3 h3.1, t3.1]
      have g43 : gI s3 (some 106) 11 4 = some (nI (qB tp len p)) := by rw [g106_4 h3.1, t3.2.1]
      have lts := (sc_leL (tp := tp) (len := len) (qB tp len p))
      rw [← nx] at lts
      have hh := hsh_le tp (qB tp len p) (nX tp len p - qB tp len p) fun i hi => by
        have := lts (qB tp len p + i) (by omega) (by omega)
        unfold ltB at this
        exact (of_decide_eq_true this).2
      have q60 : ((if (nI (nX tp len p) - nI (qB tp len p)) ≤ (6 : Int32) then (F_X11_wordOf n s3 (nI (hsh tp (qB tp len p) (nX tp len p - qB tp len p)))).bind fun v59 => some v59 else some (99 : Int32)) : Option Int32) = some (nI (wC tp len p)) := by
        unfold wC
        rw [nSub nl.1]
        have e : (nI (nX tp len p - qB tp len p) ≤ (6 : Int32)) = (nX tp len p - qB tp len p ≤ 6) := nLe (b := 6) (by omega) (by decide)
        simp only [e]
        by_cases c6 : nX tp len p - qB tp len p ≤ 6
        · rw [if_pos c6, if_pos c6, M_wordOf (by omega)]; rfl
        · rw [if_neg c6, if_neg c6]; rfl
      obtain ⟨s4, e4, f4, t4⟩ := A_7 h3.1 t3 (nI (wC tp len p))
      have h4 := h3.mf f4
      have g7 : gI s4 (some 106) 11 7 = some (nI (wC tp len p)) := by rw [g106_7 h4.1, t4.2.2.2.2]
      have wl : wC tp len p ≤ 99 := by unfold wC; split; exact wO_le _; exact Nat.le_refl _
      have q63 : ((if nI (wC tp len p) = (99 : Int32) then some (4 : Int32) else some (3 : Int32)) : Option Int32) = some (nI (kM tp len p)) := by
        have e : (nI (wC tp len p) = (99 : Int32)) = (wC tp len p = 99) := nEq (b := 99) (by omega) (by decide)
        have km : kM tp len p = if wC tp len p = 99 then 4 else 3 := by unfold kM; rw [kx, if_neg (by decide), if_pos rfl]
        rw [km]
        simp only [e]
        by_cases c9 : wC tp len p = 99
        · rw [if_pos c9, if_pos c9]; rfl
        · rw [if_neg c9, if_neg c9]; rfl
      obtain ⟨s5, e5, f5, t5⟩ := A_5 h4.1 t4 (nI (kM tp len p))
      refine ⟨s5, d, _, ?_, (((f1.trans f2).trans f3).trans f4).trans f5, t5, fun q => by rw [kx] at q; omega, fun _ => rfl⟩
      unfold F_X11_advance
      simp only [↓reduceIte, ↓bnd (e1), ↓bnd (g3), ↓bnd (e2), ↓bnd (g32), ↓bnd (o106 h2.1), ↓bnd (sg), n1, ↓bnd (bl), ↓bnd (e3), ↓bnd (g33), ↓bnd (g43), ↓bnd (q60), ↓bnd (e4), ↓bnd (g7), ↓bnd (q63), ↓bnd (e5), one0, ↓Option.bind_some]
    · rw [bI_f fun q => cl q.2] at bl
      by_cases cd : dgB (tp (qB tp len p)) = true
      · rw [bI_t ⟨c0, cd⟩] at bd
        obtain ⟨s3, e3, f3, t3⟩ := A_6 h2.1 t2 (nI (vl tp (qB tp len p) (qB tp len p - qB tp len p)))
        have e3 : pF s2 (some 106) 11 6 (.int (0 : Int32)) = some s3 := by rw [Nat.sub_self] at e3; exact e3
        have h3 := h2.mf f3
        obtain ⟨s4, e4, f4, t4⟩ := M_digits (n := n) _ (qB tp len p) s3 h3 rfl ql.2 (Nat.le_refl _) (fun i h1 h2 => by omega) t3 n (by omega)
        have h4 := h3.mf f4
        have nx : nX tp len p = scA dgB tp len (qB tp len p) := by unfold nX; rw [if_pos c0, if_neg cl, if_pos cd]
        rw [← nx] at t4
        have g34 : gI s4 (some 106) 11 3 = some (nI (nX tp len p)) := by rw [g106_3 h4.1, t4.1]
        have g44 : gI s4 (some 106) 11 4 = some (nI (qB tp len p)) := by rw [g106_4 h4.1, t4.2.1]
        have kx : kD tp len p = if nX tp len p - qB tp len p ≤ 4 then 2 else 4 := by unfold kD; rw [if_pos c0, if_neg cl, if_pos cd]
        have q41 : ((if (nI (nX tp len p) - nI (qB tp len p)) ≤ (4 : Int32) then some (1 : Int32) else some (4 : Int32)) : Option Int32) = some (nI (kM tp len p)) := by
          unfold kM
          rw [nSub nl.1, kx]
          have e : (nI (nX tp len p - qB tp len p) ≤ (4 : Int32)) = (nX tp len p - qB tp len p ≤ 4) := nLe (b := 4) (by omega) (by decide)
          simp only [e]
          by_cases q : nX tp len p - qB tp len p ≤ 4
          · rw [if_pos q, if_pos q]; rfl
          · rw [if_neg q, if_neg q]; rfl
        obtain ⟨s5, e5, f5, t5⟩ := A_5 h4.1 t4 (nI (kM tp len p))
        refine ⟨s5, _, e, ?_, (((f1.trans f2).trans f3).trans f4).trans f5, t5, fun _ => rfl, fun q => by rw [kx] at q; split at q <;> omega⟩
        unfold F_X11_advance
        simp only [↓reduceIte, ↓bnd (e1), ↓bnd (g3), ↓bnd (e2), ↓bnd (g32), ↓bnd (o106 h2.1), ↓bnd (sg), n1, ↓bnd (bl), ↓bnd (bd), ↓bnd (e3), ↓bnd (e4), ↓bnd (g34), ↓bnd (g44), ↓bnd (q41), ↓bnd (e5), one0, zero0, ↓Option.bind_some]
      · rw [bI_f fun q => cd q.2] at bd
        have nx : nX tp len p = qB tp len p + 1 := by unfold nX; rw [if_pos c0, if_neg cl, if_neg cd]
        have kx : kD tp len p = if tp (qB tp len p) = 59 then 3 else 4 := by unfold kD; rw [if_pos c0, if_neg cl, if_neg cd]
        have q21 : ((if nI (tp (qB tp len p)) = (59 : Int32) then some (2 : Int32) else some (4 : Int32)) : Option Int32) = some (nI (kM tp len p)) := by
          have e : (nI (tp (qB tp len p)) = (59 : Int32)) = (tp (qB tp len p) = 59) := nEq (b := 59) (by omega) (by decide)
          unfold kM
          rw [kx]
          simp only [e]
          by_cases q : tp (qB tp len p) = 59
          · rw [if_pos q, if_pos q]; rfl
          · rw [if_neg q, if_neg q]; rfl
        obtain ⟨s3, e3, f3, t3⟩ := A_3 h2.1 t2 (nI (qB tp len p + 1))
        have h3 := h2.mf f3
        obtain ⟨s4, e4, f4, t4⟩ := A_5 h3.1 t3 (nI (kM tp len p))
        refine ⟨s4, d, e, ?_, ((f1.trans f2).trans f3).trans f4, by rw [nx]; exact t4, fun q => by rw [kx] at q; split at q <;> omega, fun q => by rw [kx] at q; split at q <;> omega⟩
        unfold F_X11_advance
        simp only [↓reduceIte, ↓bnd (e1), ↓bnd (g3), ↓bnd (e2), ↓bnd (g32), ↓bnd (o106 h2.1), ↓bnd (sg), n1, ↓bnd (bl), ↓bnd (bd), ↓bnd (g32), zero0, nI_1, ↓bnd (e3), ↓bnd (q21), ↓bnd (e4), ↓Option.bind_some]
  · have es : sgn tp len (qB tp len p) = -1 := if_neg c0
    rw [es] at sg
    obtain ⟨s3, e3, f3, t3⟩ := A_5 h2.1 t2 0
    have nx : nX tp len p = qB tp len p := by unfold nX; rw [if_neg c0]
    have kx : kD tp len p = 0 := by unfold kD; rw [if_neg c0]
    have km : kM tp len p = 0 := by unfold kM; rw [if_pos kx]
    refine ⟨s3, d, e, ?_, (f1.trans f2).trans f3, by rw [nx, km]; exact t3, fun q => by rw [kx] at q; omega, fun q => by rw [kx] at q; omega⟩
    unfold F_X11_advance
    simp only [↓reduceIte, ↓bnd (e1), ↓bnd (g3), ↓bnd (e2), ↓bnd (g32), ↓bnd (o106 h2.1), ↓bnd (sg), show ((0 : Int32) ≤ -1) = False by decide, ↓bnd (e3), ↓Option.bind_some]
end AD

/-! WHAT A TEXT IS MADE OF -/
def blB (b : Nat) : Bool := decide (b = 10 ∨ b = 32)
def ltB (b : Nat) : Bool := decide (97 ≤ b ∧ b ≤ 122)
def dgB (b : Nat) : Bool := decide (48 ≤ b ∧ b ≤ 57)
def scn (P : Nat → Bool) (tp : Nat → Nat) (len : Nat) : Nat → Nat → Nat
  | 0, p => p
  | f + 1, p => if p < len then (if P (tp p) = true then scn P tp len f (p + 1) else p) else p
def scA (P : Nat → Bool) (tp : Nat → Nat) (len p : Nat) : Nat := scn P tp len (len - p) p
theorem scA_t {P : Nat → Bool} {tp : Nat → Nat} {len p : Nat} (h : p < len) (hP : P (tp p) = true) : scA P tp len p = scA P tp len (p + 1) := by
  unfold scA
  obtain ⟨d, hd⟩ : ∃ d, len - p = d + 1 := ⟨len - p - 1, by omega⟩
  rw [hd, show len - (p + 1) = d by omega, scn, if_pos h, if_pos hP]
theorem scA_f {P : Nat → Bool} {tp : Nat → Nat} {len p : Nat} (h : ¬ (p < len ∧ P (tp p) = true)) : scA P tp len p = p := by
  unfold scA
  cases hd : len - p with
  | zero => rfl
  | succ d =>
    rw [scn, if_pos (by omega), if_neg fun q => h ⟨by omega, q⟩]
theorem sc_le {P : Nat → Bool} {tp : Nat → Nat} {len : Nat} : ∀ d p, len - p = d → p ≤ scA P tp len p ∧ (p ≤ len → scA P tp len p ≤ len) ∧ (∀ i, p ≤ i → i < scA P tp len p → P (tp i) = true) ∧ (scA P tp len p < len → ¬ P (tp (scA P tp len p)) = true) := by
  intro d
  induction d with
  | zero =>
    intro p hp
    rw [scA_f (by omega)]
    exact ⟨Nat.le_refl _, id, fun i h1 h2 => by omega, fun h => by omega⟩
  | succ d ih =>
    intro p hp
    by_cases h : p < len ∧ P (tp p) = true
    · rw [scA_t h.1 h.2]
      obtain ⟨a, b, c, e⟩ := ih (p + 1) (by omega)
      refine ⟨by omega, fun _ => b (by omega), fun i h1 h2 => ?_, e⟩
      by_cases hi : i = p
      · rw [hi]; exact h.2
      · exact c i (by omega) h2
    · rw [scA_f h]
      exact ⟨Nat.le_refl _, id, fun i h1 h2 => by omega, fun h1 h2 => h ⟨h1, h2⟩⟩
theorem sc_leL {tp : Nat → Nat} {len : Nat} (p : Nat) : ∀ i, p ≤ i → i < scA ltB tp len p → ltB (tp i) = true := (sc_le (P := ltB) (tp := tp) (len := len) _ p rfl).2.2.1
/-- the value of a number, of its first four digits -/
def vl (tp : Nat → Nat) (q : Nat) : Nat → Nat
  | 0 => 0
  | m + 1 => if m < 4 then 10 * vl tp q m + (tp (q + m) - 48) else vl tp q m
theorem vl_le (tp : Nat → Nat) (q m : Nat) (h : ∀ i, i < m → tp (q + i) ≤ 57) : vl tp q m ≤ 9999 ∧ (m ≤ 4 → vl tp q m + 1 ≤ 10 ^ m) := by
  induction m with
  | zero => exact ⟨Nat.zero_le _, fun _ => Nat.le_refl 1⟩
  | succ m ih =>
    have i := ih fun i hi => h i (by omega)
    have := h m (by omega)
    unfold vl
    by_cases c : m < 4
    · rw [if_pos c]
      have i2 := i.2 (by omega)
      rcases (show m = 0 ∨ m = 1 ∨ m = 2 ∨ m = 3 by omega) with rfl | rfl | rfl | rfl
      · constructor <;> omega
      · constructor <;> omega
      · constructor <;> omega
      · constructor <;> omega
    · rw [if_neg c]
      exact ⟨i.1, fun hm => by omega⟩
/-- the token from p on: where it begins, where it ends, its kind -/
def qB (tp : Nat → Nat) (len p : Nat) : Nat := scA blB tp len p
def nX (tp : Nat → Nat) (len p : Nat) : Nat := if qB tp len p < len then (if ltB (tp (qB tp len p)) = true then scA ltB tp len (qB tp len p) else if dgB (tp (qB tp len p)) = true then scA dgB tp len (qB tp len p) else qB tp len p + 1) else qB tp len p
def kD (tp : Nat → Nat) (len p : Nat) : Nat := if qB tp len p < len then (if ltB (tp (qB tp len p)) = true then 1 else if dgB (tp (qB tp len p)) = true then (if nX tp len p - qB tp len p ≤ 4 then 2 else 4) else if tp (qB tp len p) = 59 then 3 else 4) else 0
def vN (tp : Nat → Nat) (len p : Nat) : Nat := vl tp (qB tp len p) (nX tp len p - qB tp len p)
theorem qB_le {tp : Nat → Nat} {len p : Nat} (h : p ≤ len) : p ≤ qB tp len p ∧ qB tp len p ≤ len := by
  have := sc_le (P := blB) (tp := tp) (len := len) _ p rfl
  exact ⟨this.1, this.2.1 h⟩
theorem nX_le {tp : Nat → Nat} {len p : Nat} (h : p ≤ len) : qB tp len p ≤ nX tp len p ∧ nX tp len p ≤ len ∧ (kD tp len p ≠ 0 → p < nX tp len p) := by
  have a := qB_le (tp := tp) h
  unfold kD
  unfold nX
  by_cases c : qB tp len p < len
  · rw [if_pos c, if_pos c]
    by_cases l : ltB (tp (qB tp len p)) = true
    · have s := sc_le (P := ltB) (tp := tp) (len := len) _ (qB tp len p + 1) rfl
      rw [if_pos l, scA_t c l]
      exact ⟨by omega, s.2.1 (by omega), fun _ => by omega⟩
    · rw [if_neg l]
      by_cases g : dgB (tp (qB tp len p)) = true
      · have s := sc_le (P := dgB) (tp := tp) (len := len) _ (qB tp len p + 1) rfl
        rw [if_pos g, scA_t c g]
        exact ⟨by omega, s.2.1 (by omega), fun _ => by omega⟩
      · rw [if_neg g]
        exact ⟨by omega, by omega, fun _ => by omega⟩
  · rw [if_neg c, if_neg c]
    exact ⟨Nat.le_refl _, a.2, fun h => absurd rfl h⟩
section TK
variable {st st1 st2 s s1 : xS} {n len p : Nat} {tp : Nat → Nat}
/-- the class's reader, over a text -/
def RB (st : xS) (tp : Nat → Nat) (len : Nat) : Prop := Sh st ∧ fR st 75 0 = some 73 ∧ fI st 75 1 = nI len ∧ len ≤ 500 ∧ (∀ i, tp i < 256) ∧ ∀ i, i < 500 → cI st 73 i &&& 255 = nI (tp i)
def SF (st st' : xS) : Prop := Only (fun a => a = 75) st st' ∧ fR st' 75 0 = fR st 75 0 ∧ fI st' 75 1 = fI st 75 1 ∧ fI st' 75 8 = fI st 75 8 ∧ fI st' 75 9 = fI st 75 9
theorem SF.refl (h : Sh st) : SF st st := ⟨Only.refl h, rfl, rfl, rfl, rfl⟩
theorem SF.trans (h : SF st st1) (k : SF st1 st2) : SF st st2 := ⟨h.1.trans k.1, k.2.1.trans h.2.1, k.2.2.1.trans h.2.2.1, k.2.2.2.1.trans h.2.2.2.1, k.2.2.2.2.trans h.2.2.2.2⟩
theorem RB.sf (h : RB st tp len) (k : SF st st1) : RB st1 tp len := by
  obtain ⟨h1, h2, h3, h4, h5, h6⟩ := h
  exact ⟨k.1.2.2.1, k.2.1.trans h2, k.2.2.1.trans h3, h4, h5, by rw [cI_o k.1 (by decide)]; exact h6⟩
/-- where it stands: next, token, start, value -/
def RT (st : xS) (a b c d : Int32) : Prop := fI st 75 2 = a ∧ fI st 75 3 = b ∧ fI st 75 4 = c ∧ fI st 75 5 = d
theorem R_2 (hS : Sh s) {a b c d : Int32} (h : RT s a b c d) (v : Int32) : ∃ s', pF s (some 75) 7 2 (.int v) = some s' ∧ SF s s' ∧ RT s' v b c d := ⟨_, p75_2 hS v, ⟨Only.uV (s75_2 hS v), fR_oth (by decide) _, fI_oth (by decide) _, fI_oth (by decide) _, fI_oth (by decide) _⟩, f75_2 hS v, (fI_oth (by decide) _).trans h.2.1, (fI_oth (by decide) _).trans h.2.2.1, (fI_oth (by decide) _).trans h.2.2.2⟩
theorem R_3 (hS : Sh s) {a b c d : Int32} (h : RT s a b c d) (v : Int32) : ∃ s', pF s (some 75) 7 3 (.int v) = some s' ∧ SF s s' ∧ RT s' a v c d := ⟨_, p75_3 hS v, ⟨Only.uV (s75_3 hS v), fR_oth (by decide) _, fI_oth (by decide) _, fI_oth (by decide) _, fI_oth (by decide) _⟩, (fI_oth (by decide) _).trans h.1, f75_3 hS v, (fI_oth (by decide) _).trans h.2.2.1, (fI_oth (by decide) _).trans h.2.2.2⟩
theorem R_4 (hS : Sh s) {a b c d : Int32} (h : RT s a b c d) (v : Int32) : ∃ s', pF s (some 75) 7 4 (.int v) = some s' ∧ SF s s' ∧ RT s' a b v d := ⟨_, p75_4 hS v, ⟨Only.uV (s75_4 hS v), fR_oth (by decide) _, fI_oth (by decide) _, fI_oth (by decide) _, fI_oth (by decide) _⟩, (fI_oth (by decide) _).trans h.1, (fI_oth (by decide) _).trans h.2.1, f75_4 hS v, (fI_oth (by decide) _).trans h.2.2.2⟩
theorem R_5 (hS : Sh s) {a b c d : Int32} (h : RT s a b c d) (v : Int32) : ∃ s', pF s (some 75) 7 5 (.int v) = some s' ∧ SF s s' ∧ RT s' a b c v := ⟨_, p75_5 hS v, ⟨Only.uV (s75_5 hS v), fR_oth (by decide) _, fI_oth (by decide) _, fI_oth (by decide) _, fI_oth (by decide) _⟩, (fI_oth (by decide) _).trans h.1, (fI_oth (by decide) _).trans h.2.1, (fI_oth (by decide) _).trans h.2.2.1, f75_5 hS v⟩
def sgn (tp : Nat → Nat) (len i : Nat) : Int32 := if i < len then nI (tp i) else -1
theorem RB.ln (h : RB st tp len) : gI st (some 75) 7 1 = some (nI len) := by rw [g75_1 h.1, h.2.2.1]
theorem C_sign (h : RB st tp len) {i : Nat} (hi : i < 2147483648) : F_X7_signAt n st (some 75) (nI i) = some (sgn tp len i) := by
  obtain ⟨h1, h2, h3, h4, h5, h6⟩ := h
  have gl : gI st (some 75) 7 1 = some (nI len) := by rw [g75_1 h1, h3]
  have gr : gR st (some 75) 7 0 = some (some 73) := by rw [g75_0 h1, h2]
  unfold F_X7_signAt sgn
  rw [if_neg (nI_pos (by omega))]
  by_cases c : i < len
  · have r : aS 2 st (some 73) (nI i) = some (cI st 73 i) := by rw [a73 h1, if_pos (ixT (by omega) (by decide)), nIc (by omega)]
    simp (disch := omega) only [↓bnd (gl), ↓bnd (gr), ↓bnd (n73 h1), ↓bnd (r), nLe_f, if_false, h6 i (by omega), c, if_true, Option.bind_some]
  · simp (disch := omega) only [↓bnd (gl), nLe_t, if_true, c, if_false, Option.bind_some]
theorem C_blank {b : Nat} (h : b < 256) : F_X7_isBlank n st (nI b) = some (if blB b = true then 1 else 0) := by
  have e1 : (nI b = (10 : Int32)) = (b = 10) := nEq (b := 10) (by omega) (by decide)
  have e2 : (nI b = (32 : Int32)) = (b = 32) := nEq (b := 32) (by omega) (by decide)
  unfold F_X7_isBlank blB
  simp only [e1, e2, decide_eq_true_eq]
  by_cases h1 : b = 10
  · simp only [h1, if_true, true_or, Option.bind_some, rz1]
  · by_cases h2 : b = 32
    · rw [if_neg h1, if_pos h2, if_pos (Or.inr h2)]; rfl
    · rw [if_neg h1, if_neg h2, if_neg fun q => q.elim h1 h2]; rfl
theorem C_letter {b : Nat} (h : b < 256) : F_X7_isLetter n st (nI b) = some (if ltB b = true then 1 else 0) := by
  have e1 : (nI b < (97 : Int32)) = (b < 97) := nLt (b := 97) (by omega) (by decide)
  have e2 : ((122 : Int32) < nI b) = (122 < b) := nLt (a := 122) (by decide) (by omega)
  unfold F_X7_isLetter ltB
  simp only [e1, e2, decide_eq_true_eq]
  by_cases h1 : b < 97
  · rw [if_pos h1, if_neg (by omega)]; rfl
  · by_cases h2 : 122 < b
    · rw [if_neg h1, if_pos h2, if_neg (by omega)]; rfl
    · rw [if_neg h1, if_neg h2, if_pos (by omega)]; rfl
theorem C_digit {b : Nat} (h : b < 256) : F_X7_isDigit n st (nI b) = some (if dgB b = true then 1 else 0) := by
  have e1 : (nI b < (48 : Int32)) = (b < 48) := nLt (b := 48) (by omega) (by decide)
  have e2 : ((57 : Int32) < nI b) = (57 < b) := nLt (a := 57) (by decide) (by omega)
  unfold F_X7_isDigit dgB
  simp only [e1, e2, decide_eq_true_eq]
  by_cases h1 : b < 48
  · rw [if_pos h1, if_neg (by omega)]; rfl
  · by_cases h2 : 57 < b
    · rw [if_neg h1, if_pos h2, if_neg (by omega)]; rfl
    · rw [if_neg h1, if_neg h2, if_pos (by omega)]; rfl
theorem one0 : ((1 : Int32) = 0) = False := by decide
theorem zero0 : ((0 : Int32) = 0) = True := by decide
theorem C_skip {b c d : Int32} : ∀ f p s, RB s tp len → len - p = f → p ≤ len → RT s (nI p) b c d → ∀ k, f < k → ∃ s', F_X7_step_L0 n k s (some 75) = some s' ∧ SF s s' ∧ RT s' (nI (scA blB tp len p)) b c d := by
  intro f
  induction f with
  | zero =>
    intro p s h hf hp ht k hk
    obtain ⟨k, rfl⟩ : ∃ j, k = j + 1 := ⟨k - 1, by omega⟩
    have b5 := h.2.2.2.1
    have g2 : gI s (some 75) 7 2 = some (nI p) := by rw [g75_2 h.1, ht.1]
    refine ⟨s, ?_, SF.refl h.1, by rw [scA_f (by omega)]; exact ht⟩
    rw [F_X7_step_L0]
    dsimp only
    simp (disch := omega) only [↓reduceIte, ↓bnd (g2), ↓bnd (h.ln), nLe_t]
  | succ f ih =>
    intro p s h hf hp ht k hk
    obtain ⟨k, rfl⟩ : ∃ j, k = j + 1 := ⟨k - 1, by omega⟩
    have b5 := h.2.2.2.1
    have g2 : gI s (some 75) 7 2 = some (nI p) := by rw [g75_2 h.1, ht.1]
    have sg : F_X7_signAt n s (some 75) (nI p) = some (nI (tp p)) := by rw [C_sign h (by omega)]; unfold sgn; rw [if_pos (by omega)]
    have bl := C_blank (n := n) (st := s) (h.2.2.2.2.1 p)
    by_cases hb : blB (tp p) = true
    · obtain ⟨s1, e1, f1, t1⟩ := R_2 h.1 ht (nI (p + 1))
      obtain ⟨s2, e2, f2, t2⟩ := ih (p + 1) s1 (h.sf f1) (by omega) (by omega) t1 k (by omega)
      rw [if_pos hb] at bl
      refine ⟨s2, ?_, f1.trans f2, by rw [scA_t (by omega) hb]; exact t2⟩
      rw [← e2, F_X7_step_L0]
      dsimp only
      simp (disch := omega) only [↓reduceIte, ↓bnd (g2), ↓bnd (h.ln), ↓bnd (o75 h.1), ↓bnd (sg), ↓bnd (bl), nLe_f, one0, nI_1, ↓bnd (e1)]
    · rw [if_neg hb] at bl
      refine ⟨s, ?_, SF.refl h.1, by rw [scA_f fun q => hb q.2]; exact ht⟩
      rw [F_X7_step_L0]
      dsimp only
      simp (disch := omega) only [↓reduceIte, ↓bnd (g2), ↓bnd (h.ln), ↓bnd (o75 h.1), ↓bnd (sg), ↓bnd (bl), nLe_f]
theorem C_letters {b c d : Int32} : ∀ f p s, RB s tp len → len - p = f → p ≤ len → RT s (nI p) b c d → ∀ k, f < k → ∃ s', F_X7_step_L80 n k s (some 75) = some s' ∧ SF s s' ∧ RT s' (nI (scA ltB tp len p)) b c d := by
  intro f
  induction f with
  | zero =>
    intro p s h hf hp ht k hk
    obtain ⟨k, rfl⟩ : ∃ j, k = j + 1 := ⟨k - 1, by omega⟩
    have b5 := h.2.2.2.1
    have g2 : gI s (some 75) 7 2 = some (nI p) := by rw [g75_2 h.1, ht.1]
    refine ⟨s, ?_, SF.refl h.1, by rw [scA_f (by omega)]; exact ht⟩
    rw [F_X7_step_L80]
    dsimp only
    simp (disch := omega) only [↓reduceIte, ↓bnd (g2), ↓bnd (h.ln), nLe_t]
  | succ f ih =>
    intro p s h hf hp ht k hk
    obtain ⟨k, rfl⟩ : ∃ j, k = j + 1 := ⟨k - 1, by omega⟩
    have b5 := h.2.2.2.1
    have g2 : gI s (some 75) 7 2 = some (nI p) := by rw [g75_2 h.1, ht.1]
    have sg : F_X7_signAt n s (some 75) (nI p) = some (nI (tp p)) := by rw [C_sign h (by omega)]; unfold sgn; rw [if_pos (by omega)]
    have bl := C_letter (n := n) (st := s) (h.2.2.2.2.1 p)
    by_cases hb : ltB (tp p) = true
    · obtain ⟨s1, e1, f1, t1⟩ := R_2 h.1 ht (nI (p + 1))
      obtain ⟨s2, e2, f2, t2⟩ := ih (p + 1) s1 (h.sf f1) (by omega) (by omega) t1 k (by omega)
      rw [if_pos hb] at bl
      refine ⟨s2, ?_, f1.trans f2, by rw [scA_t (by omega) hb]; exact t2⟩
      rw [← e2, F_X7_step_L80]
      dsimp only
      simp (disch := omega) only [↓reduceIte, ↓bnd (g2), ↓bnd (h.ln), ↓bnd (o75 h.1), ↓bnd (sg), ↓bnd (bl), nLe_f, one0, nI_1, ↓bnd (e1)]
    · rw [if_neg hb] at bl
      refine ⟨s, ?_, SF.refl h.1, by rw [scA_f fun q => hb q.2]; exact ht⟩
      rw [F_X7_step_L80]
      dsimp only
      simp (disch := omega) only [↓reduceIte, ↓bnd (g2), ↓bnd (h.ln), ↓bnd (o75 h.1), ↓bnd (sg), ↓bnd (bl), nLe_f]
theorem C_digits {q : Nat} {b : Int32} : ∀ f p s, RB s tp len → len - p = f → p ≤ len → q ≤ p → RT s (nI p) b (nI q) (nI (vl tp q (p - q))) → ∀ k, f < k → ∃ s', F_X7_stepNumber_L5 n k s (some 75) = some s' ∧ SF s s' ∧ RT s' (nI (scA dgB tp len p)) b (nI q) (nI (vl tp q (scA dgB tp len p - q))) := by
  intro f
  induction f with
  | zero =>
    intro p s h hf hp hq ht k hk
    obtain ⟨k, rfl⟩ : ∃ j, k = j + 1 := ⟨k - 1, by omega⟩
    have b5 := h.2.2.2.1
    have g2 : gI s (some 75) 7 2 = some (nI p) := by rw [g75_2 h.1, ht.1]
    refine ⟨s, ?_, SF.refl h.1, by rw [scA_f (by omega)]; exact ht⟩
    rw [F_X7_stepNumber_L5]
    dsimp only
    simp (disch := omega) only [↓reduceIte, ↓bnd (g2), ↓bnd (h.ln), nLe_t]
  | succ f ih =>
    intro p s h hf hp hq ht k hk
    obtain ⟨k, rfl⟩ : ∃ j, k = j + 1 := ⟨k - 1, by omega⟩
    have b5 := h.2.2.2.1
    have g2 : gI s (some 75) 7 2 = some (nI p) := by rw [g75_2 h.1, ht.1]
    have g4 : gI s (some 75) 7 4 = some (nI q) := by rw [g75_4 h.1, ht.2.2.1]
    have g5 : gI s (some 75) 7 5 = some (nI (vl tp q (p - q))) := by rw [g75_5 h.1, ht.2.2.2]
    have sg : F_X7_signAt n s (some 75) (nI p) = some (nI (tp p)) := by rw [C_sign h (by omega)]; unfold sgn; rw [if_pos (by omega)]
    have bl := C_digit (n := n) (st := s) (h.2.2.2.2.1 p)
    by_cases hb : dgB (tp p) = true
    · have hd : 48 ≤ tp p ∧ tp p ≤ 57 := by unfold dgB at hb; exact of_decide_eq_true hb
      rw [if_pos hb] at bl
      have sb : nI p - nI q = nI (p - q) := nSub hq
      have c4 : ((4 : Int32) ≤ nI (p - q)) = (4 ≤ p - q) := nLe (a := 4) (by decide) (by omega)
      have mid : ∃ s1, ((if (4 : Int32) ≤ (nI p - nI q) then some s else (gI s (some 75) 7 5).bind fun v10 => (gI s (some 75) 7 2).bind fun v11 => (isO s (some 75) 7).bind fun q13 => (F_X7_signAt n s (some 75) v11).bind fun v12 => (pF s (some 75) 7 5 (.int ((((10 : Int32) * v10) + v12) - (48 : Int32)))).bind fun s14 => some s14) : Option xS) = some s1 ∧ SF s s1 ∧ RT s1 (nI p) b (nI q) (nI (vl tp q (p + 1 - q))) := by
        rw [show p + 1 - q = (p - q) + 1 by omega, vl, sb]
        simp only [c4]
        by_cases c : 4 ≤ p - q
        · rw [if_pos c, if_neg (by omega)]
          exact ⟨s, rfl, SF.refl h.1, ht⟩
        · rw [if_neg c, if_pos (by omega), show q + (p - q) = p by omega]
          have e : (((10 : Int32) * nI (vl tp q (p - q))) + nI (tp p)) - (48 : Int32) = nI (10 * vl tp q (p - q) + (tp p - 48)) := by
            rw [show (10 : Int32) * nI (vl tp q (p - q)) = nI (10 * vl tp q (p - q)) from nMul 10 _, nAdd, show nI (10 * vl tp q (p - q) + tp p) - (48 : Int32) = nI (10 * vl tp q (p - q) + tp p - 48) from nSub (b := 48) (by omega)]
            congr 1
            omega
          obtain ⟨s1, e1, f1, t1⟩ := R_5 h.1 ht (nI (10 * vl tp q (p - q) + (tp p - 48)))
          exact ⟨s1, by simp only [↓bnd (g5), ↓bnd (g2), ↓bnd (o75 h.1), ↓bnd (sg), e, ↓bnd (e1)], f1, t1⟩
      obtain ⟨s1, e1, f1, t1⟩ := mid
      have h1 := h.sf f1
      have g21 : gI s1 (some 75) 7 2 = some (nI p) := by rw [g75_2 h1.1, t1.1]
      obtain ⟨s2, e2, f2, t2⟩ := R_2 h1.1 t1 (nI (p + 1))
      obtain ⟨s3, e3, f3, t3⟩ := ih (p + 1) s2 (h1.sf f2) (by omega) (by omega) (by omega) t2 k (by omega)
      refine ⟨s3, ?_, (f1.trans f2).trans f3, by rw [scA_t (by omega) hb]; exact t3⟩
      rw [← e3, F_X7_stepNumber_L5]
      dsimp only
      simp (disch := omega) only [↓bnd (g2), ↓bnd (h.ln), ↓bnd (o75 h.1), ↓bnd (sg), ↓bnd (bl), ↓bnd (g4), ↓bnd (e1), ↓bnd (g21), nLe_f, one0, if_false, nI_1, ↓bnd (e2)]
    · rw [if_neg hb] at bl
      refine ⟨s, ?_, SF.refl h.1, by rw [scA_f fun q => hb q.2]; exact ht⟩
      rw [F_X7_stepNumber_L5]
      dsimp only
      simp (disch := omega) only [↓reduceIte, ↓bnd (g2), ↓bnd (h.ln), ↓bnd (o75 h.1), ↓bnd (sg), ↓bnd (bl), nLe_f]
end TK

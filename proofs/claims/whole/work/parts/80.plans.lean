/-! WHAT A LAW'S AND A PLAN'S LINES TELL: the class -/
def LwN (st : xS) (m0 : Nat) (W : LwD) : Prop := st.2.2 m0 = .inr (3, [.ref (m0 + 1)]) ∧ ∃ f : Nat → Int32, st.2.2 (m0 + 1) = .inl (0, 26, .inl f) ∧ ∀ i, i < 26 → f i = nI (W i)
def lwLe (k : Nat) : Int := if k = 0 then 0 else 1
def lwMo (f k : Nat) : Int := if k = 0 then (if f = 10 then 100 else 50) else if f = 12 then 9999 else if f = 13 then 30 else if f = 14 then 999 else if f = 15 then 999 else 99
def lwTk (W : LwD) (f : Nat) (v : Nat → Nat) : LwD := if f = 10 then upN W 0 (v 0) else if f = 11 then upN W 10 (v 0) else upN (upN W (f - 1) (v 0)) (f + 9) (v 1)
def lwMany (f : Nat) : Nat := if f = 10 then 1 else if f = 11 then 1 else 2
theorem lwTk_I {W : LwD} (hV : LwI W) {f : Nat} (h1 : 10 ≤ f) (h2 : f ≤ 16) {v : Nat → Nat} (hb : fbR lwLe (lwMo f) False v (lwMany f) 0 = none) : LwI (lwTk W f v) := by
  obtain ⟨a1, a2, a3, a4⟩ := hV
  have nb := fbR_none _ _ hb
  by_cases c10 : f = 10
  · subst c10
    have b0 := nb 0 (by decide) (by decide)
    have v0 : v 0 ≤ 100 := by have : ¬ (100 : Int) < (v 0 : Int) := fun h => b0 (Or.inr (Or.inr h)); omega
    refine ⟨v0, fun p hp => ?_, fun p hp => ?_, fun p hp hp2 => ?_⟩
    · show upN W 0 (v 0) (10 + p) ≤ 50
      unfold upN; rw [if_neg (by omega)]; exact a2 p hp
    · show upN W 0 (v 0) (20 + p) ≤ 9999
      unfold upN; rw [if_neg (by omega)]; exact a3 p hp
    · show 1 ≤ upN W 0 (v 0) (20 + p)
      unfold upN; rw [if_neg (by omega)]; exact a4 p hp hp2
  · by_cases c11 : f = 11
    · subst c11
      have b0 := nb 0 (by decide) (by decide)
      have v0 : v 0 ≤ 50 := by have : ¬ (50 : Int) < (v 0 : Int) := fun h => b0 (Or.inr (Or.inr h)); omega
      refine ⟨?_, fun p hp => ?_, fun p hp => ?_, fun p hp hp2 => ?_⟩
      · show upN W 10 (v 0) 0 ≤ 100
        unfold upN; rw [if_neg (by omega)]; exact a1
      · show upN W 10 (v 0) (10 + p) ≤ 50
        have := a2 p hp
        unfold upN; split <;> omega
      · show upN W 10 (v 0) (20 + p) ≤ 9999
        unfold upN; rw [if_neg (by omega)]; exact a3 p hp
      · show 1 ≤ upN W 10 (v 0) (20 + p)
        unfold upN; rw [if_neg (by omega)]; exact a4 p hp hp2
    · have m2 : lwMany f = 2 := by unfold lwMany; rw [if_neg c10, if_neg c11]
      have b0 := nb 0 (by omega) (by omega)
      have b1 := nb 1 (by omega) (by omega)
      have e0 : lwMo f 0 = 50 := by unfold lwMo; rw [if_pos rfl, if_neg c10]
      have e1 : lwMo f 1 ≤ 9999 := by unfold lwMo; rw [if_neg (by decide)]; split <;> (try split) <;> (try split) <;> (try split) <;> omega
      have v0 : v 0 ≤ 50 := by have : ¬ lwMo f 0 < (v 0 : Int) := fun h => b0 (Or.inr (Or.inr h)); omega
      have v1 : v 1 ≤ 9999 := by have : ¬ lwMo f 1 < (v 1 : Int) := fun h => b1 (Or.inr (Or.inr h)); omega
      have v1' : 1 ≤ v 1 := by have : ¬ (v 1 : Int) < 1 := fun h => b1 (Or.inr (Or.inl h)); omega
      have t : lwTk W f v = upN (upN W (f - 1) (v 0)) (f + 9) (v 1) := by unfold lwTk; rw [if_neg c10, if_neg c11]
      rw [t]
      refine ⟨?_, fun p hp => ?_, fun p hp => ?_, fun p hp hp2 => ?_⟩
      · unfold upN; rw [if_neg (by omega), if_neg (by omega)]; exact a1
      · have := a2 p hp
        unfold upN; rw [if_neg (by omega)]; split <;> omega
      · have := a3 p hp
        unfold upN; split
        · exact v1
        · rw [if_neg (by omega)]; exact this
      · have := a4 p hp hp2
        unfold upN; split
        · exact v1'
        · rw [if_neg (by omega)]; exact this
/-- a plan being told: how the next game will be -/
abbrev PlX : Type := PlD × Nat × Nat × Nat × Option Nat
def PlX.d (X : PlX) : PlD := X.1
def PlX.y (X : PlX) : Nat := X.2.1
def PlX.c (X : PlX) : Nat := X.2.2.1
def PlX.s (X : PlX) : Nat := X.2.2.2.1
def PlX.e (X : PlX) : Option Nat := X.2.2.2.2
def PlN (st : xS) (m0 : Nat) (X : PlX) : Prop := st.2.2 m0 = .inr (6, [.ref (m0 + 1), .int (nI X.d.n), .int (zI ((X.d.ts : Int) - 1)), .int (zI ((X.d.tg : Int) - 1)), .int (nI X.y), .int (nI X.c), .int (nI X.s), .int (eI X.e)]) ∧ ∃ f : Nat → Int32, st.2.2 (m0 + 1) = .inl (0, 240, .inl f) ∧ (∀ g w, g < X.d.n → w < 5 → f (6 * g + w) = nI (X.d.c g w)) ∧ ∀ g, g < X.d.n → f (6 * g + 5) = eI (X.d.e g)
def PlXI (X : PlX) : Prop := PlI X.d ∧ X.y ≤ 999 ∧ X.c ≤ 1 ∧ X.s ≤ 1 ∧ ∀ x, X.e = some x → x < 10
def plLe (X : PlX) (f : Nat) (_ : Nat) : Int := if f = 20 then (X.y : Int) else 0
def plMo (f : Nat) (_ : Nat) : Int := if f = 20 then 999 else if f = 25 then 9 else 7
abbrev plFull (X : PlX) (f : Nat) : Prop := f = 26 ∧ 40 ≤ X.d.n
def plMany (f : Nat) : Nat := if f = 20 then 1 else if f = 25 then 1 else if f = 26 then 2 else 0
def oG : Option Nat → Nat
  | none => 0
  | some x => x + 1
def plG (X : PlX) (h g : Nat) : PlX := ((X.d.n + 1, (fun i w => if i = X.d.n then (if w = 0 then h else if w = 1 then g else if w = 2 then X.y else if w = 3 then X.c else X.s) else X.d.c i w), (fun i => if i = X.d.n then X.e else X.d.e i), max X.d.ts (max (h + 1) (g + 1)), max X.d.tg (oG X.e)), X.y, X.c, X.s, none)
def plTk (X : PlX) (f : Nat) (v : Nat → Nat) : PlX := if f = 20 then (X.d, v 0, X.c, X.s, X.e) else if f = 21 then (X.d, X.y, 1, X.s, X.e) else if f = 22 then (X.d, X.y, 0, X.s, X.e) else if f = 23 then (X.d, X.y, X.c, 1, X.e) else if f = 24 then (X.d, X.y, X.c, 0, X.e) else if f = 25 then (X.d, X.y, X.c, X.s, some (v 0)) else plG X (v 0) (v 1)
theorem plG_I {X : PlX} (hX : PlXI X) {h g : Nat} (hn : X.d.n < 40) (h8 : h < 8) (g8 : g < 8) (hg : h ≠ g) : PlXI (plG X h g) := by
  obtain ⟨⟨i1, i2, i3, i4, i5, i6⟩, x1, x2, x3, x4⟩ := hX
  have eo : oG X.e ≤ 10 := by
    cases he : X.e with
    | none => exact Nat.zero_le _
    | some x => have := x4 x he; show x + 1 ≤ 10; omega
  refine ⟨⟨hn, fun i hi => ?_, fun S => ?_, fun S => ?_, ?_, ?_⟩, x1, x2, x3, fun x hx => (nomatch hx)⟩
  · have hi : i < X.d.n + 1 := hi
    by_cases c : i = X.d.n
    · subst c
      show (if X.d.n = X.d.n then (if 0 = 0 then h else if 0 = 1 then g else if 0 = 2 then X.y else if 0 = 3 then X.c else X.s) else X.d.c X.d.n 0) < 8 ∧ (if X.d.n = X.d.n then (if 1 = 0 then h else if 1 = 1 then g else if 1 = 2 then X.y else if 1 = 3 then X.c else X.s) else X.d.c X.d.n 1) < 8 ∧ (if X.d.n = X.d.n then (if 0 = 0 then h else if 0 = 1 then g else if 0 = 2 then X.y else if 0 = 3 then X.c else X.s) else X.d.c X.d.n 0) ≠ (if X.d.n = X.d.n then (if 1 = 0 then h else if 1 = 1 then g else if 1 = 2 then X.y else if 1 = 3 then X.c else X.s) else X.d.c X.d.n 1) ∧ (if X.d.n = X.d.n then (if 2 = 0 then h else if 2 = 1 then g else if 2 = 2 then X.y else if 2 = 3 then X.c else X.s) else X.d.c X.d.n 2) ≤ 999 ∧ (if X.d.n = X.d.n then (if 3 = 0 then h else if 3 = 1 then g else if 3 = 2 then X.y else if 3 = 3 then X.c else X.s) else X.d.c X.d.n 3) ≤ 1 ∧ (if X.d.n = X.d.n then (if 4 = 0 then h else if 4 = 1 then g else if 4 = 2 then X.y else if 4 = 3 then X.c else X.s) else X.d.c X.d.n 4) ≤ 1 ∧ ∀ x, (if X.d.n = X.d.n then X.e else X.d.e X.d.n) = some x → x < 10
      simp only [if_true]
      exact ⟨h8, g8, hg, x1, x2, x3, x4⟩
    · have := i2 i (by omega)
      have e : ∀ w, (plG X h g).d.c i w = X.d.c i w := fun w => if_neg c
      have e2 : (plG X h g).d.e i = X.d.e i := if_neg c
      show (plG X h g).d.c i 0 < 8 ∧ (plG X h g).d.c i 1 < 8 ∧ (plG X h g).d.c i 0 ≠ (plG X h g).d.c i 1 ∧ (plG X h g).d.c i 2 ≤ 999 ∧ (plG X h g).d.c i 3 ≤ 1 ∧ (plG X h g).d.c i 4 ≤ 1 ∧ ∀ x, (plG X h g).d.e i = some x → x < 10
      rw [e, e, e, e, e, e2]
      exact this
  · show max X.d.ts (max (h + 1) (g + 1)) ≤ S ↔ ∀ i, i < X.d.n + 1 → (plG X h g).d.c i 0 < S ∧ (plG X h g).d.c i 1 < S
    have k := i3 S
    constructor
    · intro hs i hi
      by_cases c : i = X.d.n
      · have e0 : (plG X h g).d.c i 0 = h := if_pos c
        have e1 : (plG X h g).d.c i 1 = g := if_pos c
        rw [e0, e1]
        omega
      · have e : ∀ w, (plG X h g).d.c i w = X.d.c i w := fun w => if_neg c
        rw [e, e]
        exact k.mp (by omega) i (by omega)
    · intro hs
      have a := k.mpr fun i hi => by
        have := hs i (by omega)
        have e : ∀ w, (plG X h g).d.c i w = X.d.c i w := fun w => if_neg (by omega)
        rw [e, e] at this
        exact this
      have b := hs X.d.n (by omega)
      have e0 : (plG X h g).d.c X.d.n 0 = h := if_pos rfl
      have e1 : (plG X h g).d.c X.d.n 1 = g := if_pos rfl
      rw [e0, e1] at b
      omega
  · show max X.d.tg (oG X.e) ≤ S ↔ ∀ i, i < X.d.n + 1 → ∀ x, (plG X h g).d.e i = some x → x < S
    have k := i4 S
    have ko : oG X.e ≤ S ↔ ∀ x, X.e = some x → x < S := by
      cases X.e with
      | none => exact ⟨fun _ x hx => (nomatch hx), fun _ => Nat.zero_le _⟩
      | some y => exact ⟨fun h x hx => (by cases hx; exact h), fun h => h y rfl⟩
    constructor
    · intro hs i hi
      by_cases c : i = X.d.n
      · have e0 : (plG X h g).d.e i = X.e := if_pos c
        rw [e0]
        exact ko.mp (by omega)
      · have e : (plG X h g).d.e i = X.d.e i := if_neg c
        rw [e]
        exact k.mp (by omega) i (by omega)
    · intro hs
      have a := k.mpr fun i hi => by
        have := hs i (by omega)
        have e : (plG X h g).d.e i = X.d.e i := if_neg (by omega)
        rw [e] at this
        exact this
      have b := hs X.d.n (by omega)
      have e0 : (plG X h g).d.e X.d.n = X.e := if_pos rfl
      rw [e0] at b
      have := ko.mpr b
      omega
  · show max X.d.ts (max (h + 1) (g + 1)) ≤ 100
    omega
  · show max X.d.tg (oG X.e) ≤ 100
    omega
theorem plTk_I {X : PlX} (hX : PlXI X) {f : Nat} (h1 : 20 ≤ f) (h2 : f ≤ 26) {v : Nat → Nat} (hF : ¬ plFull X f) (hb : fbR (plLe X f) (plMo f) (f = 26) v (plMany f) 0 = none) : PlXI (plTk X f v) := by
  have nb := fbR_none _ _ hb
  obtain ⟨i0, x1, x2, x3, x4⟩ := hX
  rcases (show f = 20 ∨ f = 21 ∨ f = 22 ∨ f = 23 ∨ f = 24 ∨ f = 25 ∨ f = 26 by omega) with rfl | rfl | rfl | rfl | rfl | rfl | rfl
  · have b0 := nb 0 (by decide) (by decide)
    have v0 : v 0 ≤ 999 := by have : ¬ (999 : Int) < (v 0 : Int) := fun h => b0 (Or.inr (Or.inr h)); omega
    exact ⟨i0, v0, x2, x3, x4⟩
  · exact ⟨i0, x1, Nat.le_refl 1, x3, x4⟩
  · exact ⟨i0, x1, Nat.zero_le 1, x3, x4⟩
  · exact ⟨i0, x1, x2, Nat.le_refl 1, x4⟩
  · exact ⟨i0, x1, x2, Nat.zero_le 1, x4⟩
  · have b0 := nb 0 (by decide) (by decide)
    have v0 : v 0 ≤ 9 := by have : ¬ (9 : Int) < (v 0 : Int) := fun h => b0 (Or.inr (Or.inr h)); omega
    exact ⟨i0, x1, x2, x3, fun x hx => by
      have hx : some (v 0) = some x := hx
      injection hx with hx
      omega⟩
  · have b0 := nb 0 (by decide) (by decide)
    have b1 := nb 1 (by decide) (by decide)
    have v0 : v 0 ≤ 7 := by have : ¬ (7 : Int) < (v 0 : Int) := fun h => b0 (Or.inr (Or.inr h)); omega
    have v1 : v 1 ≤ 7 := by have : ¬ (7 : Int) < (v 1 : Int) := fun h => b1 (Or.inr (Or.inr h)); omega
    have vn : v 1 ≠ v 0 := fun h => b1 (Or.inl ⟨rfl, rfl, h⟩)
    exact plG_I ⟨i0, x1, x2, x3, x4⟩ (Nat.lt_of_not_le fun h => hF ⟨rfl, h⟩) (by omega) (by omega) (Ne.symm vn)
section KP
variable {st st1 st2 s s1 : xS} {n len p i m m0 f : Nat} {X : PlX} {W : LwD} {v : Nat → Nat}
theorem C_full3 : F_X3_isFull n s (some m0) (nI f) = some (bI False) := rfl
theorem C_least3 {k : Nat} (hk : k < 3) : F_X3_leastOf n s (some m0) (nI f) (nI k) = some (zI (lwLe k)) := by
  rcases (show k = 0 ∨ k = 1 ∨ k = 2 by omega) with rfl | rfl | rfl <;> rfl
theorem C_most3 (h1 : 10 ≤ f) (h2 : f ≤ 16) {k : Nat} (hk : k < 3) : F_X3_mostOf n s (some m0) (nI f) (nI k) = some (zI (lwMo f k)) := by
  rcases (show f = 10 ∨ f = 11 ∨ f = 12 ∨ f = 13 ∨ f = 14 ∨ f = 15 ∨ f = 16 by omega) with rfl | rfl | rfl | rfl | rfl | rfl | rfl <;> rcases (show k = 0 ∨ k = 1 ∨ k = 2 by omega) with rfl | rfl | rfl <;> rfl
theorem C_take3 (hS : Sh s) (h : LwN s m0 W) (h116 : 116 ≤ m0) (h1 : 10 ≤ f) (h2 : f ≤ 16) : ∃ s', F_X3_take n s (some m0) (nI f) (nI (v 0)) (nI (v 1)) (nI (v 2)) = some s' ∧ NF m0 s s' ∧ LwN s' m0 (lwTk W f v) := by
  obtain ⟨c0, F, c1, hF⟩ := h
  have g0 : gR s (some m0) 3 0 = some (some (m0 + 1)) := gR_of c0 rfl
  unfold F_X3_take lwTk
  by_cases c10 : f = 10
  · subst c10
    have w : sS 0 s (some (m0 + 1)) (0 : Int32) (nI (v 0)) = some (wA s (m0 + 1) (upd F 0 (nI (v 0)))) := by
      have : sS 0 s (some (m0 + 1)) (nI 0) (nI (v 0)) = _ := sS_of c1 _ _
      rw [if_pos (ixT (by decide) (by decide)), nIc (by decide)] at this
      exact this
    refine ⟨_, ?_, NF_A hS h116 (a := m0 + 1) (by omega) (upd F 0 (nI (v 0))), (wA_n (by omega) _ _).trans c0, _, wA_c c1 _, ?_⟩
    · rw [if_pos (show nI 10 = (10 : Int32) from rfl)]
      simp only [↓bnd (g0), ↓bnd (w)]
    · rw [if_pos rfl]
      exact upN_I hF
  · have e10 : ¬ nI f = (10 : Int32) := by rw [show (10 : Int32) = nI 10 from rfl, nEq (by omega) (by decide)]; exact c10
    have e11 : nI f - (11 : Int32) = nI (f - 11) := nSub (b := 11) (by omega)
    rw [if_neg e10, if_neg c10]
    have w1 := C_setAt (n := n) c1 (k := 10 + (f - 11)) (by omega) (by decide) (nI (v 0))
    have n1 := NF_A hS h116 (a := m0 + 1) (by omega) (upd F (10 + (f - 11)) (nI (v 0)))
    have d1 := wA_c c1 (upd F (10 + (f - 11)) (nI (v 0)))
    have o1 : ∀ a, a ≠ m0 + 1 → (wA s (m0 + 1) (upd F (10 + (f - 11)) (nI (v 0)))).2.2 a = s.2.2 a := fun a ha => wA_n ha _ _
    generalize wA s (m0 + 1) (upd F (10 + (f - 11)) (nI (v 0))) = s1 at *
    have c01 := (o1 m0 (by omega)).trans c0
    have le0 : (nI (f - 11) ≤ (0 : Int32)) = (f - 11 ≤ 0) := nLe (b := 0) (by omega) (by decide)
    by_cases c11 : f = 11
    · refine ⟨s1, ?_, n1, c01, _, d1, ?_⟩
      · simp only [Option.bind_some, e11, ↓bnd (g0), show ∀ x : Nat, (10 : Int32) + nI x = nI (10 + x) from fun x => nAdd 10 x, ↓bnd (w1), le0, eq_true (show f - 11 ≤ 0 by omega), if_true]
      · rw [if_pos c11, c11]
        exact upN_I hF
    · have w2 := C_setAt (n := n) d1 (k := 20 + (f - 11)) (by omega) (by decide) (nI (v 1))
      have n2 := NF_A n1.2.2.1 h116 (a := m0 + 1) (by omega) (upd (upd F (10 + (f - 11)) (nI (v 0))) (20 + (f - 11)) (nI (v 1)))
      have d2 := wA_c d1 (upd (upd F (10 + (f - 11)) (nI (v 0))) (20 + (f - 11)) (nI (v 1)))
      refine ⟨_, ?_, n1.trans n2, (wA_n (by omega) _ _).trans c01, _, d2, ?_⟩
      · simp only [Option.bind_some, e11, ↓bnd (g0), show ∀ x : Nat, (10 : Int32) + nI x = nI (10 + x) from fun x => nAdd 10 x, show ∀ x : Nat, (20 : Int32) + nI x = nI (20 + x) from fun x => nAdd 20 x, ↓bnd (w1), le0, eq_false (show ¬ f - 11 ≤ 0 by omega), if_false, ↓bnd ((gR_of c01 rfl : gR s1 (some m0) 3 0 = some (some (m0 + 1)))), ↓bnd (w2)]
      · rw [if_neg c11, show f - 1 = 10 + (f - 11) by omega, show f + 9 = 20 + (f - 11) by omega]
        exact upN_I (upN_I hF)
theorem C_full6 (h : PlN s m0 X) (hx : X.d.n ≤ 40) (h1 : 20 ≤ f) (h2 : f ≤ 26) : F_X6_isFull n s (some m0) (nI f) = some (bI (plFull X f)) := by
  have g1 : gI s (some m0) 6 1 = some (nI X.d.n) := gI_of h.1 rfl
  have e1 : (nI f = (26 : Int32)) = (f = 26) := nEq (b := 26) (by omega) (by decide)
  have e2 : (nI X.d.n < (40 : Int32)) = (X.d.n < 40) := nLt (b := 40) (by omega) (by decide)
  unfold F_X6_isFull
  simp only [e1, ↓bnd (g1), e2]
  by_cases c : f = 26
  · by_cases c2 : X.d.n < 40
    · rw [if_pos c, if_pos c2, bI_f fun h => by have := h.2; omega]; rfl
    · rw [if_pos c, if_neg c2, bI_t ⟨c, by omega⟩]; rfl
  · rw [if_neg c, bI_f fun h => c h.1]; rfl
theorem C_least6 (h : PlN s m0 X) (h1 : 20 ≤ f) (h2 : f ≤ 26) (k : Nat) : F_X6_leastOf n s (some m0) (nI f) (nI k) = some (zI (plLe X f k)) := by
  have g4 : gI s (some m0) 6 4 = some (nI X.y) := gI_of h.1 rfl
  have e1 : (nI f = (20 : Int32)) = (f = 20) := nEq (b := 20) (by omega) (by decide)
  unfold F_X6_leastOf plLe
  simp only [e1, ↓bnd (g4)]
  by_cases c : f = 20
  · rw [if_pos c, if_pos c]; rfl
  · rw [if_neg c, if_neg c]; rfl
theorem C_most6 (h1 : 20 ≤ f) (h2 : f ≤ 26) (k : Nat) : F_X6_mostOf n s (some m0) (nI f) (nI k) = some (zI (plMo f k)) := by
  rcases (show f = 20 ∨ f = 21 ∨ f = 22 ∨ f = 23 ∨ f = 24 ∨ f = 25 ∨ f = 26 by omega) with rfl | rfl | rfl | rfl | rfl | rfl | rfl <;> rfl
theorem imax_z {a b : Int} (h1 : -10000 ≤ a ∧ a ≤ 10000) (h2 : -10000 ≤ b ∧ b ≤ 10000) : imax (zI a) (zI b) = zI (max a b) := by
  unfold imax
  have e : (zI a < zI b) = (a < b) := zLt (by omega) (by omega) (by omega) (by omega)
  simp only [e]
  by_cases c : a < b
  · rw [if_pos c, show max a b = b by omega]
  · rw [if_neg c, show max a b = a by omega]
theorem eI_z (o : Option Nat) : eI o = zI ((oG o : Int) - 1) := by
  cases o with
  | none => rfl
  | some x =>
    show zI (x : Int) = zI (((x + 1 : Nat) : Int) - 1)
    congr 1
    omega
theorem C_addGame (hS : Sh s) (h : PlN s m0 X) (hX : PlXI X) (h116 : 116 ≤ m0) (hn : X.d.n < 40) {a b : Nat} (ha : a < 8) (hb : b < 8) : ∃ s', F_X6_addGame n s (some m0) (nI a) (nI b) = some s' ∧ NF m0 s s' ∧ PlN s' m0 (plG X a b) := by
  obtain ⟨c0, F, c1, hF, hE⟩ := h
  obtain ⟨⟨i1, i2, i3, i4, i5, i6⟩, x1, x2, x3, x4⟩ := hX
  have eo : oG X.e ≤ 10 := by
    cases he : X.e with
    | none => exact Nat.zero_le _
    | some x => have := x4 x he; show x + 1 ≤ 10; omega
  have m6 : (6 : Int32) * nI X.d.n = nI (6 * X.d.n) := nMul 6 _
  have aw : ∀ w : Nat, nI (6 * X.d.n) + nI w = nI (6 * X.d.n + w) := fun w => nAdd _ _
  have st6 : ∀ (s' : xS) (F' : Nat → Int32) (w : Nat) (x : Int32), w < 6 → Sh s' → s'.2.2 m0 = s.2.2 m0 → s'.2.2 (m0 + 1) = .inl (0, 240, .inl F') → ∃ s2, F_X10_setAt n s' (some (m0 + 1)) (nI (6 * X.d.n + w)) x = some s2 ∧ NF m0 s' s2 ∧ s2.2.2 m0 = s.2.2 m0 ∧ s2.2.2 (m0 + 1) = .inl (0, 240, .inl (upd F' (6 * X.d.n + w) x)) := fun s' F' w x hw S e0 e1 => ⟨_, C_setAt e1 (by omega) (by decide) x, NF_A S h116 (by omega) _, (wA_n (by omega) _ _).trans e0, wA_c e1 _⟩
  obtain ⟨s1, e1, n1, z1, y1⟩ := st6 s F 0 (nI a) (by decide) hS rfl c1
  obtain ⟨s2, e2, n2, z2, y2⟩ := st6 s1 _ 1 (nI b) (by decide) n1.2.2.1 z1 y1
  obtain ⟨s3, e3, n3, z3, y3⟩ := st6 s2 _ 2 (nI X.y) (by decide) n2.2.2.1 z2 y2
  obtain ⟨s4, e4, n4, z4, y4⟩ := st6 s3 _ 3 (nI X.c) (by decide) n3.2.2.1 z3 y3
  obtain ⟨s5, e5, n5, z5, y5⟩ := st6 s4 _ 4 (nI X.s) (by decide) n4.2.2.1 z4 y4
  obtain ⟨s6, e6, n6, z6, y6⟩ := st6 s5 _ 5 (eI X.e) (by decide) n5.2.2.1 z5 y5
  have a0 : nI (6 * X.d.n) + (0 : Int32) = nI (6 * X.d.n + 0) := nAdd _ 0
  have a1 : nI (6 * X.d.n) + (1 : Int32) = nI (6 * X.d.n + 1) := nAdd _ 1
  have a2 : nI (6 * X.d.n) + (2 : Int32) = nI (6 * X.d.n + 2) := nAdd _ 2
  have a3 : nI (6 * X.d.n) + (3 : Int32) = nI (6 * X.d.n + 3) := nAdd _ 3
  have a4 : nI (6 * X.d.n) + (4 : Int32) = nI (6 * X.d.n + 4) := nAdd _ 4
  have a5 : nI (6 * X.d.n) + (5 : Int32) = nI (6 * X.d.n + 5) := nAdd _ 5
  have rR : ∀ s' : xS, s'.2.2 m0 = s.2.2 m0 → gR s' (some m0) 6 0 = some (some (m0 + 1)) := fun s' e => gR_of (e.trans c0) rfl
  have r1 : ∀ s' : xS, s'.2.2 m0 = s.2.2 m0 → gI s' (some m0) 6 1 = some (nI X.d.n) := fun s' e => gI_of (e.trans c0) rfl
  have r4 : ∀ s' : xS, s'.2.2 m0 = s.2.2 m0 → gI s' (some m0) 6 4 = some (nI X.y) := fun s' e => gI_of (e.trans c0) rfl
  have r5 : ∀ s' : xS, s'.2.2 m0 = s.2.2 m0 → gI s' (some m0) 6 5 = some (nI X.c) := fun s' e => gI_of (e.trans c0) rfl
  have r6 : ∀ s' : xS, s'.2.2 m0 = s.2.2 m0 → gI s' (some m0) 6 6 = some (nI X.s) := fun s' e => gI_of (e.trans c0) rfl
  have r7 : ∀ s' : xS, s'.2.2 m0 = s.2.2 m0 → gI s' (some m0) 6 7 = some (eI X.e) := fun s' e => gI_of (e.trans c0) rfl
  have c6 := z6.trans c0
  have S6 := n6.2.2.1
  have p7 : pF s6 (some m0) 6 1 (.int (nI (X.d.n + 1))) = some (uV s6 m0 1 (.int (nI (X.d.n + 1)))) := pF_of c6 (by show 1 < 8; omega)
  have q7 := uV_c (k := 1) c6 (.int (nI (X.d.n + 1)))
  have n7 := NF_V S6 h116 1 (.int (nI (X.d.n + 1)))
  have o7 : (uV s6 m0 1 (.int (nI (X.d.n + 1)))).2.2 (m0 + 1) = s6.2.2 (m0 + 1) := uV_n (by omega) _ _ _
  generalize uV s6 m0 1 (.int (nI (X.d.n + 1))) = s7 at *
  have g72 : gI s7 (some m0) 6 2 = some (zI ((X.d.ts : Int) - 1)) := gI_of q7 rfl
  have mx : imax (zI ((X.d.ts : Int) - 1)) (imax (nI a) (nI b)) = zI (((max X.d.ts (max (a + 1) (b + 1)) : Nat) : Int) - 1) := by
    rw [nZ a, nZ b, imax_z (by omega) (by omega), imax_z (by omega) (by omega)]
    congr 1
    omega
  have p8 : pF s7 (some m0) 6 2 (.int (zI (((max X.d.ts (max (a + 1) (b + 1)) : Nat) : Int) - 1))) = some (uV s7 m0 2 (.int (zI (((max X.d.ts (max (a + 1) (b + 1)) : Nat) : Int) - 1)))) := pF_of q7 (by show 2 < 8; omega)
  have q8 := uV_c (k := 2) q7 (.int (zI (((max X.d.ts (max (a + 1) (b + 1)) : Nat) : Int) - 1)))
  have n8 := NF_V n7.2.2.1 h116 2 (.int (zI (((max X.d.ts (max (a + 1) (b + 1)) : Nat) : Int) - 1)))
  have o8 : (uV s7 m0 2 (.int (zI (((max X.d.ts (max (a + 1) (b + 1)) : Nat) : Int) - 1)))).2.2 (m0 + 1) = s7.2.2 (m0 + 1) := uV_n (by omega) _ _ _
  generalize uV s7 m0 2 (.int (zI (((max X.d.ts (max (a + 1) (b + 1)) : Nat) : Int) - 1))) = s8 at *
  have g83 : gI s8 (some m0) 6 3 = some (zI ((X.d.tg : Int) - 1)) := gI_of q8 rfl
  have g87 : gI s8 (some m0) 6 7 = some (eI X.e) := gI_of q8 rfl
  have mg : imax (zI ((X.d.tg : Int) - 1)) (eI X.e) = zI (((max X.d.tg (oG X.e) : Nat) : Int) - 1) := by
    rw [eI_z, imax_z (by omega) (by omega)]
    congr 1
    omega
  have p9 : pF s8 (some m0) 6 3 (.int (zI (((max X.d.tg (oG X.e) : Nat) : Int) - 1))) = some (uV s8 m0 3 (.int (zI (((max X.d.tg (oG X.e) : Nat) : Int) - 1)))) := pF_of q8 (by show 3 < 8; omega)
  have q9 := uV_c (k := 3) q8 (.int (zI (((max X.d.tg (oG X.e) : Nat) : Int) - 1)))
  have n9 := NF_V n8.2.2.1 h116 3 (.int (zI (((max X.d.tg (oG X.e) : Nat) : Int) - 1)))
  have o9 : (uV s8 m0 3 (.int (zI (((max X.d.tg (oG X.e) : Nat) : Int) - 1)))).2.2 (m0 + 1) = s8.2.2 (m0 + 1) := uV_n (by omega) _ _ _
  generalize uV s8 m0 3 (.int (zI (((max X.d.tg (oG X.e) : Nat) : Int) - 1))) = s9 at *
  have p10 : pF s9 (some m0) 6 7 (.int (-1)) = some (uV s9 m0 7 (.int (-1))) := pF_of q9 (by show 7 < 8; omega)
  have q10 := uV_c (k := 7) q9 (.int (-1))
  have n10 := NF_V n9.2.2.1 h116 7 (.int (-1))
  have o10 : (uV s9 m0 7 (.int (-1))).2.2 (m0 + 1) = s9.2.2 (m0 + 1) := uV_n (by omega) _ _ _
  generalize uV s9 m0 7 (.int (-1)) = s10 at *
  have y10 := (o10.trans (o9.trans (o8.trans o7))).trans y6
  refine ⟨s10, ?_, ((((n1.trans n2).trans n3).trans n4).trans (n5.trans n6)).trans ((n7.trans n8).trans (n9.trans n10)), q10, _, y10, fun g w hg hw => ?_, fun g hg => ?_⟩
  · unfold F_X6_addGame
    simp only [↓bnd (r1 s rfl), Option.bind_some, m6, ↓bnd (rR s rfl), a0, ↓bnd (e1), ↓bnd (rR s1 z1), a1, ↓bnd (e2), ↓bnd (rR s2 z2), ↓bnd (r4 s2 z2), a2, ↓bnd (e3), ↓bnd (rR s3 z3), ↓bnd (r5 s3 z3), a3, ↓bnd (e4), ↓bnd (rR s4 z4), ↓bnd (r6 s4 z4), a4, ↓bnd (e5), ↓bnd (rR s5 z5), ↓bnd (r7 s5 z5), a5, ↓bnd (e6), ↓bnd (r1 s6 z6), nI_1, ↓bnd (p7), ↓bnd (g72), mx, ↓bnd (p8), ↓bnd (g83), ↓bnd (g87), mg, ↓bnd (p9), ↓bnd (p10)]
  · have hg : g < X.d.n + 1 := hg
    show upd (upd (upd (upd (upd (upd F (6 * X.d.n + 0) (nI a)) (6 * X.d.n + 1) (nI b)) (6 * X.d.n + 2) (nI X.y)) (6 * X.d.n + 3) (nI X.c)) (6 * X.d.n + 4) (nI X.s)) (6 * X.d.n + 5) (eI X.e) (6 * g + w) = nI (if g = X.d.n then (if w = 0 then a else if w = 1 then b else if w = 2 then X.y else if w = 3 then X.c else X.s) else X.d.c g w)
    by_cases c : g = X.d.n
    · rw [if_pos c, c]
      rcases (show w = 0 ∨ w = 1 ∨ w = 2 ∨ w = 3 ∨ w = 4 by omega) with rfl | rfl | rfl | rfl | rfl
      · rw [pk_un (by omega), pk_un (by omega), pk_un (by omega), pk_un (by omega), pk_un (by omega), upd_s]; rfl
      · rw [pk_un (by omega), pk_un (by omega), pk_un (by omega), pk_un (by omega), upd_s]; rfl
      · rw [pk_un (by omega), pk_un (by omega), pk_un (by omega), upd_s]; rfl
      · rw [pk_un (by omega), pk_un (by omega), upd_s]; rfl
      · rw [pk_un (by omega), upd_s]; rfl
    · rw [if_neg c, pk_un (by omega), pk_un (by omega), pk_un (by omega), pk_un (by omega), pk_un (by omega), pk_un (by omega)]
      exact hF g w (by omega) hw
  · have hg : g < X.d.n + 1 := hg
    show upd (upd (upd (upd (upd (upd F (6 * X.d.n + 0) (nI a)) (6 * X.d.n + 1) (nI b)) (6 * X.d.n + 2) (nI X.y)) (6 * X.d.n + 3) (nI X.c)) (6 * X.d.n + 4) (nI X.s)) (6 * X.d.n + 5) (eI X.e) (6 * g + 5) = eI (if g = X.d.n then X.e else X.d.e g)
    by_cases c : g = X.d.n
    · rw [if_pos c, c, upd_s]
    · rw [if_neg c, pk_un (by omega), pk_un (by omega), pk_un (by omega), pk_un (by omega), pk_un (by omega), pk_un (by omega)]
      exact hE g (by omega)
theorem C_take6 (hS : Sh s) (h : PlN s m0 X) (hX : PlXI X) (h116 : 116 ≤ m0) (h1 : 20 ≤ f) (h2 : f ≤ 26) (hF : ¬ plFull X f) (hv : f = 26 → v 0 < 8 ∧ v 1 < 8) : ∃ s', F_X6_take n s (some m0) (nI f) (nI (v 0)) (nI (v 1)) (nI (v 2)) = some s' ∧ NF m0 s s' ∧ PlN s' m0 (plTk X f v) := by
  have fld : ∀ (k : Nat) (x : Int32), k < 8 → ∃ s', pF s (some m0) 6 k (.int x) = some s' ∧ NF m0 s s' ∧ s'.2.2 m0 = .inr (6, [.ref (m0 + 1), .int (nI X.d.n), .int (zI ((X.d.ts : Int) - 1)), .int (zI ((X.d.tg : Int) - 1)), .int (nI X.y), .int (nI X.c), .int (nI X.s), .int (eI X.e)].set k (.int x)) ∧ s'.2.2 (m0 + 1) = s.2.2 (m0 + 1) := fun k x hk => ⟨_, pF_of h.1 (by show k < 8; exact hk), NF_V hS h116 k _, uV_c h.1 _, uV_n (by omega) _ _ _⟩
  rcases (show f = 20 ∨ f = 21 ∨ f = 22 ∨ f = 23 ∨ f = 24 ∨ f = 25 ∨ f = 26 by omega) with rfl | rfl | rfl | rfl | rfl | rfl | rfl
  · obtain ⟨s', e, nf, q, o⟩ := fld 4 (nI (v 0)) (by decide)
    refine ⟨s', ?_, nf, q, by rw [o]; exact h.2⟩
    unfold F_X6_take
    rw [if_pos (show nI 20 = (20 : Int32) from rfl), e]
    rfl
  · obtain ⟨s', e, nf, q, o⟩ := fld 5 1 (by decide)
    refine ⟨s', ?_, nf, q, by rw [o]; exact h.2⟩
    unfold F_X6_take
    rw [if_neg (show ¬ nI 21 = (20 : Int32) by decide), if_pos (show nI 21 = (21 : Int32) from rfl), e]
    rfl
  · obtain ⟨s', e, nf, q, o⟩ := fld 5 0 (by decide)
    refine ⟨s', ?_, nf, q, by rw [o]; exact h.2⟩
    unfold F_X6_take
    rw [if_neg (show ¬ nI 22 = (20 : Int32) by decide), if_neg (show ¬ nI 22 = (21 : Int32) by decide), if_pos (show nI 22 = (22 : Int32) from rfl), e]
    rfl
  · obtain ⟨s', e, nf, q, o⟩ := fld 6 1 (by decide)
    refine ⟨s', ?_, nf, q, by rw [o]; exact h.2⟩
    unfold F_X6_take
    rw [if_neg (show ¬ nI 23 = (20 : Int32) by decide), if_neg (show ¬ nI 23 = (21 : Int32) by decide), if_neg (show ¬ nI 23 = (22 : Int32) by decide), if_pos (show nI 23 = (23 : Int32) from rfl), e]
    rfl
  · obtain ⟨s', e, nf, q, o⟩ := fld 6 0 (by decide)
    refine ⟨s', ?_, nf, q, by rw [o]; exact h.2⟩
    unfold F_X6_take
    rw [if_neg (show ¬ nI 24 = (20 : Int32) by decide), if_neg (show ¬ nI 24 = (21 : Int32) by decide), if_neg (show ¬ nI 24 = (22 : Int32) by decide), if_neg (show ¬ nI 24 = (23 : Int32) by decide), if_pos (show nI 24 = (24 : Int32) from rfl), e]
    rfl
  · obtain ⟨s', e, nf, q, o⟩ := fld 7 (nI (v 0)) (by decide)
    refine ⟨s', ?_, nf, q, by rw [o]; exact h.2⟩
    unfold F_X6_take
    rw [if_neg (show ¬ nI 25 = (20 : Int32) by decide), if_neg (show ¬ nI 25 = (21 : Int32) by decide), if_neg (show ¬ nI 25 = (22 : Int32) by decide), if_neg (show ¬ nI 25 = (23 : Int32) by decide), if_neg (show ¬ nI 25 = (24 : Int32) by decide), if_pos (show nI 25 = (25 : Int32) from rfl), e]
    rfl
  · obtain ⟨v0, v1⟩ := hv rfl
    obtain ⟨s', e, nf, q⟩ := C_addGame (n := n) hS h hX h116 (Nat.lt_of_not_le fun q => hF ⟨rfl, q⟩) v0 v1
    refine ⟨s', ?_, nf, q⟩
    unfold F_X6_take
    rw [if_neg (show ¬ nI 26 = (20 : Int32) by decide), if_neg (show ¬ nI 26 = (21 : Int32) by decide), if_neg (show ¬ nI 26 = (22 : Int32) by decide), if_neg (show ¬ nI 26 = (23 : Int32) by decide), if_neg (show ¬ nI 26 = (24 : Int32) by decide), if_neg (show ¬ nI 26 = (25 : Int32) by decide)]
    simp only [↓bnd (isO_of h.1), ↓bnd (e), Option.bind_some]
end KP

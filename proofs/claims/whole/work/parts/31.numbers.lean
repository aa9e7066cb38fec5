/-! NUMBERS for the functions: ints as numbers below 2^31, written nI -/
theorem l0 : (0 : Int32) = nI 0 := rfl
theorem l1 : (1 : Int32) = nI 1 := rfl
theorem l2 : (2 : Int32) = nI 2 := rfl
theorem l3 : (3 : Int32) = nI 3 := rfl
theorem l4 : (4 : Int32) = nI 4 := rfl
theorem l5 : (5 : Int32) = nI 5 := rfl
theorem l6 : (6 : Int32) = nI 6 := rfl
theorem l7 : (7 : Int32) = nI 7 := rfl
theorem l8 : (8 : Int32) = nI 8 := rfl
theorem l9 : (9 : Int32) = nI 9 := rfl
theorem l10 : (10 : Int32) = nI 10 := rfl
theorem l11 : (11 : Int32) = nI 11 := rfl
theorem l12 : (12 : Int32) = nI 12 := rfl
theorem l13 : (13 : Int32) = nI 13 := rfl
theorem l14 : (14 : Int32) = nI 14 := rfl
theorem l15 : (15 : Int32) = nI 15 := rfl
theorem l16 : (16 : Int32) = nI 16 := rfl
theorem l17 : (17 : Int32) = nI 17 := rfl
theorem l18 : (18 : Int32) = nI 18 := rfl
theorem l19 : (19 : Int32) = nI 19 := rfl
theorem l20 : (20 : Int32) = nI 20 := rfl
theorem l21 : (21 : Int32) = nI 21 := rfl
theorem l22 : (22 : Int32) = nI 22 := rfl
theorem l23 : (23 : Int32) = nI 23 := rfl
theorem l24 : (24 : Int32) = nI 24 := rfl
theorem l25 : (25 : Int32) = nI 25 := rfl
theorem l26 : (26 : Int32) = nI 26 := rfl
theorem l27 : (27 : Int32) = nI 27 := rfl
theorem l28 : (28 : Int32) = nI 28 := rfl
theorem l29 : (29 : Int32) = nI 29 := rfl
theorem l30 : (30 : Int32) = nI 30 := rfl
theorem l31 : (31 : Int32) = nI 31 := rfl
theorem l32 : (32 : Int32) = nI 32 := rfl
theorem l33 : (33 : Int32) = nI 33 := rfl
theorem l34 : (34 : Int32) = nI 34 := rfl
theorem l35 : (35 : Int32) = nI 35 := rfl
theorem l36 : (36 : Int32) = nI 36 := rfl
theorem l37 : (37 : Int32) = nI 37 := rfl
theorem l38 : (38 : Int32) = nI 38 := rfl
theorem l39 : (39 : Int32) = nI 39 := rfl
theorem l40 : (40 : Int32) = nI 40 := rfl
theorem l41 : (41 : Int32) = nI 41 := rfl
theorem l42 : (42 : Int32) = nI 42 := rfl
theorem l43 : (43 : Int32) = nI 43 := rfl
theorem l44 : (44 : Int32) = nI 44 := rfl
theorem l45 : (45 : Int32) = nI 45 := rfl
theorem l46 : (46 : Int32) = nI 46 := rfl
theorem l47 : (47 : Int32) = nI 47 := rfl
theorem l48 : (48 : Int32) = nI 48 := rfl
theorem l49 : (49 : Int32) = nI 49 := rfl
theorem l50 : (50 : Int32) = nI 50 := rfl
theorem l51 : (51 : Int32) = nI 51 := rfl
theorem l52 : (52 : Int32) = nI 52 := rfl
theorem l53 : (53 : Int32) = nI 53 := rfl
theorem l54 : (54 : Int32) = nI 54 := rfl
theorem l55 : (55 : Int32) = nI 55 := rfl
theorem l56 : (56 : Int32) = nI 56 := rfl
theorem l57 : (57 : Int32) = nI 57 := rfl
theorem l58 : (58 : Int32) = nI 58 := rfl
theorem l59 : (59 : Int32) = nI 59 := rfl
theorem l60 : (60 : Int32) = nI 60 := rfl
theorem l65 : (65 : Int32) = nI 65 := rfl
theorem l90 : (90 : Int32) = nI 90 := rfl
theorem l96 : (96 : Int32) = nI 96 := rfl
theorem l97 : (97 : Int32) = nI 97 := rfl
theorem l99 : (99 : Int32) = nI 99 := rfl
theorem l100 : (100 : Int32) = nI 100 := rfl
theorem l101 : (101 : Int32) = nI 101 := rfl
theorem l122 : (122 : Int32) = nI 122 := rfl
theorem l150 : (150 : Int32) = nI 150 := rfl
theorem l242 : (242 : Int32) = nI 242 := rfl
theorem l255 : (255 : Int32) = nI 255 := rfl
theorem l499 : (499 : Int32) = nI 499 := rfl
theorem l500 : (500 : Int32) = nI 500 := rfl
theorem l510 : (510 : Int32) = nI 510 := rfl
theorem l800 : (800 : Int32) = nI 800 := rfl
theorem l960 : (960 : Int32) = nI 960 := rfl
theorem l999 : (999 : Int32) = nI 999 := rfl
theorem l1000 : (1000 : Int32) = nI 1000 := rfl
theorem l1002 : (1002 : Int32) = nI 1002 := rfl
theorem l1730 : (1730 : Int32) = nI 1730 := rfl
theorem l2530 : (2530 : Int32) = nI 2530 := rfl
theorem l2562 : (2562 : Int32) = nI 2562 := rfl
theorem l9999 : (9999 : Int32) = nI 9999 := rfl
theorem l10250 : (10250 : Int32) = nI 10250 := rfl
theorem l32768 : (32768 : Int32) = nI 32768 := rfl
theorem l1000000 : (1000000 : Int32) = nI 1000000 := rfl
theorem ixT {k n : Nat} (h : k < n) (hn : n ≤ 2147483648) : ix (nI k) n = true := by
  have h1 : ¬ nI k < 0 := nI_pos (by omega)
  simp [ix, h1, nI_clamp (show k < 2 ^ 31 by omega)]
  exact h
theorem nIc {k : Nat} (h : k < 2147483648) : (nI k).toNatClampNeg = k := nI_clamp (by omega)
theorem nLt {a b : Nat} (ha : a < 2147483648) (hb : b < 2147483648) : (nI a < nI b) = (a < b) := propext (nI_ltI (by omega) (by omega))
theorem nLe {a b : Nat} (ha : a < 2147483648) (hb : b < 2147483648) : (nI a ≤ nI b) = (a ≤ b) := propext (nI_leI (by omega) (by omega))
theorem nEq {a b : Nat} (ha : a < 2147483648) (hb : b < 2147483648) : (nI a = nI b) = (a = b) := propext (nI_eq (by omega) (by omega))
theorem nSub {a b : Nat} (h : b ≤ a) : nI a - nI b = nI (a - b) := pk_sub h
theorem nAdd (a b : Nat) : nI a + nI b = nI (a + b) := nI_add a b
theorem nMul (a b : Nat) : nI a * nI b = nI (a * b) := pk_mul a b
theorem nDiv {a d : Nat} (ha : a < 2147483648) (h0 : 0 < d) (hd : d < 2147483648) : nI a / nI d = nI (a / d) := pk_div (by omega) h0 (by omega)
theorem dI_n {a d : Nat} (ha : a < 2147483648) (h0 : 0 < d) (hd : d < 2147483648) : dI (nI a) (nI d) = some (nI (a / d)) := by
  unfold dI
  rw [if_neg (by rw [l0, nEq hd (by omega)]; omega), nDiv ha h0 hd]
theorem dR_n {a d : Nat} (ha : a < 2147483648) (h0 : 0 < d) (hd : d < 2147483648) : dR (nI a) (nI d) = some (nI (a % d)) := by
  unfold dR
  rw [if_neg (by rw [l0, nEq hd (by omega)]; omega), pk_rem (by omega) h0 (by omega)]
theorem nNeg1 {a : Nat} (ha : a < 2147483648) : (nI a = (-1 : Int32)) = False := by
  refine propext ⟨fun h => ?_, False.elim⟩
  have := congrArg Int32.toInt h
  rw [nI_toInt (by omega)] at this
  have e : (-1 : Int32).toInt = -1 := by decide
  rw [e] at this
  omega
theorem nNeg1' {a : Nat} (ha : a < 2147483648) : ((-1 : Int32) = nI a) = False := by
  rw [show ((-1 : Int32) = nI a) = (nI a = (-1 : Int32)) from propext eq_comm, nNeg1 ha]
theorem rz0 : rz 0 = some 0 := rfl
theorem rz1 : rz 1 = some 1 := rfl
/-- a truth as an int -/
def bI (c : Prop) [Decidable c] : Int32 := if c then 1 else 0
theorem rz_bI (c : Prop) [Decidable c] : rz (bI c) = some (bI c) := by
  unfold bI
  split <;> rfl
theorem bI_0 (c : Prop) [Decidable c] : (bI c = 0) = ¬ c := by
  unfold bI
  by_cases h : c <;> simp [h]
theorem bI_t {c : Prop} [Decidable c] (h : c) : bI c = 1 := if_pos h
theorem bI_f {c : Prop} [Decidable c] (h : ¬ c) : bI c = 0 := if_neg h
/-- a loop: from state i one more turn leads to state i + 1 -/
theorem loop_run {σ β : Type} (f : Nat → σ → Option β) (S : Nat → σ) (N : Nat) (r : Option β) (hs : ∀ k i, i < N → f (k + 1) (S i) = f k (S (i + 1))) (he : ∀ k, f (k + 1) (S N) = r) : ∀ k, N < k → f k (S 0) = r := by
  have key : ∀ m i k, i + m = N → m < k → f k (S i) = r := by
    intro m
    induction m with
    | zero =>
      intro i k h1 h2
      obtain ⟨k, rfl⟩ : ∃ j, k = j + 1 := ⟨k - 1, by omega⟩
      rw [show i = N by omega]
      exact he k
    | succ m ih =>
      intro i k h1 h2
      obtain ⟨k, rfl⟩ : ∃ j, k = j + 1 := ⟨k - 1, by omega⟩
      rw [hs k i (by omega)]
      exact ih (i + 1) k (by omega) (by omega)
  intro k hk
  exact key N 0 k (by omega) hk
/-- the sum of the first i values -/
def sumI (f : Nat → Int32) : Nat → Int32
  | 0 => 0
  | i + 1 => sumI f i + f i
section M0
variable {st : xS} {n : Nat}
theorem M_isIn (v a b : Int32) : F_X11_isIn n st v a b = some (bI (a ≤ v ∧ v ≤ b)) := by
  unfold F_X11_isIn
  by_cases h1 : v < a
  · have : ¬ (a ≤ v ∧ v ≤ b) := fun h => Int32.not_le.mpr h1 h.1
    simp [h1, bI_f this, rz0]
  · by_cases h2 : b < v
    · have : ¬ (a ≤ v ∧ v ≤ b) := fun h => Int32.not_le.mpr h2 h.2
      simp [h1, h2, bI_f this, rz0]
    · have : a ≤ v ∧ v ≤ b := ⟨Int32.not_lt.mp h1, Int32.not_lt.mp h2⟩
      simp [h1, h2, bI_t this, rz1]
theorem M_placeOf0 (k : Nat) : F_X11_placeOf n st 0 (nI k) = some (nI (510 + 150 * k)) := by
  simp only [F_X11_placeOf, if_true, Option.bind_some, l510, l150, nMul, nAdd]
theorem M_placeOf1 (k : Nat) : F_X11_placeOf n st 1 (nI k) = some (nI (960 + 14 * k)) := by
  simp only [F_X11_placeOf, show ¬ (1 : Int32) = 0 by decide, if_false, if_true, Option.bind_some, l960, l14, nMul, nAdd]
theorem M_placeOf2 (k : Nat) : F_X11_placeOf n st 2 (nI k) = some (nI (1002 + 242 * k)) := by
  simp only [F_X11_placeOf, show ¬ (2 : Int32) = 0 by decide, show ¬ (2 : Int32) = 1 by decide, if_false, Option.bind_some, l1002, l242, nMul, nAdd]
theorem M_isOf (hS : Sh st) (w : Nat) (hw : w < 3) (k : Int32) : F_X11_isOf n st (some 106) (nI w) k = some (bI (0 ≤ k ∧ k ≤ cI st 107 w - 1)) := by
  simp (disch := omega) only [F_X11_isOf, g106_0 hS, Option.bind_some, a107 hS, ixT, nIc, if_true, M_isIn, rz_bI]
theorem M_gamesOf (hS : Sh st) (p : Nat) (hp : p < 3) : F_X11_gamesOf n st (some 106) (nI p) = some (cI st 107 (1002 + 242 * p)) := by
  simp (disch := omega) only [F_X11_gamesOf, g106_0 hS, Option.bind_some, M_placeOf2, a107 hS, ixT, nIc, if_true]
theorem M_gameOf (hS : Sh st) (p g w : Nat) (hp : p < 3) (hg : g < 40) (hw : w < 6) : F_X11_gameOf n st (some 106) (nI p) (nI g) (nI w) = some (cI st 107 (1002 + 242 * p + 1 + 6 * g + w)) := by
  simp (disch := omega) only [F_X11_gameOf, g106_0 hS, Option.bind_some, M_placeOf2, l1, l6, nMul, nAdd, a107 hS, ixT, nIc, if_true]
end M0


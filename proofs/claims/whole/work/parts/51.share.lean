/-! WHAT IS LEFT OF A FRACTION IN LEAST TERMS -/
def lZ (x : Int) : Int64 := Int64.ofInt x
theorem lZ_toInt {x : Int} (h1 : -9223372036854775808 ≤ x) (h2 : x < 9223372036854775808) : (lZ x).toInt = x := Int64.toInt_ofInt_of_le (by simpa using h1) (by simpa using h2)
theorem lZAdd (a b : Int) : lZ a + lZ b = lZ (a + b) := (Int64.ofInt_add a b).symm
theorem lZSub (a b : Int) : lZ a - lZ b = lZ (a - b) := (Int64.ofInt_sub a b).symm
theorem lZMul (a b : Int) : lZ a * lZ b = lZ (a * b) := (Int64.ofInt_mul a b).symm
theorem lZNeg (a : Int) : -(lZ a) = lZ (-a) := (Int64.ofInt_neg a).symm
theorem zI_64 {x : Int} (h1 : -2147483648 ≤ x) (h2 : x < 2147483648) : (zI x).toInt64 = lZ x := by
  rw [← Int64.toInt_inj, Int32.toInt_toInt64, zI_toInt h1 h2, lZ_toInt (by omega) (by omega)]
theorem nI_64 {x : Nat} (h2 : x < 2147483648) : (nI x).toInt64 = lZ x := zI_64 (x := (x : Int)) (by omega) (by omega)
theorem lEq {a b : Int} (h1 : -9223372036854775808 ≤ a) (h2 : a < 9223372036854775808) (h3 : -9223372036854775808 ≤ b) (h4 : b < 9223372036854775808) : (lZ a = lZ b) = (a = b) := by
  rw [← Int64.toInt_inj, lZ_toInt h1 h2, lZ_toInt h3 h4]
theorem lLt {a b : Int} (h1 : -9223372036854775808 ≤ a) (h2 : a < 9223372036854775808) (h3 : -9223372036854775808 ≤ b) (h4 : b < 9223372036854775808) : (lZ a < lZ b) = (a < b) := by
  rw [Int64.lt_iff_toInt_lt, lZ_toInt h1 h2, lZ_toInt h3 h4]
theorem lLe {a b : Int} (h1 : -9223372036854775808 ≤ a) (h2 : a < 9223372036854775808) (h3 : -9223372036854775808 ≤ b) (h4 : b < 9223372036854775808) : (lZ a ≤ lZ b) = (a ≤ b) := by
  rw [Int64.le_iff_toInt_le, lZ_toInt h1 h2, lZ_toInt h3 h4]
theorem lZ_0 : (0 : Int64) = lZ 0 := rfl
theorem lZ_1 : (1 : Int64) = lZ 1 := rfl
/-- what is small enough for all that is done with it -/
def sm (x : Int) : Prop := -4611686018427387904 ≤ x ∧ x ≤ 4611686018427387904
theorem lDiv {a b : Int} (ha : sm a) (hb : sm b) : lZ a / lZ b = lZ (a.tdiv b) := by
  unfold sm at *
  have e1 : Int64.minValue.toInt = -9223372036854775808 := by decide
  have e2 : Int64.maxValue.toInt = 9223372036854775807 := by decide
  exact (Int64.ofInt_tdiv (by rw [e1]; omega) (by rw [e2]; omega) (by rw [e1]; omega) (by rw [e2]; omega)).symm
theorem dL_z {a b : Int} (ha : sm a) (hb : sm b) (h0 : b ≠ 0) : dL (lZ a) (lZ b) = some (lZ (a.tdiv b)) := by
  unfold dL
  unfold sm at *
  rw [if_neg (by rw [lZ_0, lEq (by omega) (by omega) (by omega) (by omega)]; exact h0), lDiv ha hb]
theorem dM_n {a b : Nat} (ha : a ≤ 4611686018427387904) (hb : b ≤ 4611686018427387904) (h0 : b ≠ 0) : dM (lZ a) (lZ b) = some (lZ (a % b : Nat)) := by
  have s1 : sm (a : Int) := ⟨by omega, by omega⟩
  have s2 : sm (b : Int) := ⟨by omega, by omega⟩
  unfold dM
  rw [if_neg (by rw [lZ_0, lEq (by omega) (by omega) (by omega) (by omega)]; omega), lDiv s1 s2, lZMul, lZSub, Int.tdiv_eq_ediv_of_nonneg (by omega)]
  congr 2
  rw [Int.natCast_emod, Int.emod_def, Int.mul_comm]
theorem cmp0 {a : Int} (h : sm a) : (lg_cmp (lZ a) (0 : Int64) = (0 : Int32)) = (a = 0) := by
  unfold sm at h
  rw [propext (lg_cmp_eq _ _), lZ_0, lEq (by omega) (by omega) (by omega) (by omega)]
theorem cmpGe {a : Int} (h : sm a) : ((0 : Int32) ≤ lg_cmp (lZ a) (0 : Int64)) = (0 ≤ a) := by
  unfold sm at h
  rw [propext (lg_cmp_ge _ _), lZ_0, lLe (by omega) (by omega) (by omega) (by omega)]
section SH
variable {st : xS} {n : Nat}
theorem gcd_st (a b : Nat) : Nat.gcd b (a % b) = Nat.gcd a b := by rw [Nat.gcd_comm a b, Nat.gcd_rec b a, Nat.gcd_comm]
theorem half_lt {b r m : Nat} (h1 : r < b) (h2 : b < 2 ^ (m + 1)) (h0 : r ≠ 0) : b % r < 2 ^ m := by
  have e : b = r * (b / r) + b % r := (Nat.div_add_mod b r).symm
  have h3 := Nat.mod_lt b (Nat.pos_of_ne_zero h0)
  have h4 : 1 ≤ b / r := (Nat.le_div_iff_mul_le (Nat.pos_of_ne_zero h0)).mpr (by omega)
  have h5 : r * 1 ≤ r * (b / r) := Nat.mul_le_mul_left r h4
  rw [Nat.pow_succ] at h2
  omega
theorem sN {a : Nat} (h : a ≤ 4611686018427387904) : sm (a : Int) := ⟨by omega, by omega⟩
theorem C_eu0 {a k i : Nat} (hi : i < 100) : F_X10_common_L15 n (k + 1) st (lZ a) (lZ (0 : Nat)) (nI i) = some (lZ a) := by
  rw [F_X10_common_L15]
  dsimp only
  simp (disch := omega) only [l100, nLe_f, if_false, cmp0 (show sm ((0 : Nat) : Int) from sN (by omega)), Int.natCast_eq_zero, if_true]
theorem C_eu1 {a b k i : Nat} (ha : a ≤ 4611686018427387904) (hb : b ≤ 4611686018427387904) (h0 : b ≠ 0) (hi : i < 100) : F_X10_common_L15 n (k + 1) st (lZ a) (lZ b) (nI i) = F_X10_common_L15 n k st (lZ b) (lZ (a % b : Nat)) (nI (i + 1)) := by
  rw [F_X10_common_L15]
  dsimp only
  simp (disch := omega) only [l100, nLe_f, if_false, cmp0 (sN hb), Int.natCast_eq_zero, h0, dM_n ha hb h0, Option.bind_some, nI_1]
theorem M_eu0 {a k : Nat} : F_X11_common_L28 n (k + 1) st (lZ a) (lZ (0 : Nat)) = some (lZ a) := by
  rw [F_X11_common_L28]
  dsimp only
  simp only [cmp0 (show sm ((0 : Nat) : Int) from sN (by omega)), Int.natCast_eq_zero, if_true]
theorem M_eu1 {a b k : Nat} (ha : a ≤ 4611686018427387904) (hb : b ≤ 4611686018427387904) (h0 : b ≠ 0) : F_X11_common_L28 n (k + 1) st (lZ a) (lZ b) = F_X11_common_L28 n k st (lZ b) (lZ (a % b : Nat)) := by
  rw [F_X11_common_L28]
  dsimp only
  simp only [cmp0 (sN hb), Int.natCast_eq_zero, h0, if_false, dM_n ha hb h0, Option.bind_some]
theorem C_euc (m : Nat) : ∀ a b i k, a ≤ 4611686018427387904 → b ≤ 4611686018427387904 → b < 2 ^ m → i + 2 * m + 1 ≤ 100 → 2 * m + 2 ≤ k → F_X10_common_L15 n k st (lZ (a : Nat)) (lZ (b : Nat)) (nI i) = some (lZ (Nat.gcd a b : Nat)) := by
  induction m with
  | zero =>
    intro a b i k ha hb h1 h2 h3
    obtain ⟨k, rfl⟩ : ∃ j, k = j + 1 := ⟨k - 1, by omega⟩
    have : b = 0 := by rw [Nat.pow_zero] at h1; omega
    subst this
    rw [C_eu0 (by omega), Nat.gcd_zero_right]
  | succ m ih =>
    intro a b i k ha hb h1 h2 h3
    obtain ⟨k, rfl⟩ : ∃ j, k = j + 2 := ⟨k - 2, by omega⟩
    by_cases h0 : b = 0
    · subst h0
      rw [C_eu0 (by omega), Nat.gcd_zero_right]
    · have hr := Nat.mod_lt a (Nat.pos_of_ne_zero h0)
      rw [C_eu1 ha hb h0 (by omega)]
      by_cases h4 : a % b = 0
      · rw [← gcd_st a b, h4, C_eu0 (by omega), Nat.gcd_zero_right]
      · have hh := half_lt hr h1 h4
        rw [C_eu1 hb (by omega) h4 (by omega), ih (a % b) (b % (a % b)) (i + 2) k (by omega) (by have := Nat.mod_lt b (Nat.pos_of_ne_zero h4); omega) hh (by omega) (by omega), gcd_st, gcd_st]
theorem M_euc (m : Nat) : ∀ a b k, a ≤ 4611686018427387904 → b ≤ 4611686018427387904 → b < 2 ^ m → 2 * m + 2 ≤ k → F_X11_common_L28 n k st (lZ (a : Nat)) (lZ (b : Nat)) = some (lZ (Nat.gcd a b : Nat)) := by
  induction m with
  | zero =>
    intro a b k ha hb h1 h3
    obtain ⟨k, rfl⟩ : ∃ j, k = j + 1 := ⟨k - 1, by omega⟩
    have : b = 0 := by rw [Nat.pow_zero] at h1; omega
    subst this
    rw [M_eu0, Nat.gcd_zero_right]
  | succ m ih =>
    intro a b k ha hb h1 h3
    obtain ⟨k, rfl⟩ : ∃ j, k = j + 2 := ⟨k - 2, by omega⟩
    by_cases h0 : b = 0
    · subst h0
      rw [M_eu0, Nat.gcd_zero_right]
    · have hr := Nat.mod_lt a (Nat.pos_of_ne_zero h0)
      rw [M_eu1 ha hb h0]
      by_cases h4 : a % b = 0
      · rw [← gcd_st a b, h4, M_eu0, Nat.gcd_zero_right]
      · have hh := half_lt hr h1 h4
        rw [M_eu1 hb (by omega) h4, ih (a % b) (b % (a % b)) k (by omega) (by have := Nat.mod_lt b (Nat.pos_of_ne_zero h4); omega) hh (by omega), gcd_st, gcd_st]
theorem labs_z {a : Int} (h : sm a) : labs (lZ a) = lZ (a.natAbs : Nat) := by
  unfold sm at h
  unfold labs
  have e : ((0 : Int64) < lZ a) = (0 < a) := by rw [lZ_0, lLt (by omega) (by omega) (by omega) (by omega)]
  simp only [e, lZNeg]
  by_cases h0 : 0 < a
  · rw [if_pos h0, show ((a.natAbs : Nat) : Int) = a by omega]
  · rw [if_neg h0, show ((a.natAbs : Nat) : Int) = -a by omega]
/-- 281474976710656: 2 to the 48th -/
def sb (x : Int) : Prop := -281474976710656 < x ∧ x < 281474976710656
theorem sb_sm {x : Int} (h : sb x) : sm x := by unfold sb at h; unfold sm; omega
theorem C_common {a b : Int} (ha : sm a) (hb : sb b) (hn : 3000 ≤ n) : F_X10_common n st (lZ a) (lZ b) = some (lZ (Nat.gcd a.natAbs b.natAbs : Nat)) := by
  unfold F_X10_common
  rw [labs_z ha, labs_z (sb_sm hb)]
  unfold sm at ha
  unfold sb at hb
  have e : F_X10_common_L15 n n st (lZ (a.natAbs : Nat)) (lZ (b.natAbs : Nat)) (0 : Int32) = _ := C_euc 48 _ _ 0 n (by omega) (by omega) (by omega) (by omega) (by omega)
  simp only [Option.bind_some, e]
theorem abs_if {a : Int} (ha : sm a) : ((if (0 : Int32) ≤ lg_cmp (lZ a) (0 : Int64) then some (lZ a) else some (-lZ a)) : Option Int64) = some (lZ (a.natAbs : Nat)) := by
  simp only [cmpGe ha, lZNeg]
  by_cases h0 : 0 ≤ a
  · rw [if_pos h0, show ((a.natAbs : Nat) : Int) = a by omega]
  · rw [if_neg h0, show ((a.natAbs : Nat) : Int) = -a by omega]
theorem M_common {a b : Int} (ha : sm a) (hb : sb b) (hn : 3000 ≤ n) : F_X11_common n st (lZ a) (lZ b) = some (lZ (Nat.gcd a.natAbs b.natAbs : Nat)) := by
  unfold F_X11_common
  simp only [abs_if ha, abs_if (sb_sm hb), Option.bind_some]
  unfold sm at ha
  unfold sb at hb
  have e : F_X11_common_L28 n n st (lZ (a.natAbs : Nat)) (lZ (b.natAbs : Nat)) = _ := M_euc 48 _ _ n (by omega) (by omega) (by omega) (by omega)
  simp only [Option.bind_some, e]
/-- by what both are divided -/
def sg (a b : Int) : Int := if 0 ≤ b then (Nat.gcd a.natAbs b.natAbs : Nat) else -((Nat.gcd a.natAbs b.natAbs : Nat) : Int)
/-- a share: above the line, or under it -/
def shV (a b : Int) (u : Int32) : Int := if u = 0 then a.tdiv (sg a b) else b.tdiv (sg a b)
theorem gcd_b {a b : Int} (hb : sb b) (h0 : b ≠ 0) : 0 < Nat.gcd a.natAbs b.natAbs ∧ Nat.gcd a.natAbs b.natAbs < 281474976710656 := by
  have h1 := Nat.gcd_pos_of_pos_right a.natAbs (show 0 < b.natAbs by omega)
  have h2 := Nat.le_of_dvd (show 0 < b.natAbs by omega) (Nat.gcd_dvd_right a.natAbs b.natAbs)
  unfold sb at hb
  omega
theorem sg_b {a b : Int} (hb : sb b) (h0 : b ≠ 0) : sg a b ≠ 0 ∧ sm (sg a b) := by
  have g := gcd_b (a := a) hb h0
  unfold sg sm
  split <;> omega
theorem C_share {a b : Int} {u : Int32} (ha : sm a) (hb : sb b) (h0 : b ≠ 0) (hn : 3000 ≤ n) : F_X10_share n st (lZ a) (lZ b) u = some (lZ (shV a b u)) := by
  have g := gcd_b (a := a) hb h0
  have s := sg_b (a := a) hb h0
  have q : ((if (0 : Int32) ≤ lg_cmp (lZ b) (0 : Int64) then some (lZ ((Nat.gcd a.natAbs b.natAbs : Nat) : Int)) else some (-lZ ((Nat.gcd a.natAbs b.natAbs : Nat) : Int))) : Option Int64) = some (lZ (sg a b)) := by
    simp only [cmpGe (sb_sm hb), lZNeg]
    unfold sg
    split <;> rfl
  have c : sm ((Nat.gcd a.natAbs b.natAbs : Nat) : Int) := sN (by omega)
  unfold F_X10_share shV
  simp only [C_common ha hb hn, Option.bind_some, cmp0 c, Int.natCast_eq_zero, show (Nat.gcd a.natAbs b.natAbs = 0) = False from eq_false (by omega), if_false, q]
  by_cases hu : u = 0
  · simp only [hu, if_true, dL_z ha s.2 s.1, Option.bind_some]
  · simp only [hu, if_false, dL_z (sb_sm hb) s.2 s.1, Option.bind_some]
theorem M_least {a b : Int} {u : Int32} (ha : sm a) (hb : sb b) (h0 : b ≠ 0) (hn : 3000 ≤ n) : F_X11_least n st (lZ a) (lZ b) u = some (lZ (shV a b u)) := by
  have g := gcd_b (a := a) hb h0
  have s := sg_b (a := a) hb h0
  have q : ((if (0 : Int32) ≤ lg_cmp (lZ b) (0 : Int64) then some (lZ ((Nat.gcd a.natAbs b.natAbs : Nat) : Int)) else some (-lZ ((Nat.gcd a.natAbs b.natAbs : Nat) : Int))) : Option Int64) = some (lZ (sg a b)) := by
    simp only [cmpGe (sb_sm hb), lZNeg]
    unfold sg
    split <;> rfl
  unfold F_X11_least shV
  simp only [M_common ha hb hn, Option.bind_some, q]
  by_cases hu : u = 0
  · simp only [hu, if_true, dL_z ha s.2 s.1, Option.bind_some]
  · simp only [hu, if_false, dL_z (sb_sm hb) s.2 s.1, Option.bind_some]
end SH

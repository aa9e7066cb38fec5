/-! SUM, ALONE, PEOPLE, SLOPE, CARDED, LONGER, HAD -/
theorem nn0_0 : (nI 0 = (0 : Int32)) = True := by decide
theorem mm0_0 : ((0 : Nat) = 0) = True := by decide
theorem nn0_1 : (nI 0 = (1 : Int32)) = False := by decide
theorem mm0_1 : ((0 : Nat) = 1) = False := by decide
theorem nn0_2 : (nI 0 = (2 : Int32)) = False := by decide
theorem mm0_2 : ((0 : Nat) = 2) = False := by decide
theorem nn0_3 : (nI 0 = (3 : Int32)) = False := by decide
theorem mm0_3 : ((0 : Nat) = 3) = False := by decide
theorem nn1_0 : (nI 1 = (0 : Int32)) = False := by decide
theorem mm1_0 : ((1 : Nat) = 0) = False := by decide
theorem nn1_1 : (nI 1 = (1 : Int32)) = True := by decide
theorem mm1_1 : ((1 : Nat) = 1) = True := by decide
theorem nn1_2 : (nI 1 = (2 : Int32)) = False := by decide
theorem mm1_2 : ((1 : Nat) = 2) = False := by decide
theorem nn1_3 : (nI 1 = (3 : Int32)) = False := by decide
theorem mm1_3 : ((1 : Nat) = 3) = False := by decide
theorem nn2_0 : (nI 2 = (0 : Int32)) = False := by decide
theorem mm2_0 : ((2 : Nat) = 0) = False := by decide
theorem nn2_1 : (nI 2 = (1 : Int32)) = False := by decide
theorem mm2_1 : ((2 : Nat) = 1) = False := by decide
theorem nn2_2 : (nI 2 = (2 : Int32)) = True := by decide
theorem mm2_2 : ((2 : Nat) = 2) = True := by decide
theorem nn2_3 : (nI 2 = (3 : Int32)) = False := by decide
theorem mm2_3 : ((2 : Nat) = 3) = False := by decide
theorem nn3_0 : (nI 3 = (0 : Int32)) = False := by decide
theorem mm3_0 : ((3 : Nat) = 0) = False := by decide
theorem nn3_1 : (nI 3 = (1 : Int32)) = False := by decide
theorem mm3_1 : ((3 : Nat) = 1) = False := by decide
theorem nn3_2 : (nI 3 = (2 : Int32)) = False := by decide
theorem mm3_2 : ((3 : Nat) = 2) = False := by decide
theorem nn3_3 : (nI 3 = (3 : Int32)) = True := by decide
theorem mm3_3 : ((3 : Nat) = 3) = True := by decide
theorem nn4_0 : (nI 4 = (0 : Int32)) = False := by decide
theorem mm4_0 : ((4 : Nat) = 0) = False := by decide
theorem nn4_1 : (nI 4 = (1 : Int32)) = False := by decide
theorem mm4_1 : ((4 : Nat) = 1) = False := by decide
theorem nn4_2 : (nI 4 = (2 : Int32)) = False := by decide
theorem mm4_2 : ((4 : Nat) = 2) = False := by decide
theorem nn4_3 : (nI 4 = (3 : Int32)) = False := by decide
theorem mm4_3 : ((4 : Nat) = 3) = False := by decide
theorem nn5_0 : (nI 5 = (0 : Int32)) = False := by decide
theorem mm5_0 : ((5 : Nat) = 0) = False := by decide
theorem nn5_1 : (nI 5 = (1 : Int32)) = False := by decide
theorem mm5_1 : ((5 : Nat) = 1) = False := by decide
theorem nn5_2 : (nI 5 = (2 : Int32)) = False := by decide
theorem mm5_2 : ((5 : Nat) = 2) = False := by decide
theorem nn5_3 : (nI 5 = (3 : Int32)) = False := by decide
theorem mm5_3 : ((5 : Nat) = 3) = False := by decide
theorem zLe0 {m : Int} (h1 : -2147483648 ≤ m) (h2 : m < 2147483648) : (zI m ≤ (0 : Int32)) = (m ≤ 0) := zLe (b := 0) h1 h2 (by decide) (by decide)
theorem zGe0 {m : Int} (h1 : -2147483648 ≤ m) (h2 : m < 2147483648) : ((0 : Int32) ≤ zI m) = (0 ≤ m) := zLe (a := 0) (by decide) (by decide) h1 h2
theorem zEq0 {m : Int} (h1 : -2147483648 ≤ m) (h2 : m < 2147483648) : (zI m = (0 : Int32)) = (m = 0) := zEq (b := 0) h1 h2 (by decide) (by decide)
theorem zEq1 {m : Int} (h1 : -2147483648 ≤ m) (h2 : m < 2147483648) : (zI m = (1 : Int32)) = (m = 1) := zEq (b := 1) h1 h2 (by decide) (by decide)
theorem zEqN {m : Int} (h1 : -2147483648 ≤ m) (h2 : m < 2147483648) : (zI m = (-1 : Int32)) = (m = -1) := by
  rw [show (-1 : Int32) = zI (-1) by decide]
  exact zEq h1 h2 (by decide) (by decide)
theorem mul_b {a b A B : Int} (h1 : -A ≤ a ∧ a ≤ A) (h2 : -B ≤ b ∧ b ≤ B) : -(A * B) ≤ a * b ∧ a * b ≤ A * B := by
  have h3 : a.natAbs * b.natAbs ≤ A.toNat * B.toNat := Nat.mul_le_mul (by omega) (by omega)
  have h4 : (a * b).natAbs = a.natAbs * b.natAbs := Int.natAbs_mul a b
  have h5 : ((A.toNat * B.toNat : Nat) : Int) = A * B := by rw [Int.natCast_mul, Int.toNat_of_nonneg (by omega), Int.toNat_of_nonneg (by omega)]
  omega
theorem z_1 (a : Int) : zI a + (1 : Int32) = zI (a + 1) := zAdd a 1
theorem zN (k : Nat) : zI (k : Int) = nI k := rfl
/-- what one game counts for -/
def cw (G : Gh) (w k : Nat) : Int := if w = 0 then 1 else if w = 1 then (if mg G k ≤ 0 then 0 else 1) else if w = 2 then (if mg G k = 0 then 1 else 0) else if w = 3 then (if 0 ≤ mg G k then 0 else 1) else ((G.nt k (w - 1) : Nat) : Int)
section SU
variable {st st1 : xS} {n : Nat} {G : Gh} {I : Im} {x y : Int32}
theorem cw_b (hI : GhI G) {w k : Nat} (hw : w < 6) (hk : k < G.cn 3) : -9 ≤ cw G w k ∧ cw G w k ≤ 9 := by
  have t := hI.nt hk
  unfold NtI at t
  unfold cw
  by_cases h0 : w = 0
  · rw [if_pos h0]; omega
  · rw [if_neg h0]
    by_cases h1 : w = 1
    · rw [if_pos h1]; split <;> omega
    · rw [if_neg h1]
      by_cases h2 : w = 2
      · rw [if_pos h2]; split <;> omega
      · rw [if_neg h2]
        by_cases h3 : w = 3
        · rw [if_pos h3]; split <;> omega
        · rw [if_neg h3]
          rcases (show w = 4 ∨ w = 5 by omega) with rfl | rfl
          · show -9 ≤ ((G.nt k 3 : Nat) : Int) ∧ ((G.nt k 3 : Nat) : Int) ≤ 9
            omega
          · show -9 ≤ ((G.nt k 4 : Nat) : Int) ∧ ((G.nt k 4 : Nat) : Int) ≤ 9
            omega
theorem C_counted (hR : Rel st G I) (hp : ∀ i, i < pc G x y → cI st 104 i = nI (pf G x y i)) {i w : Nat} (hi : i < pc G x y) (hw : w < 6) : F_X10_counted n st (some 64) (nI i) (nI w) = some (zI (cw G w (pf G x y i))) := by
  have S := hR.sh
  have m := mg_b hR.inv (pf_lt hi)
  have e3 : F_X10_pickedOf n st (some 64) (nI i) (3 : Int32) = _ := C_pickedOf hR hp hi (show 3 < 10 by decide)
  have e4 : F_X10_pickedOf n st (some 64) (nI i) (4 : Int32) = _ := C_pickedOf hR hp hi (show 4 < 10 by decide)
  unfold F_X10_counted cw
  simp only [↓bnd (o64 S), ↓bnd (C_mg hR hp hi)]
  rcases (show w = 0 ∨ w = 1 ∨ w = 2 ∨ w = 3 ∨ w = 4 ∨ w = 5 by omega) with rfl | rfl | rfl | rfl | rfl | rfl
  · simp (disch := omega) only [nn0_0, nn0_1, nn0_2, nn0_3, nn1_0, nn1_1, nn1_2, nn1_3, nn2_0, nn2_1, nn2_2, nn2_3, nn3_0, nn3_1, nn3_2, nn3_3, nn4_0, nn4_1, nn4_2, nn4_3, nn5_0, nn5_1, nn5_2, nn5_3, mm0_0, mm0_1, mm0_2, mm0_3, mm1_0, mm1_1, mm1_2, mm1_3, mm2_0, mm2_1, mm2_2, mm2_3, mm3_0, mm3_1, mm3_2, mm3_3, mm4_0, mm4_1, mm4_2, mm4_3, mm5_0, mm5_1, mm5_2, mm5_3, if_true, if_false, ↓reduceIte, zLe0, zGe0, zEq0, zEq1, zEqN]
    rfl
  · simp (disch := omega) only [nn0_0, nn0_1, nn0_2, nn0_3, nn1_0, nn1_1, nn1_2, nn1_3, nn2_0, nn2_1, nn2_2, nn2_3, nn3_0, nn3_1, nn3_2, nn3_3, nn4_0, nn4_1, nn4_2, nn4_3, nn5_0, nn5_1, nn5_2, nn5_3, mm0_0, mm0_1, mm0_2, mm0_3, mm1_0, mm1_1, mm1_2, mm1_3, mm2_0, mm2_1, mm2_2, mm2_3, mm3_0, mm3_1, mm3_2, mm3_3, mm4_0, mm4_1, mm4_2, mm4_3, mm5_0, mm5_1, mm5_2, mm5_3, if_true, if_false, ↓reduceIte, zLe0, zGe0, zEq0, zEq1, zEqN]
    split <;> rfl
  · simp (disch := omega) only [nn0_0, nn0_1, nn0_2, nn0_3, nn1_0, nn1_1, nn1_2, nn1_3, nn2_0, nn2_1, nn2_2, nn2_3, nn3_0, nn3_1, nn3_2, nn3_3, nn4_0, nn4_1, nn4_2, nn4_3, nn5_0, nn5_1, nn5_2, nn5_3, mm0_0, mm0_1, mm0_2, mm0_3, mm1_0, mm1_1, mm1_2, mm1_3, mm2_0, mm2_1, mm2_2, mm2_3, mm3_0, mm3_1, mm3_2, mm3_3, mm4_0, mm4_1, mm4_2, mm4_3, mm5_0, mm5_1, mm5_2, mm5_3, if_true, if_false, ↓reduceIte, zLe0, zGe0, zEq0, zEq1, zEqN]
    split <;> rfl
  · simp (disch := omega) only [nn0_0, nn0_1, nn0_2, nn0_3, nn1_0, nn1_1, nn1_2, nn1_3, nn2_0, nn2_1, nn2_2, nn2_3, nn3_0, nn3_1, nn3_2, nn3_3, nn4_0, nn4_1, nn4_2, nn4_3, nn5_0, nn5_1, nn5_2, nn5_3, mm0_0, mm0_1, mm0_2, mm0_3, mm1_0, mm1_1, mm1_2, mm1_3, mm2_0, mm2_1, mm2_2, mm2_3, mm3_0, mm3_1, mm3_2, mm3_3, mm4_0, mm4_1, mm4_2, mm4_3, mm5_0, mm5_1, mm5_2, mm5_3, if_true, if_false, ↓reduceIte, zLe0, zGe0, zEq0, zEq1, zEqN]
    split <;> rfl
  · simp (disch := omega) only [nn0_0, nn0_1, nn0_2, nn0_3, nn1_0, nn1_1, nn1_2, nn1_3, nn2_0, nn2_1, nn2_2, nn2_3, nn3_0, nn3_1, nn3_2, nn3_3, nn4_0, nn4_1, nn4_2, nn4_3, nn5_0, nn5_1, nn5_2, nn5_3, mm0_0, mm0_1, mm0_2, mm0_3, mm1_0, mm1_1, mm1_2, mm1_3, mm2_0, mm2_1, mm2_2, mm2_3, mm3_0, mm3_1, mm3_2, mm3_3, mm4_0, mm4_1, mm4_2, mm4_3, mm5_0, mm5_1, mm5_2, mm5_3, if_true, if_false, ↓reduceIte, zLe0, zGe0, zEq0, zEq1, zEqN, show (nI 4 = (4 : Int32)) = True by decide, ↓bnd (o64 S), ↓bnd (e3)]
    rfl
  · simp (disch := omega) only [nn0_0, nn0_1, nn0_2, nn0_3, nn1_0, nn1_1, nn1_2, nn1_3, nn2_0, nn2_1, nn2_2, nn2_3, nn3_0, nn3_1, nn3_2, nn3_3, nn4_0, nn4_1, nn4_2, nn4_3, nn5_0, nn5_1, nn5_2, nn5_3, mm0_0, mm0_1, mm0_2, mm0_3, mm1_0, mm1_1, mm1_2, mm1_3, mm2_0, mm2_1, mm2_2, mm2_3, mm3_0, mm3_1, mm3_2, mm3_3, mm4_0, mm4_1, mm4_2, mm4_3, mm5_0, mm5_1, mm5_2, mm5_3, if_true, if_false, ↓reduceIte, zLe0, zGe0, zEq0, zEq1, zEqN, show (nI 5 = (4 : Int32)) = False by decide, ↓bnd (o64 S), ↓bnd (e4)]
    rfl
theorem M_counted (hS : Sh st) (hM : ModB (cI st 107) G) (hI : GhI G) {k w : Nat} (hk : k < G.cn 3) (hw : w < 6) : ((if nI w = (0 : Int32) then
              some (1 : Int32)
            else
              if nI w = (1 : Int32) then
                if zI (mg G k) ≤ (0 : Int32) then
                  some (0 : Int32)
                else
                  some (1 : Int32)
              else
                if nI w = (2 : Int32) then
                  if zI (mg G k) = (0 : Int32) then
                    some (1 : Int32)
                  else
                    some (0 : Int32)
                else
                  if nI w = (3 : Int32) then
                    if (0 : Int32) ≤ zI (mg G k) then
                      some (0 : Int32)
                    else
                      some (1 : Int32)
                  else
                    (isO st (some 106) 11).bind fun q9 =>
                    (F_X11_noteAt n st (some 106) (nI k) (nI w - (1 : Int32))).bind fun v8 =>
                    some v8) : Option (Int32)) = some (zI (cw G w k)) := by
  have m := mg_b hI hk
  unfold cw
  rcases (show w = 0 ∨ w = 1 ∨ w = 2 ∨ w = 3 ∨ w = 4 ∨ w = 5 by omega) with rfl | rfl | rfl | rfl | rfl | rfl
  · simp (disch := omega) only [nn0_0, nn0_1, nn0_2, nn0_3, nn1_0, nn1_1, nn1_2, nn1_3, nn2_0, nn2_1, nn2_2, nn2_3, nn3_0, nn3_1, nn3_2, nn3_3, nn4_0, nn4_1, nn4_2, nn4_3, nn5_0, nn5_1, nn5_2, nn5_3, mm0_0, mm0_1, mm0_2, mm0_3, mm1_0, mm1_1, mm1_2, mm1_3, mm2_0, mm2_1, mm2_2, mm2_3, mm3_0, mm3_1, mm3_2, mm3_3, mm4_0, mm4_1, mm4_2, mm4_3, mm5_0, mm5_1, mm5_2, mm5_3, if_true, if_false, ↓reduceIte, zLe0, zGe0, zEq0, zEq1, zEqN]
    rfl
  · simp (disch := omega) only [nn0_0, nn0_1, nn0_2, nn0_3, nn1_0, nn1_1, nn1_2, nn1_3, nn2_0, nn2_1, nn2_2, nn2_3, nn3_0, nn3_1, nn3_2, nn3_3, nn4_0, nn4_1, nn4_2, nn4_3, nn5_0, nn5_1, nn5_2, nn5_3, mm0_0, mm0_1, mm0_2, mm0_3, mm1_0, mm1_1, mm1_2, mm1_3, mm2_0, mm2_1, mm2_2, mm2_3, mm3_0, mm3_1, mm3_2, mm3_3, mm4_0, mm4_1, mm4_2, mm4_3, mm5_0, mm5_1, mm5_2, mm5_3, if_true, if_false, ↓reduceIte, zLe0, zGe0, zEq0, zEq1, zEqN]
    split <;> rfl
  · simp (disch := omega) only [nn0_0, nn0_1, nn0_2, nn0_3, nn1_0, nn1_1, nn1_2, nn1_3, nn2_0, nn2_1, nn2_2, nn2_3, nn3_0, nn3_1, nn3_2, nn3_3, nn4_0, nn4_1, nn4_2, nn4_3, nn5_0, nn5_1, nn5_2, nn5_3, mm0_0, mm0_1, mm0_2, mm0_3, mm1_0, mm1_1, mm1_2, mm1_3, mm2_0, mm2_1, mm2_2, mm2_3, mm3_0, mm3_1, mm3_2, mm3_3, mm4_0, mm4_1, mm4_2, mm4_3, mm5_0, mm5_1, mm5_2, mm5_3, if_true, if_false, ↓reduceIte, zLe0, zGe0, zEq0, zEq1, zEqN]
    split <;> rfl
  · simp (disch := omega) only [nn0_0, nn0_1, nn0_2, nn0_3, nn1_0, nn1_1, nn1_2, nn1_3, nn2_0, nn2_1, nn2_2, nn2_3, nn3_0, nn3_1, nn3_2, nn3_3, nn4_0, nn4_1, nn4_2, nn4_3, nn5_0, nn5_1, nn5_2, nn5_3, mm0_0, mm0_1, mm0_2, mm0_3, mm1_0, mm1_1, mm1_2, mm1_3, mm2_0, mm2_1, mm2_2, mm2_3, mm3_0, mm3_1, mm3_2, mm3_3, mm4_0, mm4_1, mm4_2, mm4_3, mm5_0, mm5_1, mm5_2, mm5_3, if_true, if_false, ↓reduceIte, zLe0, zGe0, zEq0, zEq1, zEqN]
    split <;> rfl
  · have e : F_X11_noteAt n st (some 106) (nI k) (nI 4 - (1 : Int32)) = some (nI (G.nt k 3)) := by rw [nI_pred]; exact M_noteAt hS hM hI hk (show 3 < 10 by decide)
    simp (disch := omega) only [nn0_0, nn0_1, nn0_2, nn0_3, nn1_0, nn1_1, nn1_2, nn1_3, nn2_0, nn2_1, nn2_2, nn2_3, nn3_0, nn3_1, nn3_2, nn3_3, nn4_0, nn4_1, nn4_2, nn4_3, nn5_0, nn5_1, nn5_2, nn5_3, mm0_0, mm0_1, mm0_2, mm0_3, mm1_0, mm1_1, mm1_2, mm1_3, mm2_0, mm2_1, mm2_2, mm2_3, mm3_0, mm3_1, mm3_2, mm3_3, mm4_0, mm4_1, mm4_2, mm4_3, mm5_0, mm5_1, mm5_2, mm5_3, if_true, if_false, ↓reduceIte, zLe0, zGe0, zEq0, zEq1, zEqN, ↓bnd (o106 hS), ↓bnd (e)]
    rfl
  · have e : F_X11_noteAt n st (some 106) (nI k) (nI 5 - (1 : Int32)) = some (nI (G.nt k 4)) := by rw [nI_pred]; exact M_noteAt hS hM hI hk (show 4 < 10 by decide)
    simp (disch := omega) only [nn0_0, nn0_1, nn0_2, nn0_3, nn1_0, nn1_1, nn1_2, nn1_3, nn2_0, nn2_1, nn2_2, nn2_3, nn3_0, nn3_1, nn3_2, nn3_3, nn4_0, nn4_1, nn4_2, nn4_3, nn5_0, nn5_1, nn5_2, nn5_3, mm0_0, mm0_1, mm0_2, mm0_3, mm1_0, mm1_1, mm1_2, mm1_3, mm2_0, mm2_1, mm2_2, mm2_3, mm3_0, mm3_1, mm3_2, mm3_3, mm4_0, mm4_1, mm4_2, mm4_3, mm5_0, mm5_1, mm5_2, mm5_3, if_true, if_false, ↓reduceIte, zLe0, zGe0, zEq0, zEq1, zEqN, ↓bnd (o106 hS), ↓bnd (e)]
    rfl
theorem M_sum (hS : Sh st) (hM : ModB (cI st 107) G) (hI : GhI G) (x y : Int32) {w : Nat} (hw : w < 6) (hn : 3000 ≤ n) : F_X11_sum n st (some 106) x y (nI w) = some (zI (yS G x y (cw G w) (G.cn 3))) := by
  have b := hI.n3
  have xi : F_X11_isIn n st (nI w) (0 : Int32) (5 : Int32) = some 1 := M_in_t (j := w) (b := 5) (by omega) (by decide)
  have hl : F_X11_sum_L17 n n st (some 106) x y (nI w) (zI 0) (nI 0) = some (zI (yS G x y (cw G w) (G.cn 3))) := by
    refine loop_run (fun m (s : Int32 × Int32) => F_X11_sum_L17 n m st (some 106) x y (nI w) s.1 s.2) (fun k => (zI (yS G x y (cw G w) k), nI k)) (G.cn 3) _ (fun m k hk => ?_) (fun m => ?_) n (by omega)
    · dsimp only
      have q := M_counted (n := n) hS hM hI hk hw
      rw [F_X11_sum_L17, yS_s]
      dsimp only
      by_cases h : inY G x y k
      · simp (disch := omega) only [↓Option.bind_some, ↓reduceIte, ↓bnd (g106_0 hS), ↓bnd (M_cnt hS hM), ↓bnd (o106 hS), ↓bnd (M_yr hS hM hI hk), ↓bnd (M_mg hS hM hI hk), ↓bnd (q), bI_T, eq_true h, i10, if_true, nLe_f, nI_1, zAdd]
      · simp (disch := omega) only [↓Option.bind_some, ↓reduceIte, ↓bnd (g106_0 hS), ↓bnd (M_cnt hS hM), ↓bnd (o106 hS), ↓bnd (M_yr hS hM hI hk), bI_F, eq_false h, if_false, nLe_f, nI_1]
    · dsimp only
      rw [F_X11_sum_L17]
      dsimp only
      simp (disch := omega) only [↓Option.bind_some, ↓reduceIte, ↓bnd (g106_0 hS), ↓bnd (M_cnt hS hM), nLe_t]
  have hl2 : F_X11_sum_L17 n n st (some 106) x y (nI w) (0 : Int32) (0 : Int32) = _ := hl
  unfold F_X11_sum
  simp only [↓Option.bind_some, ↓reduceIte, ↓bnd (xi), ↓bnd (hl2), i10]
theorem E_sum (hR : Rel st G I) (x y w : Int32) (hn : 3000 ≤ n) : ∃ v st', F_X10_sum n st (some 64) x y w = some (v, st') ∧ Only QC st st' ∧ ∀ st2, Rel st2 G I → F_X11_sum n st2 (some 106) x y w = some v := by
  have hS := hR.sh
  have b := hR.inv.n3
  have c := pc_le G x y
  unfold F_X10_sum
  rcases nCut w 6 with ⟨w, hw, rfl⟩ | hw
  · obtain ⟨st1, e1, o1, hp⟩ := C_pick hR x y hn
    have oQ : Only QC st st1 := o1.mono fun a h => by unfold QC; omega
    have R1 := hR.qc oQ
    have hl : F_X10_sum_L25 n n st1 (some 64) (nI w) (nI (pc G x y)) (zI 0) (nI 0) = some (zI (iS (fun i => cw G w (pf G x y i)) (pc G x y))) := by
      refine loop_run (fun m (s : Int32 × Int32) => F_X10_sum_L25 n m st1 (some 64) (nI w) (nI (pc G x y)) s.1 s.2) (fun i => (zI (iS (fun i => cw G w (pf G x y i)) i), nI i)) (pc G x y) _ (fun m i hi => ?_) (fun m => ?_) n (by omega)
      · dsimp only
        rw [F_X10_sum_L25, iS]
        dsimp only
        simp (disch := omega) only [↓Option.bind_some, ↓reduceIte, ↓bnd (o64 R1.sh), ↓bnd (C_counted R1 hp hi hw), nLe_f, nI_1, zAdd]
      · dsimp only
        rw [F_X10_sum_L25]
        dsimp only
        simp (disch := omega) only [↓Option.bind_some, ↓reduceIte, nLe_t]
    rw [yS_pf] at hl
    have hl2 : F_X10_sum_L25 n n st1 (some 64) (nI w) (nI (pc G x y)) (0 : Int32) (0 : Int32) = _ := hl
    refine ⟨_, st1, ?_, oQ, fun st2 r2 => M_sum r2.sh r2.mod r2.inv x y hw hn⟩
    have h5 : nI w ≤ (5 : Int32) := nI_le (a := w) (b := 5) (by omega) (by omega)
    rw [if_neg (nI_pos (by omega)), if_pos h5]
    simp only [↓bnd (o64 hS), ↓bnd (e1), ↓bnd (hl2)]
  · refine ⟨-1, st, ?_, Only.refl hS, fun st2 r2 => ?_⟩
    · rcases nOut (by decide) hw with h | h
      · rw [if_pos h]
      · by_cases h0 : w < 0
        · rw [if_pos h0]
        · rw [if_neg h0, if_neg (fun h5 => by
            have : nI 6 ≤ nI 5 := Int32.le_trans h h5
            exact absurd this (by decide))]
    · have xi : F_X11_isIn n st2 w (0 : Int32) (5 : Int32) = some 0 := M_in_f (b := 5) hw (by decide)
      unfold F_X11_sum
      simp only [↓Option.bind_some, ↓reduceIte, ↓bnd (xi)]
/-- the model's four numbers -/
def AV (st : xS) (o t u v : Int) : Prop := fI st 106 17 = zI o ∧ fI st 106 18 = zI t ∧ fI st 106 19 = zI u ∧ fI st 106 20 = zI v
def AF (st st' : xS) : Prop := Only (fun a => a = 106) st st' ∧ fI st' 106 15 = fI st 106 15
theorem AF.refl (h : Sh st) : AF st st := ⟨Only.refl h, rfl⟩
theorem AF.trans {st2 : xS} (h : AF st st1) (k : AF st1 st2) : AF st st2 := ⟨h.1.trans k.1, k.2.trans h.2⟩
theorem AF.m (h : AF st st1) : cI st1 107 = cI st 107 := cI_o h.1 (by decide)
theorem AF.qm (h : AF st st1) : Only QM st st1 := h.1.mono fun a h => by unfold QM; omega
theorem AF.rel (h : AF st st1) (hR : Rel st G I) : Rel st1 G I := hR.qm h.qm (h.2.trans hR.2.2.2.2.2.2.1)
theorem M_nothing (hS : Sh st) : ∃ st', F_X11_nothing n st (some 106) = some st' ∧ AF st st' ∧ AV st' 0 0 0 0 := by
  have S1 := s106_17 hS 0
  have S2 := s106_18 S1 0
  have S3 := s106_19 S2 0
  have S4 := s106_20 S3 0
  refine ⟨_, ?_, ⟨((Only.uV S1).trans (Only.uV S2)).trans ((Only.uV S3).trans (Only.uV S4)), ?_⟩, ?_, ?_, ?_, ?_⟩
  · unfold F_X11_nothing
    simp only [↓bnd (p106_17 hS _), ↓bnd (p106_18 S1 _), ↓bnd (p106_19 S2 _), ↓bnd (p106_20 S3 _)]
  · rw [fI_oth (by decide), fI_oth (by decide), fI_oth (by decide), fI_oth (by decide)]
  · rw [fI_oth (by decide), fI_oth (by decide), fI_oth (by decide), f106_17 hS]; rfl
  · rw [fI_oth (by decide), fI_oth (by decide), f106_18 S1]; rfl
  · rw [fI_oth (by decide), f106_19 S2]; rfl
  · rw [f106_20 S3]; rfl
theorem M_adds (hS : Sh st) {o t u v w : Int} (h : AV st o t u v) (c : Prop) [Decidable c] : ∃ st', F_X11_adds n st (some 106) (bI c) (zI w) = some st' ∧ AF st st' ∧ AV st' (o + if c then 1 else 0) (t + if c then 0 else 1) (u + if c then w else 0) (v + if c then 0 else w) := by
  obtain ⟨h1, h2, h3, h4⟩ := h
  have q1 : ((if bI c = (0 : Int32) then some (0 : Int32) else some (1 : Int32)) : Option Int32) = some (zI (if c then 1 else 0)) := by
    by_cases hc : c
    · rw [bI_t hc, if_neg (by decide), if_pos hc]; rfl
    · rw [bI_f hc, if_pos rfl, if_neg hc]; rfl
  have q2 : ((if bI c = (0 : Int32) then some (1 : Int32) else some (0 : Int32)) : Option Int32) = some (zI (if c then 0 else 1)) := by
    by_cases hc : c
    · rw [bI_t hc, if_neg (by decide), if_pos hc]; rfl
    · rw [bI_f hc, if_pos rfl, if_neg hc]; rfl
  have q3 : ((if bI c = (0 : Int32) then some (0 : Int32) else some (zI w)) : Option Int32) = some (zI (if c then w else 0)) := by
    by_cases hc : c
    · rw [bI_t hc, if_neg (by decide), if_pos hc]
    · rw [bI_f hc, if_pos rfl, if_neg hc]; rfl
  have q4 : ((if bI c = (0 : Int32) then some (zI w) else some (0 : Int32)) : Option Int32) = some (zI (if c then 0 else w)) := by
    by_cases hc : c
    · rw [bI_t hc, if_neg (by decide), if_pos hc]; rfl
    · rw [bI_f hc, if_pos rfl, if_neg hc]
  generalize (if c then (1 : Int) else 0) = d1 at *
  generalize (if c then (0 : Int) else 1) = d2 at *
  generalize (if c then w else 0) = d3 at *
  generalize (if c then 0 else w) = d4 at *
  have g1 : gI st (some 106) 11 17 = some (zI o) := by rw [g106_17 hS, h1]
  have p1 := p106_17 hS (zI (o + d1))
  have S1 := s106_17 hS (zI (o + d1))
  have g2 : gI (uV st 106 17 (.int (zI (o + d1)))) (some 106) 11 18 = some (zI t) := by rw [g106_18 S1, fI_oth (by decide), h2]
  have p2 := p106_18 S1 (zI (t + d2))
  have S2 := s106_18 S1 (zI (t + d2))
  have g3 : gI (uV (uV st 106 17 (.int (zI (o + d1)))) 106 18 (.int (zI (t + d2)))) (some 106) 11 19 = some (zI u) := by rw [g106_19 S2, fI_oth (by decide), fI_oth (by decide), h3]
  have p3 := p106_19 S2 (zI (u + d3))
  have S3 := s106_19 S2 (zI (u + d3))
  have g4 : gI (uV (uV (uV st 106 17 (.int (zI (o + d1)))) 106 18 (.int (zI (t + d2)))) 106 19 (.int (zI (u + d3)))) (some 106) 11 20 = some (zI v) := by rw [g106_20 S3, fI_oth (by decide), fI_oth (by decide), fI_oth (by decide), h4]
  have p4 := p106_20 S3 (zI (v + d4))
  have S4 := s106_20 S3 (zI (v + d4))
  refine ⟨_, ?_, ⟨((Only.uV S1).trans (Only.uV S2)).trans ((Only.uV S3).trans (Only.uV S4)), ?_⟩, ?_, ?_, ?_, ?_⟩
  · unfold F_X11_adds
    simp only [zAdd, ↓bnd (g1), ↓bnd (q1), ↓bnd (p1), ↓bnd (g2), ↓bnd (q2), ↓bnd (p2), ↓bnd (g3), ↓bnd (q3), ↓bnd (p3), ↓bnd (g4), ↓bnd (q4), ↓bnd (p4)]
  · rw [fI_oth (by decide), fI_oth (by decide), fI_oth (by decide), fI_oth (by decide)]
  · rw [fI_oth (by decide), fI_oth (by decide), fI_oth (by decide), f106_17 hS]
  · rw [fI_oth (by decide), fI_oth (by decide), f106_18 S1]
  · rw [fI_oth (by decide), f106_19 S2]
  · rw [f106_20 S3]
end SU

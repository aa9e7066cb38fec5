/-! CHANCES -/
/-- the chance that of three shots so many go in, in parts of 10 to the 6 -/
def shN (p : Nat) : Nat → Nat
  | 0 => (100 - p) * (100 - p) * (100 - p)
  | 1 => 3 * p * (100 - p) * (100 - p)
  | 2 => 3 * p * p * (100 - p)
  | _ => p * p * p
def chN (p q w : Nat) : Nat := nS (fun a => nS (fun b => if (if b < a then 0 else if a = b then 1 else 2) = w then shN p a * shN q b else 0) 4) 4
def wiN (p q i : Nat) : Nat := nS (fun a => nS (fun b => shN p a * shN q b) a) i
def evN (p q i : Nat) : Nat := nS (fun a => shN p a * shN q a) i
theorem shN_all : ∀ p, p ≤ 100 → shN p 0 + shN p 1 + shN p 2 + shN p 3 = 1000000 := by decide +kernel
theorem ch0 (p q : Nat) : chN p q 0 = wiN p q 4 := by
  simp [chN, wiN, nS]
theorem ch1 (p q : Nat) : chN p q 1 = evN p q 4 := by
  simp [chN, evN, nS]
theorem ch2 {p q : Nat} (hp : p ≤ 100) (hq : q ≤ 100) : chN p q 2 + wiN p q 4 + evN p q 4 = 1000000000000 := by
  have h : (shN p 0 + shN p 1 + shN p 2 + shN p 3) * (shN q 0 + shN q 1 + shN q 2 + shN q 3) = 1000000000000 := by rw [shN_all p hp, shN_all q hq]
  rw [← h]
  simp only [chN, wiN, evN, nS, Nat.add_mul, Nat.mul_add]
  simp
  omega
theorem gp_le (L : LgD) (W : LwD) (P : PlD) (g e : Nat) : gp L W P g e ≤ 100 := hu_le _
theorem gq_le (L : LgD) (W : LwD) (P : PlD) (g : Nat) : gq L W P g ≤ 100 := hu_le _
theorem lL0 : (0 : Int64) = lN 0 := rfl
theorem lL1 : (1 : Int64) = lN 1 := rfl
theorem lL3 : (3 : Int64) = lN 3 := rfl
theorem lL12 : (1000000000000 : Int64) = lN 1000000000000 := rfl
section CH
variable {st : xS} {n : Nat}
theorem C_shots {p k : Nat} (hp : p ≤ 100) (hk : k ≤ 3) (hn : 3000 ≤ n) : F_X5_shots n st (nI p) (nI k) = some (lN (shN p k)) := by
  obtain ⟨m, rfl⟩ : ∃ m, n = m + 1 + 1 + 1 + 1 := ⟨n - 4, by omega⟩
  have h100 : (nI 100 - nI p).toInt64 = lN (100 - p) := by rw [nSub hp]; exact nI_l (by omega)
  have hpl : (nI p).toInt64 = lN p := nI_l (by omega)
  have e : k = 0 ∨ k = 1 ∨ k = 2 ∨ k = 3 := by omega
  unfold F_X5_shots
  simp only [F_X5_shots_L21]
  rcases e with rfl | rfl | rfl | rfl
  · simp (disch := omega) only [l0, l1, l2, l3, l4, l5, l6, l7, l8, l9, l10, l11, l12, l13, l14, l15, l16, l17, l18, l19, l20, l21, l22, l23, l24, l25, l26, l27, l28, l29, l30, l31, l32, l33, l34, l35, l36, l37, l38, l39, l40, l41, l42, l43, l44, l45, l46, l47, l48, l49, l50, l51, l52, l53, l54, l55, l56, l57, l58, l59, l60, l65, l90, l96, l97, l99, l100, l101, l122, l150, l242, l255, l499, l500, l510, l800, l960, l999, l1000, l1002, l1730, l2530, l2562, l9999, l10250, l32768, l1000000, nMul, nAdd, nNegN, nLt, nLe, nEq, nNeg1, nNeg1', nEqM, nEqM', if_true, if_false, if_pos, if_neg, reduceCtorEq, Option.bind_some, h100, hpl, lL1, lL3, lN_mul, Nat.one_mul]
    rfl
  · simp (disch := omega) only [l0, l1, l2, l3, l4, l5, l6, l7, l8, l9, l10, l11, l12, l13, l14, l15, l16, l17, l18, l19, l20, l21, l22, l23, l24, l25, l26, l27, l28, l29, l30, l31, l32, l33, l34, l35, l36, l37, l38, l39, l40, l41, l42, l43, l44, l45, l46, l47, l48, l49, l50, l51, l52, l53, l54, l55, l56, l57, l58, l59, l60, l65, l90, l96, l97, l99, l100, l101, l122, l150, l242, l255, l499, l500, l510, l800, l960, l999, l1000, l1002, l1730, l2530, l2562, l9999, l10250, l32768, l1000000, nMul, nAdd, nNegN, nLt, nLe, nEq, nNeg1, nNeg1', nEqM, nEqM', if_true, if_false, if_pos, if_neg, reduceCtorEq, Option.bind_some, h100, hpl, lL1, lL3, lN_mul]
    rfl
  · simp (disch := omega) only [l0, l1, l2, l3, l4, l5, l6, l7, l8, l9, l10, l11, l12, l13, l14, l15, l16, l17, l18, l19, l20, l21, l22, l23, l24, l25, l26, l27, l28, l29, l30, l31, l32, l33, l34, l35, l36, l37, l38, l39, l40, l41, l42, l43, l44, l45, l46, l47, l48, l49, l50, l51, l52, l53, l54, l55, l56, l57, l58, l59, l60, l65, l90, l96, l97, l99, l100, l101, l122, l150, l242, l255, l499, l500, l510, l800, l960, l999, l1000, l1002, l1730, l2530, l2562, l9999, l10250, l32768, l1000000, nMul, nAdd, nNegN, nLt, nLe, nEq, nNeg1, nNeg1', nEqM, nEqM', if_true, if_false, if_pos, if_neg, reduceCtorEq, Option.bind_some, h100, hpl, lL1, lL3, lN_mul]
    rfl
  · simp (disch := omega) only [l0, l1, l2, l3, l4, l5, l6, l7, l8, l9, l10, l11, l12, l13, l14, l15, l16, l17, l18, l19, l20, l21, l22, l23, l24, l25, l26, l27, l28, l29, l30, l31, l32, l33, l34, l35, l36, l37, l38, l39, l40, l41, l42, l43, l44, l45, l46, l47, l48, l49, l50, l51, l52, l53, l54, l55, l56, l57, l58, l59, l60, l65, l90, l96, l97, l99, l100, l101, l122, l150, l242, l255, l499, l500, l510, l800, l960, l999, l1000, l1002, l1730, l2530, l2562, l9999, l10250, l32768, l1000000, nMul, nAdd, nNegN, nLt, nLe, nEq, nNeg1, nNeg1', nEqM, nEqM', if_true, if_false, if_pos, if_neg, reduceCtorEq, Option.bind_some, h100, hpl, lL1, lL3, lN_mul, Nat.one_mul]
    rfl
theorem M_shots {p k : Nat} (hp : p ≤ 100) (hk : k ≤ 3) (hn : 3000 ≤ n) : F_X11_shots n st (nI p) (nI k) = some (lN (shN p k)) := by
  obtain ⟨m, rfl⟩ : ∃ m, n = m + 1 + 1 + 1 + 1 := ⟨n - 4, by omega⟩
  have h100 : (nI 100 - nI p).toInt64 = lN (100 - p) := by rw [nSub hp]; exact nI_l (by omega)
  have hpl : (nI p).toInt64 = lN p := nI_l (by omega)
  have e : k = 0 ∨ k = 1 ∨ k = 2 ∨ k = 3 := by omega
  unfold F_X11_shots
  simp only [F_X11_shots_L21]
  rcases e with rfl | rfl | rfl | rfl
  · simp (disch := omega) only [l0, l1, l2, l3, l4, l5, l6, l7, l8, l9, l10, l11, l12, l13, l14, l15, l16, l17, l18, l19, l20, l21, l22, l23, l24, l25, l26, l27, l28, l29, l30, l31, l32, l33, l34, l35, l36, l37, l38, l39, l40, l41, l42, l43, l44, l45, l46, l47, l48, l49, l50, l51, l52, l53, l54, l55, l56, l57, l58, l59, l60, l65, l90, l96, l97, l99, l100, l101, l122, l150, l242, l255, l499, l500, l510, l800, l960, l999, l1000, l1002, l1730, l2530, l2562, l9999, l10250, l32768, l1000000, nMul, nAdd, nNegN, nLt, nLe, nEq, nNeg1, nNeg1', nEqM, nEqM', if_true, if_false, if_pos, if_neg, reduceCtorEq, Option.bind_some, h100, hpl, lL1, lL3, lN_mul, Nat.one_mul]
    rfl
  · simp (disch := omega) only [l0, l1, l2, l3, l4, l5, l6, l7, l8, l9, l10, l11, l12, l13, l14, l15, l16, l17, l18, l19, l20, l21, l22, l23, l24, l25, l26, l27, l28, l29, l30, l31, l32, l33, l34, l35, l36, l37, l38, l39, l40, l41, l42, l43, l44, l45, l46, l47, l48, l49, l50, l51, l52, l53, l54, l55, l56, l57, l58, l59, l60, l65, l90, l96, l97, l99, l100, l101, l122, l150, l242, l255, l499, l500, l510, l800, l960, l999, l1000, l1002, l1730, l2530, l2562, l9999, l10250, l32768, l1000000, nMul, nAdd, nNegN, nLt, nLe, nEq, nNeg1, nNeg1', nEqM, nEqM', if_true, if_false, if_pos, if_neg, reduceCtorEq, Option.bind_some, h100, hpl, lL1, lL3, lN_mul]
    rfl
  · simp (disch := omega) only [l0, l1, l2, l3, l4, l5, l6, l7, l8, l9, l10, l11, l12, l13, l14, l15, l16, l17, l18, l19, l20, l21, l22, l23, l24, l25, l26, l27, l28, l29, l30, l31, l32, l33, l34, l35, l36, l37, l38, l39, l40, l41, l42, l43, l44, l45, l46, l47, l48, l49, l50, l51, l52, l53, l54, l55, l56, l57, l58, l59, l60, l65, l90, l96, l97, l99, l100, l101, l122, l150, l242, l255, l499, l500, l510, l800, l960, l999, l1000, l1002, l1730, l2530, l2562, l9999, l10250, l32768, l1000000, nMul, nAdd, nNegN, nLt, nLe, nEq, nNeg1, nNeg1', nEqM, nEqM', if_true, if_false, if_pos, if_neg, reduceCtorEq, Option.bind_some, h100, hpl, lL1, lL3, lN_mul]
    rfl
  · simp (disch := omega) only [l0, l1, l2, l3, l4, l5, l6, l7, l8, l9, l10, l11, l12, l13, l14, l15, l16, l17, l18, l19, l20, l21, l22, l23, l24, l25, l26, l27, l28, l29, l30, l31, l32, l33, l34, l35, l36, l37, l38, l39, l40, l41, l42, l43, l44, l45, l46, l47, l48, l49, l50, l51, l52, l53, l54, l55, l56, l57, l58, l59, l60, l65, l90, l96, l97, l99, l100, l101, l122, l150, l242, l255, l499, l500, l510, l800, l960, l999, l1000, l1002, l1730, l2530, l2562, l9999, l10250, l32768, l1000000, nMul, nAdd, nNegN, nLt, nLe, nEq, nNeg1, nNeg1', nEqM, nEqM', if_true, if_false, if_pos, if_neg, reduceCtorEq, Option.bind_some, h100, hpl, lL1, lL3, lN_mul, Nat.one_mul]
    rfl
/-- what the class finds of a game that is weighed -/
def oL (p q w : Nat) : Int64 := if w = 3 then lN (3 * chN p q 0 + chN p q 1) else lN (chN p q w)
theorem C_outlook {p q : Nat} (hS : Sh st) (hp : p ≤ 100) (hq : q ≤ 100) (f6 : fI st 79 6 = nI p) (f7 : fI st 79 7 = nI q) (hn : 3000 ≤ n) {w : Nat} (hw : w ≤ 3) : F_X5_outlook n st (some 79) (nI w) = some (oL p q w) := by
  have h41 : ∀ a, a ≤ 3 → ∀ t x : Int64, ∀ t0, t = lN t0 → F_X5_outlook_L41 n n st (some 79) (nI w) t x (nI a) (nI 0) = some (lN (t0 + nS (fun b => shN p a * shN q b) a)) := by
    intro a ha t x t0 ht
    subst ht
    refine loop_run (fun m (s : Int64 × Int32) => F_X5_outlook_L41 n m st (some 79) (nI w) s.1 x (nI a) s.2) (fun b => (lN (t0 + nS (fun b => shN p a * shN q b) b), nI b)) a _ (fun m b hb => ?_) (fun m => ?_) n (by omega)
    · dsimp only
      rw [F_X5_outlook_L41, nS]
      simp (disch := omega) only [l0, l1, l2, l3, l4, l5, l6, l7, l8, l9, l10, l11, l12, l13, l14, l15, l16, l17, l18, l19, l20, l21, l22, l23, l24, l25, l26, l27, l28, l29, l30, l31, l32, l33, l34, l35, l36, l37, l38, l39, l40, l41, l42, l43, l44, l45, l46, l47, l48, l49, l50, l51, l52, l53, l54, l55, l56, l57, l58, l59, l60, l65, l90, l96, l97, l99, l100, l101, l122, l150, l242, l255, l499, l500, l510, l800, l960, l999, l1000, l1002, l1730, l2530, l2562, l9999, l10250, l32768, l1000000, nMul, nAdd, nNegN, nLt, nLe, nEq, nNeg1, nNeg1', nEqM, nEqM', if_true, if_false, if_pos, if_neg, reduceCtorEq, Option.bind_some, g79_6 hS, g79_7 hS, f6, f7, C_shots, lN_mul, lN_add, Nat.add_assoc]
    · dsimp only
      rw [F_X5_outlook_L41]
      simp (disch := omega) only [nLt, nLe, nEq, nNeg1, nNeg1', nEqM, nEqM', if_true, if_false, if_pos, if_neg, reduceCtorEq]
  have h8 : F_X5_outlook_L8 n n st (some 79) (nI w) (0 : Int64) (0 : Int64) (0 : Int32) = some (lN (wiN p q 4), lN (evN p q 4)) := by
    refine loop_run (fun m (s : Int64 × Int64 × Int32) => F_X5_outlook_L8 n m st (some 79) (nI w) s.1 s.2.1 s.2.2) (fun a => (lN (wiN p q a), lN (evN p q a), nI a)) 4 _ (fun m a ha => ?_) (fun m => ?_) n (by omega)
    · dsimp only
      have e1 : wiN p q (a + 1) = wiN p q a + nS (fun b => shN p a * shN q b) a := rfl
      have e2 : evN p q (a + 1) = evN p q a + shN p a * shN q a := rfl
      rw [F_X5_outlook_L8, e1, e2]
      simp (disch := omega) only [l0, l1, l2, l3, l4, l5, l6, l7, l8, l9, l10, l11, l12, l13, l14, l15, l16, l17, l18, l19, l20, l21, l22, l23, l24, l25, l26, l27, l28, l29, l30, l31, l32, l33, l34, l35, l36, l37, l38, l39, l40, l41, l42, l43, l44, l45, l46, l47, l48, l49, l50, l51, l52, l53, l54, l55, l56, l57, l58, l59, l60, l65, l90, l96, l97, l99, l100, l101, l122, l150, l242, l255, l499, l500, l510, l800, l960, l999, l1000, l1002, l1730, l2530, l2562, l9999, l10250, l32768, l1000000, nMul, nAdd, nNegN, nLt, nLe, nEq, nNeg1, nNeg1', nEqM, nEqM', if_true, if_false, if_pos, if_neg, reduceCtorEq, Option.bind_some, g79_6 hS, g79_7 hS, f6, f7, C_shots, lN_mul, lN_add, h41 a (by omega) _ _ _ rfl]
    · dsimp only
      rw [F_X5_outlook_L8]
      simp (disch := omega) only [l0, l1, l2, l3, l4, l5, l6, l7, l8, l9, l10, l11, l12, l13, l14, l15, l16, l17, l18, l19, l20, l21, l22, l23, l24, l25, l26, l27, l28, l29, l30, l31, l32, l33, l34, l35, l36, l37, l38, l39, l40, l41, l42, l43, l44, l45, l46, l47, l48, l49, l50, l51, l52, l53, l54, l55, l56, l57, l58, l59, l60, l65, l90, l96, l97, l99, l100, l101, l122, l150, l242, l255, l499, l500, l510, l800, l960, l999, l1000, l1002, l1730, l2530, l2562, l9999, l10250, l32768, l1000000, nMul, nAdd, nNegN, nLt, nLe, nEq, nNeg1, nNeg1', nEqM, nEqM', if_true, if_false, if_pos, if_neg, reduceCtorEq]
  have hc := ch2 hp hq
  unfold F_X5_outlook
  rw [h8]
  have e : w = 0 ∨ w = 1 ∨ w = 2 ∨ w = 3 := by omega
  rcases e with rfl | rfl | rfl | rfl
  · simp (disch := omega) only [l0, l1, l2, l3, l4, l5, l6, l7, l8, l9, l10, l11, l12, l13, l14, l15, l16, l17, l18, l19, l20, l21, l22, l23, l24, l25, l26, l27, l28, l29, l30, l31, l32, l33, l34, l35, l36, l37, l38, l39, l40, l41, l42, l43, l44, l45, l46, l47, l48, l49, l50, l51, l52, l53, l54, l55, l56, l57, l58, l59, l60, l65, l90, l96, l97, l99, l100, l101, l122, l150, l242, l255, l499, l500, l510, l800, l960, l999, l1000, l1002, l1730, l2530, l2562, l9999, l10250, l32768, l1000000, nMul, nAdd, nNegN, nLt, nLe, nEq, nNeg1, nNeg1', nEqM, nEqM', if_true, if_false, if_pos, if_neg, reduceCtorEq, Option.bind_some, oL, ch0]
  · simp (disch := omega) only [l0, l1, l2, l3, l4, l5, l6, l7, l8, l9, l10, l11, l12, l13, l14, l15, l16, l17, l18, l19, l20, l21, l22, l23, l24, l25, l26, l27, l28, l29, l30, l31, l32, l33, l34, l35, l36, l37, l38, l39, l40, l41, l42, l43, l44, l45, l46, l47, l48, l49, l50, l51, l52, l53, l54, l55, l56, l57, l58, l59, l60, l65, l90, l96, l97, l99, l100, l101, l122, l150, l242, l255, l499, l500, l510, l800, l960, l999, l1000, l1002, l1730, l2530, l2562, l9999, l10250, l32768, l1000000, nMul, nAdd, nNegN, nLt, nLe, nEq, nNeg1, nNeg1', nEqM, nEqM', if_true, if_false, if_pos, if_neg, reduceCtorEq, Option.bind_some, oL, ch1]
  · simp (disch := omega) only [l0, l1, l2, l3, l4, l5, l6, l7, l8, l9, l10, l11, l12, l13, l14, l15, l16, l17, l18, l19, l20, l21, l22, l23, l24, l25, l26, l27, l28, l29, l30, l31, l32, l33, l34, l35, l36, l37, l38, l39, l40, l41, l42, l43, l44, l45, l46, l47, l48, l49, l50, l51, l52, l53, l54, l55, l56, l57, l58, l59, l60, l65, l90, l96, l97, l99, l100, l101, l122, l150, l242, l255, l499, l500, l510, l800, l960, l999, l1000, l1002, l1730, l2530, l2562, l9999, l10250, l32768, l1000000, nMul, nAdd, nNegN, nLt, nLe, nEq, nNeg1, nNeg1', nEqM, nEqM', if_true, if_false, if_pos, if_neg, reduceCtorEq, Option.bind_some, oL, lL12, lN_sub]
    rw [show 1000000000000 - wiN p q 4 - evN p q 4 = chN p q 2 by omega]
  · simp (disch := omega) only [l0, l1, l2, l3, l4, l5, l6, l7, l8, l9, l10, l11, l12, l13, l14, l15, l16, l17, l18, l19, l20, l21, l22, l23, l24, l25, l26, l27, l28, l29, l30, l31, l32, l33, l34, l35, l36, l37, l38, l39, l40, l41, l42, l43, l44, l45, l46, l47, l48, l49, l50, l51, l52, l53, l54, l55, l56, l57, l58, l59, l60, l65, l90, l96, l97, l99, l100, l101, l122, l150, l242, l255, l499, l500, l510, l800, l960, l999, l1000, l1002, l1730, l2530, l2562, l9999, l10250, l32768, l1000000, nMul, nAdd, nNegN, nLt, nLe, nEq, nNeg1, nNeg1', nEqM, nEqM', if_true, if_false, if_pos, if_neg, reduceCtorEq, Option.bind_some, oL, lL3, lN_mul, lN_add, ch0, ch1]
theorem M_chances {p q : Nat} (hp : p ≤ 100) (hq : q ≤ 100) (hn : 3000 ≤ n) {w : Nat} (hw : w ≤ 2) : F_X11_chanceOf_L30 n n st (nI w) (nI p) (nI q) (0 : Int64) (0 : Int32) = some (lN (chN p q w)) := by
  have h39 : ∀ a, a ≤ 3 → ∀ t0, F_X11_chanceOf_L39 n n st (nI w) (nI p) (nI q) (lN t0) (nI a) (nI 0) = some (lN (t0 + nS (fun b => if (if b < a then 0 else if a = b then 1 else 2) = w then shN p a * shN q b else 0) 4)) := by
    intro a ha t0
    refine loop_run (fun m (s : Int64 × Int32) => F_X11_chanceOf_L39 n m st (nI w) (nI p) (nI q) s.1 (nI a) s.2) (fun b => (lN (t0 + nS (fun b => if (if b < a then 0 else if a = b then 1 else 2) = w then shN p a * shN q b else 0) b), nI b)) 4 _ (fun m b hb => ?_) (fun m => ?_) n (by omega)
    · dsimp only
      rw [F_X11_chanceOf_L39, nS]
      simp (disch := omega) only [l0, l1, l2, l3, l4, l5, l6, l7, l8, l9, l10, l11, l12, l13, l14, l15, l16, l17, l18, l19, l20, l21, l22, l23, l24, l25, l26, l27, l28, l29, l30, l31, l32, l33, l34, l35, l36, l37, l38, l39, l40, l41, l42, l43, l44, l45, l46, l47, l48, l49, l50, l51, l52, l53, l54, l55, l56, l57, l58, l59, l60, l65, l90, l96, l97, l99, l100, l101, l122, l150, l242, l255, l499, l500, l510, l800, l960, l999, l1000, l1002, l1730, l2530, l2562, l9999, l10250, l32768, l1000000, nMul, nAdd, nNegN, nLt, nLe, nEq, nNeg1, nNeg1', nEqM, nEqM', if_true, if_false, if_pos, if_neg, reduceCtorEq, Option.bind_some, M_shots]
      by_cases h1 : b < a
      · by_cases h2 : 0 = w
        · simp (disch := omega) only [h1, h2, if_true, if_false, if_pos, if_neg, Option.bind_some, lN_mul, lN_add, nLt, nLe, nEq, nNeg1, nNeg1', nEqM, nEqM', if_true, if_false, if_pos, if_neg, reduceCtorEq, ← Nat.add_assoc]
        · simp (disch := omega) only [h1, h2, if_true, if_false, if_pos, if_neg, Option.bind_some, lL0, lN_add, nLt, nLe, nEq, nNeg1, nNeg1', nEqM, nEqM', if_true, if_false, if_pos, if_neg, reduceCtorEq, ← Nat.add_assoc]
      · by_cases h3 : a = b
        · by_cases h2 : 1 = w
          · simp (disch := omega) only [h1, h2, h3, if_true, if_false, if_pos, if_neg, Option.bind_some, lN_mul, lN_add, nLt, nLe, nEq, nNeg1, nNeg1', nEqM, nEqM', if_true, if_false, if_pos, if_neg, reduceCtorEq, ← Nat.add_assoc]
          · simp (disch := omega) only [h1, h2, h3, if_true, if_false, if_pos, if_neg, Option.bind_some, lL0, lN_add, nLt, nLe, nEq, nNeg1, nNeg1', nEqM, nEqM', if_true, if_false, if_pos, if_neg, reduceCtorEq, ← Nat.add_assoc]
        · by_cases h2 : 2 = w
          · simp (disch := omega) only [h1, h2, h3, if_true, if_false, if_pos, if_neg, Option.bind_some, lN_mul, lN_add, nLt, nLe, nEq, nNeg1, nNeg1', nEqM, nEqM', if_true, if_false, if_pos, if_neg, reduceCtorEq, ← Nat.add_assoc]
          · simp (disch := omega) only [h1, h2, h3, if_true, if_false, if_pos, if_neg, Option.bind_some, lL0, lN_add, nLt, nLe, nEq, nNeg1, nNeg1', nEqM, nEqM', if_true, if_false, if_pos, if_neg, reduceCtorEq, ← Nat.add_assoc]
    · dsimp only
      rw [F_X11_chanceOf_L39]
      simp (disch := omega) only [l0, l1, l2, l3, l4, l5, l6, l7, l8, l9, l10, l11, l12, l13, l14, l15, l16, l17, l18, l19, l20, l21, l22, l23, l24, l25, l26, l27, l28, l29, l30, l31, l32, l33, l34, l35, l36, l37, l38, l39, l40, l41, l42, l43, l44, l45, l46, l47, l48, l49, l50, l51, l52, l53, l54, l55, l56, l57, l58, l59, l60, l65, l90, l96, l97, l99, l100, l101, l122, l150, l242, l255, l499, l500, l510, l800, l960, l999, l1000, l1002, l1730, l2530, l2562, l9999, l10250, l32768, l1000000, nMul, nAdd, nNegN, nLt, nLe, nEq, nNeg1, nNeg1', nEqM, nEqM', if_true, if_false, if_pos, if_neg, reduceCtorEq]
  refine loop_run (fun m (s : Int64 × Int32) => F_X11_chanceOf_L30 n m st (nI w) (nI p) (nI q) s.1 s.2) (fun a => (lN (nS (fun a => nS (fun b => if (if b < a then 0 else if a = b then 1 else 2) = w then shN p a * shN q b else 0) 4) a), nI a)) 4 _ (fun m a ha => ?_) (fun m => ?_) n (by omega)
  · dsimp only
    rw [F_X11_chanceOf_L30]
    simp (disch := omega) only [l0, l1, l2, l3, l4, l5, l6, l7, l8, l9, l10, l11, l12, l13, l14, l15, l16, l17, l18, l19, l20, l21, l22, l23, l24, l25, l26, l27, l28, l29, l30, l31, l32, l33, l34, l35, l36, l37, l38, l39, l40, l41, l42, l43, l44, l45, l46, l47, l48, l49, l50, l51, l52, l53, l54, l55, l56, l57, l58, l59, l60, l65, l90, l96, l97, l99, l100, l101, l122, l150, l242, l255, l499, l500, l510, l800, l960, l999, l1000, l1002, l1730, l2530, l2562, l9999, l10250, l32768, l1000000, nMul, nAdd, nNegN, nLt, nLe, nEq, nNeg1, nNeg1', nEqM, nEqM', if_true, if_false, if_pos, if_neg, reduceCtorEq, Option.bind_some, h39 a (by omega)]
    rfl
  · dsimp only
    rw [F_X11_chanceOf_L30]
    simp (disch := omega) only [l0, l1, l2, l3, l4, l5, l6, l7, l8, l9, l10, l11, l12, l13, l14, l15, l16, l17, l18, l19, l20, l21, l22, l23, l24, l25, l26, l27, l28, l29, l30, l31, l32, l33, l34, l35, l36, l37, l38, l39, l40, l41, l42, l43, l44, l45, l46, l47, l48, l49, l50, l51, l52, l53, l54, l55, l56, l57, l58, l59, l60, l65, l90, l96, l97, l99, l100, l101, l122, l150, l242, l255, l499, l500, l510, l800, l960, l999, l1000, l1002, l1730, l2530, l2562, l9999, l10250, l32768, l1000000, nMul, nAdd, nNegN, nLt, nLe, nEq, nNeg1, nNeg1', nEqM, nEqM', if_true, if_false, if_pos, if_neg, reduceCtorEq]
    rfl
variable {j i k g : Nat} {G : Gh}
theorem M_chanceOf (hS : Sh st) (hM : ModB (cI st 107) G) (hI : GhI G) {d : Nat} (hd : lfD st d) (hj : j < G.cn 0) (hi : i < G.cn 1) (hk : k < G.cn 2) (hg : g < (G.P k).n) (hn : 3000 ≤ n) {w : Nat} (hw : w ≤ 2) : F_X11_chanceOf n st (some 106) (nI (510 + 150 * j)) (nI (960 + 14 * i)) (nI k) (nI g) (nI w) = some (lN (chN (gp (G.L j) (G.W i) (G.P k) g (gE (gP (G.L j) (G.W i) (G.P k) g) d)) (gq (G.L j) (G.W i) (G.P k) g) w)) := by
  have h := M_goalOf (n := n) hS hM hI hd hj hi hk hg hn
  unfold F_X11_chanceOf
  simp only [o106 hS, h.1, h.2, Option.bind_some, M_chances (gp_le _ _ _ _ _) (gq_le _ _ _ _) hn hw]
theorem M_hopeOf (hS : Sh st) (hM : ModB (cI st 107) G) (hI : GhI G) {d : Nat} (hd : lfD st d) (hj : j < G.cn 0) (hi : i < G.cn 1) (hk : k < G.cn 2) (hg : g < (G.P k).n) (hn : 3000 ≤ n) : F_X11_hopeOf n st (some 106) (nI (510 + 150 * j)) (nI (960 + 14 * i)) (nI k) (nI g) = some (oL (gp (G.L j) (G.W i) (G.P k) g (gE (gP (G.L j) (G.W i) (G.P k) g) d)) (gq (G.L j) (G.W i) (G.P k) g) 3) := by
  have h0 : F_X11_chanceOf n st (some 106) (nI (510 + 150 * j)) (nI (960 + 14 * i)) (nI k) (nI g) (0 : Int32) = _ := M_chanceOf (n := n) hS hM hI hd hj hi hk hg hn (w := 0) (by decide)
  have h1 : F_X11_chanceOf n st (some 106) (nI (510 + 150 * j)) (nI (960 + 14 * i)) (nI k) (nI g) (1 : Int32) = _ := M_chanceOf (n := n) hS hM hI hd hj hi hk hg hn (w := 1) (by decide)
  unfold F_X11_hopeOf
  simp only [o106 hS, h0, h1, Option.bind_some, lL3, lN_mul, lN_add]
  rfl
end CH

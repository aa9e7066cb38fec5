/-! RUNS, UNEVEN -/
section RU
variable {st : xS} {n : Nat} {G : Gh} {I : Im}
def nS (f : Nat → Nat) : Nat → Nat
  | 0 => 0
  | i + 1 => nS f i + f i
theorem C_plays {a g s : Nat} {P : PlD} (hP : PlR st a P) (hJ : PlI P) (hg : g < P.n) (hs : s < 2147483648) : F_X6_plays n st (some a) (nI g) (nI s) = some (nI (if P.c g 0 = s then 1 else if P.c g 1 = s then 1 else 0)) := by
  have d := hJ.2.1 g hg
  unfold F_X6_plays
  simp (disch := omega) only [l0, l1, l2, l3, l4, l5, l6, l7, l8, l9, l10, l11, l12, l13, l14, l15, l16, l17, l18, l19, l20, l21, l22, l23, l24, l25, l26, l27, l28, l29, l30, l31, l32, l33, l34, l35, l36, l37, l38, l39, l40, l41, l42, l43, l44, l45, l46, l47, l48, l49, l50, l51, l52, l53, l54, l55, l56, l57, l58, l59, l60, l65, l90, l96, l97, l99, l100, l101, l122, l150, l242, l255, l499, l500, l510, l800, l960, l999, l1000, l1002, l1730, l2530, l2562, l9999, l10250, l32768, l1000000, nMul, nAdd, nNegN, nLt, nLe, nEq, nNeg1, nNeg1', nEqM, nEqM', if_true, if_false, if_pos, if_neg, reduceCtorEq, Option.bind_some, rz_bI, rz0, rz1, rzN0, rzN1, hP.o, C_of hP hJ hg]
  by_cases h1 : P.c g 0 = s
  · simp only [h1, if_true, Option.bind_some, rzN1]
  · by_cases h2 : P.c g 1 = s
    · simp only [h1, h2, if_true, if_false, Option.bind_some, rzN1]
    · simp only [h1, h2, if_false, Option.bind_some, rzN0]
theorem M_plays (hR : Rel st G I) {k g s : Nat} (hk : k < G.cn 2) (hg : g < (G.P k).n) (hs : s < 2147483648) : F_X11_plays n st (some 106) (nI k) (nI g) (nI s) = some (nI (if (G.P k).c g 0 = s then 1 else if (G.P k).c g 1 = s then 1 else 0)) := by
  have d := (hR.inv.pp hk).2.1 g hg
  unfold F_X11_plays
  simp (disch := omega) only [l0, l1, l2, l3, l4, l5, l6, l7, l8, l9, l10, l11, l12, l13, l14, l15, l16, l17, l18, l19, l20, l21, l22, l23, l24, l25, l26, l27, l28, l29, l30, l31, l32, l33, l34, l35, l36, l37, l38, l39, l40, l41, l42, l43, l44, l45, l46, l47, l48, l49, l50, l51, l52, l53, l54, l55, l56, l57, l58, l59, l60, l65, l90, l96, l97, l99, l100, l101, l122, l150, l242, l255, l499, l500, l510, l800, l960, l999, l1000, l1002, l1730, l2530, l2562, l9999, l10250, l32768, l1000000, nMul, nAdd, nNegN, nLt, nLe, nEq, nNeg1, nNeg1', nEqM, nEqM', if_true, if_false, if_pos, if_neg, reduceCtorEq, Option.bind_some, rz_bI, rz0, rz1, rzN0, rzN1, o106 hR.sh, M_game hR.sh hR.mod hR.inv hk hg]
  by_cases h1 : (G.P k).c g 0 = s
  · simp only [h1, if_true, Option.bind_some, rzN1]
  · by_cases h2 : (G.P k).c g 1 = s
    · simp only [h1, h2, if_true, if_false, Option.bind_some, rzN1]
    · simp only [h1, h2, if_false, Option.bind_some, rzN0]
/-- the row that lasts, and the longest so far -/
def rwR (P : PlD) (s h : Nat) : Nat → Nat
  | 0 => 0
  | i + 1 => if P.c i h = s then rwR P s h i + 1 else if P.c i (1 - h) = s then 0 else rwR P s h i
def rwM (P : PlD) (s h : Nat) : Nat → Nat
  | 0 => 0
  | i + 1 => max (rwM P s h i) (rwR P s h (i + 1))
theorem rwR_le (P : PlD) (s h i : Nat) : rwR P s h i ≤ i := by
  induction i with
  | zero => exact Nat.le_refl 0
  | succ i ih => unfold rwR; split <;> (try split) <;> omega
theorem rwM_le (P : PlD) (s h i : Nat) : rwM P s h i ≤ i := by
  induction i with
  | zero => exact Nat.le_refl 0
  | succ i ih =>
    have := rwR_le P s h (i + 1)
    unfold rwM
    omega
theorem rwR_M (P : PlD) (s h i : Nat) : rwR P s h i ≤ rwM P s h i := by
  cases i with
  | zero => exact Nat.le_refl 0
  | succ i => unfold rwM; omega
theorem E_runs (hR : Rel st G I) (p s : Int32) (x : Nat) (hx : x ≤ 1) (hn : 3000 ≤ n) : ∃ v, F_X10_runs n st (some 64) p s (nI x) = some v ∧ F_X11_runs n st (some 106) p s (nI x) = some v := by
  have hS := hR.sh
  have hM := hR.mod
  have b1 := hR.inv.2.2.1
  unfold F_X10_runs F_X11_runs
  rcases nCut p (G.cn 2) with ⟨k, hk, rfl⟩ | hp
  · have i0 := M_isOf_t (n := n) hS hM (w := 2) (by decide) hk (by omega)
    obtain ⟨a, e1, e2⟩ := C_planAt_t (n := n) hS hR.tol hR.inv hk
    have hJ := hR.inv.pp hk
    have c1 := hJ.1
    rcases nCut s 8 with ⟨s, hs, rfl⟩ | hs
    · refine ⟨nI (rwM (G.P k) s (1 - x) (G.P k).n), ?_, ?_⟩
      · have lc : F_X10_runs_L33 n n st (nI s) (nI x) (some a) (nI 0) (nI 0) (nI 0) = some (nI (rwM (G.P k) s (1 - x) (G.P k).n)) := by
          refine loop_run (fun m (q : Int32 × Int32 × Int32) => F_X10_runs_L33 n m st (nI s) (nI x) (some a) q.1 q.2.1 q.2.2) (fun i => (nI (rwM (G.P k) s (1 - x) i), nI (rwR (G.P k) s (1 - x) i), nI i)) (G.P k).n _ (fun m i hi => ?_) (fun m => ?_) n (by omega)
          · dsimp only
            have d := hJ.2.1 i hi
            have r1 := rwR_le (G.P k) s (1 - x) i
            have r2 := rwM_le (G.P k) s (1 - x) i
            have r3 := rwR_M (G.P k) s (1 - x) i
            have dx : (G.P k).c i (1 - x) < 8 := by
              rcases Nat.le_one_iff_eq_zero_or_eq_one.mp hx with rfl | rfl
              · exact d.2.1
              · exact d.1
            rw [F_X10_runs_L33]
            have hq : (if nI x = (0 : Int32) then some (1 : Int32) else some (0 : Int32) : Option Int32) = some (nI (1 - x)) := by
              rcases Nat.le_one_iff_eq_zero_or_eq_one.mp hx with rfl | rfl <;> rfl
            dsimp only
            rw [hq]
            simp (disch := omega) only [l0, l1, l2, l3, l4, l5, l6, l7, l8, l9, l10, l11, l12, l13, l14, l15, l16, l17, l18, l19, l20, l21, l22, l23, l24, l25, l26, l27, l28, l29, l30, l31, l32, l33, l34, l35, l36, l37, l38, l39, l40, l41, l42, l43, l44, l45, l46, l47, l48, l49, l50, l51, l52, l53, l54, l55, l56, l57, l58, l59, l60, l65, l90, l96, l97, l99, l100, l101, l122, l150, l242, l255, l499, l500, l510, l800, l960, l999, l1000, l1002, l1730, l2530, l2562, l9999, l10250, l32768, l1000000, nMul, nAdd, nNegN, nLt, nLe, nEq, nNeg1, nNeg1', nEqM, nEqM', if_true, if_false, if_pos, if_neg, reduceCtorEq, Option.bind_some, rz_bI, rz0, rz1, rzN0, rzN1, e2.o, e2.gn, C_of e2 hJ hi, C_plays e2 hJ hi, imax]
            by_cases h1 : (G.P k).c i (1 - x) = s
            · by_cases h4 : rwM (G.P k) s (1 - x) i < rwR (G.P k) s (1 - x) i + 1
              · rw [if_pos h1, if_pos h4, rwM, rwR, if_pos h1, Nat.max_eq_right (by omega)]
                rfl
              · rw [if_pos h1, if_neg h4, rwM, rwR, if_pos h1, Nat.max_eq_left (by omega)]
                rfl
            · rw [if_neg h1, rwM, rwR, if_neg h1]
              by_cases h2 : (G.P k).c i (1 - (1 - x)) = s
              · have : (if (G.P k).c i 0 = s then 1 else if (G.P k).c i 1 = s then 1 else 0) = 1 := by
                  rcases Nat.le_one_iff_eq_zero_or_eq_one.mp hx with rfl | rfl
                  · rw [if_pos h2]
                  · rw [if_neg h1, if_pos h2]
                simp (disch := omega) only [this, nLt, nLe, nEq, nNeg1, nNeg1', nEqM, nEqM', if_true, if_false, if_pos, if_neg, reduceCtorEq, h2, Option.bind_some]
                rw [Nat.max_eq_left (by omega)]
              · have : (if (G.P k).c i 0 = s then 1 else if (G.P k).c i 1 = s then 1 else 0) = 0 := by
                  rcases Nat.le_one_iff_eq_zero_or_eq_one.mp hx with rfl | rfl
                  · rw [if_neg h2, if_neg h1]
                  · rw [if_neg h1, if_neg h2]
                simp (disch := omega) only [this, nLt, nLe, nEq, nNeg1, nNeg1', nEqM, nEqM', if_true, if_false, if_pos, if_neg, reduceCtorEq, h2, Option.bind_some]
                rw [Nat.max_eq_left (by omega)]
          · dsimp only
            rw [F_X10_runs_L33]
            simp (disch := omega) only [l0, l1, l2, l3, l4, l5, l6, l7, l8, l9, l10, l11, l12, l13, l14, l15, l16, l17, l18, l19, l20, l21, l22, l23, l24, l25, l26, l27, l28, l29, l30, l31, l32, l33, l34, l35, l36, l37, l38, l39, l40, l41, l42, l43, l44, l45, l46, l47, l48, l49, l50, l51, l52, l53, l54, l55, l56, l57, l58, l59, l60, l65, l90, l96, l97, l99, l100, l101, l122, l150, l242, l255, l499, l500, l510, l800, l960, l999, l1000, l1002, l1730, l2530, l2562, l9999, l10250, l32768, l1000000, nMul, nAdd, nNegN, nLt, nLe, nEq, nNeg1, nNeg1', nEqM, nEqM', if_true, if_false, if_pos, if_neg, reduceCtorEq, Option.bind_some, rz_bI, rz0, rz1, rzN0, rzN1, e2.gn]
        simp (disch := omega) only [l0, l1, l2, l3, l4, l5, l6, l7, l8, l9, l10, l11, l12, l13, l14, l15, l16, l17, l18, l19, l20, l21, l22, l23, l24, l25, l26, l27, l28, l29, l30, l31, l32, l33, l34, l35, l36, l37, l38, l39, l40, l41, l42, l43, l44, l45, l46, l47, l48, l49, l50, l51, l52, l53, l54, l55, l56, l57, l58, l59, l60, l65, l90, l96, l97, l99, l100, l101, l122, l150, l242, l255, l499, l500, l510, l800, l960, l999, l1000, l1002, l1730, l2530, l2562, l9999, l10250, l32768, l1000000, nMul, nAdd, nNegN, nLt, nLe, nEq, nNeg1, nNeg1', nEqM, nEqM', if_true, if_false, if_pos, if_neg, reduceCtorEq, Option.bind_some, rz_bI, rz0, rz1, rzN0, rzN1, g64_0 hS, o65 hS, e1, F_X10_isSide, C_in_t, lc]
      · have lm : F_X11_runs_L30 n n st (some 106) (nI k) (nI s) (nI x) (nI 0) (nI 0) (nI 0) = some (nI (rwM (G.P k) s (1 - x) (G.P k).n)) := by
          refine loop_run (fun m (q : Int32 × Int32 × Int32) => F_X11_runs_L30 n m st (some 106) (nI k) (nI s) (nI x) q.1 q.2.1 q.2.2) (fun i => (nI (rwR (G.P k) s (1 - x) i), nI (rwM (G.P k) s (1 - x) i), nI i)) (G.P k).n _ (fun m i hi => ?_) (fun m => ?_) n (by omega)
          · dsimp only
            have d := hJ.2.1 i hi
            have r1 := rwR_le (G.P k) s (1 - x) i
            have r2 := rwM_le (G.P k) s (1 - x) i
            have r3 := rwR_M (G.P k) s (1 - x) i
            rw [F_X11_runs_L30]
            simp (disch := omega) only [l0, l1, l2, l3, l4, l5, l6, l7, l8, l9, l10, l11, l12, l13, l14, l15, l16, l17, l18, l19, l20, l21, l22, l23, l24, l25, l26, l27, l28, l29, l30, l31, l32, l33, l34, l35, l36, l37, l38, l39, l40, l41, l42, l43, l44, l45, l46, l47, l48, l49, l50, l51, l52, l53, l54, l55, l56, l57, l58, l59, l60, l65, l90, l96, l97, l99, l100, l101, l122, l150, l242, l255, l499, l500, l510, l800, l960, l999, l1000, l1002, l1730, l2530, l2562, l9999, l10250, l32768, l1000000, nMul, nAdd, nNegN, nLt, nLe, nEq, nNeg1, nNeg1', nEqM, nEqM', if_true, if_false, if_pos, if_neg, reduceCtorEq, Option.bind_some, rz_bI, rz0, rz1, rzN0, rzN1, o106 hS, M_games hS hM hR.inv hk, M_plays hR hk hi, M_game hS hM hR.inv hk hi]
            by_cases h1 : (G.P k).c i (1 - x) = s
            · have e1 : (if (G.P k).c i 0 = s then 1 else if (G.P k).c i 1 = s then 1 else 0) = 1 := by
                rcases Nat.le_one_iff_eq_zero_or_eq_one.mp hx with rfl | rfl
                · have h1 : (G.P k).c i 1 = s := h1
                  rw [if_pos h1, ite_self]
                · have h1 : (G.P k).c i 0 = s := h1
                  rw [if_pos h1]
              have e2 : (if (G.P k).c i 0 = s then some (nI 1) else some (nI 0) : Option Int32) = some (nI x) := by
                rcases Nat.le_one_iff_eq_zero_or_eq_one.mp hx with rfl | rfl
                · have h1 : (G.P k).c i 1 = s := h1
                  rw [if_neg (by omega)]
                · have h1 : (G.P k).c i 0 = s := h1
                  rw [if_pos h1]
              simp (disch := omega) only [e1, e2, nLt, nLe, nEq, nNeg1, nNeg1', nEqM, nEqM', if_true, if_false, if_pos, if_neg, reduceCtorEq, Option.bind_some, rz_bI, rz0, rz1, rzN0, rzN1]
              rw [rwM, rwR, if_pos h1]
              by_cases h4 : rwR (G.P k) s (1 - x) i + 1 ≤ rwM (G.P k) s (1 - x) i
              · rw [if_pos h4, Nat.max_eq_left (by omega)]
                rfl
              · rw [if_neg h4, Nat.max_eq_right (by omega)]
                rfl
            · rw [rwM, rwR, if_neg h1]
              by_cases h2 : (G.P k).c i (1 - (1 - x)) = s
              · have e1 : (if (G.P k).c i 0 = s then 1 else if (G.P k).c i 1 = s then 1 else 0) = 1 := by
                  rcases Nat.le_one_iff_eq_zero_or_eq_one.mp hx with rfl | rfl
                  · rw [if_pos h2]
                  · rw [if_neg h1, if_pos h2]
                have e2 : (if (G.P k).c i 0 = s then some (nI 1) else some (nI 0) : Option Int32) = some (nI (1 - x)) := by
                  rcases Nat.le_one_iff_eq_zero_or_eq_one.mp hx with rfl | rfl
                  · rw [if_pos h2]
                  · rw [if_neg h1]
                have e3 : ¬ 1 - x = x := by omega
                simp (disch := omega) only [e1, e2, nLt, nLe, nEq, nNeg1, nNeg1', nEqM, nEqM', if_true, if_false, if_pos, if_neg, reduceCtorEq, Option.bind_some, rz_bI, rz0, rz1, rzN0, rzN1, e3, h2]
                rw [Nat.max_eq_left (by omega)]
              · have e1 : (if (G.P k).c i 0 = s then 1 else if (G.P k).c i 1 = s then 1 else 0) = 0 := by
                  rcases Nat.le_one_iff_eq_zero_or_eq_one.mp hx with rfl | rfl
                  · rw [if_neg h2, if_neg h1]
                  · rw [if_neg h1, if_neg h2]
                simp (disch := omega) only [e1, nLt, nLe, nEq, nNeg1, nNeg1', nEqM, nEqM', if_true, if_false, if_pos, if_neg, reduceCtorEq, Option.bind_some, rz_bI, rz0, rz1, rzN0, rzN1, h2]
                rw [Nat.max_eq_left (by omega)]
          · dsimp only
            rw [F_X11_runs_L30]
            simp (disch := omega) only [l0, l1, l2, l3, l4, l5, l6, l7, l8, l9, l10, l11, l12, l13, l14, l15, l16, l17, l18, l19, l20, l21, l22, l23, l24, l25, l26, l27, l28, l29, l30, l31, l32, l33, l34, l35, l36, l37, l38, l39, l40, l41, l42, l43, l44, l45, l46, l47, l48, l49, l50, l51, l52, l53, l54, l55, l56, l57, l58, l59, l60, l65, l90, l96, l97, l99, l100, l101, l122, l150, l242, l255, l499, l500, l510, l800, l960, l999, l1000, l1002, l1730, l2530, l2562, l9999, l10250, l32768, l1000000, nMul, nAdd, nNegN, nLt, nLe, nEq, nNeg1, nNeg1', nEqM, nEqM', if_true, if_false, if_pos, if_neg, reduceCtorEq, Option.bind_some, rz_bI, rz0, rz1, rzN0, rzN1, o106 hS, M_games hS hM hR.inv hk]
        simp (disch := omega) only [l0, l1, l2, l3, l4, l5, l6, l7, l8, l9, l10, l11, l12, l13, l14, l15, l16, l17, l18, l19, l20, l21, l22, l23, l24, l25, l26, l27, l28, l29, l30, l31, l32, l33, l34, l35, l36, l37, l38, l39, l40, l41, l42, l43, l44, l45, l46, l47, l48, l49, l50, l51, l52, l53, l54, l55, l56, l57, l58, l59, l60, l65, l90, l96, l97, l99, l100, l101, l122, l150, l242, l255, l499, l500, l510, l800, l960, l999, l1000, l1002, l1730, l2530, l2562, l9999, l10250, l32768, l1000000, nMul, nAdd, nNegN, nLt, nLe, nEq, nNeg1, nNeg1', nEqM, nEqM', if_true, if_false, if_pos, if_neg, reduceCtorEq, Option.bind_some, rz_bI, rz0, rz1, rzN0, rzN1, o106 hS, i0, M_in_t, lm]
    · exact ⟨-1, by simp (disch := omega) only [l0, l1, l2, l3, l4, l5, l6, l7, l8, l9, l10, l11, l12, l13, l14, l15, l16, l17, l18, l19, l20, l21, l22, l23, l24, l25, l26, l27, l28, l29, l30, l31, l32, l33, l34, l35, l36, l37, l38, l39, l40, l41, l42, l43, l44, l45, l46, l47, l48, l49, l50, l51, l52, l53, l54, l55, l56, l57, l58, l59, l60, l65, l90, l96, l97, l99, l100, l101, l122, l150, l242, l255, l499, l500, l510, l800, l960, l999, l1000, l1002, l1730, l2530, l2562, l9999, l10250, l32768, l1000000, nMul, nAdd, nNegN, nLt, nLe, nEq, nNeg1, nNeg1', nEqM, nEqM', if_true, if_false, if_pos, if_neg, reduceCtorEq, Option.bind_some, rz_bI, rz0, rz1, rzN0, rzN1, g64_0 hS, o65 hS, e1, F_X10_isSide, C_in_f hs], by simp (disch := omega) only [l0, l1, l2, l3, l4, l5, l6, l7, l8, l9, l10, l11, l12, l13, l14, l15, l16, l17, l18, l19, l20, l21, l22, l23, l24, l25, l26, l27, l28, l29, l30, l31, l32, l33, l34, l35, l36, l37, l38, l39, l40, l41, l42, l43, l44, l45, l46, l47, l48, l49, l50, l51, l52, l53, l54, l55, l56, l57, l58, l59, l60, l65, l90, l96, l97, l99, l100, l101, l122, l150, l242, l255, l499, l500, l510, l800, l960, l999, l1000, l1002, l1730, l2530, l2562, l9999, l10250, l32768, l1000000, nMul, nAdd, nNegN, nLt, nLe, nEq, nNeg1, nNeg1', nEqM, nEqM', if_true, if_false, if_pos, if_neg, reduceCtorEq, Option.bind_some, rz_bI, rz0, rz1, rzN0, rzN1, o106 hS, i0, M_in_f hs]⟩
  · have i0 := M_isOf_f (n := n) hS hM (w := 2) (by decide) (by omega) hp
    exact ⟨-1, by simp only [g64_0 hS, o65 hS, C_planAt_f hS hR.tol hp, Option.bind_some, if_true], by simp (disch := omega) only [l0, l1, l2, l3, l4, l5, l6, l7, l8, l9, l10, l11, l12, l13, l14, l15, l16, l17, l18, l19, l20, l21, l22, l23, l24, l25, l26, l27, l28, l29, l30, l31, l32, l33, l34, l35, l36, l37, l38, l39, l40, l41, l42, l43, l44, l45, l46, l47, l48, l49, l50, l51, l52, l53, l54, l55, l56, l57, l58, l59, l60, l65, l90, l96, l97, l99, l100, l101, l122, l150, l242, l255, l499, l500, l510, l800, l960, l999, l1000, l1002, l1730, l2530, l2562, l9999, l10250, l32768, l1000000, nMul, nAdd, nNegN, nLt, nLe, nEq, nNeg1, nNeg1', nEqM, nEqM', if_true, if_false, if_pos, if_neg, reduceCtorEq, Option.bind_some, rz_bI, rz0, rz1, rzN0, rzN1, o106 hS, i0]⟩
/-- how often a was at home to b -/
def hst (P : PlD) (a b : Nat) : Nat → Nat := nS fun g => if P.c g 0 = a ∧ P.c g 1 = b then 1 else 0
theorem hst_le (P : PlD) (a b i : Nat) : hst P a b i ≤ i := by
  induction i with
  | zero => exact Nat.le_refl 0
  | succ i ih =>
    show hst P a b i + (if P.c i 0 = a ∧ P.c i 1 = b then 1 else 0) ≤ _
    split <;> omega
theorem C_hosted {q x y : Nat} {P : PlD} (hP : PlR st q P) (hJ : PlI P) (hx : x < 8) (hy : y < 8) (hn : 3000 ≤ n) : F_X6_hosted n st (some q) (nI x) (nI y) = some (nI (hst P x y P.n)) := by
  have c1 := hJ.1
  have lc : F_X6_hosted_L5 n n st (some q) (nI x) (nI y) (nI 0) (nI 0) = some (nI (hst P x y P.n)) := by
    refine loop_run (fun m (s : Int32 × Int32) => F_X6_hosted_L5 n m st (some q) (nI x) (nI y) s.1 s.2) (fun i => (nI (hst P x y i), nI i)) P.n _ (fun m i hi => ?_) (fun m => ?_) n (by omega)
    · dsimp only
      have d := hJ.2.1 i hi
      have e : hst P x y (i + 1) = hst P x y i + if P.c i 0 = x ∧ P.c i 1 = y then 1 else 0 := rfl
      rw [F_X6_hosted_L5, e]
      simp (disch := omega) only [l0, l1, l2, l3, l4, l5, l6, l7, l8, l9, l10, l11, l12, l13, l14, l15, l16, l17, l18, l19, l20, l21, l22, l23, l24, l25, l26, l27, l28, l29, l30, l31, l32, l33, l34, l35, l36, l37, l38, l39, l40, l41, l42, l43, l44, l45, l46, l47, l48, l49, l50, l51, l52, l53, l54, l55, l56, l57, l58, l59, l60, l65, l90, l96, l97, l99, l100, l101, l122, l150, l242, l255, l499, l500, l510, l800, l960, l999, l1000, l1002, l1730, l2530, l2562, l9999, l10250, l32768, l1000000, nMul, nAdd, nNegN, nLt, nLe, nEq, nNeg1, nNeg1', nEqM, nEqM', if_true, if_false, if_pos, if_neg, reduceCtorEq, Option.bind_some, rz_bI, rz0, rz1, rzN0, rzN1, hP.o, hP.gn, C_of hP hJ hi]
      by_cases h1 : P.c i 0 = x
      · by_cases h2 : P.c i 1 = y
        · simp only [h1, h2, if_true, Option.bind_some, and_self]
        · simp only [h1, h2, if_true, if_false, Option.bind_some, and_false, Nat.add_zero]
      · simp only [h1, if_false, Option.bind_some, false_and, Nat.add_zero]
    · dsimp only
      rw [F_X6_hosted_L5]
      simp (disch := omega) only [l0, l1, l2, l3, l4, l5, l6, l7, l8, l9, l10, l11, l12, l13, l14, l15, l16, l17, l18, l19, l20, l21, l22, l23, l24, l25, l26, l27, l28, l29, l30, l31, l32, l33, l34, l35, l36, l37, l38, l39, l40, l41, l42, l43, l44, l45, l46, l47, l48, l49, l50, l51, l52, l53, l54, l55, l56, l57, l58, l59, l60, l65, l90, l96, l97, l99, l100, l101, l122, l150, l242, l255, l499, l500, l510, l800, l960, l999, l1000, l1002, l1730, l2530, l2562, l9999, l10250, l32768, l1000000, nMul, nAdd, nNegN, nLt, nLe, nEq, nNeg1, nNeg1', nEqM, nEqM', if_true, if_false, if_pos, if_neg, reduceCtorEq, Option.bind_some, rz_bI, rz0, rz1, rzN0, rzN1, hP.gn]
  unfold F_X6_hosted
  simp only [l0, l1, l2, l3, l4, l5, l6, l7, l8, l9, l10, l11, l12, l13, l14, l15, l16, l17, l18, l19, l20, l21, l22, l23, l24, l25, l26, l27, l28, l29, l30, l31, l32, l33, l34, l35, l36, l37, l38, l39, l40, l41, l42, l43, l44, l45, l46, l47, l48, l49, l50, l51, l52, l53, l54, l55, l56, l57, l58, l59, l60, l65, l90, l96, l97, l99, l100, l101, l122, l150, l242, l255, l499, l500, l510, l800, l960, l999, l1000, l1002, l1730, l2530, l2562, l9999, l10250, l32768, l1000000, nMul, nAdd, nNegN, lc, Option.bind_some]
/-- a couple of sides of which one was at home more often -/
def unv (P : PlD) (a b : Nat) : Nat := if hst P a b P.n = hst P b a P.n then 0 else 1
theorem unv_le (P : PlD) (a b : Nat) : unv P a b ≤ 1 := by unfold unv; split <;> omega
theorem nS_le {f : Nat → Nat} {c : Nat} (h : ∀ i, f i ≤ c) (i : Nat) : nS f i ≤ i * c := by
  induction i with
  | zero => exact Nat.zero_le _
  | succ i ih =>
    have := h i
    show nS f i + f i ≤ (i + 1) * c
    rw [Nat.succ_mul]
    omega
theorem C_unvRow {q a : Nat} {P : PlD} (hP : PlR st q P) (hJ : PlI P) (ha : a < 8) (t : Nat) (ht : t < 1000) (hn : 3000 ≤ n) : F_X10_uneven_L33 n n st (some q) (nI t) (nI a) (nI (a + 1)) = some (nI (t + nS (fun i => unv P a (a + 1 + i)) (7 - a))) := by
  refine loop_run (fun m (s : Int32 × Int32) => F_X10_uneven_L33 n m st (some q) s.1 (nI a) s.2) (fun i => (nI (t + nS (fun i => unv P a (a + 1 + i)) i), nI (a + 1 + i))) (7 - a) _ (fun m i hi => ?_) (fun m => ?_) n (by omega)
  · dsimp only
    have b1 := hst_le P a (a + 1 + i) P.n
    have b2 := hst_le P (a + 1 + i) a P.n
    have c1 := hJ.1
    rw [F_X10_uneven_L33, nS]
    simp (disch := omega) only [l0, l1, l2, l3, l4, l5, l6, l7, l8, l9, l10, l11, l12, l13, l14, l15, l16, l17, l18, l19, l20, l21, l22, l23, l24, l25, l26, l27, l28, l29, l30, l31, l32, l33, l34, l35, l36, l37, l38, l39, l40, l41, l42, l43, l44, l45, l46, l47, l48, l49, l50, l51, l52, l53, l54, l55, l56, l57, l58, l59, l60, l65, l90, l96, l97, l99, l100, l101, l122, l150, l242, l255, l499, l500, l510, l800, l960, l999, l1000, l1002, l1730, l2530, l2562, l9999, l10250, l32768, l1000000, nMul, nAdd, nNegN, nLt, nLe, nEq, nNeg1, nNeg1', nEqM, nEqM', if_true, if_false, if_pos, if_neg, reduceCtorEq, Option.bind_some, rz_bI, rz0, rz1, rzN0, rzN1, hP.o, C_hosted hP hJ]
    by_cases h1 : hst P a (a + 1 + i) P.n = hst P (a + 1 + i) a P.n
    · rw [if_pos h1, show unv P a (a + 1 + i) = 0 from if_pos h1]
      rfl
    · rw [if_neg h1, show unv P a (a + 1 + i) = 1 from if_neg h1]
      rfl
  · dsimp only
    rw [F_X10_uneven_L33]
    simp (disch := omega) only [l0, l1, l2, l3, l4, l5, l6, l7, l8, l9, l10, l11, l12, l13, l14, l15, l16, l17, l18, l19, l20, l21, l22, l23, l24, l25, l26, l27, l28, l29, l30, l31, l32, l33, l34, l35, l36, l37, l38, l39, l40, l41, l42, l43, l44, l45, l46, l47, l48, l49, l50, l51, l52, l53, l54, l55, l56, l57, l58, l59, l60, l65, l90, l96, l97, l99, l100, l101, l122, l150, l242, l255, l499, l500, l510, l800, l960, l999, l1000, l1002, l1730, l2530, l2562, l9999, l10250, l32768, l1000000, nMul, nAdd, nNegN, nLt, nLe, nEq, nNeg1, nNeg1', nEqM, nEqM', if_true, if_false, if_pos, if_neg, reduceCtorEq, Option.bind_some, rz_bI, rz0, rz1, rzN0, rzN1]
theorem C_uneven {q : Nat} {P : PlD} (hP : PlR st q P) (hJ : PlI P) (hn : 3000 ≤ n) : F_X10_uneven_L20 n n st (some q) (nI 0) (nI 0) = some (nI (nS (fun a => nS (fun i => unv P a (a + 1 + i)) (7 - a)) 8)) := by
  refine loop_run (fun m (s : Int32 × Int32) => F_X10_uneven_L20 n m st (some q) s.1 s.2) (fun i => (nI (nS (fun a => nS (fun i => unv P a (a + 1 + i)) (7 - a)) i), nI i)) 8 _ (fun m i hi => ?_) (fun m => ?_) n (by omega)
  · dsimp only
    have hb : nS (fun a => nS (fun i => unv P a (a + 1 + i)) (7 - a)) i ≤ i * 7 := nS_le (fun a => Nat.le_trans (nS_le (fun j => unv_le P a (a + 1 + j)) _) (by omega)) i
    rw [F_X10_uneven_L20, nS]
    simp (disch := omega) only [l0, l1, l2, l3, l4, l5, l6, l7, l8, l9, l10, l11, l12, l13, l14, l15, l16, l17, l18, l19, l20, l21, l22, l23, l24, l25, l26, l27, l28, l29, l30, l31, l32, l33, l34, l35, l36, l37, l38, l39, l40, l41, l42, l43, l44, l45, l46, l47, l48, l49, l50, l51, l52, l53, l54, l55, l56, l57, l58, l59, l60, l65, l90, l96, l97, l99, l100, l101, l122, l150, l242, l255, l499, l500, l510, l800, l960, l999, l1000, l1002, l1730, l2530, l2562, l9999, l10250, l32768, l1000000, nMul, nAdd, nNegN, nLt, nLe, nEq, nNeg1, nNeg1', nEqM, nEqM', if_true, if_false, if_pos, if_neg, reduceCtorEq, Option.bind_some, rz_bI, rz0, rz1, rzN0, rzN1, C_unvRow hP hJ]
  · dsimp only
    rw [F_X10_uneven_L20]
    simp (disch := omega) only [l0, l1, l2, l3, l4, l5, l6, l7, l8, l9, l10, l11, l12, l13, l14, l15, l16, l17, l18, l19, l20, l21, l22, l23, l24, l25, l26, l27, l28, l29, l30, l31, l32, l33, l34, l35, l36, l37, l38, l39, l40, l41, l42, l43, l44, l45, l46, l47, l48, l49, l50, l51, l52, l53, l54, l55, l56, l57, l58, l59, l60, l65, l90, l96, l97, l99, l100, l101, l122, l150, l242, l255, l499, l500, l510, l800, l960, l999, l1000, l1002, l1730, l2530, l2562, l9999, l10250, l32768, l1000000, nMul, nAdd, nNegN, nLt, nLe, nEq, nNeg1, nNeg1', nEqM, nEqM', if_true, if_false, if_pos, if_neg, reduceCtorEq, Option.bind_some, rz_bI, rz0, rz1, rzN0, rzN1]
theorem M_more (hR : Rel st G I) {k a b : Nat} (hk : k < G.cn 2) (ha : a < 8) (hb : b < a) (t : Int32) (hn : 3000 ≤ n) : F_X11_uneven_L36 n n st (some 106) (nI k) t (nI a) (nI b) (nI 0) (nI 0) = some (zI ((hst (G.P k) a b (G.P k).n : Int) - hst (G.P k) b a (G.P k).n)) := by
  have hJ := hR.inv.pp hk
  have c1 := hJ.1
  refine loop_run (fun m (s : Int32 × Int32) => F_X11_uneven_L36 n m st (some 106) (nI k) t (nI a) (nI b) s.1 s.2) (fun i => (zI ((hst (G.P k) a b i : Int) - hst (G.P k) b a i), nI i)) (G.P k).n _ (fun m i hi => ?_) (fun m => ?_) n (by omega)
  · dsimp only
    have d := hJ.2.1 i hi
    have e1 : hst (G.P k) a b (i + 1) = hst (G.P k) a b i + if (G.P k).c i 0 = a ∧ (G.P k).c i 1 = b then 1 else 0 := rfl
    have e2 : hst (G.P k) b a (i + 1) = hst (G.P k) b a i + if (G.P k).c i 0 = b ∧ (G.P k).c i 1 = a then 1 else 0 := rfl
    rw [F_X11_uneven_L36, e1, e2]
    simp (disch := omega) only [l0, l1, l2, l3, l4, l5, l6, l7, l8, l9, l10, l11, l12, l13, l14, l15, l16, l17, l18, l19, l20, l21, l22, l23, l24, l25, l26, l27, l28, l29, l30, l31, l32, l33, l34, l35, l36, l37, l38, l39, l40, l41, l42, l43, l44, l45, l46, l47, l48, l49, l50, l51, l52, l53, l54, l55, l56, l57, l58, l59, l60, l65, l90, l96, l97, l99, l100, l101, l122, l150, l242, l255, l499, l500, l510, l800, l960, l999, l1000, l1002, l1730, l2530, l2562, l9999, l10250, l32768, l1000000, nMul, nAdd, nNegN, nLt, nLe, nEq, nNeg1, nNeg1', nEqM, nEqM', if_true, if_false, if_pos, if_neg, reduceCtorEq, Option.bind_some, rz_bI, rz0, rz1, rzN0, rzN1, o106 hR.sh, M_games hR.sh hR.mod hR.inv hk, M_plays hR hk hi, M_game hR.sh hR.mod hR.inv hk hi]
    generalize F_X11_uneven_L36 n m st (some 106) (nI k) t (nI a) (nI b) = F
    have key : ∀ x y : Int, x = y → F (zI x) (nI (i + 1)) = F (zI y) (nI (i + 1)) := fun x y h => by rw [h]
    by_cases h1 : (G.P k).c i 0 = a
    · have h3 : ¬ (G.P k).c i 0 = b := by omega
      by_cases h2 : (G.P k).c i 1 = b
      · have h4 : ¬ (G.P k).c i 1 = a := by omega
        simp (disch := omega) only [h1, h2, if_true, if_false, Option.bind_some, and_self, nLt, nLe, nEq, nNeg1, nNeg1', nEqM, nEqM', if_true, if_false, if_pos, if_neg, reduceCtorEq, nZ, zAdd, show ¬ a = b by omega, false_and]
        exact key _ _ (by omega)
      · simp (disch := omega) only [h1, h2, if_true, if_false, Option.bind_some, and_false, false_and, nLt, nLe, nEq, nNeg1, nNeg1', nEqM, nEqM', if_true, if_false, if_pos, if_neg, reduceCtorEq, show ¬ a = b by omega]
        exact key _ _ (by omega)
    · by_cases h2 : (G.P k).c i 1 = a
      · by_cases h3 : (G.P k).c i 0 = b
        · simp (disch := omega) only [h1, h2, h3, if_true, if_false, Option.bind_some, and_self, false_and, nLt, nLe, nEq, nNeg1, nNeg1', nEqM, nEqM', if_true, if_false, if_pos, if_neg, reduceCtorEq, show ¬ b = a by omega, zAdd]
          exact key _ _ (by omega)
        · simp (disch := omega) only [h1, h2, h3, if_true, if_false, Option.bind_some, and_self, false_and, nLt, nLe, nEq, nNeg1, nNeg1', nEqM, nEqM', if_true, if_false, if_pos, if_neg, reduceCtorEq, show ¬ a = b by omega, zAdd]
          exact key _ _ (by omega)
      · simp (disch := omega) only [h1, h2, if_true, if_false, Option.bind_some, and_false, false_and, nLt, nLe, nEq, nNeg1, nNeg1', nEqM, nEqM', if_true, if_false, if_pos, if_neg, reduceCtorEq]
        exact key _ _ (by omega)
  · dsimp only
    rw [F_X11_uneven_L36]
    simp (disch := omega) only [l0, l1, l2, l3, l4, l5, l6, l7, l8, l9, l10, l11, l12, l13, l14, l15, l16, l17, l18, l19, l20, l21, l22, l23, l24, l25, l26, l27, l28, l29, l30, l31, l32, l33, l34, l35, l36, l37, l38, l39, l40, l41, l42, l43, l44, l45, l46, l47, l48, l49, l50, l51, l52, l53, l54, l55, l56, l57, l58, l59, l60, l65, l90, l96, l97, l99, l100, l101, l122, l150, l242, l255, l499, l500, l510, l800, l960, l999, l1000, l1002, l1730, l2530, l2562, l9999, l10250, l32768, l1000000, nMul, nAdd, nNegN, nLt, nLe, nEq, nNeg1, nNeg1', nEqM, nEqM', if_true, if_false, if_pos, if_neg, reduceCtorEq, Option.bind_some, rz_bI, rz0, rz1, rzN0, rzN1, o106 hR.sh, M_games hR.sh hR.mod hR.inv hk]
theorem M_unvRow (hR : Rel st G I) {k a : Nat} (hk : k < G.cn 2) (ha : a < 8) (t : Nat) (ht : t < 1000) (hn : 3000 ≤ n) : F_X11_uneven_L24 n n st (some 106) (nI k) (nI t) (nI a) (nI 0) = some (nI (t + nS (fun b => unv (G.P k) a b) a)) := by
  refine loop_run (fun m (s : Int32 × Int32) => F_X11_uneven_L24 n m st (some 106) (nI k) s.1 (nI a) s.2) (fun i => (nI (t + nS (fun b => unv (G.P k) a b) i), nI i)) a _ (fun m i hi => ?_) (fun m => ?_) n (by omega)
  · dsimp only
    have b1 := hst_le (G.P k) a i (G.P k).n
    have b2 := hst_le (G.P k) i a (G.P k).n
    have c1 := (hR.inv.pp hk).1
    rw [F_X11_uneven_L24, nS]
    simp (disch := omega) only [l0, l1, l2, l3, l4, l5, l6, l7, l8, l9, l10, l11, l12, l13, l14, l15, l16, l17, l18, l19, l20, l21, l22, l23, l24, l25, l26, l27, l28, l29, l30, l31, l32, l33, l34, l35, l36, l37, l38, l39, l40, l41, l42, l43, l44, l45, l46, l47, l48, l49, l50, l51, l52, l53, l54, l55, l56, l57, l58, l59, l60, l65, l90, l96, l97, l99, l100, l101, l122, l150, l242, l255, l499, l500, l510, l800, l960, l999, l1000, l1002, l1730, l2530, l2562, l9999, l10250, l32768, l1000000, nMul, nAdd, nNegN, nLt, nLe, nEq, nNeg1, nNeg1', nEqM, nEqM', if_true, if_false, if_pos, if_neg, reduceCtorEq, Option.bind_some, rz_bI, rz0, rz1, rzN0, rzN1, M_more hR hk ha hi]
    by_cases h1 : hst (G.P k) a i (G.P k).n = hst (G.P k) i a (G.P k).n
    · have e : zI ((hst (G.P k) a i (G.P k).n : Int) - hst (G.P k) i a (G.P k).n) = nI 0 := by
        rw [h1, Int.sub_self]
        rfl
      simp only [e, eq_self, if_true, show unv (G.P k) a i = 0 from if_pos h1, Option.bind_some, nAdd, Nat.add_zero]
    · have e : ¬ zI ((hst (G.P k) a i (G.P k).n : Int) - hst (G.P k) i a (G.P k).n) = nI 0 := by
        rw [nZ, zEq (by omega) (by omega) (by omega) (by omega)]
        omega
      simp only [e, if_false, show unv (G.P k) a i = 1 from if_neg h1, Option.bind_some, nAdd, Nat.add_assoc]
  · dsimp only
    rw [F_X11_uneven_L24]
    simp (disch := omega) only [l0, l1, l2, l3, l4, l5, l6, l7, l8, l9, l10, l11, l12, l13, l14, l15, l16, l17, l18, l19, l20, l21, l22, l23, l24, l25, l26, l27, l28, l29, l30, l31, l32, l33, l34, l35, l36, l37, l38, l39, l40, l41, l42, l43, l44, l45, l46, l47, l48, l49, l50, l51, l52, l53, l54, l55, l56, l57, l58, l59, l60, l65, l90, l96, l97, l99, l100, l101, l122, l150, l242, l255, l499, l500, l510, l800, l960, l999, l1000, l1002, l1730, l2530, l2562, l9999, l10250, l32768, l1000000, nMul, nAdd, nNegN, nLt, nLe, nEq, nNeg1, nNeg1', nEqM, nEqM', if_true, if_false, if_pos, if_neg, reduceCtorEq, Option.bind_some, rz_bI, rz0, rz1, rzN0, rzN1]
theorem M_uneven (hR : Rel st G I) {k : Nat} (hk : k < G.cn 2) (hn : 3000 ≤ n) : F_X11_uneven_L15 n n st (some 106) (nI k) (nI 0) (nI 0) = some (nI (nS (fun a => nS (fun b => unv (G.P k) a b) a) 8)) := by
  refine loop_run (fun m (s : Int32 × Int32) => F_X11_uneven_L15 n m st (some 106) (nI k) s.1 s.2) (fun i => (nI (nS (fun a => nS (fun b => unv (G.P k) a b) a) i), nI i)) 8 _ (fun m i hi => ?_) (fun m => ?_) n (by omega)
  · dsimp only
    have hb : ∀ j, j ≤ 8 → nS (fun a => nS (fun b => unv (G.P k) a b) a) j ≤ j * 8 := by
      intro j
      induction j with
      | zero => exact fun _ => Nat.zero_le _
      | succ j ih =>
        intro hj
        have h1 := ih (by omega)
        have h2 : nS (fun b => unv (G.P k) j b) j ≤ j * 1 := nS_le (fun b => unv_le (G.P k) j b) j
        show nS (fun a => nS (fun b => unv (G.P k) a b) a) j + nS (fun b => unv (G.P k) j b) j ≤ _
        omega
    have := hb i (by omega)
    rw [F_X11_uneven_L15, nS]
    simp (disch := omega) only [l0, l1, l2, l3, l4, l5, l6, l7, l8, l9, l10, l11, l12, l13, l14, l15, l16, l17, l18, l19, l20, l21, l22, l23, l24, l25, l26, l27, l28, l29, l30, l31, l32, l33, l34, l35, l36, l37, l38, l39, l40, l41, l42, l43, l44, l45, l46, l47, l48, l49, l50, l51, l52, l53, l54, l55, l56, l57, l58, l59, l60, l65, l90, l96, l97, l99, l100, l101, l122, l150, l242, l255, l499, l500, l510, l800, l960, l999, l1000, l1002, l1730, l2530, l2562, l9999, l10250, l32768, l1000000, nMul, nAdd, nNegN, nLt, nLe, nEq, nNeg1, nNeg1', nEqM, nEqM', if_true, if_false, if_pos, if_neg, reduceCtorEq, Option.bind_some, rz_bI, rz0, rz1, rzN0, rzN1, M_unvRow hR hk hi]
  · dsimp only
    rw [F_X11_uneven_L15]
    simp (disch := omega) only [l0, l1, l2, l3, l4, l5, l6, l7, l8, l9, l10, l11, l12, l13, l14, l15, l16, l17, l18, l19, l20, l21, l22, l23, l24, l25, l26, l27, l28, l29, l30, l31, l32, l33, l34, l35, l36, l37, l38, l39, l40, l41, l42, l43, l44, l45, l46, l47, l48, l49, l50, l51, l52, l53, l54, l55, l56, l57, l58, l59, l60, l65, l90, l96, l97, l99, l100, l101, l122, l150, l242, l255, l499, l500, l510, l800, l960, l999, l1000, l1002, l1730, l2530, l2562, l9999, l10250, l32768, l1000000, nMul, nAdd, nNegN, nLt, nLe, nEq, nNeg1, nNeg1', nEqM, nEqM', if_true, if_false, if_pos, if_neg, reduceCtorEq, Option.bind_some, rz_bI, rz0, rz1, rzN0, rzN1]
theorem unv_sym (P : PlD) (a b : Nat) : unv P a b = unv P b a := by
  unfold unv
  by_cases h : hst P a b P.n = hst P b a P.n
  · rw [if_pos h, if_pos h.symm]
  · rw [if_neg h, if_neg (fun q => h q.symm)]
theorem unv_two (f : Nat → Nat → Nat) (hf : ∀ a b, f a b = f b a) : nS (fun a => nS (fun i => f a (a + 1 + i)) (7 - a)) 8 = nS (fun a => nS (fun b => f a b) a) 8 := by
  simp only [nS, Nat.zero_add, Nat.add_zero, show 7 - 0 = 7 from rfl, show 7 - 1 = 6 from rfl, show 7 - 2 = 5 from rfl, show 7 - 3 = 4 from rfl, show 7 - 4 = 3 from rfl, show 7 - 5 = 2 from rfl, show 7 - 6 = 1 from rfl, show 7 - 7 = 0 from rfl, Nat.reduceAdd]
  rw [hf 1 0, hf 2 0, hf 3 0, hf 4 0, hf 5 0, hf 6 0, hf 7 0, hf 2 1, hf 3 1, hf 4 1, hf 5 1, hf 6 1, hf 7 1, hf 3 2, hf 4 2, hf 5 2, hf 6 2, hf 7 2, hf 4 3, hf 5 3, hf 6 3, hf 7 3, hf 5 4, hf 6 4, hf 7 4, hf 6 5, hf 7 5, hf 7 6]
  omega
theorem E_uneven (hR : Rel st G I) (p : Int32) (hn : 3000 ≤ n) : ∃ v, F_X10_uneven n st (some 64) p = some v ∧ F_X11_uneven n st (some 106) p = some v := by
  have hS := hR.sh
  have hM := hR.mod
  have b1 := hR.inv.2.2.1
  unfold F_X10_uneven F_X11_uneven
  rcases nCut p (G.cn 2) with ⟨k, hk, rfl⟩ | hp
  · have i0 := M_isOf_t (n := n) hS hM (w := 2) (by decide) hk (by omega)
    obtain ⟨a, e1, e2⟩ := C_planAt_t (n := n) hS hR.tol hR.inv hk
    refine ⟨nI (nS (fun a => nS (fun b => unv (G.P k) a b) a) 8), ?_, ?_⟩
    rotate_left
    · simp (disch := omega) only [l0, l1, l2, l3, l4, l5, l6, l7, l8, l9, l10, l11, l12, l13, l14, l15, l16, l17, l18, l19, l20, l21, l22, l23, l24, l25, l26, l27, l28, l29, l30, l31, l32, l33, l34, l35, l36, l37, l38, l39, l40, l41, l42, l43, l44, l45, l46, l47, l48, l49, l50, l51, l52, l53, l54, l55, l56, l57, l58, l59, l60, l65, l90, l96, l97, l99, l100, l101, l122, l150, l242, l255, l499, l500, l510, l800, l960, l999, l1000, l1002, l1730, l2530, l2562, l9999, l10250, l32768, l1000000, nMul, nAdd, nNegN, nLt, nLe, nEq, nNeg1, nNeg1', nEqM, nEqM', if_true, if_false, if_pos, if_neg, reduceCtorEq, Option.bind_some, rz_bI, rz0, rz1, rzN0, rzN1, o106 hS, i0]
      rw [M_uneven hR hk hn]
      rfl
    · simp (disch := omega) only [l0, l1, l2, l3, l4, l5, l6, l7, l8, l9, l10, l11, l12, l13, l14, l15, l16, l17, l18, l19, l20, l21, l22, l23, l24, l25, l26, l27, l28, l29, l30, l31, l32, l33, l34, l35, l36, l37, l38, l39, l40, l41, l42, l43, l44, l45, l46, l47, l48, l49, l50, l51, l52, l53, l54, l55, l56, l57, l58, l59, l60, l65, l90, l96, l97, l99, l100, l101, l122, l150, l242, l255, l499, l500, l510, l800, l960, l999, l1000, l1002, l1730, l2530, l2562, l9999, l10250, l32768, l1000000, nMul, nAdd, nNegN, nLt, nLe, nEq, nNeg1, nNeg1', nEqM, nEqM', if_true, if_false, if_pos, if_neg, reduceCtorEq, Option.bind_some, rz_bI, rz0, rz1, rzN0, rzN1, g64_0 hS, o65 hS, e1]
      rw [C_uneven e2 (hR.inv.pp hk) hn, unv_two _ (unv_sym (G.P k))]
      rfl
  · have i0 := M_isOf_f (n := n) hS hM (w := 2) (by decide) (by omega) hp
    exact ⟨-1, by simp only [g64_0 hS, o65 hS, C_planAt_f hS hR.tol hp, Option.bind_some, if_true], by simp (disch := omega) only [l0, l1, l2, l3, l4, l5, l6, l7, l8, l9, l10, l11, l12, l13, l14, l15, l16, l17, l18, l19, l20, l21, l22, l23, l24, l25, l26, l27, l28, l29, l30, l31, l32, l33, l34, l35, l36, l37, l38, l39, l40, l41, l42, l43, l44, l45, l46, l47, l48, l49, l50, l51, l52, l53, l54, l55, l56, l57, l58, l59, l60, l65, l90, l96, l97, l99, l100, l101, l122, l150, l242, l255, l499, l500, l510, l800, l960, l999, l1000, l1002, l1730, l2530, l2562, l9999, l10250, l32768, l1000000, nMul, nAdd, nNegN, nLt, nLe, nEq, nNeg1, nNeg1', nEqM, nEqM', if_true, if_false, if_pos, if_neg, reduceCtorEq, Option.bind_some, rz_bI, rz0, rz1, rzN0, rzN1, o106 hS, i0]⟩
end RU

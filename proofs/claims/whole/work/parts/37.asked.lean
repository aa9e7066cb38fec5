/-! WHAT IS TOLD, ASKED FOR -/
section AS
variable {st : xS} {n : Nat} {G : Gh} {I : Im}
theorem dR_10 (j : Nat) (hj : j < 2147483648) : dR (nI j) (nI 10) = some (nI (j % 10)) := dR_n hj (by decide) (by decide)
theorem C_number (hS : Sh st) {a : Nat} {D : LgD} (h : LgR st a D) (hI : LgI D) {j : Nat} (hj : j < 60) : F_X4_number n st (some a) (nI j) = some (if j = 0 then nI D.g else if j = 1 then nI D.s else if j < 10 then -1 else if j < 40 then (if j % 10 < D.g then nI (D.r j) else -1) else if j % 10 < D.s then nI (D.r j) else -1) := by
  have c1 := hI.1
  have c2 := hI.2.1
  have e1 := C_hasSide (n := n) h hI (x := j % 10) (by omega)
  have e2 := C_hasGround (n := n) h hI (x := j % 10) (by omega)
  have ho := h.o
  have hg := h.g
  have hs := h.s
  obtain ⟨r, q, f, g, h1, h2, h3, h4, h5, h6⟩ := h
  unfold F_X4_number
  simp (disch := omega) only [l0, l1, l2, l3, l4, l5, l6, l7, l8, l9, l10, l11, l12, l13, l14, l15, l16, l17, l18, l19, l20, l21, l22, l23, l24, l25, l26, l27, l28, l29, l30, l31, l32, l33, l34, l35, l36, l37, l38, l39, l40, l41, l42, l43, l44, l45, l46, l47, l48, l49, l50, l51, l52, l53, l54, l55, l56, l57, l58, l59, l60, l65, l90, l96, l97, l99, l100, l101, l122, l150, l242, l255, l499, l500, l510, l800, l960, l999, l1000, l1002, l1730, l2530, l2562, l9999, l10250, l32768, l1000000, nMul, nAdd, nNegN, nLt, nLe, nEq, nNeg1, nNeg1', nEqM, nEqM', if_true, if_false, if_pos, if_neg, reduceCtorEq, Option.bind_some, rz_bI, rz0, rz1, rzN0, rzN1, hg, hs, gR_of (k := 0) h1 rfl, aN_of h2, aI_of h2, ixT, nIc, h4, ho, e1, e2, dR_10]
  by_cases a0 : j = 0
  · simp only [a0, if_true]
  · by_cases a1 : j = 1
    · subst a1
      simp only [show ¬ (1 : Nat) = 0 by decide, if_true, if_false]
    · by_cases a2 : j < 10
      · simp only [a0, a1, a2, if_true, if_false]
      · by_cases a3 : j < 40
        · have a4 : ¬ 40 ≤ j := by omega
          by_cases a5 : j % 10 < D.g
          · rw [bI_t a5]
            simp only [a0, a1, a2, a3, a4, a5, if_true, if_false, Option.bind_some, show ¬ (1 : Int32) = nI 0 by decide]
          · rw [bI_f a5]
            simp only [a0, a1, a2, a3, a4, a5, if_true, if_false, Option.bind_some, show ((0 : Int32) = nI 0) = True from eq_true rfl]
        · have a4 : 40 ≤ j := by omega
          by_cases a5 : j % 10 < D.s
          · rw [bI_t a5]
            simp only [a0, a1, a2, a3, a4, a5, if_true, if_false, Option.bind_some, show ¬ (1 : Int32) = nI 0 by decide]
          · rw [bI_f a5]
            simp only [a0, a1, a2, a3, a4, a5, if_true, if_false, Option.bind_some, show ((0 : Int32) = nI 0) = True from eq_true rfl]
theorem C_numberB {a : Nat} {D : LgD} (h : LgR st a D) {x : Int32} (hx : ∀ j, j < 60 → ¬ x = nI j) : F_X4_number n st (some a) x = some (-1) := by
  obtain ⟨r, q, f, g, h1, h2, h3, h4, h5, h6⟩ := h
  unfold F_X4_number
  rw [if_neg (show ¬ x = 0 from hx 0 (by decide)), if_neg (show ¬ x = 1 from hx 1 (by decide))]
  rcases nOut4 (by decide) hx with h0 | ⟨h0, h7, h8, h9⟩
  · have : x < 10 := Int32.lt_of_lt_of_le h0 (by decide)
    rw [if_pos this]
  · have : ¬ x < 10 := fun q => absurd (Int32.lt_of_le_of_lt h7 q) (by decide)
    rw [if_neg this]
    simp only [gR_of (k := 0) h1 rfl, aN_of h2 (by decide), Option.bind_some, h8, if_false]
theorem E_league (hR : Rel st G I) (l w : Int32) : ∃ v, F_X10_league n st (some 64) l w = some v ∧ F_X11_league n st (some 106) l w = some v := by
  have hS := hR.sh
  have hM := hR.mod
  unfold F_X10_league F_X11_league
  rcases nCut l (G.cn 0) with ⟨j, hj, rfl⟩ | hl
  · have i0 := M_isOf_t (n := n) hS hM (w := 0) (by decide) hj (by have := hR.inv.1; omega)
    have p0 := M_placeOf0 (n := n) (st := st) j
    simp only [l0] at p0
    obtain ⟨a, e1, e2⟩ := C_leagueAt_t (n := n) hS hR.tol hR.inv hj
    have hI := hR.inv.lg hj
    have b := hR.inv.n0 hj
    have c1 := hI.1
    have c2 := hI.2.1
    have f := hM.lg hj
    rcases nCut w 60 with ⟨i, hi, rfl⟩ | hw
    · refine ⟨if i = 0 then nI (G.L j).g else if i = 1 then nI (G.L j).s else if i < 10 then -1 else if i < 40 then (if i % 10 < (G.L j).g then nI ((G.L j).r i) else -1) else if i % 10 < (G.L j).s then nI ((G.L j).r i) else -1, ?_, ?_⟩
      · simp only [g64_0 hS, o65 hS, e1, Option.bind_some, reduceCtorEq, if_false, e2.o, C_number hS e2 hI hi]
      · simp (disch := omega) only [l0, l1, l2, l3, l4, l5, l6, l7, l8, l9, l10, l11, l12, l13, l14, l15, l16, l17, l18, l19, l20, l21, l22, l23, l24, l25, l26, l27, l28, l29, l30, l31, l32, l33, l34, l35, l36, l37, l38, l39, l40, l41, l42, l43, l44, l45, l46, l47, l48, l49, l50, l51, l52, l53, l54, l55, l56, l57, l58, l59, l60, l65, l90, l96, l97, l99, l100, l101, l122, l150, l242, l255, l499, l500, l510, l800, l960, l999, l1000, l1002, l1730, l2530, l2562, l9999, l10250, l32768, l1000000, nMul, nAdd, nNegN, nLt, nLe, nEq, nNeg1, nNeg1', nEqM, nEqM', if_true, if_false, if_pos, if_neg, reduceCtorEq, Option.bind_some, rz_bI, rz0, rz1, rzN0, rzN1, o106 hS, i0, p0, dR_10]
        by_cases a0 : i = 0
        · subst a0
          simp (disch := omega) only [l0, l1, l2, l3, l4, l5, l6, l7, l8, l9, l10, l11, l12, l13, l14, l15, l16, l17, l18, l19, l20, l21, l22, l23, l24, l25, l26, l27, l28, l29, l30, l31, l32, l33, l34, l35, l36, l37, l38, l39, l40, l41, l42, l43, l44, l45, l46, l47, l48, l49, l50, l51, l52, l53, l54, l55, l56, l57, l58, l59, l60, l65, l90, l96, l97, l99, l100, l101, l122, l150, l242, l255, l499, l500, l510, l800, l960, l999, l1000, l1002, l1730, l2530, l2562, l9999, l10250, l32768, l1000000, nMul, nAdd, nNegN, nLt, nLe, nEq, nNeg1, nNeg1', nEqM, nEqM', if_true, if_false, if_pos, if_neg, reduceCtorEq, Option.bind_some, rz_bI, rz0, rz1, rzN0, rzN1, g106_0 hS, M_all hS, M_in_t, Nat.add_zero, f.1]
        · by_cases a1 : i = 1
          · subst a1
            simp (disch := omega) only [l0, l1, l2, l3, l4, l5, l6, l7, l8, l9, l10, l11, l12, l13, l14, l15, l16, l17, l18, l19, l20, l21, l22, l23, l24, l25, l26, l27, l28, l29, l30, l31, l32, l33, l34, l35, l36, l37, l38, l39, l40, l41, l42, l43, l44, l45, l46, l47, l48, l49, l50, l51, l52, l53, l54, l55, l56, l57, l58, l59, l60, l65, l90, l96, l97, l99, l100, l101, l122, l150, l242, l255, l499, l500, l510, l800, l960, l999, l1000, l1002, l1730, l2530, l2562, l9999, l10250, l32768, l1000000, nMul, nAdd, nNegN, nLt, nLe, nEq, nNeg1, nNeg1', nEqM, nEqM', if_true, if_false, if_pos, if_neg, reduceCtorEq, Option.bind_some, rz_bI, rz0, rz1, rzN0, rzN1, g106_0 hS, M_all hS, M_in_t, f.2.1]
          · rw [M_isIn, bI_f (fun q => by rw [nLe (by omega) (by omega), nLe (by omega) (by omega)] at q; omega)]
            rw [M_isIn, M_isIn]
            by_cases a2 : i < 10
            · rw [bI_f (fun q => by rw [nLe (by omega) (by omega)] at q; omega), bI_f (fun q => by rw [nLe (by omega) (by omega)] at q; omega)]
              simp (disch := omega) only [l0, l1, l2, l3, l4, l5, l6, l7, l8, l9, l10, l11, l12, l13, l14, l15, l16, l17, l18, l19, l20, l21, l22, l23, l24, l25, l26, l27, l28, l29, l30, l31, l32, l33, l34, l35, l36, l37, l38, l39, l40, l41, l42, l43, l44, l45, l46, l47, l48, l49, l50, l51, l52, l53, l54, l55, l56, l57, l58, l59, l60, l65, l90, l96, l97, l99, l100, l101, l122, l150, l242, l255, l499, l500, l510, l800, l960, l999, l1000, l1002, l1730, l2530, l2562, l9999, l10250, l32768, l1000000, nMul, nAdd, nNegN, nLt, nLe, nEq, nNeg1, nNeg1', nEqM, nEqM', if_true, if_false, if_pos, if_neg, reduceCtorEq, Option.bind_some, rz_bI, rz0, rz1, rzN0, rzN1, a0, a1, a2]
            · by_cases a3 : i < 40
              · rw [bI_t (show nI 10 ≤ nI i ∧ nI i ≤ nI 39 by rw [nLe (by omega) (by omega), nLe (by omega) (by omega)]; omega)]
                simp (disch := omega) only [l0, l1, l2, l3, l4, l5, l6, l7, l8, l9, l10, l11, l12, l13, l14, l15, l16, l17, l18, l19, l20, l21, l22, l23, l24, l25, l26, l27, l28, l29, l30, l31, l32, l33, l34, l35, l36, l37, l38, l39, l40, l41, l42, l43, l44, l45, l46, l47, l48, l49, l50, l51, l52, l53, l54, l55, l56, l57, l58, l59, l60, l65, l90, l96, l97, l99, l100, l101, l122, l150, l242, l255, l499, l500, l510, l800, l960, l999, l1000, l1002, l1730, l2530, l2562, l9999, l10250, l32768, l1000000, nMul, nAdd, nNegN, nLt, nLe, nEq, nNeg1, nNeg1', nEqM, nEqM', if_true, if_false, if_pos, if_neg, reduceCtorEq, Option.bind_some, rz_bI, rz0, rz1, rzN0, rzN1, a0, a1, a2, a3, g106_0 hS, M_all hS, f.1]
                by_cases a5 : i % 10 < (G.L j).g
                · by_cases a6 : i < 20
                  · have e : 10 + i % 10 = i := by omega
                    simp (disch := omega) only [l0, l1, l2, l3, l4, l5, l6, l7, l8, l9, l10, l11, l12, l13, l14, l15, l16, l17, l18, l19, l20, l21, l22, l23, l24, l25, l26, l27, l28, l29, l30, l31, l32, l33, l34, l35, l36, l37, l38, l39, l40, l41, l42, l43, l44, l45, l46, l47, l48, l49, l50, l51, l52, l53, l54, l55, l56, l57, l58, l59, l60, l65, l90, l96, l97, l99, l100, l101, l122, l150, l242, l255, l499, l500, l510, l800, l960, l999, l1000, l1002, l1730, l2530, l2562, l9999, l10250, l32768, l1000000, nMul, nAdd, nNegN, nLt, nLe, nEq, nNeg1, nNeg1', nEqM, nEqM', if_true, if_false, if_pos, if_neg, reduceCtorEq, Option.bind_some, rz_bI, rz0, rz1, rzN0, rzN1, a5, g106_0 hS, M_all hS, f.2.2.1 (i % 10) (by omega), e]
                  · by_cases a7 : i < 30
                    · have e : 20 + i % 10 = i := by omega
                      simp (disch := omega) only [l0, l1, l2, l3, l4, l5, l6, l7, l8, l9, l10, l11, l12, l13, l14, l15, l16, l17, l18, l19, l20, l21, l22, l23, l24, l25, l26, l27, l28, l29, l30, l31, l32, l33, l34, l35, l36, l37, l38, l39, l40, l41, l42, l43, l44, l45, l46, l47, l48, l49, l50, l51, l52, l53, l54, l55, l56, l57, l58, l59, l60, l65, l90, l96, l97, l99, l100, l101, l122, l150, l242, l255, l499, l500, l510, l800, l960, l999, l1000, l1002, l1730, l2530, l2562, l9999, l10250, l32768, l1000000, nMul, nAdd, nNegN, nLt, nLe, nEq, nNeg1, nNeg1', nEqM, nEqM', if_true, if_false, if_pos, if_neg, reduceCtorEq, Option.bind_some, rz_bI, rz0, rz1, rzN0, rzN1, a5, g106_0 hS, M_all hS, f.2.2.2.1 (i % 10) (by omega), e]
                    · have e : 30 + i % 10 = i := by omega
                      simp (disch := omega) only [l0, l1, l2, l3, l4, l5, l6, l7, l8, l9, l10, l11, l12, l13, l14, l15, l16, l17, l18, l19, l20, l21, l22, l23, l24, l25, l26, l27, l28, l29, l30, l31, l32, l33, l34, l35, l36, l37, l38, l39, l40, l41, l42, l43, l44, l45, l46, l47, l48, l49, l50, l51, l52, l53, l54, l55, l56, l57, l58, l59, l60, l65, l90, l96, l97, l99, l100, l101, l122, l150, l242, l255, l499, l500, l510, l800, l960, l999, l1000, l1002, l1730, l2530, l2562, l9999, l10250, l32768, l1000000, nMul, nAdd, nNegN, nLt, nLe, nEq, nNeg1, nNeg1', nEqM, nEqM', if_true, if_false, if_pos, if_neg, reduceCtorEq, Option.bind_some, rz_bI, rz0, rz1, rzN0, rzN1, a5, g106_0 hS, M_all hS, f.2.2.2.2.1 (i % 10) (by omega), e]
                · simp (disch := omega) only [l0, l1, l2, l3, l4, l5, l6, l7, l8, l9, l10, l11, l12, l13, l14, l15, l16, l17, l18, l19, l20, l21, l22, l23, l24, l25, l26, l27, l28, l29, l30, l31, l32, l33, l34, l35, l36, l37, l38, l39, l40, l41, l42, l43, l44, l45, l46, l47, l48, l49, l50, l51, l52, l53, l54, l55, l56, l57, l58, l59, l60, l65, l90, l96, l97, l99, l100, l101, l122, l150, l242, l255, l499, l500, l510, l800, l960, l999, l1000, l1002, l1730, l2530, l2562, l9999, l10250, l32768, l1000000, nMul, nAdd, nNegN, nLt, nLe, nEq, nNeg1, nNeg1', nEqM, nEqM', if_true, if_false, if_pos, if_neg, reduceCtorEq, Option.bind_some, rz_bI, rz0, rz1, rzN0, rzN1, a5]
              · rw [bI_f (fun q => by rw [nLe (by omega) (by omega), nLe (by omega) (by omega)] at q; omega), bI_t (show nI 40 ≤ nI i ∧ nI i ≤ nI 59 by rw [nLe (by omega) (by omega), nLe (by omega) (by omega)]; omega)]
                simp (disch := omega) only [l0, l1, l2, l3, l4, l5, l6, l7, l8, l9, l10, l11, l12, l13, l14, l15, l16, l17, l18, l19, l20, l21, l22, l23, l24, l25, l26, l27, l28, l29, l30, l31, l32, l33, l34, l35, l36, l37, l38, l39, l40, l41, l42, l43, l44, l45, l46, l47, l48, l49, l50, l51, l52, l53, l54, l55, l56, l57, l58, l59, l60, l65, l90, l96, l97, l99, l100, l101, l122, l150, l242, l255, l499, l500, l510, l800, l960, l999, l1000, l1002, l1730, l2530, l2562, l9999, l10250, l32768, l1000000, nMul, nAdd, nNegN, nLt, nLe, nEq, nNeg1, nNeg1', nEqM, nEqM', if_true, if_false, if_pos, if_neg, reduceCtorEq, Option.bind_some, rz_bI, rz0, rz1, rzN0, rzN1, a0, a1, a2, a3, g106_0 hS, M_all hS, f.2.1]
                by_cases a5 : i % 10 < (G.L j).s
                · by_cases a6 : i < 50
                  · have e : 40 + i % 10 = i := by omega
                    simp (disch := omega) only [l0, l1, l2, l3, l4, l5, l6, l7, l8, l9, l10, l11, l12, l13, l14, l15, l16, l17, l18, l19, l20, l21, l22, l23, l24, l25, l26, l27, l28, l29, l30, l31, l32, l33, l34, l35, l36, l37, l38, l39, l40, l41, l42, l43, l44, l45, l46, l47, l48, l49, l50, l51, l52, l53, l54, l55, l56, l57, l58, l59, l60, l65, l90, l96, l97, l99, l100, l101, l122, l150, l242, l255, l499, l500, l510, l800, l960, l999, l1000, l1002, l1730, l2530, l2562, l9999, l10250, l32768, l1000000, nMul, nAdd, nNegN, nLt, nLe, nEq, nNeg1, nNeg1', nEqM, nEqM', if_true, if_false, if_pos, if_neg, reduceCtorEq, Option.bind_some, rz_bI, rz0, rz1, rzN0, rzN1, a5, g106_0 hS, M_all hS, f.2.2.2.2.2.1 (i % 10) (by omega), e]
                  · have e : 50 + i % 10 = i := by omega
                    simp (disch := omega) only [l0, l1, l2, l3, l4, l5, l6, l7, l8, l9, l10, l11, l12, l13, l14, l15, l16, l17, l18, l19, l20, l21, l22, l23, l24, l25, l26, l27, l28, l29, l30, l31, l32, l33, l34, l35, l36, l37, l38, l39, l40, l41, l42, l43, l44, l45, l46, l47, l48, l49, l50, l51, l52, l53, l54, l55, l56, l57, l58, l59, l60, l65, l90, l96, l97, l99, l100, l101, l122, l150, l242, l255, l499, l500, l510, l800, l960, l999, l1000, l1002, l1730, l2530, l2562, l9999, l10250, l32768, l1000000, nMul, nAdd, nNegN, nLt, nLe, nEq, nNeg1, nNeg1', nEqM, nEqM', if_true, if_false, if_pos, if_neg, reduceCtorEq, Option.bind_some, rz_bI, rz0, rz1, rzN0, rzN1, a5, g106_0 hS, M_all hS, f.2.2.2.2.2.2.1 (i % 10) (by omega), e]
                · simp (disch := omega) only [l0, l1, l2, l3, l4, l5, l6, l7, l8, l9, l10, l11, l12, l13, l14, l15, l16, l17, l18, l19, l20, l21, l22, l23, l24, l25, l26, l27, l28, l29, l30, l31, l32, l33, l34, l35, l36, l37, l38, l39, l40, l41, l42, l43, l44, l45, l46, l47, l48, l49, l50, l51, l52, l53, l54, l55, l56, l57, l58, l59, l60, l65, l90, l96, l97, l99, l100, l101, l122, l150, l242, l255, l499, l500, l510, l800, l960, l999, l1000, l1002, l1730, l2530, l2562, l9999, l10250, l32768, l1000000, nMul, nAdd, nNegN, nLt, nLe, nEq, nNeg1, nNeg1', nEqM, nEqM', if_true, if_false, if_pos, if_neg, reduceCtorEq, Option.bind_some, rz_bI, rz0, rz1, rzN0, rzN1, a5]
    · refine ⟨-1, ?_, ?_⟩
      · simp only [g64_0 hS, o65 hS, e1, Option.bind_some, reduceCtorEq, if_false, e2.o, C_numberB e2 hw]
      · simp (disch := omega) only [l0, l1, l2, l3, l4, l5, l6, l7, l8, l9, l10, l11, l12, l13, l14, l15, l16, l17, l18, l19, l20, l21, l22, l23, l24, l25, l26, l27, l28, l29, l30, l31, l32, l33, l34, l35, l36, l37, l38, l39, l40, l41, l42, l43, l44, l45, l46, l47, l48, l49, l50, l51, l52, l53, l54, l55, l56, l57, l58, l59, l60, l65, l90, l96, l97, l99, l100, l101, l122, l150, l242, l255, l499, l500, l510, l800, l960, l999, l1000, l1002, l1730, l2530, l2562, l9999, l10250, l32768, l1000000, nMul, nAdd, nNegN, nLt, nLe, nEq, nNeg1, nNeg1', nEqM, nEqM', if_true, if_false, if_pos, if_neg, reduceCtorEq, Option.bind_some, rz_bI, rz0, rz1, rzN0, rzN1, o106 hS, i0, p0]
        rw [M_inr_f (a := 0) (b := 1) (fun j h1 h2 => hw j (by omega)) (by decide) (by decide), M_inr_f (a := 10) (b := 39) (fun j h1 h2 => hw j (by omega)) (by decide) (by decide), M_inr_f (a := 40) (b := 59) (fun j h1 h2 => hw j (by omega)) (by decide) (by decide)]
        have hd : ∃ v, dR w (nI 10) = some v := ⟨_, by unfold dR; rw [if_neg (by decide)]⟩
        obtain ⟨v, hv⟩ := hd
        simp (disch := omega) only [l0, l1, l2, l3, l4, l5, l6, l7, l8, l9, l10, l11, l12, l13, l14, l15, l16, l17, l18, l19, l20, l21, l22, l23, l24, l25, l26, l27, l28, l29, l30, l31, l32, l33, l34, l35, l36, l37, l38, l39, l40, l41, l42, l43, l44, l45, l46, l47, l48, l49, l50, l51, l52, l53, l54, l55, l56, l57, l58, l59, l60, l65, l90, l96, l97, l99, l100, l101, l122, l150, l242, l255, l499, l500, l510, l800, l960, l999, l1000, l1002, l1730, l2530, l2562, l9999, l10250, l32768, l1000000, nMul, nAdd, nNegN, nLt, nLe, nEq, nNeg1, nNeg1', nEqM, nEqM', if_true, if_false, if_pos, if_neg, reduceCtorEq, Option.bind_some, rz_bI, rz0, rz1, rzN0, rzN1, hv]
  · have i0 := M_isOf_f (n := n) hS hM (w := 0) (by decide) (by have := hR.inv.1; omega) hl
    exact ⟨-1, by simp only [g64_0 hS, o65 hS, C_leagueAt_f hS hR.tol hl, Option.bind_some, if_true], by simp (disch := omega) only [l0, l1, l2, l3, l4, l5, l6, l7, l8, l9, l10, l11, l12, l13, l14, l15, l16, l17, l18, l19, l20, l21, l22, l23, l24, l25, l26, l27, l28, l29, l30, l31, l32, l33, l34, l35, l36, l37, l38, l39, l40, l41, l42, l43, l44, l45, l46, l47, l48, l49, l50, l51, l52, l53, l54, l55, l56, l57, l58, l59, l60, l65, l90, l96, l97, l99, l100, l101, l122, l150, l242, l255, l499, l500, l510, l800, l960, l999, l1000, l1002, l1730, l2530, l2562, l9999, l10250, l32768, l1000000, nMul, nAdd, nNegN, nLt, nLe, nEq, nNeg1, nNeg1', nEqM, nEqM', if_true, if_false, if_pos, if_neg, reduceCtorEq, Option.bind_some, rz_bI, rz0, rz1, rzN0, rzN1, o106 hS, i0]⟩
theorem E_miles (hR : Rel st G I) (l x y : Int32) : ∃ v, F_X10_miles n st (some 64) l x y = some v ∧ F_X11_miles n st (some 106) l x y = some v := by
  have hS := hR.sh
  have hM := hR.mod
  unfold F_X10_miles F_X11_miles
  rcases nCut l (G.cn 0) with ⟨j, hj, rfl⟩ | hl
  · have i0 := M_isOf_t (n := n) hS hM (w := 0) (by decide) hj (by have := hR.inv.1; omega)
    have p0 := M_placeOf0 (n := n) (st := st) j
    simp only [l0] at p0
    obtain ⟨a, e1, e2⟩ := C_leagueAt_t (n := n) hS hR.tol hR.inv hj
    have hI := hR.inv.lg hj
    have b := hR.inv.n0 hj
    have c1 := hI.1
    have f := hM.lg hj
    rcases nCut x (G.L j).g with ⟨i, hi, rfl⟩ | hx
    · have g1 := C_hasGround (n := n) e2 hI (x := i) (by omega)
      rw [bI_t hi] at g1
      rcases nCut y (G.L j).g with ⟨k, hk, rfl⟩ | hy
      · have g2 := C_hasGround (n := n) e2 hI (x := k) (by omega)
        rw [bI_t hk] at g2
        refine ⟨nI ((G.L j).d (10 * i + k)), ?_, ?_⟩
        · simp only [g64_0 hS, o65 hS, e1, Option.bind_some, reduceCtorEq, if_false, e2.o, g1, g2, show ¬ (1 : Int32) = 0 by decide, C_apart e2 (show 10 * i + k < 100 by omega)]
        · simp (disch := omega) only [l0, l1, l2, l3, l4, l5, l6, l7, l8, l9, l10, l11, l12, l13, l14, l15, l16, l17, l18, l19, l20, l21, l22, l23, l24, l25, l26, l27, l28, l29, l30, l31, l32, l33, l34, l35, l36, l37, l38, l39, l40, l41, l42, l43, l44, l45, l46, l47, l48, l49, l50, l51, l52, l53, l54, l55, l56, l57, l58, l59, l60, l65, l90, l96, l97, l99, l100, l101, l122, l150, l242, l255, l499, l500, l510, l800, l960, l999, l1000, l1002, l1730, l2530, l2562, l9999, l10250, l32768, l1000000, nMul, nAdd, nNegN, nLt, nLe, nEq, nNeg1, nNeg1', nEqM, nEqM', if_true, if_false, if_pos, if_neg, reduceCtorEq, Option.bind_some, rz_bI, rz0, rz1, rzN0, rzN1, o106 hS, i0, p0, g106_0 hS, M_all hS, f.1, M_inc_t, f.2.2.2.2.2.2.2 i k (by omega) (by omega)]
      · have g2 := C_hasGround_neg (n := n) e2 hI (nOut (by omega) hy)
        refine ⟨-1, ?_, ?_⟩
        · simp only [g64_0 hS, o65 hS, e1, Option.bind_some, reduceCtorEq, if_false, if_true, e2.o, g1, g2, show ¬ (1 : Int32) = 0 by decide]
        · simp (disch := omega) only [l0, l1, l2, l3, l4, l5, l6, l7, l8, l9, l10, l11, l12, l13, l14, l15, l16, l17, l18, l19, l20, l21, l22, l23, l24, l25, l26, l27, l28, l29, l30, l31, l32, l33, l34, l35, l36, l37, l38, l39, l40, l41, l42, l43, l44, l45, l46, l47, l48, l49, l50, l51, l52, l53, l54, l55, l56, l57, l58, l59, l60, l65, l90, l96, l97, l99, l100, l101, l122, l150, l242, l255, l499, l500, l510, l800, l960, l999, l1000, l1002, l1730, l2530, l2562, l9999, l10250, l32768, l1000000, nMul, nAdd, nNegN, nLt, nLe, nEq, nNeg1, nNeg1', nEqM, nEqM', if_true, if_false, if_pos, if_neg, reduceCtorEq, Option.bind_some, rz_bI, rz0, rz1, rzN0, rzN1, o106 hS, i0, p0, g106_0 hS, M_all hS, f.1, M_inc_t, M_inc_f hy]
    · have g1 := C_hasGround_neg (n := n) e2 hI (nOut (by omega) hx)
      refine ⟨-1, ?_, ?_⟩
      · simp only [g64_0 hS, o65 hS, e1, Option.bind_some, reduceCtorEq, if_false, if_true, e2.o, g1]
      · simp (disch := omega) only [l0, l1, l2, l3, l4, l5, l6, l7, l8, l9, l10, l11, l12, l13, l14, l15, l16, l17, l18, l19, l20, l21, l22, l23, l24, l25, l26, l27, l28, l29, l30, l31, l32, l33, l34, l35, l36, l37, l38, l39, l40, l41, l42, l43, l44, l45, l46, l47, l48, l49, l50, l51, l52, l53, l54, l55, l56, l57, l58, l59, l60, l65, l90, l96, l97, l99, l100, l101, l122, l150, l242, l255, l499, l500, l510, l800, l960, l999, l1000, l1002, l1730, l2530, l2562, l9999, l10250, l32768, l1000000, nMul, nAdd, nNegN, nLt, nLe, nEq, nNeg1, nNeg1', nEqM, nEqM', if_true, if_false, if_pos, if_neg, reduceCtorEq, Option.bind_some, rz_bI, rz0, rz1, rzN0, rzN1, o106 hS, i0, p0, g106_0 hS, M_all hS, f.1, M_inc_f hx]
  · have i0 := M_isOf_f (n := n) hS hM (w := 0) (by decide) (by have := hR.inv.1; omega) hl
    exact ⟨-1, by simp only [g64_0 hS, o65 hS, C_leagueAt_f hS hR.tol hl, Option.bind_some, if_true], by simp (disch := omega) only [l0, l1, l2, l3, l4, l5, l6, l7, l8, l9, l10, l11, l12, l13, l14, l15, l16, l17, l18, l19, l20, l21, l22, l23, l24, l25, l26, l27, l28, l29, l30, l31, l32, l33, l34, l35, l36, l37, l38, l39, l40, l41, l42, l43, l44, l45, l46, l47, l48, l49, l50, l51, l52, l53, l54, l55, l56, l57, l58, l59, l60, l65, l90, l96, l97, l99, l100, l101, l122, l150, l242, l255, l499, l500, l510, l800, l960, l999, l1000, l1002, l1730, l2530, l2562, l9999, l10250, l32768, l1000000, nMul, nAdd, nNegN, nLt, nLe, nEq, nNeg1, nNeg1', nEqM, nEqM', if_true, if_false, if_pos, if_neg, reduceCtorEq, Option.bind_some, rz_bI, rz0, rz1, rzN0, rzN1, o106 hS, i0]⟩
end AS

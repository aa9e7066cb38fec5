/-! THE SIMPLE QUESTIONS -/
section ASK
variable {st : xS} {n : Nat} {G : Gh} {I : Im}
theorem Rel.sh (h : Rel st G I) : Sh st := h.1
theorem Rel.inv (h : Rel st G I) : GhI G := h.2.1
theorem Rel.tol (h : Rel st G I) : TolR st 65 G := h.2.2.2.2.1.1
theorem Rel.mod (h : Rel st G I) : ModB (cI st 107) G := h.2.2.2.2.2.1
theorem C_leagueAt_t (hS : Sh st) (hT : TolR st 65 G) (hI : GhI G) {j : Nat} (hj : j < G.cn 0) : ∃ a, F_X9_leagueAt n st (some 65) (nI j) = some (some a) ∧ LgR st a (G.L j) := by
  have hb : j < 3 := Nat.lt_of_lt_of_le hj hI.1
  obtain ⟨a, h1, h2⟩ := (hT.1 j hb).1 hj
  refine ⟨a, ?_, h2⟩
  have h1 : cR st 66 j = some a := h1
  unfold F_X9_leagueAt
  simp (disch := omega) only [g65_0 hS, Option.bind_some, n66 hS, a66 hS, if_neg (nI_pos (n := j) (by omega)), l0, l3, nLe, nLt, if_neg, ixT, nIc, if_true, h1]
theorem C_leagueAt_f (hS : Sh st) (hT : TolR st 65 G) {x : Int32} (hx : ∀ j, j < G.cn 0 → ¬ x = nI j) : F_X9_leagueAt n st (some 65) x = some none := by
  unfold F_X9_leagueAt
  by_cases h0 : x < 0
  · simp only [h0, if_true, Option.bind_some]
  · simp only [h0, if_false, g65_0 hS, Option.bind_some, n66 hS]
    by_cases h1 : nI 3 ≤ x
    · simp only [h1, if_true, Option.bind_some]
    · obtain ⟨j, hj, rfl⟩ : ∃ j, j < 3 ∧ x = nI j := by
        rcases pk_ix x (n := 3) (by decide) with h | h | h
        · exact absurd h h0
        · exact absurd h h1
        · exact h
      have h2 : cR st 66 j = none := (hT.1 j hj).2 (fun h => hx j h rfl)
      simp (disch := omega) only [h1, if_false, Option.bind_some, a66 hS, ixT, nIc, if_true, h2]
theorem C_lawAt_t (hS : Sh st) (hT : TolR st 65 G) (hI : GhI G) {j : Nat} (hj : j < G.cn 1) : ∃ a, F_X9_lawAt n st (some 65) (nI j) = some (some a) ∧ LwR st a (G.W j) := by
  have hb : j < 3 := Nat.lt_of_lt_of_le hj hI.2.1
  obtain ⟨a, h1, h2⟩ := (hT.2.1 j hb).1 hj
  refine ⟨a, ?_, h2⟩
  have h1 : cR st 67 j = some a := h1
  unfold F_X9_lawAt
  simp (disch := omega) only [g65_1 hS, Option.bind_some, n67 hS, a67 hS, if_neg (nI_pos (n := j) (by omega)), l0, l3, nLe, nLt, if_neg, ixT, nIc, if_true, h1]
theorem C_lawAt_f (hS : Sh st) (hT : TolR st 65 G) {x : Int32} (hx : ∀ j, j < G.cn 1 → ¬ x = nI j) : F_X9_lawAt n st (some 65) x = some none := by
  unfold F_X9_lawAt
  by_cases h0 : x < 0
  · simp only [h0, if_true, Option.bind_some]
  · simp only [h0, if_false, g65_1 hS, Option.bind_some, n67 hS]
    by_cases h1 : nI 3 ≤ x
    · simp only [h1, if_true, Option.bind_some]
    · obtain ⟨j, hj, rfl⟩ : ∃ j, j < 3 ∧ x = nI j := by
        rcases pk_ix x (n := 3) (by decide) with h | h | h
        · exact absurd h h0
        · exact absurd h h1
        · exact h
      have h2 : cR st 67 j = none := (hT.2.1 j hj).2 (fun h => hx j h rfl)
      simp (disch := omega) only [h1, if_false, Option.bind_some, a67 hS, ixT, nIc, if_true, h2]
theorem C_planAt_t (hS : Sh st) (hT : TolR st 65 G) (hI : GhI G) {j : Nat} (hj : j < G.cn 2) : ∃ a, F_X9_planAt n st (some 65) (nI j) = some (some a) ∧ PlR st a (G.P j) := by
  have hb : j < 3 := Nat.lt_of_lt_of_le hj hI.2.2.1
  obtain ⟨a, h1, h2⟩ := (hT.2.2.1 j hb).1 hj
  refine ⟨a, ?_, h2⟩
  have h1 : cR st 68 j = some a := h1
  unfold F_X9_planAt
  simp (disch := omega) only [g65_2 hS, Option.bind_some, n68 hS, a68 hS, if_neg (nI_pos (n := j) (by omega)), l0, l3, nLe, nLt, if_neg, ixT, nIc, if_true, h1]
theorem C_planAt_f (hS : Sh st) (hT : TolR st 65 G) {x : Int32} (hx : ∀ j, j < G.cn 2 → ¬ x = nI j) : F_X9_planAt n st (some 65) x = some none := by
  unfold F_X9_planAt
  by_cases h0 : x < 0
  · simp only [h0, if_true, Option.bind_some]
  · simp only [h0, if_false, g65_2 hS, Option.bind_some, n68 hS]
    by_cases h1 : nI 3 ≤ x
    · simp only [h1, if_true, Option.bind_some]
    · obtain ⟨j, hj, rfl⟩ : ∃ j, j < 3 ∧ x = nI j := by
        rcases pk_ix x (n := 3) (by decide) with h | h | h
        · exact absurd h h0
        · exact absurd h h1
        · exact h
      have h2 : cR st 68 j = none := (hT.2.2.1 j hj).2 (fun h => hx j h rfl)
      simp (disch := omega) only [h1, if_false, Option.bind_some, a68 hS, ixT, nIc, if_true, h2]

theorem E_fault (h : Rel st G I) (x : Int32) : ∃ v, F_X10_fault n st (some 64) x = some v ∧ F_X11_fault n st (some 106) x = some v := by
  have hS := h.sh
  unfold F_X10_fault F_X11_fault
  by_cases h0 : x = 0
  · refine ⟨nI G.fl, ?_, ?_⟩
    · simp only [h0, if_true, g64_0 hS, Option.bind_some, g65_9 hS, h.tol.2.2.2.2.2.2.2.2.2.1]
    · simp (disch := omega) only [h0, if_true, g106_0 hS, Option.bind_some, l5, a107 hS, ixT, nIc, h.mod.2.2.1]
  · by_cases h1 : x = 1
    · refine ⟨G.pl, ?_, ?_⟩
      · simp only [h0, h1, if_true, if_false, g64_0 hS, Option.bind_some, g65_10 hS, h.tol.2.2.2.2.2.2.2.2.2.2, reduceCtorEq, show ¬ (1 : Int32) = 0 by decide]
      · simp (disch := omega) only [h0, h1, if_true, if_false, g106_0 hS, Option.bind_some, l6, a107 hS, ixT, nIc, h.mod.2.2.2.1, show ¬ (1 : Int32) = 0 by decide]
    · exact ⟨-1, by simp only [h0, h1, if_false, Option.bind_some], by simp only [h0, h1, if_false, Option.bind_some]⟩
theorem E_count (h : Rel st G I) (x : Int32) : ∃ v, F_X10_count n st (some 64) x = some v ∧ F_X11_count n st (some 106) x = some v := by
  have hS := h.sh
  unfold F_X10_count F_X11_count
  rcases nCut x 4 with ⟨j, hj, rfl⟩ | hx
  · refine ⟨nI (G.cn j), ?_, ?_⟩
    · simp (disch := omega) only [l0, l1, l2, l3, l4, l5, l6, l7, l8, l9, l10, l11, l12, l13, l14, l15, l16, l17, l18, l19, l20, l21, l22, l23, l24, l25, l26, l27, l28, l29, l30, l31, l32, l33, l34, l35, l36, l37, l38, l39, l40, l41, l42, l43, l44, l45, l46, l47, l48, l49, l50, l51, l52, l53, l54, l55, l56, l57, l58, l59, l60, l65, l90, l96, l97, l99, l100, l101, l122, l150, l242, l255, l499, l500, l510, l800, l960, l999, l1000, l1002, l1730, l2530, l2562, l9999, l10250, l32768, l1000000, nMul, nAdd, nNegN, nLt, nLe, nEq, nNeg1, nNeg1', nEqM, nEqM', if_true, if_false, if_pos, if_neg, reduceCtorEq, g64_0 hS, o65 hS, C_howMany hS h.tol, Option.bind_some]
    · simp (disch := omega) only [l0, l1, l2, l3, l4, l5, l6, l7, l8, l9, l10, l11, l12, l13, l14, l15, l16, l17, l18, l19, l20, l21, l22, l23, l24, l25, l26, l27, l28, l29, l30, l31, l32, l33, l34, l35, l36, l37, l38, l39, l40, l41, l42, l43, l44, l45, l46, l47, l48, l49, l50, l51, l52, l53, l54, l55, l56, l57, l58, l59, l60, l65, l90, l96, l97, l99, l100, l101, l122, l150, l242, l255, l499, l500, l510, l800, l960, l999, l1000, l1002, l1730, l2530, l2562, l9999, l10250, l32768, l1000000, nMul, nAdd, nNegN, nLt, nLe, nEq, nNeg1, nNeg1', nEqM, nEqM', if_true, if_false, if_pos, if_neg, reduceCtorEq, M_in_t, Option.bind_some, g106_0 hS, a107 hS, ixT, nIc, h.mod.1]
  · refine ⟨-2, ?_, ?_⟩
    · rcases nOut4 (by decide) hx with h0 | ⟨h0, h1, h2, h3⟩
      · simp (disch := omega) only [l0, l1, l2, l3, l4, l5, l6, l7, l8, l9, l10, l11, l12, l13, l14, l15, l16, l17, l18, l19, l20, l21, l22, l23, l24, l25, l26, l27, l28, l29, l30, l31, l32, l33, l34, l35, l36, l37, l38, l39, l40, l41, l42, l43, l44, l45, l46, l47, l48, l49, l50, l51, l52, l53, l54, l55, l56, l57, l58, l59, l60, l65, l90, l96, l97, l99, l100, l101, l122, l150, l242, l255, l499, l500, l510, l800, l960, l999, l1000, l1002, l1730, l2530, l2562, l9999, l10250, l32768, l1000000, nMul, nAdd, nNegN, h0, if_true, Option.bind_some]
      · simp (disch := omega) only [l0, l1, l2, l3, l4, l5, l6, l7, l8, l9, l10, l11, l12, l13, l14, l15, l16, l17, l18, l19, l20, l21, l22, l23, l24, l25, l26, l27, l28, l29, l30, l31, l32, l33, l34, l35, l36, l37, l38, l39, l40, l41, l42, l43, l44, l45, l46, l47, l48, l49, l50, l51, l52, l53, l54, l55, l56, l57, l58, l59, l60, l65, l90, l96, l97, l99, l100, l101, l122, l150, l242, l255, l499, l500, l510, l800, l960, l999, l1000, l1002, l1730, l2530, l2562, l9999, l10250, l32768, l1000000, nMul, nAdd, nNegN, h0, h3, if_false, Option.bind_some]
    · simp (disch := omega) only [l0, l1, l2, l3, l4, l5, l6, l7, l8, l9, l10, l11, l12, l13, l14, l15, l16, l17, l18, l19, l20, l21, l22, l23, l24, l25, l26, l27, l28, l29, l30, l31, l32, l33, l34, l35, l36, l37, l38, l39, l40, l41, l42, l43, l44, l45, l46, l47, l48, l49, l50, l51, l52, l53, l54, l55, l56, l57, l58, l59, l60, l65, l90, l96, l97, l99, l100, l101, l122, l150, l242, l255, l499, l500, l510, l800, l960, l999, l1000, l1002, l1730, l2530, l2562, l9999, l10250, l32768, l1000000, nMul, nAdd, nNegN, M_in_f hx, if_true, Option.bind_some]
theorem E_noted (h : Rel st G I) (x w : Int32) : ∃ v, F_X10_noted n st (some 64) x w = some v ∧ F_X11_noted n st (some 106) x w = some v := by
  have hS := h.sh
  have hb := h.inv.2.2.2.1
  unfold F_X10_noted F_X11_noted
  simp (disch := omega) only [l0, l1, l2, l3, l4, l5, l6, l7, l8, l9, l10, l11, l12, l13, l14, l15, l16, l17, l18, l19, l20, l21, l22, l23, l24, l25, l26, l27, l28, l29, l30, l31, l32, l33, l34, l35, l36, l37, l38, l39, l40, l41, l42, l43, l44, l45, l46, l47, l48, l49, l50, l51, l52, l53, l54, l55, l56, l57, l58, l59, l60, l65, l90, l96, l97, l99, l100, l101, l122, l150, l242, l255, l499, l500, l510, l800, l960, l999, l1000, l1002, l1730, l2530, l2562, l9999, l10250, l32768, l1000000, nMul, nAdd, nNegN, g106_0 hS, a107 hS, ixT, nIc, if_true, h.mod.1, Option.bind_some, g64_0 hS, o65 hS, C_howMany hS h.tol]
  rcases nCut x (G.cn 3) with ⟨j, hj, rfl⟩ | hx
  · rcases nCut w 10 with ⟨i, hi, rfl⟩ | hw
    · refine ⟨nI (G.nt j i), ?_, ?_⟩
      · simp (disch := omega) only [l0, l1, l2, l3, l4, l5, l6, l7, l8, l9, l10, l11, l12, l13, l14, l15, l16, l17, l18, l19, l20, l21, l22, l23, l24, l25, l26, l27, l28, l29, l30, l31, l32, l33, l34, l35, l36, l37, l38, l39, l40, l41, l42, l43, l44, l45, l46, l47, l48, l49, l50, l51, l52, l53, l54, l55, l56, l57, l58, l59, l60, l65, l90, l96, l97, l99, l100, l101, l122, l150, l242, l255, l499, l500, l510, l800, l960, l999, l1000, l1002, l1730, l2530, l2562, l9999, l10250, l32768, l1000000, nMul, nAdd, nNegN, nLt, nLe, nEq, nNeg1, nNeg1', nEqM, nEqM', if_true, if_false, if_pos, if_neg, reduceCtorEq, C_noteOf hS h.tol h.inv, Option.bind_some]
      · simp (disch := omega) only [l0, l1, l2, l3, l4, l5, l6, l7, l8, l9, l10, l11, l12, l13, l14, l15, l16, l17, l18, l19, l20, l21, l22, l23, l24, l25, l26, l27, l28, l29, l30, l31, l32, l33, l34, l35, l36, l37, l38, l39, l40, l41, l42, l43, l44, l45, l46, l47, l48, l49, l50, l51, l52, l53, l54, l55, l56, l57, l58, l59, l60, l65, l90, l96, l97, l99, l100, l101, l122, l150, l242, l255, l499, l500, l510, l800, l960, l999, l1000, l1002, l1730, l2530, l2562, l9999, l10250, l32768, l1000000, nMul, nAdd, nNegN, nLt, nLe, nEq, nNeg1, nNeg1', nEqM, nEqM', if_true, if_false, if_pos, if_neg, reduceCtorEq, M_inc_t, M_in_t, Option.bind_some, o106 hS, M_noteAt hS h.mod h.inv]
    · refine ⟨-1, ?_, ?_⟩
      · rcases nOut4 (by decide) hw with h0 | ⟨h0, h1, h2, h3⟩
        · simp (disch := omega) only [l0, l1, l2, l3, l4, l5, l6, l7, l8, l9, l10, l11, l12, l13, l14, l15, l16, l17, l18, l19, l20, l21, l22, l23, l24, l25, l26, l27, l28, l29, l30, l31, l32, l33, l34, l35, l36, l37, l38, l39, l40, l41, l42, l43, l44, l45, l46, l47, l48, l49, l50, l51, l52, l53, l54, l55, l56, l57, l58, l59, l60, l65, l90, l96, l97, l99, l100, l101, l122, l150, l242, l255, l499, l500, l510, l800, l960, l999, l1000, l1002, l1730, l2530, l2562, l9999, l10250, l32768, l1000000, nMul, nAdd, nNegN, nLt, nLe, nEq, nNeg1, nNeg1', nEqM, nEqM', if_true, if_false, if_pos, if_neg, reduceCtorEq, h0, ite_self]
        · simp (disch := omega) only [l0, l1, l2, l3, l4, l5, l6, l7, l8, l9, l10, l11, l12, l13, l14, l15, l16, l17, l18, l19, l20, l21, l22, l23, l24, l25, l26, l27, l28, l29, l30, l31, l32, l33, l34, l35, l36, l37, l38, l39, l40, l41, l42, l43, l44, l45, l46, l47, l48, l49, l50, l51, l52, l53, l54, l55, l56, l57, l58, l59, l60, l65, l90, l96, l97, l99, l100, l101, l122, l150, l242, l255, l499, l500, l510, l800, l960, l999, l1000, l1002, l1730, l2530, l2562, l9999, l10250, l32768, l1000000, nMul, nAdd, nNegN, nLt, nLe, nEq, nNeg1, nNeg1', nEqM, nEqM', if_true, if_false, if_pos, if_neg, reduceCtorEq, h0, h2, ite_self]
      · simp (disch := omega) only [l0, l1, l2, l3, l4, l5, l6, l7, l8, l9, l10, l11, l12, l13, l14, l15, l16, l17, l18, l19, l20, l21, l22, l23, l24, l25, l26, l27, l28, l29, l30, l31, l32, l33, l34, l35, l36, l37, l38, l39, l40, l41, l42, l43, l44, l45, l46, l47, l48, l49, l50, l51, l52, l53, l54, l55, l56, l57, l58, l59, l60, l65, l90, l96, l97, l99, l100, l101, l122, l150, l242, l255, l499, l500, l510, l800, l960, l999, l1000, l1002, l1730, l2530, l2562, l9999, l10250, l32768, l1000000, nMul, nAdd, nNegN, nLt, nLe, nEq, nNeg1, nNeg1', nEqM, nEqM', if_true, if_false, if_pos, if_neg, reduceCtorEq, M_inc_t, M_in_f hw, Option.bind_some, ite_self]
  · refine ⟨-1, ?_, ?_⟩
    · rcases nOut4 (by omega) hx with h0 | ⟨h0, h1, h2, h3⟩
      · simp (disch := omega) only [l0, l1, l2, l3, l4, l5, l6, l7, l8, l9, l10, l11, l12, l13, l14, l15, l16, l17, l18, l19, l20, l21, l22, l23, l24, l25, l26, l27, l28, l29, l30, l31, l32, l33, l34, l35, l36, l37, l38, l39, l40, l41, l42, l43, l44, l45, l46, l47, l48, l49, l50, l51, l52, l53, l54, l55, l56, l57, l58, l59, l60, l65, l90, l96, l97, l99, l100, l101, l122, l150, l242, l255, l499, l500, l510, l800, l960, l999, l1000, l1002, l1730, l2530, l2562, l9999, l10250, l32768, l1000000, nMul, nAdd, nNegN, nLt, nLe, nEq, nNeg1, nNeg1', nEqM, nEqM', if_true, if_false, if_pos, if_neg, reduceCtorEq, h0]
      · simp (disch := omega) only [l0, l1, l2, l3, l4, l5, l6, l7, l8, l9, l10, l11, l12, l13, l14, l15, l16, l17, l18, l19, l20, l21, l22, l23, l24, l25, l26, l27, l28, l29, l30, l31, l32, l33, l34, l35, l36, l37, l38, l39, l40, l41, l42, l43, l44, l45, l46, l47, l48, l49, l50, l51, l52, l53, l54, l55, l56, l57, l58, l59, l60, l65, l90, l96, l97, l99, l100, l101, l122, l150, l242, l255, l499, l500, l510, l800, l960, l999, l1000, l1002, l1730, l2530, l2562, l9999, l10250, l32768, l1000000, nMul, nAdd, nNegN, nLt, nLe, nEq, nNeg1, nNeg1', nEqM, nEqM', if_true, if_false, if_pos, if_neg, reduceCtorEq, h0, h1]
    · simp (disch := omega) only [l0, l1, l2, l3, l4, l5, l6, l7, l8, l9, l10, l11, l12, l13, l14, l15, l16, l17, l18, l19, l20, l21, l22, l23, l24, l25, l26, l27, l28, l29, l30, l31, l32, l33, l34, l35, l36, l37, l38, l39, l40, l41, l42, l43, l44, l45, l46, l47, l48, l49, l50, l51, l52, l53, l54, l55, l56, l57, l58, l59, l60, l65, l90, l96, l97, l99, l100, l101, l122, l150, l242, l255, l499, l500, l510, l800, l960, l999, l1000, l1002, l1730, l2530, l2562, l9999, l10250, l32768, l1000000, nMul, nAdd, nNegN, nLt, nLe, nEq, nNeg1, nNeg1', nEqM, nEqM', if_true, if_false, if_pos, if_neg, reduceCtorEq, M_inc_f hx, Option.bind_some]
end ASK

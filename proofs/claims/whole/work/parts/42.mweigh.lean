/-! A GAME WEIGHED: the model -/
section MW
variable {st : xS} {n j i k g : Nat} {G : Gh} {I : Im}
theorem M_own (hS : Sh st) (hM : ModB (cI st 107) G) (hI : GhI G) {s : Nat} (hj : j < G.cn 0) (hs : s < 8) : F_X11_ownOf n st (some 106) (nI (510 + 150 * j)) (nI s) = some (nI ((G.L j).r (40 + s))) := by
  have b := hI.n0 hj
  unfold F_X11_ownOf
  simp (disch := omega) only [l0, l1, l2, l3, l4, l5, l6, l7, l8, l9, l10, l11, l12, l13, l14, l15, l16, l17, l18, l19, l20, l21, l22, l23, l24, l25, l26, l27, l28, l29, l30, l31, l32, l33, l34, l35, l36, l37, l38, l39, l40, l41, l42, l43, l44, l45, l46, l47, l48, l49, l50, l51, l52, l53, l54, l55, l56, l57, l58, l59, l60, l65, l90, l96, l97, l99, l100, l101, l122, l150, l242, l255, l499, l500, l510, l800, l960, l999, l1000, l1002, l1730, l2530, l2562, l9999, l10250, l32768, l1000000, nMul, nAdd, nNegN, g106_0 hS, M_all hS, Option.bind_some, (hM.lg hj).2.2.2.2.2.1]
theorem eI_ge (o : Option Nat) : ((0 : Int32) ≤ eI none) = False := by decide
theorem M_groundOf (hS : Sh st) (hM : ModB (cI st 107) G) (hI : GhI G) (hj : j < G.cn 0) (hk : k < G.cn 2) (hg : g < (G.P k).n) : F_X11_groundOf n st (some 106) (nI (510 + 150 * j)) (nI k) (nI g) = some (nI (gO (G.L j) (G.P k) g)) := by
  have d := (hI.pp hk).2.1 g hg
  have e5 : F_X11_gameOf n st (some 106) (nI k) (nI g) (5 : Int32) = some (eI ((G.P k).e g)) := M_game5 hS hM hI hk hg
  have e0 : F_X11_gameOf n st (some 106) (nI k) (nI g) (0 : Int32) = some (nI ((G.P k).c g 0)) := M_game hS hM hI hk hg (by decide)
  unfold F_X11_groundOf gO
  simp only [o106 hS, e5, Option.bind_some]
  cases h : (G.P k).e g with
  | none => simp only [show ¬ (0 : Int32) ≤ eI none by decide, if_false, e0, M_own hS hM hI hj d.1, Option.bind_some]
  | some x =>
    have hx := d.2.2.2.2.2.2 x h
    have : (0 : Int32) ≤ eI (some x) := nI_pos' (by omega)
    simp only [this, if_true, Option.bind_some]
    rfl
theorem M_loudOf (hS : Sh st) (hM : ModB (cI st 107) G) (hI : GhI G) (hj : j < G.cn 0) (hk : k < G.cn 2) (hg : g < (G.P k).n) : F_X11_loudOf n st (some 106) (nI (510 + 150 * j)) (nI k) (nI g) = some (nI (gN (G.L j) (G.P k) g)) := by
  have d := (hI.pp hk).2.1 g hg
  have b := hI.n0 hj
  have b1 := gO_lt (hI.lg hj) (hI.pp hk) hg
  have b2 := (hI.lg hj).2.2.1 (30 + gO (G.L j) (G.P k) g)
  have b3 := (hI.lg hj).2.2.1 (20 + gO (G.L j) (G.P k) g)
  unfold F_X11_loudOf
  simp (disch := omega) only [l0, l1, l2, l3, l4, l5, l6, l7, l8, l9, l10, l11, l12, l13, l14, l15, l16, l17, l18, l19, l20, l21, l22, l23, l24, l25, l26, l27, l28, l29, l30, l31, l32, l33, l34, l35, l36, l37, l38, l39, l40, l41, l42, l43, l44, l45, l46, l47, l48, l49, l50, l51, l52, l53, l54, l55, l56, l57, l58, l59, l60, l65, l90, l96, l97, l99, l100, l101, l122, l150, l242, l255, l499, l500, l510, l800, l960, l999, l1000, l1002, l1730, l2530, l2562, l9999, l10250, l32768, l1000000, nMul, nAdd, nNegN, nLt, nLe, nEq, nNeg1, nNeg1', nEqM, nEqM', if_true, if_false, if_pos, if_neg, reduceCtorEq, Option.bind_some, o106 hS, M_groundOf hS hM hI hj hk hg, M_game hS hM hI hk hg]
  by_cases h : (G.P k).c g 3 = 0
  · simp only [h, if_true, Option.bind_some]
    unfold gN
    rw [if_neg (by omega)]
  · simp (disch := omega) only [l0, l1, l2, l3, l4, l5, l6, l7, l8, l9, l10, l11, l12, l13, l14, l15, l16, l17, l18, l19, l20, l21, l22, l23, l24, l25, l26, l27, l28, l29, l30, l31, l32, l33, l34, l35, l36, l37, l38, l39, l40, l41, l42, l43, l44, l45, l46, l47, l48, l49, l50, l51, l52, l53, l54, l55, l56, l57, l58, l59, l60, l65, l90, l96, l97, l99, l100, l101, l122, l150, l242, l255, l499, l500, l510, l800, l960, l999, l1000, l1002, l1730, l2530, l2562, l9999, l10250, l32768, l1000000, nMul, nAdd, nNegN, h, if_false, g106_0 hS, M_all hS, Option.bind_some, (hM.lg hj).2.2.2.2.1, (hM.lg hj).2.2.2.1, dI_n]
    unfold gN
    rw [if_pos (by omega)]
theorem M_restOf (hS : Sh st) (hM : ModB (cI st 107) G) (hI : GhI G) (hk : k < G.cn 2) (hg : g < (G.P k).n) {s : Nat} (hs : s < 8) (hn : 3000 ≤ n) : F_X11_restOf n st (some 106) (nI k) (nI g) (nI s) = some (zI (rsN (G.P k) g s g)) := by
  have c1 := (hI.pp hk).1
  have hl : F_X11_restOf_L7 n n st (some 106) (nI k) (nI g) (nI s) (30 : Int32) (0 : Int32) = some (zI (rsN (G.P k) g s g)) := by
    refine loop_run (fun m (q : Int32 × Int32) => F_X11_restOf_L7 n m st (some 106) (nI k) (nI g) (nI s) q.1 q.2) (fun i => (zI (rsN (G.P k) g s i), nI i)) g _ (fun m i hi => ?_) (fun m => ?_) n (by omega)
    · dsimp only
      have d := (hI.pp hk).2.1 i (by omega)
      have d2 := (hI.pp hk).2.1 g hg
      rw [F_X11_restOf_L7, rsN]
      simp (disch := omega) only [l0, l1, l2, l3, l4, l5, l6, l7, l8, l9, l10, l11, l12, l13, l14, l15, l16, l17, l18, l19, l20, l21, l22, l23, l24, l25, l26, l27, l28, l29, l30, l31, l32, l33, l34, l35, l36, l37, l38, l39, l40, l41, l42, l43, l44, l45, l46, l47, l48, l49, l50, l51, l52, l53, l54, l55, l56, l57, l58, l59, l60, l65, l90, l96, l97, l99, l100, l101, l122, l150, l242, l255, l499, l500, l510, l800, l960, l999, l1000, l1002, l1730, l2530, l2562, l9999, l10250, l32768, l1000000, nMul, nAdd, nNegN, nLt, nLe, nEq, nNeg1, nNeg1', nEqM, nEqM', if_true, if_false, if_pos, if_neg, reduceCtorEq, Option.bind_some, o106 hS, M_game hS hM hI hk (show i < (G.P k).n by omega), M_game hS hM hI hk hg, nSubZ]
      by_cases h1 : (G.P k).c i 0 = s
      · simp only [h1, if_true, true_or, Option.bind_some]
      · by_cases h2 : (G.P k).c i 1 = s
        · simp only [h1, h2, if_true, if_false, or_true, Option.bind_some]
        · simp only [h1, h2, if_false, or_self, Option.bind_some]
    · dsimp only
      rw [F_X11_restOf_L7]
      simp (disch := omega) only [l0, l1, l2, l3, l4, l5, l6, l7, l8, l9, l10, l11, l12, l13, l14, l15, l16, l17, l18, l19, l20, l21, l22, l23, l24, l25, l26, l27, l28, l29, l30, l31, l32, l33, l34, l35, l36, l37, l38, l39, l40, l41, l42, l43, l44, l45, l46, l47, l48, l49, l50, l51, l52, l53, l54, l55, l56, l57, l58, l59, l60, l65, l90, l96, l97, l99, l100, l101, l122, l150, l242, l255, l499, l500, l510, l800, l960, l999, l1000, l1002, l1730, l2530, l2562, l9999, l10250, l32768, l1000000, nMul, nAdd, nNegN, nLt, nLe, nEq, nNeg1, nNeg1', nEqM, nEqM', if_true, if_false, if_pos, if_neg, reduceCtorEq]
  unfold F_X11_restOf
  rw [hl]
  rfl
theorem M_timesOf (hS : Sh st) (hM : ModB (cI st 107) G) (hI : GhI G) (hj : j < G.cn 0) (hi : i < G.cn 1) (hk : k < G.cn 2) (hg : g < (G.P k).n) {p : Nat} (hp : p < 6) (hn : 3000 ≤ n) : F_X11_timesOf n st (some 106) (nI (510 + 150 * j)) (nI (960 + 14 * i)) (nI k) (nI g) (nI p) = some (nI (gT (G.L j) (G.W i) (G.P k) g p)) := by
  have d := (hI.pp hk).2.1 g hg
  have b := hI.n0 hj
  have b' := hI.n1 hi
  have bL := hI.lg hj
  have bW := hI.lw hi
  have bJ := hI.pp hk
  have b1 := gO_lt bL bJ hg
  have b2 := gA_lt bL bJ hg
  have b3 := gN_le (L := G.L j) (P := G.P k) (g := g) bL
  have bp := bW.2.2.1 p hp
  have hper := (hM.lw hi).2.2 p hp
  have hown : F_X11_ownOf n st (some 106) (nI (510 + 150 * j)) (nI ((G.P k).c g 1)) = some (nI (gA (G.L j) (G.P k) g)) := M_own hS hM hI hj d.2.1
  have hownH := M_own (n := n) hS hM hI hj d.1
  have bH := bL.2.2.1 (40 + (G.P k).c g 0)
  unfold F_X11_timesOf
  match p, hp, bp with
  | 0, _, _ =>
    simp (disch := omega) only [l0, l1, l2, l3, l4, l5, l6, l7, l8, l9, l10, l11, l12, l13, l14, l15, l16, l17, l18, l19, l20, l21, l22, l23, l24, l25, l26, l27, l28, l29, l30, l31, l32, l33, l34, l35, l36, l37, l38, l39, l40, l41, l42, l43, l44, l45, l46, l47, l48, l49, l50, l51, l52, l53, l54, l55, l56, l57, l58, l59, l60, l65, l90, l96, l97, l99, l100, l101, l122, l150, l242, l255, l499, l500, l510, l800, l960, l999, l1000, l1002, l1730, l2530, l2562, l9999, l10250, l32768, l1000000, nMul, nAdd, nNegN, nLt, nLe, nEq, nNeg1, nNeg1', nEqM, nEqM', if_true, if_false, if_pos, if_neg, reduceCtorEq, Option.bind_some, o106 hS, M_groundOf hS hM hI hj hk hg, M_game hS hM hI hk hg, hown, g106_0 hS, M_all hS, hper, hownH, gT_0]
    by_cases h : gO (G.L j) (G.P k) g = (G.L j).r (40 + (G.P k).c g 0)
    · by_cases h2 : gO (G.L j) (G.P k) g = gA (G.L j) (G.P k) g
      · simp only [h2, if_true, Option.bind_some]
        simp only [← h2, h, if_true, Option.bind_some]
      · simp only [h2, if_false, if_true, Option.bind_some, h]
        rw [h] at h2
        simp only [h2, if_false, if_true, Option.bind_some]
    · simp only [h, if_false, Option.bind_some]
  | 1, _, bp =>
    have bD := bL.2.2.2.1 (10 * gA (G.L j) (G.P k) g + gO (G.L j) (G.P k) g)
    have b0 := bW.2.2.2 1 (by decide) (by decide)
    simp (disch := omega) only [l0, l1, l2, l3, l4, l5, l6, l7, l8, l9, l10, l11, l12, l13, l14, l15, l16, l17, l18, l19, l20, l21, l22, l23, l24, l25, l26, l27, l28, l29, l30, l31, l32, l33, l34, l35, l36, l37, l38, l39, l40, l41, l42, l43, l44, l45, l46, l47, l48, l49, l50, l51, l52, l53, l54, l55, l56, l57, l58, l59, l60, l65, l90, l96, l97, l99, l100, l101, l122, l150, l242, l255, l499, l500, l510, l800, l960, l999, l1000, l1002, l1730, l2530, l2562, l9999, l10250, l32768, l1000000, nMul, nAdd, nNegN, nLt, nLe, nEq, nNeg1, nNeg1', nEqM, nEqM', if_true, if_false, if_pos, if_neg, reduceCtorEq, Option.bind_some, o106 hS, M_groundOf hS hM hI hj hk hg, M_game hS hM hI hk hg, hown, g106_0 hS, M_all hS, hper, (hM.lg hj).2.2.2.2.2.2.2, dI_n, gT_1]
  | 2, _, bp =>
    have bR1 := rsN_le bJ (s := (G.P k).c g 1) g hg g (Nat.le_refl g)
    have bR0 := rsN_le bJ (s := (G.P k).c g 0) g hg g (Nat.le_refl g)
    have bp : G.W i 22 ≤ 9999 := bp
    simp (disch := omega) only [l0, l1, l2, l3, l4, l5, l6, l7, l8, l9, l10, l11, l12, l13, l14, l15, l16, l17, l18, l19, l20, l21, l22, l23, l24, l25, l26, l27, l28, l29, l30, l31, l32, l33, l34, l35, l36, l37, l38, l39, l40, l41, l42, l43, l44, l45, l46, l47, l48, l49, l50, l51, l52, l53, l54, l55, l56, l57, l58, l59, l60, l65, l90, l96, l97, l99, l100, l101, l122, l150, l242, l255, l499, l500, l510, l800, l960, l999, l1000, l1002, l1730, l2530, l2562, l9999, l10250, l32768, l1000000, nMul, nAdd, nNegN, nLt, nLe, nEq, nNeg1, nNeg1', nEqM, nEqM', if_true, if_false, if_pos, if_neg, reduceCtorEq, Option.bind_some, o106 hS, M_groundOf hS hM hI hj hk hg, M_game hS hM hI hk hg, hown, g106_0 hS, M_all hS, hper, M_restOf hS hM hI hk hg]
    simp (disch := omega) only [nZ, zLe, zLt, gT_2, show 20 + 2 = 22 from rfl]
    by_cases h : (G.W i 22 : Int) ≤ rsN (G.P k) g ((G.P k).c g 1) g
    · simp only [h, if_true, Option.bind_some]
    · by_cases h2 : rsN (G.P k) g ((G.P k).c g 0) g < (G.W i 22 : Int)
      · simp only [h, h2, if_true, if_false, Option.bind_some]
      · simp only [h, h2, if_false, Option.bind_some]
  | 3, _, bp =>
    have b0 := bW.2.2.2 3 (by decide) (by decide)
    simp (disch := omega) only [l0, l1, l2, l3, l4, l5, l6, l7, l8, l9, l10, l11, l12, l13, l14, l15, l16, l17, l18, l19, l20, l21, l22, l23, l24, l25, l26, l27, l28, l29, l30, l31, l32, l33, l34, l35, l36, l37, l38, l39, l40, l41, l42, l43, l44, l45, l46, l47, l48, l49, l50, l51, l52, l53, l54, l55, l56, l57, l58, l59, l60, l65, l90, l96, l97, l99, l100, l101, l122, l150, l242, l255, l499, l500, l510, l800, l960, l999, l1000, l1002, l1730, l2530, l2562, l9999, l10250, l32768, l1000000, nMul, nAdd, nNegN, nLt, nLe, nEq, nNeg1, nNeg1', nEqM, nEqM', if_true, if_false, if_pos, if_neg, reduceCtorEq, Option.bind_some, o106 hS, M_groundOf hS hM hI hj hk hg, M_game hS hM hI hk hg, hown, g106_0 hS, M_all hS, hper, M_loudOf hS hM hI hj hk hg, dI_n, gT_3]
  | 4, _, bp =>
    have b0 := bW.2.2.2 4 (by decide) (by decide)
    simp (disch := omega) only [l0, l1, l2, l3, l4, l5, l6, l7, l8, l9, l10, l11, l12, l13, l14, l15, l16, l17, l18, l19, l20, l21, l22, l23, l24, l25, l26, l27, l28, l29, l30, l31, l32, l33, l34, l35, l36, l37, l38, l39, l40, l41, l42, l43, l44, l45, l46, l47, l48, l49, l50, l51, l52, l53, l54, l55, l56, l57, l58, l59, l60, l65, l90, l96, l97, l99, l100, l101, l122, l150, l242, l255, l499, l500, l510, l800, l960, l999, l1000, l1002, l1730, l2530, l2562, l9999, l10250, l32768, l1000000, nMul, nAdd, nNegN, nLt, nLe, nEq, nNeg1, nNeg1', nEqM, nEqM', if_true, if_false, if_pos, if_neg, reduceCtorEq, Option.bind_some, o106 hS, M_groundOf hS hM hI hj hk hg, M_game hS hM hI hk hg, hown, g106_0 hS, M_all hS, hper, M_loudOf hS hM hI hj hk hg, dI_n, gT_4]
    by_cases h : (G.P k).c g 4 = 0
    · have h2 : ¬ (G.P k).c g 4 = 1 := by omega
      simp only [h, if_true, Option.bind_some]
      rw [if_neg (by decide)]
    · have h2 : (G.P k).c g 4 = 1 := by omega
      simp only [h, h2, if_true, if_false, Option.bind_some, show ¬ (1 : Nat) = 0 by decide]
  | 5, _, bp =>
    have b0 := bW.2.2.2 5 (by decide) (by decide)
    have bE1 := bL.2.2.1 (10 + gO (G.L j) (G.P k) g)
    have bE2 := bL.2.2.1 (10 + gA (G.L j) (G.P k) g)
    simp (disch := omega) only [l0, l1, l2, l3, l4, l5, l6, l7, l8, l9, l10, l11, l12, l13, l14, l15, l16, l17, l18, l19, l20, l21, l22, l23, l24, l25, l26, l27, l28, l29, l30, l31, l32, l33, l34, l35, l36, l37, l38, l39, l40, l41, l42, l43, l44, l45, l46, l47, l48, l49, l50, l51, l52, l53, l54, l55, l56, l57, l58, l59, l60, l65, l90, l96, l97, l99, l100, l101, l122, l150, l242, l255, l499, l500, l510, l800, l960, l999, l1000, l1002, l1730, l2530, l2562, l9999, l10250, l32768, l1000000, nMul, nAdd, nNegN, nLt, nLe, nEq, nNeg1, nNeg1', nEqM, nEqM', if_true, if_false, if_pos, if_neg, reduceCtorEq, Option.bind_some, o106 hS, M_groundOf hS hM hI hj hk hg, M_game hS hM hI hk hg, hown, g106_0 hS, M_all hS, hper, (hM.lg hj).2.2.1, gT_5]
    by_cases h : (G.L j).r (10 + gA (G.L j) (G.P k) g) ≤ (G.L j).r (10 + gO (G.L j) (G.P k) g)
    · simp (disch := omega) only [nSub, nLe, dI_n, if_pos, Option.bind_some]
    · have : ¬ nI 0 ≤ nI ((G.L j).r (10 + gO (G.L j) (G.P k) g)) - nI ((G.L j).r (10 + gA (G.L j) (G.P k) g)) := by
        rw [nSubZ, nZ, zLe (by omega) (by omega) (by omega) (by omega)]
        omega
      simp only [this, if_false, Option.bind_some]
      rw [show (G.L j).r (10 + gO (G.L j) (G.P k) g) - (G.L j).r (10 + gA (G.L j) (G.P k) g) = 0 by omega, Nat.zero_div]
theorem gT_le {L : LgD} {W : LwD} {P : PlD} (hI : LgI L) (p : Nat) (hp : p < 6) : gT L W P g p ≤ 9999 := by
  have b3 := gN_le (L := L) (P := P) (g := g) hI
  match p, hp with
  | 0, _ => rw [gT_0]; split; (split <;> omega); omega
  | 1, _ => exact Nat.le_trans (Nat.div_le_self _ _) (hI.2.2.2.1 _)
  | 2, _ => rw [gT_2]; split; omega; (split <;> omega)
  | 3, _ => exact Nat.le_trans (Nat.div_le_self _ _) (by omega)
  | 4, _ =>
    rw [gT_4]
    split
    · exact Nat.le_trans (Nat.div_le_self _ _) (by omega)
    · omega
  | 5, _ =>
    have := hI.2.2.1 (10 + gO L P g)
    exact Nat.le_trans (Nat.div_le_self _ _) (by omega)
theorem M_partOf (hS : Sh st) (hM : ModB (cI st 107) G) (hI : GhI G) (hj : j < G.cn 0) (hi : i < G.cn 1) (hk : k < G.cn 2) (hg : g < (G.P k).n) {p : Nat} (hp : p < 6) (hn : 3000 ≤ n) : F_X11_partOf n st (some 106) (nI (510 + 150 * j)) (nI (960 + 14 * i)) (nI k) (nI g) (nI p) = some (nI (gP (G.L j) (G.W i) (G.P k) g p)) := by
  have b := hI.n1 hi
  have b1 := (hI.lw hi).2.1 p hp
  have b2 := gT_le (g := g) (W := G.W i) (P := G.P k) (hI.lg hj) p hp
  have b3 : G.W i (10 + p) * gT (G.L j) (G.W i) (G.P k) g p ≤ 50 * 9999 := Nat.mul_le_mul b1 b2
  unfold F_X11_partOf gP
  simp (disch := omega) only [l0, l1, l2, l3, l4, l5, l6, l7, l8, l9, l10, l11, l12, l13, l14, l15, l16, l17, l18, l19, l20, l21, l22, l23, l24, l25, l26, l27, l28, l29, l30, l31, l32, l33, l34, l35, l36, l37, l38, l39, l40, l41, l42, l43, l44, l45, l46, l47, l48, l49, l50, l51, l52, l53, l54, l55, l56, l57, l58, l59, l60, l65, l90, l96, l97, l99, l100, l101, l122, l150, l242, l255, l499, l500, l510, l800, l960, l999, l1000, l1002, l1730, l2530, l2562, l9999, l10250, l32768, l1000000, nMul, nAdd, nNegN, nLt, nLe, nEq, nNeg1, nNeg1', nEqM, nEqM', if_true, if_false, if_pos, if_neg, reduceCtorEq, Option.bind_some, o106 hS, g106_0 hS, M_all hS, (hM.lw hi).2.1, M_timesOf hS hM hI hj hi hk hg]
  by_cases h : G.W i (10 + p) * gT (G.L j) (G.W i) (G.P k) g p ≤ 50
  · rw [Nat.min_eq_right h]
    simp only [h, if_true, Option.bind_some]
  · rw [Nat.min_eq_left (by omega)]
    simp only [h, if_false, Option.bind_some]
/-- which part is left out -/
def lfD (st : xS) (d : Nat) : Prop := ∀ p, p < 6 → ((nI p = fI st 106 15) ↔ p = d)
theorem lfD_none (h : fI st 106 15 = -1) : lfD st 9 := fun p hp => by
  rw [h, show (nI p = (-1 : Int32)) = False from nNeg1 (by omega)]
  exact ⟨False.elim, fun h => by omega⟩
theorem lfD_some {d : Nat} (hd : d < 6) (h : fI st 106 15 = nI d) : lfD st d := fun p hp => by rw [h, nEq (by omega) (by omega)]
theorem M_edgeOf (hS : Sh st) (hM : ModB (cI st 107) G) (hI : GhI G) {d : Nat} (hd : lfD st d) (hj : j < G.cn 0) (hi : i < G.cn 1) (hk : k < G.cn 2) (hg : g < (G.P k).n) (hn : 3000 ≤ n) : F_X11_edgeOf n st (some 106) (nI (510 + 150 * j)) (nI (960 + 14 * i)) (nI k) (nI g) = some (nI (gE (gP (G.L j) (G.W i) (G.P k) g) d)) := by
  have hl : F_X11_edgeOf_L6 n n st (some 106) (nI (510 + 150 * j)) (nI (960 + 14 * i)) (nI k) (nI g) (0 : Int32) (0 : Int32) = some (nI (gE (gP (G.L j) (G.W i) (G.P k) g) d)) := by
    refine loop_run (fun m (q : Int32 × Int32) => F_X11_edgeOf_L6 n m st (some 106) (nI (510 + 150 * j)) (nI (960 + 14 * i)) (nI k) (nI g) q.1 q.2) (fun p => (nI (nS (fun p => if p = d then 0 else gP (G.L j) (G.W i) (G.P k) g p) p), nI p)) 6 _ (fun m p hp => ?_) (fun m => ?_) n (by omega)
    · dsimp only
      have h := hd p hp
      rw [F_X11_edgeOf_L6, nS]
      simp (disch := omega) only [l0, l1, l2, l3, l4, l5, l6, l7, l8, l9, l10, l11, l12, l13, l14, l15, l16, l17, l18, l19, l20, l21, l22, l23, l24, l25, l26, l27, l28, l29, l30, l31, l32, l33, l34, l35, l36, l37, l38, l39, l40, l41, l42, l43, l44, l45, l46, l47, l48, l49, l50, l51, l52, l53, l54, l55, l56, l57, l58, l59, l60, l65, l90, l96, l97, l99, l100, l101, l122, l150, l242, l255, l499, l500, l510, l800, l960, l999, l1000, l1002, l1730, l2530, l2562, l9999, l10250, l32768, l1000000, nMul, nAdd, nNegN, nLt, nLe, nEq, nNeg1, nNeg1', nEqM, nEqM', if_true, if_false, if_pos, if_neg, reduceCtorEq, Option.bind_some, o106 hS, g106_15 hS, h, M_partOf hS hM hI hj hi hk hg]
      by_cases h1 : p = d
      · simp only [h1, if_true, Option.bind_some, nAdd]
      · simp only [h1, if_false, Option.bind_some, nAdd]
    · dsimp only
      rw [F_X11_edgeOf_L6]
      simp (disch := omega) only [l0, l1, l2, l3, l4, l5, l6, l7, l8, l9, l10, l11, l12, l13, l14, l15, l16, l17, l18, l19, l20, l21, l22, l23, l24, l25, l26, l27, l28, l29, l30, l31, l32, l33, l34, l35, l36, l37, l38, l39, l40, l41, l42, l43, l44, l45, l46, l47, l48, l49, l50, l51, l52, l53, l54, l55, l56, l57, l58, l59, l60, l65, l90, l96, l97, l99, l100, l101, l122, l150, l242, l255, l499, l500, l510, l800, l960, l999, l1000, l1002, l1730, l2530, l2562, l9999, l10250, l32768, l1000000, nMul, nAdd, nNegN, nLt, nLe, nEq, nNeg1, nNeg1', nEqM, nEqM', if_true, if_false, if_pos, if_neg, reduceCtorEq]
      rfl
  unfold F_X11_edgeOf
  rw [hl]
  rfl
theorem M_ofHundred {x : Int} (h1 : -1000000 ≤ x) (h2 : x ≤ 1000000) : F_X11_ofHundred n st (zI x) = some (nI (hu x)) := by
  unfold F_X11_ofHundred hu
  by_cases h3 : 0 ≤ x
  · have a1 : (0 : Int32) ≤ zI x := by
      show zI 0 ≤ zI x
      rw [zLe (by omega) (by omega) (by omega) (by omega)]
      exact h3
    by_cases h4 : x ≤ 100
    · have a2 : zI x ≤ (100 : Int32) := by
        show zI x ≤ zI 100
        rw [zLe (by omega) (by omega) (by omega) (by omega)]
        exact h4
      simp only [a1, a2, if_true, Option.bind_some]
      rw [nZ, show ((max 0 (min 100 x)).toNat : Int) = x by omega]
    · have a2 : ¬ zI x ≤ (100 : Int32) := by
        show ¬ zI x ≤ zI 100
        rw [zLe (by omega) (by omega) (by omega) (by omega)]
        exact h4
      simp only [a1, a2, if_true, if_false, Option.bind_some]
      rw [show (max 0 (min 100 x)).toNat = 100 by omega]
      rfl
  · have a1 : ¬ (0 : Int32) ≤ zI x := by
      show ¬ zI 0 ≤ zI x
      rw [zLe (by omega) (by omega) (by omega) (by omega)]
      exact h3
    simp only [a1, if_false, Option.bind_some]
    rw [show (max 0 (min 100 x)).toNat = 0 by omega]
    rfl
theorem M_goalOf (hS : Sh st) (hM : ModB (cI st 107) G) (hI : GhI G) {d : Nat} (hd : lfD st d) (hj : j < G.cn 0) (hi : i < G.cn 1) (hk : k < G.cn 2) (hg : g < (G.P k).n) (hn : 3000 ≤ n) :
    F_X11_goalOf n st (some 106) (nI (510 + 150 * j)) (nI (960 + 14 * i)) (nI k) (nI g) 1 = some (nI (gp (G.L j) (G.W i) (G.P k) g (gE (gP (G.L j) (G.W i) (G.P k) g) d))) ∧ F_X11_goalOf n st (some 106) (nI (510 + 150 * j)) (nI (960 + 14 * i)) (nI k) (nI g) 0 = some (nI (gq (G.L j) (G.W i) (G.P k) g)) := by
  have dd := (hI.pp hk).2.1 g hg
  have b := hI.n0 hj
  have b' := hI.n1 hi
  have b0 := (hI.lw hi).1
  have b1 := (hI.lg hj).2.2.2.2.2.1 ((G.P k).c g 0) dd.1
  have b2 := (hI.lg hj).2.2.2.2.2.1 ((G.P k).c g 1) dd.2.1
  have b3 := gE_le (gP_le (G.L j) (G.W i) (G.P k) g) d
  have c1 : F_X11_ofHundred n st (nI (G.W i 0) + (nI ((G.L j).r (50 + (G.P k).c g 0)) - nI ((G.L j).r (50 + (G.P k).c g 1))) + nI (gE (gP (G.L j) (G.W i) (G.P k) g) d)) = some (nI (gp (G.L j) (G.W i) (G.P k) g (gE (gP (G.L j) (G.W i) (G.P k) g) d))) := by
    rw [nSubZ, nZ, nZ (gE _ d), zAdd, zAdd]
    exact M_ofHundred (by omega) (by omega)
  have c2 : F_X11_ofHundred n st (nI (G.W i 0) - (nI ((G.L j).r (50 + (G.P k).c g 0)) - nI ((G.L j).r (50 + (G.P k).c g 1)))) = some (nI (gq (G.L j) (G.W i) (G.P k) g)) := by
    rw [nSubZ, nZ, zSub]
    exact M_ofHundred (by omega) (by omega)
  unfold F_X11_goalOf
  constructor
  · simp (disch := omega) only [l0, l1, l2, l3, l4, l5, l6, l7, l8, l9, l10, l11, l12, l13, l14, l15, l16, l17, l18, l19, l20, l21, l22, l23, l24, l25, l26, l27, l28, l29, l30, l31, l32, l33, l34, l35, l36, l37, l38, l39, l40, l41, l42, l43, l44, l45, l46, l47, l48, l49, l50, l51, l52, l53, l54, l55, l56, l57, l58, l59, l60, l65, l90, l96, l97, l99, l100, l101, l122, l150, l242, l255, l499, l500, l510, l800, l960, l999, l1000, l1002, l1730, l2530, l2562, l9999, l10250, l32768, l1000000, nMul, nAdd, nNegN, nLt, nLe, nEq, nNeg1, nNeg1', nEqM, nEqM', if_true, if_false, if_pos, if_neg, reduceCtorEq, Option.bind_some, o106 hS, g106_0 hS, M_all hS, M_game hS hM hI hk hg, (hM.lg hj).2.2.2.2.2.2.1, (hM.lw hi).1, M_edgeOf hS hM hI hd hj hi hk hg, c1]
  · simp (disch := omega) only [l0, l1, l2, l3, l4, l5, l6, l7, l8, l9, l10, l11, l12, l13, l14, l15, l16, l17, l18, l19, l20, l21, l22, l23, l24, l25, l26, l27, l28, l29, l30, l31, l32, l33, l34, l35, l36, l37, l38, l39, l40, l41, l42, l43, l44, l45, l46, l47, l48, l49, l50, l51, l52, l53, l54, l55, l56, l57, l58, l59, l60, l65, l90, l96, l97, l99, l100, l101, l122, l150, l242, l255, l499, l500, l510, l800, l960, l999, l1000, l1002, l1730, l2530, l2562, l9999, l10250, l32768, l1000000, nMul, nAdd, nNegN, nLt, nLe, nEq, nNeg1, nNeg1', nEqM, nEqM', if_true, if_false, if_pos, if_neg, reduceCtorEq, Option.bind_some, o106 hS, g106_0 hS, M_all hS, M_game hS hM hI hk hg, (hM.lg hj).2.2.2.2.2.2.1, (hM.lw hi).1, c2]
end MW

/-! WORTH, CHANCE, RULE, LESS, BET, BEST, FAIR -/
theorem loop_ex {σ β : Type} (f : Nat → σ → Option β) (V : Nat → σ → Prop) (N : Nat) (Q : Option β → Prop) (hs : ∀ k i s, i < N → V i s → ∃ s', V (i + 1) s' ∧ f (k + 1) s = f k s') (he : ∀ k s, V N s → Q (f (k + 1) s)) : ∀ k, N < k → ∀ s, V 0 s → Q (f k s) := by
  have key : ∀ m i k s, i + m = N → m < k → V i s → Q (f k s) := by
    intro m
    induction m with
    | zero =>
      intro i k s h1 h2 h3
      obtain ⟨k, rfl⟩ : ∃ j, k = j + 1 := ⟨k - 1, by omega⟩
      exact he k s (by rw [← show i = N by omega]; exact h3)
    | succ m ih =>
      intro i k s h1 h2 h3
      obtain ⟨k, rfl⟩ : ∃ j, k = j + 1 := ⟨k - 1, by omega⟩
      obtain ⟨s', h4, h5⟩ := hs k i s (by omega) h3
      rw [h5]
      exact ih (i + 1) k s' (by omega) (by omega) h4
  exact fun k hk s h => key N 0 k s (by omega) hk h
theorem bnd {α β : Type} {o : Option α} {a : α} (h : o = some a) (f : α → Option β) : o.bind f = f a := by rw [h]; rfl
theorem nLt_t {a b : Nat} (h : a < b) (hb : b < 2147483648) : (nI a < nI b) = True := eq_true (nI_lt h (by omega))
theorem nLt_f {a b : Nat} (h : b ≤ a) (hb : a < 2147483648) : (nI a < nI b) = False := eq_false (nI_nlt h (by omega))
theorem nLe_t {a b : Nat} (h : a ≤ b) (hb : b < 2147483648) : (nI a ≤ nI b) = True := eq_true (nI_le h (by omega))
theorem nLe_f {a b : Nat} (h : b < a) (hb : a < 2147483648) : (nI a ≤ nI b) = False := eq_false (nI_ge h (by omega))
theorem nEq_t (a : Nat) : (nI a = nI a) = True := eq_self _
theorem nEq_f {a b : Nat} (h : a ≠ b) (ha : a < 2147483648) (hb : b < 2147483648) : (nI a = nI b) = False := by rw [nEq ha hb]; exact eq_false h
def Go4 (G : Gh) (l w p : Int32) (j i k : Nat) : Prop := GoP G l p j k ∧ i < G.cn 1 ∧ w = nI i
def lS (f : Nat → Int64) : Nat → Int64
  | 0 => 0
  | i + 1 => lS f i + f i
theorem lS_sub (f g : Nat → Int64) (i : Nat) : lS (fun k => f k - g k) i = lS f i - lS g i := by
  induction i with
  | zero => simp only [lS]; grind
  | succ i ih =>
    simp only [lS, ih]
    grind
section WO
variable {st : xS} {n : Nat} {G : Gh} {I : Im} {a w p : Nat} {L : LgD} {W : LwD} {P : PlD}
theorem go4Cut (G : Gh) (l w p : Int32) : (∃ j i k, Go4 G l w p j i k) ∨ ((∀ j k, ¬ GoP G l p j k) ∨ ∀ i, i < G.cn 1 → ¬ w = nI i) := by
  rcases goCut G l p with ⟨j, k, h⟩ | h
  · rcases nCut w (G.cn 1) with ⟨i, hi, hw⟩ | hw
    · exact Or.inl ⟨j, i, k, h, hi, hw⟩
    · exact Or.inr (Or.inr hw)
  · exact Or.inr (Or.inl h)
theorem wfQ {st st' : xS} (h : WF st st') : Only QC st st' := h.1.mono fun a h => by unfold QC; omega
theorem C_b4 (hR : Rel st G I) {l w p : Int32} {j i k : Nat} (hg : Go4 G l w p j i k) : ∃ st1 a w' p', F_X5_bring_ n st (some 79) (some 65) l w p = some (1, st1) ∧ Only QC st st1 ∧ MS st1 a w' p' (G.L j) (G.W i) (G.P k) := by
  obtain ⟨st1, e1, e2, e3, e4⟩ := C_bring4_t (n := n) hR hg.1 hg.2.1 hg.2.2
  obtain ⟨a, w', p', m⟩ := MS.of e2.2.2.1 e3 e4
  exact ⟨st1, a, w', p', e1, e2.mono fun a => q79, m⟩
theorem M_isGame_t (hR : Rel st G I) {l w p : Int32} {j i k g : Nat} (hg : Go4 G l w p j i k) (h : g < (G.P k).n) (hn : 3000 ≤ n) : F_X11_isGame n st (some 106) l w p (nI g) = some 1 := by
  have hS := hR.sh
  have gt := M_goes_t (n := n) hR hg.1 hn
  obtain ⟨⟨hj, hk, rfl, rfl, c⟩, hi, rfl⟩ := hg
  have c1 := (hR.inv.pp hk).1
  have i1 := M_isOf_t (n := n) hS hR.mod (w := 1) (by decide) hi (by have := hR.inv.2.1; omega)
  unfold F_X11_isGame
  simp (disch := omega) only [l0, l1, l2, l3, l4, l5, l6, l7, l8, l9, l10, l11, l12, l13, l14, l15, l16, l17, l18, l19, l20, l21, l22, l23, l24, l25, l26, l27, l28, l29, l30, l31, l32, l33, l34, l35, l36, l37, l38, l39, l40, l41, l42, l43, l44, l45, l46, l47, l48, l49, l50, l51, l52, l53, l54, l55, l56, l57, l58, l59, l60, l65, l90, l96, l97, l99, l100, l101, l122, l150, l242, l255, l499, l500, l510, l800, l960, l999, l1000, l1002, l1730, l2530, l2562, l9999, l10250, l32768, l1000000, nMul, nAdd, nNegN, nLt, nLe, nEq, nNeg1, nNeg1', nEqM, nEqM', if_true, if_false, if_pos, if_neg, reduceCtorEq, Option.bind_some, rz_bI, rz0, rz1, rzN0, rzN1, o106 hS, gt, i1, M_games hS hR.mod hR.inv hk, M_inc_t]
theorem M_isGame_f (hR : Rel st G I) {l w p x : Int32} (h : ((∀ j k, ¬ GoP G l p j k) ∨ ∀ i, i < G.cn 1 → ¬ w = nI i) ∨ ∃ j i k, Go4 G l w p j i k ∧ ∀ g, g < (G.P k).n → ¬ x = nI g) (hn : 3000 ≤ n) : F_X11_isGame n st (some 106) l w p x = some 0 := by
  have hS := hR.sh
  unfold F_X11_isGame
  rcases h with h | ⟨j, i, k, hg, hx⟩
  · rcases goCut G l p with ⟨j, k, h2⟩ | h2
    · have i1 := M_isOf_f (n := n) hS hR.mod (w := 1) (by decide) (by have := hR.inv.2.1; omega) (h.resolve_left fun q => q j k h2)
      simp (disch := omega) only [l0, l1, l2, l3, l4, l5, l6, l7, l8, l9, l10, l11, l12, l13, l14, l15, l16, l17, l18, l19, l20, l21, l22, l23, l24, l25, l26, l27, l28, l29, l30, l31, l32, l33, l34, l35, l36, l37, l38, l39, l40, l41, l42, l43, l44, l45, l46, l47, l48, l49, l50, l51, l52, l53, l54, l55, l56, l57, l58, l59, l60, l65, l90, l96, l97, l99, l100, l101, l122, l150, l242, l255, l499, l500, l510, l800, l960, l999, l1000, l1002, l1730, l2530, l2562, l9999, l10250, l32768, l1000000, nMul, nAdd, nNegN, nLt, nLe, nEq, nNeg1, nNeg1', nEqM, nEqM', if_true, if_false, if_pos, if_neg, reduceCtorEq, Option.bind_some, rz_bI, rz0, rz1, rzN0, rzN1, o106 hS, M_goes_t hR h2 hn, i1]
    · simp (disch := omega) only [l0, l1, l2, l3, l4, l5, l6, l7, l8, l9, l10, l11, l12, l13, l14, l15, l16, l17, l18, l19, l20, l21, l22, l23, l24, l25, l26, l27, l28, l29, l30, l31, l32, l33, l34, l35, l36, l37, l38, l39, l40, l41, l42, l43, l44, l45, l46, l47, l48, l49, l50, l51, l52, l53, l54, l55, l56, l57, l58, l59, l60, l65, l90, l96, l97, l99, l100, l101, l122, l150, l242, l255, l499, l500, l510, l800, l960, l999, l1000, l1002, l1730, l2530, l2562, l9999, l10250, l32768, l1000000, nMul, nAdd, nNegN, nLt, nLe, nEq, nNeg1, nNeg1', nEqM, nEqM', if_true, if_false, if_pos, if_neg, reduceCtorEq, Option.bind_some, rz_bI, rz0, rz1, rzN0, rzN1, o106 hS, M_goes_f hR h2 hn]
  · have gt := M_goes_t (n := n) hR hg.1 hn
    obtain ⟨⟨hj, hk, rfl, rfl, c⟩, hi, rfl⟩ := hg
    have c1 := (hR.inv.pp hk).1
    have i1 := M_isOf_t (n := n) hS hR.mod (w := 1) (by decide) hi (by have := hR.inv.2.1; omega)
    simp (disch := omega) only [l0, l1, l2, l3, l4, l5, l6, l7, l8, l9, l10, l11, l12, l13, l14, l15, l16, l17, l18, l19, l20, l21, l22, l23, l24, l25, l26, l27, l28, l29, l30, l31, l32, l33, l34, l35, l36, l37, l38, l39, l40, l41, l42, l43, l44, l45, l46, l47, l48, l49, l50, l51, l52, l53, l54, l55, l56, l57, l58, l59, l60, l65, l90, l96, l97, l99, l100, l101, l122, l150, l242, l255, l499, l500, l510, l800, l960, l999, l1000, l1002, l1730, l2530, l2562, l9999, l10250, l32768, l1000000, nMul, nAdd, nNegN, nLt, nLe, nEq, nNeg1, nNeg1', nEqM, nEqM', if_true, if_false, if_pos, if_neg, reduceCtorEq, Option.bind_some, rz_bI, rz0, rz1, rzN0, rzN1, o106 hS, gt, i1, M_games hS hR.mod hR.inv hk, M_inc_f hx]
theorem E_worth (hR : Rel st G I) (l w p g x : Int32) (hn : 3000 ≤ n) : ∃ v st', F_X10_worth n st (some 64) l w p g x = some (v, st') ∧ Only QC st st' ∧ ∀ st2, Rel st2 G I → F_X11_worth n st2 (some 106) l w p g x = some v := by
  have hS := hR.sh
  unfold F_X10_worth
  rcases go4Cut G l w p with ⟨j, i, k, hg⟩ | hg
  · obtain ⟨st1, a, w', p', e1, o1, m1⟩ := C_b4 (n := n) hR hg
    have S1 := m1.1
    have hj := hg.1.1
    have hk := hg.1.2.1
    have hi := hg.2.1
    have hJ := hR.inv.pp hk
    have c1 := hJ.1
    rcases nCut g (G.P k).n with ⟨g, hgn, rfl⟩ | hgx
    · have hh := C_hasGame (n := n) m1.2.2.2.2.2.2 hJ (x := g) (by omega)
      rw [bI_t hgn] at hh
      obtain ⟨st2, e2, wf, f87, f4, f5, f6, f7⟩ := C_weigh (n := n) m1 (hR.inv.lg hj) (hR.inv.lw hi) hJ hgn hn
      have S2 := (m1.wf wf).1
      have y2 : gR st1 (some 79) 5 2 = some (some p') := (g79_2 S1).trans (congrArg some m1.2.2.2.1)
      simp only [↓Option.bind_some, ↓reduceIte, ↓bnd (g64_3 hS), ↓bnd (g64_0 hS), ↓bnd (o79 hS), ↓bnd (e1), ↓bnd (g64_3 S1), ↓bnd (y2), ↓bnd (m1.2.2.2.2.2.2.o), ↓bnd (hh), ↓bnd (o79 S1), ↓bnd (e2), show ((1 : Int32) = 0) = False by decide]
      simp only [l0, l1, l2, l3, l4, l5, l6, l7, l8, l9, l10, l11, l12, l13, l14, l15, l16, l17, l18, l19, l20, l21, l22, l23, l24, l25, l26, l27, l28, l29, l30, l31, l32, l33, l34, l35, l36, l37, l38, l39, l40, l41, l42, l43, l44, l45, l46, l47, l48, l49, l50, l51, l52, l53, l54, l55, l56, l57, l58, l59, l60, l65, l90, l96, l97, l99, l100, l101, l122, l150, l242, l255, l499, l500, l510, l800, l960, l999, l1000, l1002, l1730, l2530, l2562, l9999, l10250, l32768, l1000000, nMul, nAdd, nNegN]
      have hQ := o1.trans (wfQ wf)
      have M : ∀ st3, Rel st3 G I → _ := fun st3 r3 => M_isGame_t (n := n) r3 hg hgn hn
      obtain ⟨⟨-, -, rfl, rfl, -⟩, -, rfl⟩ := hg
      rcases nCut x 10 with ⟨x, hx, rfl⟩ | hx
      · have key : ∀ v : Nat, (∀ st3, Rel st3 G I → (if (6 : Int32) ≤ nI x then
            ((if nI x = (6 : Int32) then (F_X11_edgeOf n st3 (some 106) (nI (510 + 150 * j)) (nI (960 + 14 * i)) (nI k) (nI g)).bind fun v6 => some v6 else
              if nI x = (7 : Int32) then (F_X11_loudOf n st3 (some 106) (nI (510 + 150 * j)) (nI k) (nI g)).bind fun v8 => some v8 else
                ((if nI x = (8 : Int32) then some (1 : Int32) else some (0 : Int32)) : Option Int32).bind fun q10 => (F_X11_goalOf n st3 (some 106) (nI (510 + 150 * j)) (nI (960 + 14 * i)) (nI k) (nI g) q10).bind fun v11 => some v11) : Option Int32).bind fun q13 => some q13
            else (F_X11_partOf n st3 (some 106) (nI (510 + 150 * j)) (nI (960 + 14 * i)) (nI k) (nI g) (nI x)).bind fun v14 => some v14) = some (nI v)) → ∀ st3, Rel st3 G I → F_X11_worth n st3 (some 106) (nI j) (nI i) (nI k) (nI g) (nI x) = some (nI v) := by
          intro v hv st3 r3
          have S3 := r3.sh
          have p0 : F_X11_placeOf n st3 (0 : Int32) (nI j) = _ := M_placeOf0 j
          have p1 : F_X11_placeOf n st3 (1 : Int32) (nI i) = _ := M_placeOf1 i
          have xx : F_X11_isIn n st3 (nI x) (0 : Int32) (9 : Int32) = some 1 := M_in_t (j := x) (b := 9) (by omega) (by decide)
          rw [← hv st3 r3]
          unfold F_X11_worth
          simp only [o106 S3, M st3 r3, p0, p1, xx, Option.bind_some, show ¬ (1 : Int32) = 0 by decide, if_false]
        by_cases h6 : x < 6
        · refine ⟨nI (gP (G.L j) (G.W i) (G.P k) g x), st2, ?_, hQ, key _ fun st3 r3 => ?_⟩
          · simp (disch := omega) only [l0, l1, l2, l3, l4, l5, l6, l7, l8, l9, l10, l11, l12, l13, l14, l15, l16, l17, l18, l19, l20, l21, l22, l23, l24, l25, l26, l27, l28, l29, l30, l31, l32, l33, l34, l35, l36, l37, l38, l39, l40, l41, l42, l43, l44, l45, l46, l47, l48, l49, l50, l51, l52, l53, l54, l55, l56, l57, l58, l59, l60, l65, l90, l96, l97, l99, l100, l101, l122, l150, l242, l255, l499, l500, l510, l800, l960, l999, l1000, l1002, l1730, l2530, l2562, l9999, l10250, l32768, l1000000, nMul, nAdd, nNegN, nLt, nLe, nEq, nNeg1, nNeg1', nEqM, nEqM', if_true, if_false, if_pos, if_neg, reduceCtorEq, Option.bind_some, rz_bI, rz0, rz1, rzN0, rzN1, F_X10_isPart, C_in_t, g64_3 S2, o79 S2, F_X5_worthOf, g79_3 S2, C_val (c87 S2), f87]
          · simp (disch := omega) only [l0, l1, l2, l3, l4, l5, l6, l7, l8, l9, l10, l11, l12, l13, l14, l15, l16, l17, l18, l19, l20, l21, l22, l23, l24, l25, l26, l27, l28, l29, l30, l31, l32, l33, l34, l35, l36, l37, l38, l39, l40, l41, l42, l43, l44, l45, l46, l47, l48, l49, l50, l51, l52, l53, l54, l55, l56, l57, l58, l59, l60, l65, l90, l96, l97, l99, l100, l101, l122, l150, l242, l255, l499, l500, l510, l800, l960, l999, l1000, l1002, l1730, l2530, l2562, l9999, l10250, l32768, l1000000, nMul, nAdd, nNegN, nLt, nLe, nEq, nNeg1, nNeg1', nEqM, nEqM', if_true, if_false, if_pos, if_neg, reduceCtorEq, Option.bind_some, rz_bI, rz0, rz1, rzN0, rzN1, M_partOf r3.sh r3.mod r3.inv hj hi hk hgn]
        · have e : x = 6 ∨ x = 7 ∨ x = 8 ∨ x = 9 := by omega
          rcases e with rfl | rfl | rfl | rfl
          · refine ⟨nI (gE (gP (G.L j) (G.W i) (G.P k) g) 9), st2, ?_, hQ, key _ fun st3 r3 => ?_⟩
            · simp (disch := omega) only [l0, l1, l2, l3, l4, l5, l6, l7, l8, l9, l10, l11, l12, l13, l14, l15, l16, l17, l18, l19, l20, l21, l22, l23, l24, l25, l26, l27, l28, l29, l30, l31, l32, l33, l34, l35, l36, l37, l38, l39, l40, l41, l42, l43, l44, l45, l46, l47, l48, l49, l50, l51, l52, l53, l54, l55, l56, l57, l58, l59, l60, l65, l90, l96, l97, l99, l100, l101, l122, l150, l242, l255, l499, l500, l510, l800, l960, l999, l1000, l1002, l1730, l2530, l2562, l9999, l10250, l32768, l1000000, nMul, nAdd, nNegN, nLt, nLe, nEq, nNeg1, nNeg1', nEqM, nEqM', if_true, if_false, if_pos, if_neg, reduceCtorEq, Option.bind_some, rz_bI, rz0, rz1, rzN0, rzN1, g64_3 S2, g79_4 S2, f4]
            · simp (disch := omega) only [l0, l1, l2, l3, l4, l5, l6, l7, l8, l9, l10, l11, l12, l13, l14, l15, l16, l17, l18, l19, l20, l21, l22, l23, l24, l25, l26, l27, l28, l29, l30, l31, l32, l33, l34, l35, l36, l37, l38, l39, l40, l41, l42, l43, l44, l45, l46, l47, l48, l49, l50, l51, l52, l53, l54, l55, l56, l57, l58, l59, l60, l65, l90, l96, l97, l99, l100, l101, l122, l150, l242, l255, l499, l500, l510, l800, l960, l999, l1000, l1002, l1730, l2530, l2562, l9999, l10250, l32768, l1000000, nMul, nAdd, nNegN, nLt, nLe, nEq, nNeg1, nNeg1', nEqM, nEqM', if_true, if_false, if_pos, if_neg, reduceCtorEq, Option.bind_some, rz_bI, rz0, rz1, rzN0, rzN1, M_edgeOf r3.sh r3.mod r3.inv (lfD_none r3.2.2.2.2.2.2.1) hj hi hk hgn]
          · refine ⟨nI (gN (G.L j) (G.P k) g), st2, ?_, hQ, key _ fun st3 r3 => ?_⟩
            · simp (disch := omega) only [l0, l1, l2, l3, l4, l5, l6, l7, l8, l9, l10, l11, l12, l13, l14, l15, l16, l17, l18, l19, l20, l21, l22, l23, l24, l25, l26, l27, l28, l29, l30, l31, l32, l33, l34, l35, l36, l37, l38, l39, l40, l41, l42, l43, l44, l45, l46, l47, l48, l49, l50, l51, l52, l53, l54, l55, l56, l57, l58, l59, l60, l65, l90, l96, l97, l99, l100, l101, l122, l150, l242, l255, l499, l500, l510, l800, l960, l999, l1000, l1002, l1730, l2530, l2562, l9999, l10250, l32768, l1000000, nMul, nAdd, nNegN, nLt, nLe, nEq, nNeg1, nNeg1', nEqM, nEqM', if_true, if_false, if_pos, if_neg, reduceCtorEq, Option.bind_some, rz_bI, rz0, rz1, rzN0, rzN1, g64_3 S2, g79_5 S2, f5]
            · simp (disch := omega) only [l0, l1, l2, l3, l4, l5, l6, l7, l8, l9, l10, l11, l12, l13, l14, l15, l16, l17, l18, l19, l20, l21, l22, l23, l24, l25, l26, l27, l28, l29, l30, l31, l32, l33, l34, l35, l36, l37, l38, l39, l40, l41, l42, l43, l44, l45, l46, l47, l48, l49, l50, l51, l52, l53, l54, l55, l56, l57, l58, l59, l60, l65, l90, l96, l97, l99, l100, l101, l122, l150, l242, l255, l499, l500, l510, l800, l960, l999, l1000, l1002, l1730, l2530, l2562, l9999, l10250, l32768, l1000000, nMul, nAdd, nNegN, nLt, nLe, nEq, nNeg1, nNeg1', nEqM, nEqM', if_true, if_false, if_pos, if_neg, reduceCtorEq, Option.bind_some, rz_bI, rz0, rz1, rzN0, rzN1, M_loudOf r3.sh r3.mod r3.inv hj hk hgn]
          · refine ⟨nI (gp (G.L j) (G.W i) (G.P k) g (gE (gP (G.L j) (G.W i) (G.P k) g) 9)), st2, ?_, hQ, key _ fun st3 r3 => ?_⟩
            · simp (disch := omega) only [l0, l1, l2, l3, l4, l5, l6, l7, l8, l9, l10, l11, l12, l13, l14, l15, l16, l17, l18, l19, l20, l21, l22, l23, l24, l25, l26, l27, l28, l29, l30, l31, l32, l33, l34, l35, l36, l37, l38, l39, l40, l41, l42, l43, l44, l45, l46, l47, l48, l49, l50, l51, l52, l53, l54, l55, l56, l57, l58, l59, l60, l65, l90, l96, l97, l99, l100, l101, l122, l150, l242, l255, l499, l500, l510, l800, l960, l999, l1000, l1002, l1730, l2530, l2562, l9999, l10250, l32768, l1000000, nMul, nAdd, nNegN, nLt, nLe, nEq, nNeg1, nNeg1', nEqM, nEqM', if_true, if_false, if_pos, if_neg, reduceCtorEq, Option.bind_some, rz_bI, rz0, rz1, rzN0, rzN1, g64_3 S2, g79_6 S2, f6]
            · have := (M_goalOf (n := n) r3.sh r3.mod r3.inv (lfD_none r3.2.2.2.2.2.2.1) hj hi hk hgn hn).1
              simp only [l1] at this
              simp (disch := omega) only [l0, l1, l2, l3, l4, l5, l6, l7, l8, l9, l10, l11, l12, l13, l14, l15, l16, l17, l18, l19, l20, l21, l22, l23, l24, l25, l26, l27, l28, l29, l30, l31, l32, l33, l34, l35, l36, l37, l38, l39, l40, l41, l42, l43, l44, l45, l46, l47, l48, l49, l50, l51, l52, l53, l54, l55, l56, l57, l58, l59, l60, l65, l90, l96, l97, l99, l100, l101, l122, l150, l242, l255, l499, l500, l510, l800, l960, l999, l1000, l1002, l1730, l2530, l2562, l9999, l10250, l32768, l1000000, nMul, nAdd, nNegN, nLt, nLe, nEq, nNeg1, nNeg1', nEqM, nEqM', if_true, if_false, if_pos, if_neg, reduceCtorEq, Option.bind_some, rz_bI, rz0, rz1, rzN0, rzN1, this]
          · refine ⟨nI (gq (G.L j) (G.W i) (G.P k) g), st2, ?_, hQ, key _ fun st3 r3 => ?_⟩
            · simp (disch := omega) only [l0, l1, l2, l3, l4, l5, l6, l7, l8, l9, l10, l11, l12, l13, l14, l15, l16, l17, l18, l19, l20, l21, l22, l23, l24, l25, l26, l27, l28, l29, l30, l31, l32, l33, l34, l35, l36, l37, l38, l39, l40, l41, l42, l43, l44, l45, l46, l47, l48, l49, l50, l51, l52, l53, l54, l55, l56, l57, l58, l59, l60, l65, l90, l96, l97, l99, l100, l101, l122, l150, l242, l255, l499, l500, l510, l800, l960, l999, l1000, l1002, l1730, l2530, l2562, l9999, l10250, l32768, l1000000, nMul, nAdd, nNegN, nLt, nLe, nEq, nNeg1, nNeg1', nEqM, nEqM', if_true, if_false, if_pos, if_neg, reduceCtorEq, Option.bind_some, rz_bI, rz0, rz1, rzN0, rzN1, g64_3 S2, g79_7 S2, f7]
            · have := (M_goalOf (n := n) r3.sh r3.mod r3.inv (lfD_none r3.2.2.2.2.2.2.1) hj hi hk hgn hn).2
              simp only [l0] at this
              simp (disch := omega) only [l0, l1, l2, l3, l4, l5, l6, l7, l8, l9, l10, l11, l12, l13, l14, l15, l16, l17, l18, l19, l20, l21, l22, l23, l24, l25, l26, l27, l28, l29, l30, l31, l32, l33, l34, l35, l36, l37, l38, l39, l40, l41, l42, l43, l44, l45, l46, l47, l48, l49, l50, l51, l52, l53, l54, l55, l56, l57, l58, l59, l60, l65, l90, l96, l97, l99, l100, l101, l122, l150, l242, l255, l499, l500, l510, l800, l960, l999, l1000, l1002, l1730, l2530, l2562, l9999, l10250, l32768, l1000000, nMul, nAdd, nNegN, nLt, nLe, nEq, nNeg1, nNeg1', nEqM, nEqM', if_true, if_false, if_pos, if_neg, reduceCtorEq, Option.bind_some, rz_bI, rz0, rz1, rzN0, rzN1, this]
      · refine ⟨-1, st2, ?_, hQ, fun st3 r3 => ?_⟩
        · have h6 : ∀ j, j < 6 → ¬ x = nI j := fun j hj => hx j (by omega)
          simp (disch := omega) only [l0, l1, l2, l3, l4, l5, l6, l7, l8, l9, l10, l11, l12, l13, l14, l15, l16, l17, l18, l19, l20, l21, l22, l23, l24, l25, l26, l27, l28, l29, l30, l31, l32, l33, l34, l35, l36, l37, l38, l39, l40, l41, l42, l43, l44, l45, l46, l47, l48, l49, l50, l51, l52, l53, l54, l55, l56, l57, l58, l59, l60, l65, l90, l96, l97, l99, l100, l101, l122, l150, l242, l255, l499, l500, l510, l800, l960, l999, l1000, l1002, l1730, l2530, l2562, l9999, l10250, l32768, l1000000, nMul, nAdd, nNegN, nLt, nLe, nEq, nNeg1, nNeg1', nEqM, nEqM', if_true, if_false, if_pos, if_neg, reduceCtorEq, Option.bind_some, rz_bI, rz0, rz1, rzN0, rzN1, F_X10_isPart, C_in_f h6, hx 6 (by decide), hx 7 (by decide), hx 8 (by decide), hx 9 (by decide)]
        · unfold F_X11_worth
          simp (disch := omega) only [l0, l1, l2, l3, l4, l5, l6, l7, l8, l9, l10, l11, l12, l13, l14, l15, l16, l17, l18, l19, l20, l21, l22, l23, l24, l25, l26, l27, l28, l29, l30, l31, l32, l33, l34, l35, l36, l37, l38, l39, l40, l41, l42, l43, l44, l45, l46, l47, l48, l49, l50, l51, l52, l53, l54, l55, l56, l57, l58, l59, l60, l65, l90, l96, l97, l99, l100, l101, l122, l150, l242, l255, l499, l500, l510, l800, l960, l999, l1000, l1002, l1730, l2530, l2562, l9999, l10250, l32768, l1000000, nMul, nAdd, nNegN, nLt, nLe, nEq, nNeg1, nNeg1', nEqM, nEqM', if_true, if_false, if_pos, if_neg, reduceCtorEq, Option.bind_some, rz_bI, rz0, rz1, rzN0, rzN1, o106 r3.sh, M st3 r3, M_in_f hx]
    · have hh := C_hasGame_neg (n := n) m1.2.2.2.2.2.2 (nOut (by omega) hgx)
      refine ⟨-1, st1, ?_, o1, fun st3 r3 => ?_⟩
      · have y2 : gR st1 (some 79) 5 2 = some (some p') := (g79_2 S1).trans (congrArg some m1.2.2.2.1)
        simp only [↓Option.bind_some, ↓reduceIte, ↓bnd (g64_3 hS), ↓bnd (g64_0 hS), ↓bnd (o79 hS), ↓bnd (e1), ↓bnd (g64_3 S1), ↓bnd (y2), ↓bnd (m1.2.2.2.2.2.2.o), ↓bnd (hh), show ((1 : Int32) = 0) = False by decide]
      · unfold F_X11_worth
        simp (disch := omega) only [l0, l1, l2, l3, l4, l5, l6, l7, l8, l9, l10, l11, l12, l13, l14, l15, l16, l17, l18, l19, l20, l21, l22, l23, l24, l25, l26, l27, l28, l29, l30, l31, l32, l33, l34, l35, l36, l37, l38, l39, l40, l41, l42, l43, l44, l45, l46, l47, l48, l49, l50, l51, l52, l53, l54, l55, l56, l57, l58, l59, l60, l65, l90, l96, l97, l99, l100, l101, l122, l150, l242, l255, l499, l500, l510, l800, l960, l999, l1000, l1002, l1730, l2530, l2562, l9999, l10250, l32768, l1000000, nMul, nAdd, nNegN, nLt, nLe, nEq, nNeg1, nNeg1', nEqM, nEqM', if_true, if_false, if_pos, if_neg, reduceCtorEq, Option.bind_some, rz_bI, rz0, rz1, rzN0, rzN1, o106 r3.sh, M_isGame_f r3 (Or.inr ⟨j, i, k, hg, hgx⟩)]
  · refine ⟨-1, st, ?_, Only.refl hS, fun st3 r3 => ?_⟩
    · simp only [↓Option.bind_some, ↓reduceIte, ↓bnd (g64_3 hS), ↓bnd (g64_0 hS), ↓bnd (o79 hS), ↓bnd (C_bring4_f hR hg)]
    · unfold F_X11_worth
      simp (disch := omega) only [l0, l1, l2, l3, l4, l5, l6, l7, l8, l9, l10, l11, l12, l13, l14, l15, l16, l17, l18, l19, l20, l21, l22, l23, l24, l25, l26, l27, l28, l29, l30, l31, l32, l33, l34, l35, l36, l37, l38, l39, l40, l41, l42, l43, l44, l45, l46, l47, l48, l49, l50, l51, l52, l53, l54, l55, l56, l57, l58, l59, l60, l65, l90, l96, l97, l99, l100, l101, l122, l150, l242, l255, l499, l500, l510, l800, l960, l999, l1000, l1002, l1730, l2530, l2562, l9999, l10250, l32768, l1000000, nMul, nAdd, nNegN, nLt, nLe, nEq, nNeg1, nNeg1', nEqM, nEqM', if_true, if_false, if_pos, if_neg, reduceCtorEq, Option.bind_some, rz_bI, rz0, rz1, rzN0, rzN1, o106 r3.sh, M_isGame_f r3 (Or.inl hg)]
end WO

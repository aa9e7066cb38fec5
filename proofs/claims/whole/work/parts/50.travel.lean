/-! TRAVEL, TURNED: the model, and both -/
theorem gO_sw {L : LgD} {P : PlD} {e g : Nat} (h : g ≠ e) : gO L (sw P e) g = gO L P g := by
  unfold gO
  rw [sw_0, if_neg h, sw_e]
theorem tr_out {L : LgD} {P : PlD} {e : Nat} (he : P.n ≤ e) (s : Nat) : tr L (sw P e) s = tr L P s := by
  have key : ∀ g, g ≤ P.n → ps L (sw P e) s g = ps L P s g ∧ wd L (sw P e) s g = wd L P s g := by
    intro g
    induction g with
    | zero => exact fun _ => ⟨rfl, rfl⟩
    | succ g ih =>
      intro hg
      have i := ih (by omega)
      have hge : g ≠ e := by omega
      have q0 : (sw P e).c g 0 = P.c g 0 := by rw [sw_0, if_neg hge]
      have q1 : (sw P e).c g 1 = P.c g 1 := by rw [sw_1, if_neg hge]
      unfold ps wd
      rw [q0, q1, gO_sw hge, i.1, i.2]
      exact ⟨rfl, rfl⟩
  have k := key P.n (Nat.le_refl _)
  unfold tr
  rw [sw_n, k.1, k.2]
theorem nS_ext {f g : Nat → Nat} {N : Nat} (h : ∀ i, i < N → f i = g i) : nS f N = nS g N := by
  induction N with
  | zero => rfl
  | succ N ih => simp only [nS, ih fun i hi => h i (by omega), h N (by omega)]
section TV
variable {st st1 : xS} {n : Nat} {G : Gh} {I : Im} {a p j k : Nat} {L : LgD} {P : PlD}
theorem M_plays2 (hS : Sh st) (hM : ModB (cI st 107) G) (hI : GhI G) {g s : Nat} (hk : k < G.cn 2) (hg : g < (G.P k).n) (hs : s < 2147483648) : F_X11_plays n st (some 106) (nI k) (nI g) (nI s) = some (nI (if (G.P k).c g 0 = s ∨ (G.P k).c g 1 = s then 1 else 0)) := by
  have d := (hI.pp hk).2.1 g hg
  unfold F_X11_plays
  simp (disch := omega) only [l0, l1, l2, l3, l4, l5, l6, l7, l8, l9, l10, l11, l12, l13, l14, l15, l16, l17, l18, l19, l20, l21, l22, l23, l24, l25, l26, l27, l28, l29, l30, l31, l32, l33, l34, l35, l36, l37, l38, l39, l40, l41, l42, l43, l44, l45, l46, l47, l48, l49, l50, l51, l52, l53, l54, l55, l56, l57, l58, l59, l60, l65, l90, l96, l97, l99, l100, l101, l122, l150, l242, l255, l499, l500, l510, l800, l960, l999, l1000, l1002, l1730, l2530, l2562, l9999, l10250, l32768, l1000000, nMul, nAdd, nNegN, nLt, nLe, nEq, nNeg1, nNeg1', nEqM, nEqM', if_true, if_false, if_pos, if_neg, reduceCtorEq, Option.bind_some, rz_bI, rz0, rz1, rzN0, rzN1, o106 hS, M_game hS hM hI hk hg]
  by_cases h1 : (G.P k).c g 0 = s
  · simp only [h1, if_true, true_or, Option.bind_some, rzN1]
  · by_cases h2 : (G.P k).c g 1 = s
    · simp only [h1, h2, if_true, if_false, or_true, Option.bind_some, rzN1]
    · simp only [h1, h2, if_false, or_self, Option.bind_some, rzN0]
theorem M_milesOf (hS : Sh st) (hM : ModB (cI st 107) G) (hI : GhI G) {x y : Nat} (hj : j < G.cn 0) (hx : x < 10) (hy : y < 10) : F_X11_milesOf n st (some 106) (nI (510 + 150 * j)) (nI x) (nI y) = some (nI ((G.L j).d (10 * x + y))) := by
  have b := hI.n0 hj
  unfold F_X11_milesOf
  simp (disch := omega) only [l0, l1, l2, l3, l4, l5, l6, l7, l8, l9, l10, l11, l12, l13, l14, l15, l16, l17, l18, l19, l20, l21, l22, l23, l24, l25, l26, l27, l28, l29, l30, l31, l32, l33, l34, l35, l36, l37, l38, l39, l40, l41, l42, l43, l44, l45, l46, l47, l48, l49, l50, l51, l52, l53, l54, l55, l56, l57, l58, l59, l60, l65, l90, l96, l97, l99, l100, l101, l122, l150, l242, l255, l499, l500, l510, l800, l960, l999, l1000, l1002, l1730, l2530, l2562, l9999, l10250, l32768, l1000000, nMul, nAdd, nNegN, g106_0 hS, M_all hS, Option.bind_some, (hM.lg hj).2.2.2.2.2.2.2 x y hx hy]
theorem M_travelOf (hS : Sh st) (hM : ModB (cI st 107) G) (hI : GhI G) (hj : j < G.cn 0) (hk : k < G.cn 2) {s : Nat} (hs : s < 8) (hn : 3000 ≤ n) : F_X11_travelOf n st (some 106) (nI (510 + 150 * j)) (nI k) (nI s) = some (nI (tr (G.L j) (G.P k) s)) := by
  have c1 := (hI.pp hk).1
  have o := (hI.lg hj).2.2.2.2.2.2.1 s hs
  have hl : F_X11_travelOf_L14 n n st (some 106) (nI (510 + 150 * j)) (nI k) (nI s) (nI ((G.L j).r (40 + s))) (0 : Int32) (0 : Int32) = some (nI (ps (G.L j) (G.P k) s (G.P k).n), nI (wd (G.L j) (G.P k) s (G.P k).n)) := by
    refine loop_run (fun m (q : Int32 × Int32 × Int32) => F_X11_travelOf_L14 n m st (some 106) (nI (510 + 150 * j)) (nI k) (nI s) q.1 q.2.1 q.2.2) (fun g => (nI (ps (G.L j) (G.P k) s g), nI (wd (G.L j) (G.P k) s g), nI g)) (G.P k).n _ (fun m g hg => ?_) (fun m => ?_) n (by omega)
    · dsimp only
      have b0 := ps_lt (hI.lg hj) (hI.pp hk) hs g (Nat.le_of_lt hg)
      have b1 := gO_lt (hI.lg hj) (hI.pp hk) hg
      rw [F_X11_travelOf_L14, ps, wd]
      dsimp only
      simp (disch := omega) only [↓Option.bind_some, ↓reduceIte, ↓bnd (o106 hS), ↓bnd (M_games hS hM hI hk), ↓bnd (M_plays2 hS hM hI hk hg (show s < 2147483648 by omega)), nLe_f, nI_1]
      by_cases h : (G.P k).c g 0 = s ∨ (G.P k).c g 1 = s
      · simp only [h, if_true, show (nI 1 = (0 : Int32)) = False from eq_false (by decide), if_false, Option.bind_some, M_groundOf hS hM hI hj hk hg, M_milesOf hS hM hI hj b0 b1, nAdd]
      · simp only [h, if_false, show (nI 0 = (0 : Int32)) = True from eq_true rfl, if_true, Option.bind_some]
    · dsimp only
      rw [F_X11_travelOf_L14]
      dsimp only
      simp (disch := omega) only [↓Option.bind_some, ↓reduceIte, ↓bnd (o106 hS), ↓bnd (M_games hS hM hI hk), nLe_t]
  unfold F_X11_travelOf tr
  simp only [↓Option.bind_some, ↓bnd (o106 hS), ↓bnd (M_own hS hM hI hj hs), ↓bnd (hl), ↓bnd (M_milesOf hS hM hI hj (ps_lt (hI.lg hj) (hI.pp hk) hs _ (Nat.le_refl _)) o), nAdd]
theorem M_travelAll (hS : Sh st) (hM : ModB (cI st 107) G) (hI : GhI G) (hj : j < G.cn 0) (hk : k < G.cn 2) (hn : 3000 ≤ n) : F_X11_travelAll n st (some 106) (nI (510 + 150 * j)) (nI k) = some (nI (nS (tr (G.L j) (G.P k)) (G.L j).s)) := by
  have b := hI.n0 hj
  have b2 := (hI.lg hj).2.1
  have hl : F_X11_travelAll_L5 n n st (some 106) (nI (510 + 150 * j)) (nI k) (0 : Int32) (0 : Int32) = some (nI (nS (tr (G.L j) (G.P k)) (G.L j).s)) := by
    have r1 : aI st (some 107) (nI (510 + 150 * j) + (1 : Int32)) = some (nI (G.L j).s) := by
      rw [nI_1, M_all hS (by omega), (hM.lg hj).2.1]
    refine loop_run (fun m (q : Int32 × Int32) => F_X11_travelAll_L5 n m st (some 106) (nI (510 + 150 * j)) (nI k) q.1 q.2) (fun i => (nI (nS (tr (G.L j) (G.P k)) i), nI i)) (G.L j).s _ (fun m i hi => ?_) (fun m => ?_) n (by omega)
    · dsimp only
      rw [F_X11_travelAll_L5, nS]
      dsimp only
      simp (disch := omega) only [↓Option.bind_some, ↓reduceIte, ↓bnd (g106_0 hS), ↓bnd (r1), ↓bnd (o106 hS), ↓bnd (M_travelOf hS hM hI hj hk (show i < 8 by omega) hn), nLe_f, nI_1, nAdd]
    · dsimp only
      rw [F_X11_travelAll_L5]
      dsimp only
      simp (disch := omega) only [↓Option.bind_some, ↓reduceIte, ↓bnd (g106_0 hS), ↓bnd (r1), nLe_t]
  unfold F_X11_travelAll
  simp only [↓Option.bind_some, ↓bnd (hl)]
/-- one plan's game exchanged -/
def swG (G : Gh) (k e : Nat) : Gh := (G.cn, G.tl, G.fl, G.pl, G.tp, G.L, G.W, (fun i => if i = k then sw (G.P k) e else G.P i), G.nt, G.fm, G.fg)
theorem swG_P (G : Gh) (k e : Nat) : (swG G k e).P k = sw (G.P k) e := if_pos rfl
theorem swG_I (hI : GhI G) (e : Nat) : GhI (swG G k e) := by
  obtain ⟨h1, h2, h3, h4, h5, h6, h7, h8, h9, h10, h11⟩ := hI
  refine ⟨h1, h2, h3, h4, h5, h6, h7, h8, h9, fun i hi => ?_, h11⟩
  show PlI (if i = k then sw (G.P k) e else G.P i)
  by_cases h : i = k
  · rw [if_pos h, ← h]
    exact sw_I (h10 i hi) e
  · rw [if_neg h]
    exact h10 i hi
def exB (B : Nat → Int32) (q : Nat) : Nat → Int32 := upd (upd B q (B (q + 1))) (q + 1) (B q)
theorem exB_0 (B : Nat → Int32) (q : Nat) : exB B q q = B (q + 1) := by unfold exB; rw [pk_un (by omega), upd_s]
theorem exB_1 (B : Nat → Int32) (q : Nat) : exB B q (q + 1) = B q := upd_s _ _ _
theorem exB_o (B : Nat → Int32) {q i : Nat} (h0 : i ≠ q) (h1 : i ≠ q + 1) : exB B q i = B i := by unfold exB; rw [pk_un h1, pk_un h0]
theorem exB_2 (B : Nat → Int32) (q : Nat) : exB (exB B q) q = B := by
  funext i
  by_cases h0 : i = q
  · rw [h0, exB_0, exB_1]
  · by_cases h1 : i = q + 1
    · rw [h1, exB_1, exB_0]
    · rw [exB_o _ h0 h1, exB_o _ h0 h1]
theorem swG_M {B : Nat → Int32} (hM : ModB B G) (hI : GhI G) (hk : k < G.cn 2) {e : Nat} (he : e < (G.P k).n) : ModB (exB B (1002 + 242 * k + 1 + 6 * e)) (swG G k e) := by
  have b0 := hI.1
  have b1 := hI.2.1
  have b2 := hI.2.2.1
  have b3 := hI.2.2.2.1
  have c1 := (hI.pp hk).1
  obtain ⟨h1, h2, h3, h4, h5, h6, h7, h8, h9, h10⟩ := hM
  have o : ∀ i, i < 1002 ∨ 1730 ≤ i → exB B (1002 + 242 * k + 1 + 6 * e) i = B i := fun i hi => exB_o B (by omega) (by omega)
  refine ⟨fun w hw => (o w (by omega)).trans (h1 w hw), (o 4 (by omega)).trans h2, (o 5 (by omega)).trans h3, (o 6 (by omega)).trans h4, fun i hi => (o _ (by omega)).trans (h5 i hi), fun i hi => ?_, fun i hi => ?_, fun i hi => ?_, fun i w hi hw => (o _ (by omega)).trans (h9 i w hi hw), fun i hi => ?_⟩
  · have hi : i < G.cn 0 := hi
    obtain ⟨g1, g2, g3, g4, g5, g6, g7, g8⟩ := h6 i hi
    exact ⟨(o _ (by omega)).trans g1, (o _ (by omega)).trans g2, fun x hx => (o _ (by omega)).trans (g3 x hx), fun x hx => (o _ (by omega)).trans (g4 x hx), fun x hx => (o _ (by omega)).trans (g5 x hx), fun x hx => (o _ (by omega)).trans (g6 x hx), fun x hx => (o _ (by omega)).trans (g7 x hx), fun x y hx hy => (o _ (by omega)).trans (g8 x y hx hy)⟩
  · have hi : i < G.cn 1 := hi
    obtain ⟨g1, g2, g3⟩ := h7 i hi
    exact ⟨(o _ (by omega)).trans g1, fun x hx => (o _ (by omega)).trans (g2 x hx), fun x hx => (o _ (by omega)).trans (g3 x hx)⟩
  · have hi : i < G.cn 2 := hi
    obtain ⟨g1, g2, g3⟩ := h8 i hi
    have c2 := (hI.pp hi).1
    show PlM _ _ (if i = k then sw (G.P k) e else G.P i)
    by_cases h : i = k
    · subst h
      rw [if_pos rfl]
      refine ⟨(exB_o B (by omega) (by omega)).trans g1, fun g w hg hw => ?_, fun g hg => ?_⟩
      · have hg : g < (G.P i).n := hg
        by_cases h1 : g = e
        · subst h1
          rcases Nat.lt_or_ge w 2 with h2 | h2
          · rcases (show w = 0 ∨ w = 1 by omega) with rfl | rfl
            · rw [sw_0, if_pos rfl, ← g2 g 1 hg (by decide)]
              exact exB_0 B _
            · rw [sw_1, if_pos rfl, ← g2 g 0 hg (by decide)]
              exact exB_1 B _
          · rw [sw_w _ _ _ _ h2, ← g2 g w hg hw]
            exact exB_o B (by omega) (by omega)
        · rw [show (sw (G.P i) e).c g w = (G.P i).c g w from by
            rcases Nat.lt_or_ge w 2 with h2 | h2
            · rcases (show w = 0 ∨ w = 1 by omega) with rfl | rfl
              · rw [sw_0, if_neg h1]
              · rw [sw_1, if_neg h1]
            · rw [sw_w _ _ _ _ h2], ← g2 g w hg hw]
          exact exB_o B (by omega) (by omega)
      · have hg : g < (G.P i).n := hg
        rw [sw_e, ← g3 g hg]
        exact exB_o B (by omega) (by omega)
    · rw [if_neg h]
      refine ⟨(exB_o B (by omega) (by omega)).trans g1, fun g w hg hw => ?_, fun g hg => ?_⟩
      · rw [← g2 g w hg hw]
        exact exB_o B (by omega) (by omega)
      · rw [← g3 g hg]
        exact exB_o B (by omega) (by omega)
  · rw [o _ (by omega), o _ (by omega), o _ (by omega), o _ (by omega)]
    exact h10 i hi
theorem M_exchanges (hS : Sh st) (hI : GhI G) (hk : k < G.cn 2) {e : Nat} (he : e < (G.P k).n) : F_X11_exchanges n st (some 106) (nI k) (nI e) = some (wA st 107 (exB (cI st 107) (1002 + 242 * k + 1 + 6 * e))) := by
  have c1 := (hI.pp hk).1
  have b2 := hI.2.2.1
  have p2 : F_X11_placeOf n st (2 : Int32) (nI k) = _ := M_placeOf2 k
  have q1 : nI (1002 + 242 * k) + (1 : Int32) + (6 : Int32) * nI e = nI (1002 + 242 * k + 1 + 6 * e) := by simp only [l0, l1, l2, l3, l4, l5, l6, l7, l8, l9, l10, l11, l12, l13, l14, l15, l16, l17, l18, l19, l20, l21, l22, l23, l24, l25, l26, l27, l28, l29, l30, l31, l32, l33, l34, l35, l36, l37, l38, l39, l40, l41, l42, l43, l44, l45, l46, l47, l48, l49, l50, l51, l52, l53, l54, l55, l56, l57, l58, l59, l60, l65, l90, l96, l97, l99, l100, l101, l122, l150, l242, l255, l499, l500, l510, l800, l960, l999, l1000, l1002, l1730, l2530, l2562, l9999, l10250, l32768, l1000000, nMul, nAdd, nNegN]
  have q2 : nI (1002 + 242 * k + 1 + 6 * e) + (1 : Int32) = nI (1002 + 242 * k + 1 + 6 * e + 1) := by simp only [l0, l1, l2, l3, l4, l5, l6, l7, l8, l9, l10, l11, l12, l13, l14, l15, l16, l17, l18, l19, l20, l21, l22, l23, l24, l25, l26, l27, l28, l29, l30, l31, l32, l33, l34, l35, l36, l37, l38, l39, l40, l41, l42, l43, l44, l45, l46, l47, l48, l49, l50, l51, l52, l53, l54, l55, l56, l57, l58, l59, l60, l65, l90, l96, l97, l99, l100, l101, l122, l150, l242, l255, l499, l500, l510, l800, l960, l999, l1000, l1002, l1730, l2530, l2562, l9999, l10250, l32768, l1000000, nMul, nAdd, nNegN]
  have r0 := M_all hS (show 1002 + 242 * k + 1 + 6 * e < 10250 by omega)
  have r1 := M_all hS (show 1002 + 242 * k + 1 + 6 * e + 1 < 10250 by omega)
  have hq : 1002 + 242 * k + 1 + 6 * e + 1 < 10250 := by omega
  generalize 1002 + 242 * k + 1 + 6 * e = q at *
  have w0 : sS 0 st (some 107) (nI q) (cI st 107 (q + 1)) = some (wA st 107 (upd (cI st 107) q (cI st 107 (q + 1)))) := by rw [w107 hS, if_pos (ixT (by omega) (by decide)), nIc (by omega)]
  have S1 : Sh (wA st 107 (upd (cI st 107) q (cI st 107 (q + 1)))) := shw_A hS _ _
  have w1 : sS 0 (wA st 107 (upd (cI st 107) q (cI st 107 (q + 1)))) (some 107) (nI (q + 1)) (cI st 107 q) = some (wA st 107 (exB (cI st 107) q)) := by rw [w107 S1, if_pos (ixT (by omega) (by decide)), nIc (by omega), k107 hS, wA_w]; rfl
  unfold F_X11_exchanges
  simp only [↓Option.bind_some, q1, q2, ↓bnd (p2), ↓bnd (g106_0 hS), ↓bnd (r0), ↓bnd (r1), ↓bnd (w0), ↓bnd (g106_0 S1), ↓bnd (w1)]
theorem wA_id (hS : Sh st) (f : Nat → Int32) : wA (wA st 107 f) 107 (cI st 107) = st := by
  rw [wA_w]
  have h := c107 hS
  have e : wA st 107 (cI st 107) = xup st 107 (.inl (0, 10250, .inl (cI st 107))) := by
    rcases wA_at st 107 (cI st 107) with ⟨t, m, g, h1, h2⟩ | ⟨h1, h2⟩
    · rw [h] at h1
      injection h1 with h1
      injection h1 with h3 h4
      injection h4 with h4 h5
      rw [h2, ← h3, ← h4]
    · exact absurd h (h1 _ _ _)
  rw [e]
  have f : (fun q => if q = 107 then (.inl (0, 10250, .inl (cI st 107)) : xC) else st.2.2 q) = st.2.2 := by
    funext q
    by_cases hb : q = 107
    · rw [if_pos hb, hb, h]
    · rw [if_neg hb]
  show (st.1, st.2.1, fun q => if q = 107 then _ else st.2.2 q) = st
  rw [f]
theorem M_len (hS : Sh st) (hM : ModB (cI st 107) G) (hI : GhI G) (hj : j < G.cn 0) : aI st (some 107) (nI (510 + 150 * j) + (1 : Int32)) = some (nI (G.L j).s) := by
  have b := hI.n0 hj
  rw [nI_1, M_all hS (by omega), (hM.lg hj).2.1]
theorem C_goB (hR : Rel st G I) {l p : Int32} {j k : Nat} (hg : GoP G l p j k) : ∃ st1 a p', F_X5_bring n st (some 79) (some 65) l p = some (1, st1) ∧ Only QC st st1 ∧ MB st1 a p' (G.L j) (G.P k) := by
  obtain ⟨st1, e1, o1, ⟨a, p', f0, f2, hL, hP⟩, -⟩ := C_bring_t (n := n) hR hg
  exact ⟨st1, a, p', e1, o1.mono fun a => q79, o1.2.2.1, f0, f2, hL, hP⟩
theorem E_travel (hR : Rel st G I) (l p s : Int32) (hn : 3000 ≤ n) : ∃ v st', F_X10_travel n st (some 64) l p s = some (v, st') ∧ Only QC st st' ∧ ∀ st2, Rel st2 G I → F_X11_travel n st2 (some 106) l p s = some v := by
  have hS := hR.sh
  unfold F_X10_travel
  rcases goCut G l p with ⟨j, k, hg⟩ | hg
  · obtain ⟨st1, a, p', e1, o1, m1⟩ := C_goB (n := n) hR hg
    have S1 := m1.1
    have hj := hg.1
    have hk := hg.2.1
    have hf := hg.2.2.2.2.1
    have hI := hR.inv.lg hj
    have hJ := hR.inv.pp hk
    have c1 := hJ.1
    have c2 := hI.2.1
    have M := fun st3 (r3 : Rel st3 G I) => M_goes_t (n := n) r3 hg hn
    obtain ⟨-, -, rfl, rfl, -⟩ := hg
    have p0 : ∀ s, F_X11_placeOf n s (0 : Int32) (nI j) = _ := fun s => M_placeOf0 j
    rcases nCut s (G.L j).s with ⟨s, hs, rfl⟩ | hs
    · have hh := C_hasSide (n := n) m1.2.2.2.1 hI (x := s) (by omega)
      rw [bI_t hs] at hh
      obtain ⟨st2, e2, q2, v2⟩ := C_walk (n := n) (e := 99) (x := -1) m1 hI hJ (fun g hg => by rw [nNeg1 (by omega)]; exact ⟨False.elim, fun h => by omega⟩) hn
      have m2 := m1.wq q2
      have S2 := m2.1
      have v : F_X10_valueAt n st2 (some 89) (nI s) = some (nI (tr (G.L j) (G.P k) s)) := by rw [C_val (c89 S2) (by omega) (by decide), v2 s (by omega), tr_out (by omega)]
      refine ⟨nI (tr (G.L j) (G.P k) s), st2, ?_, o1.trans q2.1, fun st3 r3 => ?_⟩
      · unfold F_X5_walkedBy
        simp only [↓Option.bind_some, ↓reduceIte, ↓bnd (g64_3 hS), ↓bnd (g64_0 hS), ↓bnd (o79 hS), ↓bnd (e1), ↓bnd (g64_3 S1), ↓bnd (m1.y0), ↓bnd (m1.2.2.2.1.o), ↓bnd (hh), ↓bnd (o79 S1), ↓bnd (e2), ↓bnd (g64_3 S2), ↓bnd (o79 S2), ↓bnd (g79_9 S2), ↓bnd (v), i10]
      · have xi : F_X11_isIn n st3 (nI s) (0 : Int32) (nI (G.L j).s - (1 : Int32)) = some 1 := M_inc_t hs (by omega)
        unfold F_X11_travel
        simp only [↓Option.bind_some, ↓reduceIte, ↓bnd (o106 r3.sh), ↓bnd (M st3 r3), ↓bnd (g106_0 r3.sh), ↓bnd (p0 st3), ↓bnd (M_len r3.sh r3.mod r3.inv hj), ↓bnd (xi), ↓bnd (M_travelOf r3.sh r3.mod r3.inv hj hk (show s < 8 by omega) hn), i10]
    · have hh := C_hasSide_neg (n := n) m1.2.2.2.1 hI (nOut (by omega) hs)
      refine ⟨-1, st1, ?_, o1, fun st3 r3 => ?_⟩
      · simp only [↓Option.bind_some, ↓reduceIte, ↓bnd (g64_3 hS), ↓bnd (g64_0 hS), ↓bnd (o79 hS), ↓bnd (e1), ↓bnd (g64_3 S1), ↓bnd (m1.y0), ↓bnd (m1.2.2.2.1.o), ↓bnd (hh), i10]
      · have xi : F_X11_isIn n st3 s (0 : Int32) (nI (G.L j).s - (1 : Int32)) = some 0 := M_inc_f hs (by omega)
        unfold F_X11_travel
        simp only [↓Option.bind_some, ↓reduceIte, ↓bnd (o106 r3.sh), ↓bnd (M st3 r3), ↓bnd (g106_0 r3.sh), ↓bnd (p0 st3), ↓bnd (M_len r3.sh r3.mod r3.inv hj), ↓bnd (xi), i10]
  · refine ⟨-1, st, ?_, Only.refl hS, fun st3 r3 => ?_⟩
    · simp only [↓Option.bind_some, ↓reduceIte, ↓bnd (g64_3 hS), ↓bnd (g64_0 hS), ↓bnd (o79 hS), ↓bnd (C_bring_f hR hg)]
    · unfold F_X11_travel
      simp only [↓Option.bind_some, ↓reduceIte, ↓bnd (o106 r3.sh), ↓bnd (M_goes_f r3 hg hn)]
/-- the least way round, and by which exchange -/
def bt (T : Nat → Nat) (t : Nat) : Nat → Nat × Int32
  | 0 => (t, -1)
  | e + 1 => if T e < (bt T t e).1 then (T e, nI e) else bt T t e
theorem bt_le {T : Nat → Nat} {t b : Nat} (ht : t ≤ b) (hT : ∀ e, T e ≤ b) (e : Nat) : (bt T t e).1 ≤ b := by
  induction e with
  | zero => exact ht
  | succ e ih => unfold bt; split; exact hT e; exact ih
theorem E_turned (hR : Rel st G I) (l p : Int32) (hn : 3000 ≤ n) : ∃ v st', F_X10_turned n st (some 64) l p = some (v, st') ∧ Only QC st st' ∧ ∀ st2, Rel st2 G I → F_X11_turned n st2 (some 106) l p = some (v, st2) := by
  have hS := hR.sh
  unfold F_X10_turned
  rcases goCut G l p with ⟨j, k, hg⟩ | hg
  · obtain ⟨st1, a, p', e1, o1, m1⟩ := C_goB (n := n) hR hg
    have S1 := m1.1
    have hj := hg.1
    have hk := hg.2.1
    have hf := hg.2.2.2.2.1
    have hI := hR.inv.lg hj
    have hJ := hR.inv.pp hk
    have c1 := hJ.1
    have c2 := hI.2.1
    have M := fun st3 (r3 : Rel st3 G I) => M_goes_t (n := n) r3 hg hn
    obtain ⟨-, -, rfl, rfl, -⟩ := hg
    have p0 : ∀ s, F_X11_placeOf n s (0 : Int32) (nI j) = _ := fun s => M_placeOf0 j
    obtain ⟨st2, e2, q2, v2⟩ := C_walk (n := n) (e := 99) (x := -1) m1 hI hJ (fun g hg => by rw [nNeg1 (by omega)]; exact ⟨False.elim, fun h => by omega⟩) hn
    rw [tr_all hI (sw_I hJ 99) hf, nS_ext (fun s _ => tr_out (by omega) s)] at e2
    have m2 := m1.wq q2
    have S2 := m2.1
    generalize hT : (fun e => nS (tr (G.L j) (sw (G.P k) e)) (G.L j).s) = T
    have hTe : ∀ e, nS (tr (G.L j) (sw (G.P k) e)) (G.L j).s = T e := fun e => by rw [← hT]
    generalize ht : nS (tr (G.L j) (G.P k)) (G.L j).s = t at *
    have bT : ∀ e, T e ≤ 3279672 := fun e => by rw [← hT]; exact Nat.le_trans (nS_le (fun s => tr_le hI (sw_I hJ e) s) _) (by omega)
    have bt0 : t ≤ 3279672 := by rw [← ht]; exact Nat.le_trans (nS_le (fun s => tr_le hI hJ s) _) (by omega)
    have hl : ∃ st3, F_X10_turned_L33 n n st2 (some 64) (nI t) (-1 : Int32) (0 : Int32) = some ((bt T t (G.P k).n).2, st3) ∧ WQ st2 st3 := by
      refine loop_ex (fun m (s : xS × Int32 × Int32 × Int32) => F_X10_turned_L33 n m s.1 (some 64) s.2.1 s.2.2.1 s.2.2.2) (fun e s => WQ st2 s.1 ∧ s.2.1 = nI (bt T t e).1 ∧ s.2.2.1 = (bt T t e).2 ∧ s.2.2.2 = nI e) (G.P k).n (fun r => ∃ st3, r = some ((bt T t (G.P k).n).2, st3) ∧ WQ st2 st3) ?_ ?_ n (by omega) (st2, nI t, -1, 0) ⟨(WF.refl S2).q, rfl, rfl, rfl⟩
      · rintro m e ⟨s, x, y, z⟩ he ⟨h1, h2, h3, h4⟩
        dsimp only at h1 h2 h3 h4 ⊢
        subst h2
        subst h3
        subst h4
        have ms := m2.wq h1
        have b1 := bt_le bt0 bT e
        have b2 := bT e
        obtain ⟨s3, e3, q3, -⟩ := C_walk (n := n) (e := e) (x := nI e) ms hI hJ (fun g hg => by rw [nEq (by omega) (by omega)]) hn
        rw [tr_all hI (sw_I hJ e) hf, hTe] at e3
        refine ⟨(s3, nI (bt T t (e + 1)).1, (bt T t (e + 1)).2, nI (e + 1)), ⟨h1.trans q3, rfl, rfl, rfl⟩, ?_⟩
        dsimp only
        rw [F_X10_turned_L33, bt]
        dsimp only
        simp (disch := omega) only [↓Option.bind_some, ↓reduceIte, ↓bnd (g64_3 ms.1), ↓bnd (ms.y2), ↓bnd (ms.2.2.2.2.gn), ↓bnd (o79 ms.1), ↓bnd (e3), nLe_f, nI_1]
        by_cases hc : T e < (bt T t e).1
        · simp (disch := omega) only [hc, if_true, nLe_f, if_false, Option.bind_some]
        · simp (disch := omega) only [hc, if_false, nLe_t, if_true, Option.bind_some]
      · rintro m ⟨s, x, y, z⟩ ⟨h1, h2, h3, h4⟩
        dsimp only at h1 h2 h3 h4 ⊢
        subst h2
        subst h3
        subst h4
        have ms := m2.wq h1
        refine ⟨s, ?_, h1⟩
        rw [F_X10_turned_L33]
        dsimp only
        simp (disch := omega) only [↓Option.bind_some, ↓reduceIte, ↓bnd (g64_3 ms.1), ↓bnd (ms.y2), ↓bnd (ms.2.2.2.2.gn), nLe_t]
    obtain ⟨st3, e3, q3⟩ := hl
    refine ⟨(bt T t (G.P k).n).2, st3, ?_, (o1.trans q2.1).trans q3.1, fun st4 r4 => ?_⟩
    · simp only [↓Option.bind_some, ↓reduceIte, ↓bnd (g64_3 hS), ↓bnd (g64_0 hS), ↓bnd (o79 hS), ↓bnd (e1), ↓bnd (g64_3 S1), ↓bnd (o79 S1), ↓bnd (e2), ↓bnd (e3), i10]
    · have S4 := r4.sh
      have M4 := r4.mod
      have G4 := r4.inv
      have ta := M_travelAll (n := n) S4 M4 G4 hj hk hn
      rw [ht] at ta
      have hm : F_X11_turned_L31 n n st4 (some 106) (nI k) (nI (510 + 150 * j)) (-1 : Int32) (nI t) (0 : Int32) = some ((bt T t (G.P k).n).2, st4) := by
        refine loop_run (fun m (q : Int32 × Int32 × Int32) => F_X11_turned_L31 n m st4 (some 106) (nI k) (nI (510 + 150 * j)) q.1 q.2.1 q.2.2) (fun e => ((bt T t e).2, nI (bt T t e).1, nI e)) (G.P k).n _ (fun m e he => ?_) (fun m => ?_) n (by omega)
        · dsimp only
          have b1 := bt_le bt0 bT e
          have b2 := bT e
          have x1 := M_exchanges (n := n) S4 G4 hk he
          have S5 : Sh (wA st4 107 (exB (cI st4 107) (1002 + 242 * k + 1 + 6 * e))) := shw_A S4 _ _
          have k5 := k107 S4 (exB (cI st4 107) (1002 + 242 * k + 1 + 6 * e))
          have M5 : ModB (cI (wA st4 107 (exB (cI st4 107) (1002 + 242 * k + 1 + 6 * e))) 107) (swG G k e) := by rw [k5]; exact swG_M M4 G4 hk he
          have G5 := swG_I (k := k) G4 e
          have t5 := M_travelAll (n := n) (j := j) (k := k) S5 M5 G5 hj hk hn
          rw [swG_P, show (swG G k e).L j = G.L j from rfl, hTe] at t5
          have x2 := M_exchanges (n := n) (k := k) (e := e) S5 G5 hk (by rw [swG_P]; exact he)
          rw [k5, exB_2, wA_id S4] at x2
          rw [F_X11_turned_L31, bt]
          dsimp only
          simp (disch := omega) only [↓Option.bind_some, ↓reduceIte, ↓bnd (o106 S4), ↓bnd (M_games S4 M4 G4 hk), ↓bnd (x1), ↓bnd (o106 S5), ↓bnd (t5), ↓bnd (x2), nLe_f, nI_1]
          by_cases hc : T e < (bt T t e).1
          · simp (disch := omega) only [hc, if_true, nLt_t, Option.bind_some]
          · simp (disch := omega) only [hc, if_false, nLt_f, Option.bind_some]
        · dsimp only
          rw [F_X11_turned_L31]
          dsimp only
          simp (disch := omega) only [↓Option.bind_some, ↓reduceIte, ↓bnd (o106 S4), ↓bnd (M_games S4 M4 G4 hk), nLe_t]
      unfold F_X11_turned
      simp only [↓Option.bind_some, ↓reduceIte, ↓bnd (o106 S4), ↓bnd (M st4 r4), ↓bnd (p0 st4), ↓bnd (ta), ↓bnd (hm), i10]
  · refine ⟨-1, st, ?_, Only.refl hS, fun st3 r3 => ?_⟩
    · simp only [↓Option.bind_some, ↓reduceIte, ↓bnd (g64_3 hS), ↓bnd (g64_0 hS), ↓bnd (o79 hS), ↓bnd (C_bring_f hR hg)]
    · unfold F_X11_turned
      simp only [↓Option.bind_some, ↓reduceIte, ↓bnd (o106 r3.sh), ↓bnd (M_goes_f r3 hg hn)]
end TV

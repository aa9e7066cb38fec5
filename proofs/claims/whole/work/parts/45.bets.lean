/-! CHANCE, RULE, LESS, BET, BEST, FAIR -/
section BE
variable {st : xS} {n : Nat} {G : Gh} {I : Im} {a w p : Nat} {L : LgD} {W : LwD} {P : PlD}
theorem i10 : ((1 : Int32) = 0) = False := by decide
theorem MS.y2 (m : MS st a w p L W P) : gR st (some 79) 5 2 = some (some p) := (g79_2 m.1).trans (congrArg some m.2.2.2.1)
theorem MS.po (m : MS st a w p L W P) : isO st (some p) 6 = some 6 := m.2.2.2.2.2.2.o
theorem MS.pn (m : MS st a w p L W P) : gI st (some p) 6 1 = some (nI P.n) := m.2.2.2.2.2.2.gn
/-- hope, chance of a game, a part left out -/
def hv (L : LgD) (W : LwD) (P : PlD) (d g : Nat) : Int64 := oL (gp L W P g (gE (gP L W P g) d)) (gq L W P g) 3
def wv (L : LgD) (W : LwD) (P : PlD) (g : Nat) : Int64 := oL (gp L W P g (gE (gP L W P g) 9)) (gq L W P g) 0
theorem C_look (m : MS st a w p L W P) (hI : LgI L) (hV : LwI W) (hJ : PlI P) {g : Nat} (hg : g < P.n) (hn : 3000 ≤ n) : ∃ st', F_X5_weigh n st (some 79) (nI g) = some st' ∧ WF st st' ∧ (∀ i, i < 6 → cI st' 87 i = nI (gP L W P g i)) ∧ ∀ x, x ≤ 3 → F_X5_outlook n st' (some 79) (nI x) = some (oL (gp L W P g (gE (gP L W P g) 9)) (gq L W P g) x) := by
  obtain ⟨st2, e2, wf, f87, f4, f5, f6, f7⟩ := C_weigh (n := n) m hI hV hJ hg hn
  exact ⟨st2, e2, wf, f87, fun x hx => C_outlook (m.wf wf).1 (gp_le _ _ _ _ _) (gq_le _ _ _ _) f6 f7 hn hx⟩
theorem C_hopes (m : MS st a w p L W P) (hI : LgI L) (hV : LwI W) (hJ : PlI P) (hn : 3000 ≤ n) : ∃ st', F_X5_hopes n st (some 79) = some (lS (hv L W P 9) P.n, st') ∧ WF st st' := by
  have c1 := hJ.1
  have hl : ∃ st', F_X5_hopes_L4 n n st (some 79) (0 : Int64) (0 : Int32) = some (lS (hv L W P 9) P.n, st') ∧ WF st st' := by
    refine loop_ex (fun k (s : xS × Int64 × Int32) => F_X5_hopes_L4 n k s.1 (some 79) s.2.1 s.2.2) (fun i s => WF st s.1 ∧ s.2.1 = lS (hv L W P 9) i ∧ s.2.2 = nI i) P.n (fun r => ∃ st', r = some (lS (hv L W P 9) P.n, st') ∧ WF st st') ?_ ?_ n (by omega) (st, 0, 0) ⟨WF.refl m.1, rfl, rfl⟩
    · rintro k i ⟨s, x, y⟩ hi ⟨h1, h2, h3⟩
      dsimp only at h1 h2 h3 ⊢
      subst h2
      subst h3
      have m1 := m.wf h1
      obtain ⟨s2, e2, wf, -, hx⟩ := C_look (n := n) m1 hI hV hJ hi hn
      have e3 := hx 3 (by decide)
      have m2 := m1.wf wf
      refine ⟨(s2, lS (hv L W P 9) (i + 1), nI (i + 1)), ⟨h1.trans wf, rfl, rfl⟩, ?_⟩
      dsimp only
      rw [F_X5_hopes_L4]
      dsimp only
      simp (disch := omega) only [l1, l3, ↓Option.bind_some, ↓reduceIte, ↓bnd (m1.y2), ↓bnd (m1.pn), ↓bnd (o79 m1.1), ↓bnd (e2), ↓bnd (o79 m2.1), ↓bnd (e3), nLe_f, nAdd]
      rfl
    · rintro k ⟨s, x, y⟩ ⟨h1, h2, h3⟩
      dsimp only at h1 h2 h3 ⊢
      subst h2
      subst h3
      have m1 := m.wf h1
      refine ⟨s, ?_, h1⟩
      rw [F_X5_hopes_L4]
      dsimp only
      simp (disch := omega) only [↓Option.bind_some, ↓reduceIte, ↓bnd (m1.y2), ↓bnd (m1.pn), nLe_t]
  obtain ⟨st', h1, h2⟩ := hl
  exact ⟨st', by unfold F_X5_hopes; rw [h1]; rfl, h2⟩
theorem M_hopes (hS : Sh st) (hM : ModB (cI st 107) G) (hI : GhI G) {d j i k : Nat} (hd : lfD st d) (hj : j < G.cn 0) (hi : i < G.cn 1) (hk : k < G.cn 2) (hn : 3000 ≤ n) : F_X11_hopes n st (some 106) (nI (510 + 150 * j)) (nI (960 + 14 * i)) (nI k) = some (lS (hv (G.L j) (G.W i) (G.P k) d) (G.P k).n) := by
  have c1 := (hI.pp hk).1
  have hl : F_X11_hopes_L6 n n st (some 106) (nI (510 + 150 * j)) (nI (960 + 14 * i)) (nI k) (0 : Int64) (0 : Int32) = some (lS (hv (G.L j) (G.W i) (G.P k) d) (G.P k).n) := by
    refine loop_run (fun m (s : Int64 × Int32) => F_X11_hopes_L6 n m st (some 106) (nI (510 + 150 * j)) (nI (960 + 14 * i)) (nI k) s.1 s.2) (fun g => (lS (hv (G.L j) (G.W i) (G.P k) d) g, nI g)) (G.P k).n _ (fun m g hg => ?_) (fun m => ?_) n (by omega)
    · dsimp only
      rw [F_X11_hopes_L6]
      dsimp only
      simp (disch := omega) only [l1, ↓Option.bind_some, ↓reduceIte, ↓bnd (o106 hS), ↓bnd (M_games hS hM hI hk), ↓bnd (M_hopeOf hS hM hI hd hj hi hk hg hn), nLe_f, nAdd]
      rfl
    · dsimp only
      rw [F_X11_hopes_L6]
      dsimp only
      simp (disch := omega) only [↓Option.bind_some, ↓reduceIte, ↓bnd (o106 hS), ↓bnd (M_games hS hM hI hk), nLe_t]
  unfold F_X11_hopes
  rw [hl]
  rfl
theorem E_chance (hR : Rel st G I) (l w p g x : Int32) (hn : 3000 ≤ n) : ∃ v st', F_X10_chance n st (some 64) l w p g x = some (v, st') ∧ Only QC st st' ∧ ∀ st2, Rel st2 G I → F_X11_chance n st2 (some 106) l w p g x = some v := by
  have hS := hR.sh
  unfold F_X10_chance
  rcases nCut x 4 with ⟨x, hx, rfl⟩ | hx
  · have a1 : (nI x < (0 : Int32)) = False := eq_false (nI_pos (by omega))
    have a2 : ((3 : Int32) < nI x) = False := eq_false (nI_nlt (a := 3) (b := x) (by omega) (by omega))
    simp only [↓reduceIte, a1, a2]
    rcases go4Cut G l w p with ⟨j, i, k, hg⟩ | hg
    · obtain ⟨st1, a, w', p', e1, o1, m1⟩ := C_b4 (n := n) hR hg
      have S1 := m1.1
      have hj := hg.1.1
      have hk := hg.1.2.1
      have hi := hg.2.1
      have hJ := hR.inv.pp hk
      have c1 := hJ.1
      rcases nCut g (G.P k).n with ⟨g, hgn, rfl⟩ | hgx
      · have hh := C_hasGame (n := n) m1.2.2.2.2.2.2 hJ (x := g) (by omega)
        rw [bI_t hgn] at hh
        obtain ⟨st2, e2, wf, -, hl⟩ := C_look (n := n) m1 (hR.inv.lg hj) (hR.inv.lw hi) hJ hgn hn
        have e3 := hl x (by omega)
        have S2 := (m1.wf wf).1
        refine ⟨oL (gp (G.L j) (G.W i) (G.P k) g (gE (gP (G.L j) (G.W i) (G.P k) g) 9)) (gq (G.L j) (G.W i) (G.P k) g) x, st2, ?_, o1.trans (wfQ wf), fun st3 r3 => ?_⟩
        · simp only [↓Option.bind_some, ↓reduceIte, ↓bnd (g64_3 hS), ↓bnd (g64_0 hS), ↓bnd (o79 hS), ↓bnd (e1), ↓bnd (g64_3 S1), ↓bnd (m1.y2), ↓bnd (m1.po), ↓bnd (hh), ↓bnd (o79 S1), ↓bnd (e2), ↓bnd (g64_3 S2), ↓bnd (o79 S2), ↓bnd (e3), i10]
        · have S3 := r3.sh
          have M := M_isGame_t (n := n) r3 hg hgn hn
          obtain ⟨⟨-, -, rfl, rfl, -⟩, -, rfl⟩ := hg
          have p0 : F_X11_placeOf n st3 (0 : Int32) (nI j) = _ := M_placeOf0 j
          have p1 : F_X11_placeOf n st3 (1 : Int32) (nI i) = _ := M_placeOf1 i
          have xx : F_X11_isIn n st3 (nI x) (0 : Int32) (3 : Int32) = some 1 := M_in_t (j := x) (b := 3) (by omega) (by decide)
          have ld := lfD_none r3.2.2.2.2.2.2.1
          unfold F_X11_chance oL
          by_cases h3 : x = 3
          · subst h3
            have h3 : (nI 3 = (3 : Int32)) = True := eq_true rfl
            have hh := M_hopeOf (n := n) S3 r3.mod r3.inv ld hj hi hk hgn hn
            simp only [↓Option.bind_some, ↓reduceIte, ↓bnd (o106 S3), ↓bnd (M), ↓bnd (xx), ↓bnd (p0), ↓bnd (p1), ↓bnd (hh), i10, h3]
            rfl
          · have h3' : (nI x = (3 : Int32)) = False := eq_false (fun q => h3 (by
              have q : nI x = nI 3 := q
              rwa [nEq (by omega) (by omega)] at q))
            have hh := M_chanceOf (n := n) S3 r3.mod r3.inv ld hj hi hk hgn hn (w := x) (by omega)
            simp only [↓Option.bind_some, ↓reduceIte, ↓bnd (o106 S3), ↓bnd (M), ↓bnd (xx), ↓bnd (p0), ↓bnd (p1), ↓bnd (hh), i10, h3', h3]
      · have hh := C_hasGame_neg (n := n) m1.2.2.2.2.2.2 (nOut (by omega) hgx)
        refine ⟨-1, st1, ?_, o1, fun st3 r3 => ?_⟩
        · simp only [↓Option.bind_some, ↓reduceIte, ↓bnd (g64_3 hS), ↓bnd (g64_0 hS), ↓bnd (o79 hS), ↓bnd (e1), ↓bnd (g64_3 S1), ↓bnd (m1.y2), ↓bnd (m1.po), ↓bnd (hh), i10]
        · unfold F_X11_chance
          simp only [↓Option.bind_some, ↓reduceIte, ↓bnd (o106 r3.sh), ↓bnd (M_isGame_f r3 (Or.inr ⟨j, i, k, hg, hgx⟩) hn)]
    · refine ⟨-1, st, ?_, Only.refl hS, fun st3 r3 => ?_⟩
      · simp only [↓Option.bind_some, ↓reduceIte, ↓bnd (g64_3 hS), ↓bnd (g64_0 hS), ↓bnd (o79 hS), ↓bnd (C_bring4_f hR hg)]
      · unfold F_X11_chance
        simp only [↓Option.bind_some, ↓reduceIte, ↓bnd (o106 r3.sh), ↓bnd (M_isGame_f r3 (Or.inl hg) hn)]
  · refine ⟨-1, st, ?_, Only.refl hS, fun st3 r3 => ?_⟩
    · rcases nOut4 (by decide) hx with h0 | ⟨h0, h1, -, -⟩
      · rw [if_pos (show x < 0 from h0)]
      · rw [if_neg (show ¬ x < 0 from h0), if_pos (show (3 : Int32) < x from Int32.lt_of_lt_of_le (by decide) h1)]
    · have xx : F_X11_isIn n st3 x (0 : Int32) (3 : Int32) = some 0 := M_in_f (b := 3) hx (by decide)
      rcases go4Cut G l w p with ⟨j, i, k, hg⟩ | hg
      · rcases nCut g (G.P k).n with ⟨g, hgn, rfl⟩ | hgx
        · unfold F_X11_chance
          simp only [↓Option.bind_some, ↓reduceIte, ↓bnd (o106 r3.sh), ↓bnd (M_isGame_t r3 hg hgn hn), ↓bnd (xx), i10]
        · unfold F_X11_chance
          simp only [↓Option.bind_some, ↓reduceIte, ↓bnd (o106 r3.sh), ↓bnd (M_isGame_f r3 (Or.inr ⟨j, i, k, hg, hgx⟩) hn)]
      · unfold F_X11_chance
        simp only [↓Option.bind_some, ↓reduceIte, ↓bnd (o106 r3.sh), ↓bnd (M_isGame_f r3 (Or.inl hg) hn)]
theorem E_rule (hR : Rel st G I) (l w w2 p : Int32) (hn : 3000 ≤ n) : ∃ v st', F_X10_rule n st (some 64) l w w2 p = some (v, st') ∧ Only QC st st' ∧ ∀ st2, Rel st2 G I → F_X11_rule n st2 (some 106) l w w2 p = some v := by
  have hS := hR.sh
  unfold F_X10_rule
  rcases go4Cut G l w2 p with ⟨j, i2, k, hg⟩ | hg
  · obtain ⟨st1, a, w', p', e1, o1, m1⟩ := C_b4 (n := n) hR hg
    have S1 := m1.1
    have hj := hg.1.1
    have hk := hg.1.2.1
    have hi := hg.2.1
    have hJ := hR.inv.pp hk
    obtain ⟨st2, e2, wf⟩ := C_hopes (n := n) m1 (hR.inv.lg hj) (hR.inv.lw hi) hJ hn
    have o2 := o1.trans (wfQ wf)
    have R2 := hR.qc o2
    have S2 := R2.sh
    rcases nCut w (G.cn 1) with ⟨i, hw, rfl⟩ | hw
    · have hg2 : Go4 G l (nI i) p j i k := ⟨hg.1, hw, rfl⟩
      obtain ⟨st3, a3, w3, p3, e3, o3, m3⟩ := C_b4 (n := n) R2 hg2
      obtain ⟨st4, e4, wf4⟩ := C_hopes (n := n) m3 (hR.inv.lg hj) (hR.inv.lw hw) hJ hn
      refine ⟨lS (hv (G.L j) (G.W i) (G.P k) 9) (G.P k).n - lS (hv (G.L j) (G.W i2) (G.P k) 9) (G.P k).n, st4, ?_, (o2.trans o3).trans (wfQ wf4), fun st5 r5 => ?_⟩
      · simp only [↓Option.bind_some, ↓reduceIte, ↓bnd (g64_3 hS), ↓bnd (g64_0 hS), ↓bnd (o79 hS), ↓bnd (e1), ↓bnd (g64_3 S1), ↓bnd (o79 S1), ↓bnd (e2), ↓bnd (g64_3 S2), ↓bnd (g64_0 S2), ↓bnd (o79 S2), ↓bnd (e3), ↓bnd (g64_3 m3.1), ↓bnd (o79 m3.1), ↓bnd (e4), i10]
      · have S5 := r5.sh
        have gt := M_goes_t (n := n) r5 hg.1 hn
        have b2 := r5.inv.2.1
        obtain ⟨⟨-, -, rfl, rfl, -⟩, -, rfl⟩ := hg
        have p0 : F_X11_placeOf n st5 (0 : Int32) (nI j) = _ := M_placeOf0 j
        have p1 : F_X11_placeOf n st5 (1 : Int32) (nI i) = _ := M_placeOf1 i
        have p2 : F_X11_placeOf n st5 (1 : Int32) (nI i2) = _ := M_placeOf1 i2
        have z1 : F_X11_isOf n st5 (some 106) (1 : Int32) (nI i) = some 1 := M_isOf_t S5 r5.mod (w := 1) (by decide) hw (by omega)
        have z2 : F_X11_isOf n st5 (some 106) (1 : Int32) (nI i2) = some 1 := M_isOf_t S5 r5.mod (w := 1) (by decide) hi (by omega)
        have ld := lfD_none r5.2.2.2.2.2.2.1
        unfold F_X11_rule
        simp only [↓Option.bind_some, ↓reduceIte, ↓bnd (o106 S5), ↓bnd (gt), ↓bnd (z1), ↓bnd (z2), ↓bnd (p0), ↓bnd (p1), ↓bnd (p2), ↓bnd (M_hopes S5 r5.mod r5.inv ld hj hw hk hn), ↓bnd (M_hopes S5 r5.mod r5.inv ld hj hi hk hn), i10]
    · have hb : (∀ j k, ¬ GoP G l p j k) ∨ ∀ i, i < G.cn 1 → ¬ w = nI i := Or.inr hw
      refine ⟨-9223372036854775808, st2, ?_, o2, fun st5 r5 => ?_⟩
      · simp only [↓Option.bind_some, ↓reduceIte, ↓bnd (g64_3 hS), ↓bnd (g64_0 hS), ↓bnd (o79 hS), ↓bnd (e1), ↓bnd (g64_3 S1), ↓bnd (o79 S1), ↓bnd (e2), ↓bnd (g64_3 S2), ↓bnd (g64_0 S2), ↓bnd (o79 S2), ↓bnd (C_bring4_f R2 hb), i10]
      · have gt := M_goes_t (n := n) r5 hg.1 hn
        have z1 : F_X11_isOf n st5 (some 106) (1 : Int32) w = some 0 := M_isOf_f r5.sh r5.mod (w := 1) (by decide) (by have := r5.inv.2.1; omega) hw
        unfold F_X11_rule
        simp only [↓Option.bind_some, ↓reduceIte, ↓bnd (o106 r5.sh), ↓bnd (gt), ↓bnd (z1), i10]
  · refine ⟨-9223372036854775808, st, ?_, Only.refl hS, fun st3 r3 => ?_⟩
    · simp only [↓Option.bind_some, ↓reduceIte, ↓bnd (g64_3 hS), ↓bnd (g64_0 hS), ↓bnd (o79 hS), ↓bnd (C_bring4_f hR hg)]
    · unfold F_X11_rule
      rcases goCut G l p with ⟨j, k, h2⟩ | h2
      · have z2 : F_X11_isOf n st3 (some 106) (1 : Int32) w2 = some 0 := M_isOf_f r3.sh r3.mod (w := 1) (by decide) (by have := r3.inv.2.1; omega) (hg.resolve_left fun q => q j k h2)
        rcases nCut w (G.cn 1) with ⟨i, hw, rfl⟩ | hw
        · have z1 : F_X11_isOf n st3 (some 106) (1 : Int32) (nI i) = some 1 := M_isOf_t r3.sh r3.mod (w := 1) (by decide) hw (by have := r3.inv.2.1; omega)
          simp only [↓Option.bind_some, ↓reduceIte, ↓bnd (o106 r3.sh), ↓bnd (M_goes_t r3 h2 hn), ↓bnd (z1), ↓bnd (z2), i10]
        · have z1 : F_X11_isOf n st3 (some 106) (1 : Int32) w = some 0 := M_isOf_f r3.sh r3.mod (w := 1) (by decide) (by have := r3.inv.2.1; omega) hw
          simp only [↓Option.bind_some, ↓reduceIte, ↓bnd (o106 r3.sh), ↓bnd (M_goes_t r3 h2 hn), ↓bnd (z1), i10]
      · simp only [↓Option.bind_some, ↓reduceIte, ↓bnd (o106 r3.sh), ↓bnd (M_goes_f r3 h2 hn)]
/-- a game weighed, a part let fall -/
theorem C_drop (m : MS st a w p L W P) (hI : LgI L) (hV : LwI W) (hJ : PlI P) {g d : Nat} (hg : g < P.n) (hd : d < 6) (hp : ∀ i, i < 6 → cI st 87 i = nI (gP L W P g i)) (hn : 3000 ≤ n) : ∃ st', F_X5_drop n st (some 79) (nI g) (nI d) = some st' ∧ WF st st' ∧ ∀ x, x ≤ 3 → F_X5_outlook n st' (some 79) (nI x) = some (oL (gp L W P g (gE (gP L W P g) d)) (gq L W P g) x) := by
  have wf1 := WF_p m.1 d (nI 0)
  have m1 := m.wf wf1
  have e1 : F_X10_setAt n st (some 87) (nI d) (nI 0) = some (wA st 87 (upd (cI st 87) d (nI 0))) := by
    unfold F_X10_setAt
    simp (disch := omega) only [l0, l1, l2, l3, l4, l5, l6, l7, l8, l9, l10, l11, l12, l13, l14, l15, l16, l17, l18, l19, l20, l21, l22, l23, l24, l25, l26, l27, l28, l29, l30, l31, l32, l33, l34, l35, l36, l37, l38, l39, l40, l41, l42, l43, l44, l45, l46, l47, l48, l49, l50, l51, l52, l53, l54, l55, l56, l57, l58, l59, l60, l65, l90, l96, l97, l99, l100, l101, l122, l150, l242, l255, l499, l500, l510, l800, l960, l999, l1000, l1002, l1730, l2530, l2562, l9999, l10250, l32768, l1000000, nMul, nAdd, nNegN, nLt, nLe, nEq, nNeg1, nNeg1', nEqM, nEqM', if_true, if_false, if_pos, if_neg, reduceCtorEq, n87 m.1, Option.bind_some, m.s87 hd]
  have hp1 : ∀ i, i < 6 → cI (wA st 87 (upd (cI st 87) d (nI 0))) 87 i = nI (if i = d then 0 else gP L W P g i) := by
    intro i hi
    rw [k87 m.1]
    by_cases h : i = d
    · rw [h, upd_s, if_pos rfl]
    · rw [pk_un h, if_neg h, hp i hi]
  have e0 : (0 : Int32) = nI 0 := rfl
  unfold F_X5_drop
  rw [e0]
  simp only [↓bnd (g79_3 m.1), ↓bnd e1]
  generalize wA st 87 (upd (cI st 87) d (nI 0)) = st1 at wf1 m1 hp1 ⊢
  obtain ⟨st2, e2, wf2, -, f4, -, f6, f7⟩ := C_aim (n := n) m1 hI hV hJ hg (f := fun i => if i = d then 0 else gP L W P g i) (fun i => by
    have := gP_le L W P g i
    show (if i = d then 0 else gP L W P g i) ≤ 50
    split <;> omega) hp1 hn
  have hE : gE (fun i => if i = d then 0 else gP L W P g i) 9 = gE (gP L W P g) d := by
    unfold gE
    simp [nS]
  rw [hE] at f6
  have S2 := (m1.wf wf2).1
  exact ⟨st2, by simp only [↓bnd (o79 m1.1), ↓bnd e2], wf1.trans wf2, fun x hx => C_outlook S2 (gp_le _ _ _ _ _) (gq_le _ _ _ _) f6 f7 hn hx⟩
theorem M_isPart_t (hR : Rel st G I) {l w p : Int32} {j i k d : Nat} (hg : Go4 G l w p j i k) (h : d < 6) (hn : 3000 ≤ n) : F_X11_isPart n st (some 106) l w p (nI d) = some 1 := by
  have hS := hR.sh
  have gt := M_goes_t (n := n) hR hg.1 hn
  have i1 : F_X11_isOf n st (some 106) (1 : Int32) w = some 1 := by
    rw [hg.2.2]
    exact M_isOf_t (n := n) hS hR.mod (w := 1) (by decide) hg.2.1 (by have := hR.inv.2.1; omega)
  have xx : F_X11_isIn n st (nI d) (0 : Int32) (5 : Int32) = some 1 := M_in_t (j := d) (b := 5) (by omega) (by decide)
  unfold F_X11_isPart
  simp only [↓Option.bind_some, ↓reduceIte, ↓bnd (o106 hS), ↓bnd (gt), ↓bnd (i1), ↓bnd (xx), ↓bnd (rz1), i10]
theorem M_isPart_f (hR : Rel st G I) {l w p x : Int32} (h : ((∀ j k, ¬ GoP G l p j k) ∨ ∀ i, i < G.cn 1 → ¬ w = nI i) ∨ ∀ d, d < 6 → ¬ x = nI d) (hn : 3000 ≤ n) : F_X11_isPart n st (some 106) l w p x = some 0 := by
  have hS := hR.sh
  unfold F_X11_isPart
  rcases goCut G l p with ⟨j, k, h2⟩ | h2
  · rcases nCut w (G.cn 1) with ⟨i, hw, rfl⟩ | hw
    · have hx : ∀ d, d < 6 → ¬ x = nI d := by
        rcases h with (h | h) | h
        · exact absurd h2 (h j k)
        · exact absurd rfl (h i hw)
        · exact h
      have z1 : F_X11_isOf n st (some 106) (1 : Int32) (nI i) = some 1 := M_isOf_t hS hR.mod (w := 1) (by decide) hw (by have := hR.inv.2.1; omega)
      have xx : F_X11_isIn n st x (0 : Int32) (5 : Int32) = some 0 := M_in_f (b := 5) hx (by decide)
      simp only [↓Option.bind_some, ↓reduceIte, ↓bnd (o106 hS), ↓bnd (M_goes_t hR h2 hn), ↓bnd (z1), ↓bnd (xx), ↓bnd (rz0), i10]
    · have z1 : F_X11_isOf n st (some 106) (1 : Int32) w = some 0 := M_isOf_f hS hR.mod (w := 1) (by decide) (by have := hR.inv.2.1; omega) hw
      simp only [↓Option.bind_some, ↓reduceIte, ↓bnd (o106 hS), ↓bnd (M_goes_t hR h2 hn), ↓bnd (z1), ↓bnd (rz0), i10]
  · simp only [↓Option.bind_some, ↓reduceIte, ↓bnd (o106 hS), ↓bnd (M_goes_f hR h2 hn), ↓bnd (rz0)]
theorem C_isPart_t {d : Nat} (h : d < 6) : F_X10_isPart n st (nI d) = some 1 := by
  have xx : F_X10_within n st (nI d) (0 : Int32) (5 : Int32) = some 1 := C_in_t (j := d) (b := 5) (by omega) (by decide)
  unfold F_X10_isPart
  simp only [↓bnd xx, ↓bnd rz1]
theorem C_isPart_f {x : Int32} (h : ∀ d, d < 6 → ¬ x = nI d) : F_X10_isPart n st x = some 0 := by
  have xx : F_X10_within n st x (0 : Int32) (5 : Int32) = some 0 := C_in_f (b := 5) h (by decide)
  unfold F_X10_isPart
  simp only [↓bnd xx, ↓bnd rz0]
theorem C_isPrice_t {d : Nat} (h : 101 ≤ d) (h2 : d ≤ 999) : F_X10_isPrice n st (nI d) = some 1 := by
  have xx : F_X10_within n st (nI d) (101 : Int32) (999 : Int32) = some 1 := C_inr_t (j := d) (a := 101) (b := 999) h h2 (by decide)
  unfold F_X10_isPrice
  simp only [↓bnd xx, ↓bnd rz1]
theorem C_isPrice_f {x : Int32} (h : ∀ d, 101 ≤ d → d ≤ 999 → ¬ x = nI d) : F_X10_isPrice n st x = some 0 := by
  have xx : F_X10_within n st x (101 : Int32) (999 : Int32) = some 0 := C_inr_f (a := 101) (b := 999) h (by decide) (by decide)
  unfold F_X10_isPrice
  simp only [↓bnd xx, ↓bnd rz0]
theorem M_isPrice_t {d : Nat} (h : 101 ≤ d) (h2 : d ≤ 999) : F_X11_isPrice n st (nI d) = some 1 := by
  have xx : F_X11_isIn n st (nI d) (101 : Int32) (999 : Int32) = some 1 := M_inr_t (j := d) (a := 101) (b := 999) h h2 (by decide)
  unfold F_X11_isPrice
  simp only [↓bnd xx, ↓bnd rz1]
theorem M_isPrice_f {x : Int32} (h : ∀ d, 101 ≤ d → d ≤ 999 → ¬ x = nI d) : F_X11_isPrice n st x = some 0 := by
  have xx : F_X11_isIn n st x (101 : Int32) (999 : Int32) = some 0 := M_inr_f (a := 101) (b := 999) h (by decide) (by decide)
  unfold F_X11_isPrice
  simp only [↓bnd xx, ↓bnd rz0]
theorem prCut (x : Int32) : (∃ d, 101 ≤ d ∧ d ≤ 999 ∧ x = nI d) ∨ ∀ d, 101 ≤ d → d ≤ 999 → ¬ x = nI d := by
  rcases Classical.em (∃ d, 101 ≤ d ∧ d ≤ 999 ∧ x = nI d) with h | h
  · exact Or.inl h
  · exact Or.inr fun d h1 h2 h3 => h ⟨d, h1, h2, h3⟩
theorem E_less (hR : Rel st G I) (l w p x : Int32) (hn : 3000 ≤ n) : ∃ v st', F_X10_less n st (some 64) l w p x = some (v, st') ∧ Only QC st st' ∧ ∀ st2, Rel st2 G I → ∃ st3, F_X11_less n st2 (some 106) l w p x = some (v, st3) ∧ Only QM st2 st3 ∧ fI st3 106 15 = -1 := by
  have hS := hR.sh
  unfold F_X10_less
  rcases nCut x 6 with ⟨d, hd, rfl⟩ | hx
  · rcases go4Cut G l w p with ⟨j, i, k, hg⟩ | hg
    · obtain ⟨st1, a, w', p', e1, o1, m1⟩ := C_b4 (n := n) hR hg
      have S1 := m1.1
      have hj := hg.1.1
      have hk := hg.1.2.1
      have hi := hg.2.1
      have hJ := hR.inv.pp hk
      have c1 := hJ.1
      have hl : ∃ st', F_X10_less_L35 n n st1 (some 64) (nI d) (0 : Int64) (0 : Int32) = some (lS (fun g => hv (G.L j) (G.W i) (G.P k) d g - hv (G.L j) (G.W i) (G.P k) 9 g) (G.P k).n, st') ∧ WF st1 st' := by
        refine loop_ex (fun m (s : xS × Int64 × Int32) => F_X10_less_L35 n m s.1 (some 64) (nI d) s.2.1 s.2.2) (fun g s => WF st1 s.1 ∧ s.2.1 = lS (fun g => hv (G.L j) (G.W i) (G.P k) d g - hv (G.L j) (G.W i) (G.P k) 9 g) g ∧ s.2.2 = nI g) (G.P k).n (fun r => ∃ st', r = some (lS (fun g => hv (G.L j) (G.W i) (G.P k) d g - hv (G.L j) (G.W i) (G.P k) 9 g) (G.P k).n, st') ∧ WF st1 st') ?_ ?_ n (by omega) (st1, 0, 0) ⟨WF.refl S1, rfl, rfl⟩
        · rintro m g ⟨s, x, y⟩ hgn ⟨h1, h2, h3⟩
          dsimp only at h1 h2 h3 ⊢
          subst h2
          subst h3
          have ms := m1.wf h1
          obtain ⟨s2, e2, wf, f87, hx⟩ := C_look (n := n) ms (hR.inv.lg hj) (hR.inv.lw hi) hJ hgn hn
          have e3 : F_X5_outlook n s2 (some 79) (3 : Int32) = _ := hx 3 (by decide)
          have ms2 := ms.wf wf
          obtain ⟨s4, e4, wf4, hy⟩ := C_drop (n := n) ms2 (hR.inv.lg hj) (hR.inv.lw hi) hJ hgn hd f87 hn
          have e5 : F_X5_outlook n s4 (some 79) (3 : Int32) = _ := hy 3 (by decide)
          have S4 := (ms2.wf wf4).1
          refine ⟨(s4, lS (fun g => hv (G.L j) (G.W i) (G.P k) d g - hv (G.L j) (G.W i) (G.P k) 9 g) (g + 1), nI (g + 1)), ⟨(h1.trans wf).trans wf4, rfl, rfl⟩, ?_⟩
          dsimp only
          rw [F_X10_less_L35]
          dsimp only
          simp (disch := omega) only [l1, ↓Option.bind_some, ↓reduceIte, ↓bnd (g64_3 ms.1), ↓bnd (ms.y2), ↓bnd (ms.pn), ↓bnd (o79 ms.1), ↓bnd (e2), ↓bnd (g64_3 ms2.1), ↓bnd (o79 ms2.1), ↓bnd (e3), ↓bnd (e4), ↓bnd (g64_3 S4), ↓bnd (o79 S4), ↓bnd (e5), nLe_f, nAdd]
          rfl
        · rintro m ⟨s, x, y⟩ ⟨h1, h2, h3⟩
          dsimp only at h1 h2 h3 ⊢
          subst h2
          subst h3
          have ms := m1.wf h1
          refine ⟨s, ?_, h1⟩
          rw [F_X10_less_L35]
          dsimp only
          simp (disch := omega) only [↓Option.bind_some, ↓reduceIte, ↓bnd (g64_3 ms.1), ↓bnd (ms.y2), ↓bnd (ms.pn), nLe_t]
      obtain ⟨st2, e2, wf⟩ := hl
      refine ⟨lS (fun g => hv (G.L j) (G.W i) (G.P k) d g - hv (G.L j) (G.W i) (G.P k) 9 g) (G.P k).n, st2, ?_, o1.trans (wfQ wf), fun st3 r3 => ?_⟩
      · simp only [↓Option.bind_some, ↓reduceIte, ↓bnd (C_isPart_t hd), ↓bnd (g64_3 hS), ↓bnd (g64_0 hS), ↓bnd (o79 hS), ↓bnd (e1), ↓bnd (e2), i10]
      · have S3 := r3.sh
        have M := M_isPart_t (n := n) r3 hg hd hn
        obtain ⟨⟨-, -, rfl, rfl, -⟩, -, rfl⟩ := hg
        have p0 : ∀ s, F_X11_placeOf n s (0 : Int32) (nI j) = _ := fun s => M_placeOf0 j
        have p1 : ∀ s, F_X11_placeOf n s (1 : Int32) (nI i) = _ := fun s => M_placeOf1 i
        have ld := lfD_none r3.2.2.2.2.2.2.1
        have S4 : Sh (uV st3 106 15 (.int (nI d))) := s106_15 S3 (nI d)
        have q4 : cI (uV st3 106 15 (.int (nI d))) 107 = cI st3 107 := cI_c (uV_n (by decide) _ _ _)
        have M4 : ModB (cI (uV st3 106 15 (.int (nI d))) 107) G := by rw [q4]; exact r3.mod
        have ld4 : lfD (uV st3 106 15 (.int (nI d))) d := lfD_some hd (f106_15 S3 (nI d))
        have S5 := s106_15 S4 (-1)
        have e6 := M_hopes S3 r3.mod r3.inv ld hj hi hk hn
        have e7 := M_hopes S4 M4 r3.inv ld4 hj hi hk hn
        refine ⟨_, ?_, (Only.uV (k := 15) (v := .int (nI d)) S4).mono (fun a h => Or.inl h) |>.trans ((Only.uV S5).mono fun a h => Or.inl h), f106_15 S4 (-1)⟩
        unfold F_X11_less
        simp only [↓Option.bind_some, ↓reduceIte, ↓bnd (o106 S3), ↓bnd (M), ↓bnd (p0 _), ↓bnd (p1 _), ↓bnd (e6), ↓bnd (p106_15 S3 _), ↓bnd (o106 S4), ↓bnd (e7), ↓bnd (p106_15 S4 _), i10, lS_sub]
    · refine ⟨-9223372036854775808, st, ?_, Only.refl hS, fun st3 r3 => ⟨st3, ?_, Only.refl r3.sh, r3.2.2.2.2.2.2.1⟩⟩
      · simp only [↓Option.bind_some, ↓reduceIte, ↓bnd (C_isPart_t hd), ↓bnd (g64_3 hS), ↓bnd (g64_0 hS), ↓bnd (o79 hS), ↓bnd (C_bring4_f hR hg), i10]
      · unfold F_X11_less
        simp only [↓Option.bind_some, ↓reduceIte, ↓bnd (o106 r3.sh), ↓bnd (M_isPart_f r3 (Or.inl hg) hn)]
  · refine ⟨-9223372036854775808, st, ?_, Only.refl hS, fun st3 r3 => ⟨st3, ?_, Only.refl r3.sh, r3.2.2.2.2.2.2.1⟩⟩
    · simp only [↓Option.bind_some, ↓reduceIte, ↓bnd (C_isPart_f hx)]
    · unfold F_X11_less
      simp only [↓Option.bind_some, ↓reduceIte, ↓bnd (o106 r3.sh), ↓bnd (M_isPart_f r3 (Or.inr hx) hn)]
end BE

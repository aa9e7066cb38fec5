/-! BET, BEST, FAIR -/
section FA
variable {st : xS} {n : Nat} {G : Gh} {I : Im} {a w p : Nat} {L : LgD} {W : LwD} {P : PlD}
def bV (v : Int64) (x : Int32) : Int64 := (v * x.toInt64) - (100000000000000 : Int64)
theorem M_betOf (hS : Sh st) (hM : ModB (cI st 107) G) (hI : GhI G) (hd : lfD st 9) {j i k g : Nat} (hj : j < G.cn 0) (hi : i < G.cn 1) (hk : k < G.cn 2) (hg : g < (G.P k).n) (hn : 3000 ≤ n) (x : Int32) : F_X11_betOf n st (some 106) (nI (510 + 150 * j)) (nI (960 + 14 * i)) (nI k) (nI g) x = some (bV (wv (G.L j) (G.W i) (G.P k) g) x) := by
  have h : F_X11_chanceOf n st (some 106) (nI (510 + 150 * j)) (nI (960 + 14 * i)) (nI k) (nI g) (0 : Int32) = _ := M_chanceOf (n := n) hS hM hI hd hj hi hk hg hn (w := 0) (by decide)
  unfold F_X11_betOf
  simp only [↓bnd (o106 hS), ↓bnd h]
  rfl
theorem C_w0 (m : MS st a w p L W P) (hI : LgI L) (hV : LwI W) (hJ : PlI P) {g : Nat} (hg : g < P.n) (hn : 3000 ≤ n) : ∃ st', F_X5_weigh n st (some 79) (nI g) = some st' ∧ WF st st' ∧ F_X5_outlook n st' (some 79) (0 : Int32) = some (wv L W P g) := by
  obtain ⟨st2, e2, wf, -, hl⟩ := C_look (n := n) m hI hV hJ hg hn
  exact ⟨st2, e2, wf, hl 0 (by decide)⟩
theorem E_bet (hR : Rel st G I) (l w p g x : Int32) (hn : 3000 ≤ n) : ∃ v st', F_X10_bet n st (some 64) l w p g x = some (v, st') ∧ Only QC st st' ∧ ∀ st2, Rel st2 G I → F_X11_bet n st2 (some 106) l w p g x = some v := by
  have hS := hR.sh
  unfold F_X10_bet
  rcases prCut x with ⟨x, hx1, hx2, rfl⟩ | hx
  · rcases go4Cut G l w p with ⟨j, i, k, hg⟩ | hg
    · obtain ⟨st1, a, w', p', e1, o1, m1⟩ := C_b4 (n := n) hR hg
      have S1 := m1.1
      have hj := hg.1.1
      have hk := hg.1.2.1
      have hi := hg.2.1
      have hJ := hR.inv.pp hk
      have c1 := hJ.1
      rcases nCut g (G.P k).n with ⟨g, hgn, rfl⟩ | hgx
      · have hh := C_hasGame (n := n) m1.2.2.2.2.2.2 hJ (x := g) (by omega)
        rw [bI_t hgn] at hh
        obtain ⟨st2, e2, wf, e3⟩ := C_w0 (n := n) m1 (hR.inv.lg hj) (hR.inv.lw hi) hJ hgn hn
        have S2 := (m1.wf wf).1
        refine ⟨bV (wv (G.L j) (G.W i) (G.P k) g) (nI x), st2, ?_, o1.trans (wfQ wf), fun st3 r3 => ?_⟩
        · simp only [↓Option.bind_some, ↓reduceIte, ↓bnd (C_isPrice_t hx1 hx2), ↓bnd (g64_3 hS), ↓bnd (g64_0 hS), ↓bnd (o79 hS), ↓bnd (e1), ↓bnd (g64_3 S1), ↓bnd (m1.y2), ↓bnd (m1.po), ↓bnd (hh), ↓bnd (o79 S1), ↓bnd (e2), ↓bnd (g64_3 S2), ↓bnd (o79 S2), ↓bnd (e3), i10]
          rfl
        · have S3 := r3.sh
          have M := M_isGame_t (n := n) r3 hg hgn hn
          obtain ⟨⟨-, -, rfl, rfl, -⟩, -, rfl⟩ := hg
          have p0 : F_X11_placeOf n st3 (0 : Int32) (nI j) = _ := M_placeOf0 j
          have p1 : F_X11_placeOf n st3 (1 : Int32) (nI i) = _ := M_placeOf1 i
          have ld := lfD_none r3.2.2.2.2.2.2.1
          have hb := M_betOf (n := n) S3 r3.mod r3.inv ld hj hi hk hgn hn (nI x)
          unfold F_X11_bet
          simp only [↓Option.bind_some, ↓reduceIte, ↓bnd (o106 S3), ↓bnd (M), ↓bnd (M_isPrice_t hx1 hx2), ↓bnd (p0), ↓bnd (p1), ↓bnd (hb), i10]
      · have hh := C_hasGame_neg (n := n) m1.2.2.2.2.2.2 (nOut (by omega) hgx)
        refine ⟨-9223372036854775808, st1, ?_, o1, fun st3 r3 => ?_⟩
        · simp only [↓Option.bind_some, ↓reduceIte, ↓bnd (C_isPrice_t hx1 hx2), ↓bnd (g64_3 hS), ↓bnd (g64_0 hS), ↓bnd (o79 hS), ↓bnd (e1), ↓bnd (g64_3 S1), ↓bnd (m1.y2), ↓bnd (m1.po), ↓bnd (hh), i10]
        · unfold F_X11_bet
          simp only [↓Option.bind_some, ↓reduceIte, ↓bnd (o106 r3.sh), ↓bnd (M_isGame_f r3 (Or.inr ⟨j, i, k, hg, hgx⟩) hn)]
    · refine ⟨-9223372036854775808, st, ?_, Only.refl hS, fun st3 r3 => ?_⟩
      · simp only [↓Option.bind_some, ↓reduceIte, ↓bnd (C_isPrice_t hx1 hx2), ↓bnd (g64_3 hS), ↓bnd (g64_0 hS), ↓bnd (o79 hS), ↓bnd (C_bring4_f hR hg), i10]
      · unfold F_X11_bet
        simp only [↓Option.bind_some, ↓reduceIte, ↓bnd (o106 r3.sh), ↓bnd (M_isGame_f r3 (Or.inl hg) hn)]
  · refine ⟨-9223372036854775808, st, ?_, Only.refl hS, fun st3 r3 => ?_⟩
    · simp only [↓Option.bind_some, ↓reduceIte, ↓bnd (C_isPrice_f hx)]
    · rcases go4Cut G l w p with ⟨j, i, k, hg⟩ | hg
      · rcases nCut g (G.P k).n with ⟨g, hgn, rfl⟩ | hgx
        · unfold F_X11_bet
          simp only [↓Option.bind_some, ↓reduceIte, ↓bnd (o106 r3.sh), ↓bnd (M_isGame_t r3 hg hgn hn), ↓bnd (M_isPrice_f hx), i10]
        · unfold F_X11_bet
          simp only [↓Option.bind_some, ↓reduceIte, ↓bnd (o106 r3.sh), ↓bnd (M_isGame_f r3 (Or.inr ⟨j, i, k, hg, hgx⟩) hn)]
      · unfold F_X11_bet
        simp only [↓Option.bind_some, ↓reduceIte, ↓bnd (o106 r3.sh), ↓bnd (M_isGame_f r3 (Or.inl hg) hn)]
/-- the best so far: its gain, its game -/
def bsN (f : Nat → Int64) : Nat → Int64 × Int32
  | 0 => (0, -1)
  | g + 1 => if lg_cmp (f g) (bsN f g).1 ≤ (0 : Int32) then bsN f g else (f g, nI g)
theorem E_best (hR : Rel st G I) (l w p x : Int32) (hn : 3000 ≤ n) : ∃ v st', F_X10_best n st (some 64) l w p x = some (v, st') ∧ Only QC st st' ∧ ∀ st2, Rel st2 G I → F_X11_best n st2 (some 106) l w p x = some v := by
  have hS := hR.sh
  unfold F_X10_best
  rcases prCut x with ⟨x, hx1, hx2, rfl⟩ | hx
  · rcases go4Cut G l w p with ⟨j, i, k, hg⟩ | hg
    · obtain ⟨st1, a, w', p', e1, o1, m1⟩ := C_b4 (n := n) hR hg
      have S1 := m1.1
      have hj := hg.1.1
      have hk := hg.1.2.1
      have hi := hg.2.1
      have hJ := hR.inv.pp hk
      have c1 := hJ.1
      have hl : ∃ st', F_X10_best_L36 n n st1 (some 64) (nI x) (0 : Int64) (-1 : Int32) (0 : Int32) = some ((bsN (fun g => bV (wv (G.L j) (G.W i) (G.P k) g) (nI x)) (G.P k).n).2, st') ∧ WF st1 st' := by
        refine loop_ex (fun m (s : xS × Int64 × Int32 × Int32) => F_X10_best_L36 n m s.1 (some 64) (nI x) s.2.1 s.2.2.1 s.2.2.2) (fun g s => WF st1 s.1 ∧ s.2.1 = (bsN (fun g => bV (wv (G.L j) (G.W i) (G.P k) g) (nI x)) g).1 ∧ s.2.2.1 = (bsN (fun g => bV (wv (G.L j) (G.W i) (G.P k) g) (nI x)) g).2 ∧ s.2.2.2 = nI g) (G.P k).n (fun r => ∃ st', r = some ((bsN (fun g => bV (wv (G.L j) (G.W i) (G.P k) g) (nI x)) (G.P k).n).2, st') ∧ WF st1 st') ?_ ?_ n (by omega) (st1, 0, -1, 0) ⟨WF.refl S1, rfl, rfl, rfl⟩
        · rintro m g ⟨s, y1, y2, y3⟩ hgn ⟨h1, h2, h3, h4⟩
          dsimp only at h1 h2 h3 h4 ⊢
          subst h2
          subst h3
          subst h4
          have ms := m1.wf h1
          obtain ⟨s2, e2, wf, e3⟩ := C_w0 (n := n) ms (hR.inv.lg hj) (hR.inv.lw hi) hJ hgn hn
          have ms2 := ms.wf wf
          have e4 : F_X10_gain n s2 (wv (G.L j) (G.W i) (G.P k) g) (nI x) = some (bV (wv (G.L j) (G.W i) (G.P k) g) (nI x)) := rfl
          refine ⟨(s2, (bsN (fun g => bV (wv (G.L j) (G.W i) (G.P k) g) (nI x)) (g + 1)).1, (bsN (fun g => bV (wv (G.L j) (G.W i) (G.P k) g) (nI x)) (g + 1)).2, nI (g + 1)), ⟨h1.trans wf, rfl, rfl, rfl⟩, ?_⟩
          dsimp only
          rw [F_X10_best_L36, bsN]
          dsimp only
          simp (disch := omega) only [l1, ↓Option.bind_some, ↓reduceIte, ↓bnd (g64_3 ms.1), ↓bnd (ms.y2), ↓bnd (ms.pn), ↓bnd (o79 ms.1), ↓bnd (e2), ↓bnd (g64_3 ms2.1), ↓bnd (o79 ms2.1), ↓bnd (e3), ↓bnd (e4), nLe_f, nAdd]
          by_cases hc : lg_cmp (bV (wv (G.L j) (G.W i) (G.P k) g) (nI x)) (bsN (fun g => bV (wv (G.L j) (G.W i) (G.P k) g) (nI x)) g).1 ≤ (0 : Int32)
          · simp only [hc, if_true, Option.bind_some]
          · simp only [hc, if_false, Option.bind_some]
        · rintro m ⟨s, y1, y2, y3⟩ ⟨h1, h2, h3, h4⟩
          dsimp only at h1 h2 h3 h4 ⊢
          subst h2
          subst h3
          subst h4
          have ms := m1.wf h1
          refine ⟨s, ?_, h1⟩
          rw [F_X10_best_L36]
          dsimp only
          simp (disch := omega) only [↓Option.bind_some, ↓reduceIte, ↓bnd (g64_3 ms.1), ↓bnd (ms.y2), ↓bnd (ms.pn), nLe_t]
      obtain ⟨st2, e2, wf⟩ := hl
      refine ⟨(bsN (fun g => bV (wv (G.L j) (G.W i) (G.P k) g) (nI x)) (G.P k).n).2, st2, ?_, o1.trans (wfQ wf), fun st3 r3 => ?_⟩
      · simp only [↓Option.bind_some, ↓reduceIte, ↓bnd (C_isPrice_t hx1 hx2), ↓bnd (g64_3 hS), ↓bnd (g64_0 hS), ↓bnd (o79 hS), ↓bnd (e1), ↓bnd (e2), i10]
      · have S3 := r3.sh
        have gt := M_goes_t (n := n) r3 hg.1 hn
        have i1 : F_X11_isOf n st3 (some 106) (1 : Int32) w = some 1 := by
          rw [hg.2.2]
          exact M_isOf_t (n := n) S3 r3.mod (w := 1) (by decide) hg.2.1 (by have := r3.inv.2.1; omega)
        obtain ⟨⟨-, -, rfl, rfl, -⟩, -, rfl⟩ := hg
        have p0 : F_X11_placeOf n st3 (0 : Int32) (nI j) = _ := M_placeOf0 j
        have p1 : F_X11_placeOf n st3 (1 : Int32) (nI i) = _ := M_placeOf1 i
        have ld := lfD_none r3.2.2.2.2.2.2.1
        have hm : F_X11_best_L37 n n st3 (some 106) (nI j) (nI i) (nI k) (nI x) (-1 : Int32) (0 : Int64) (0 : Int32) = some (bsN (fun g => bV (wv (G.L j) (G.W i) (G.P k) g) (nI x)) (G.P k).n).2 := by
          refine loop_run (fun m (s : Int32 × Int64 × Int32) => F_X11_best_L37 n m st3 (some 106) (nI j) (nI i) (nI k) (nI x) s.1 s.2.1 s.2.2) (fun g => ((bsN (fun g => bV (wv (G.L j) (G.W i) (G.P k) g) (nI x)) g).2, (bsN (fun g => bV (wv (G.L j) (G.W i) (G.P k) g) (nI x)) g).1, nI g)) (G.P k).n _ (fun m g hg => ?_) (fun m => ?_) n (by omega)
          · dsimp only
            rw [F_X11_best_L37, bsN]
            dsimp only
            simp (disch := omega) only [l1, ↓Option.bind_some, ↓reduceIte, ↓bnd (o106 S3), ↓bnd (M_games S3 r3.mod r3.inv hk), ↓bnd (p0), ↓bnd (p1), ↓bnd (M_betOf (n := n) S3 r3.mod r3.inv ld hj hi hk hg hn (nI x)), nLe_f, nAdd]
            by_cases hc : lg_cmp (bV (wv (G.L j) (G.W i) (G.P k) g) (nI x)) (bsN (fun g => bV (wv (G.L j) (G.W i) (G.P k) g) (nI x)) g).1 ≤ (0 : Int32)
            · have hc2 : ¬ (0 : Int32) < lg_cmp (bV (wv (G.L j) (G.W i) (G.P k) g) (nI x)) (bsN (fun g => bV (wv (G.L j) (G.W i) (G.P k) g) (nI x)) g).1 := Int32.not_lt.mpr hc
              simp only [hc, hc2, if_true, if_false, Option.bind_some]
            · have hc2 : (0 : Int32) < lg_cmp (bV (wv (G.L j) (G.W i) (G.P k) g) (nI x)) (bsN (fun g => bV (wv (G.L j) (G.W i) (G.P k) g) (nI x)) g).1 := Int32.not_le.mp hc
              simp only [hc, hc2, if_true, if_false, Option.bind_some]
          · dsimp only
            rw [F_X11_best_L37]
            dsimp only
            simp (disch := omega) only [↓Option.bind_some, ↓reduceIte, ↓bnd (o106 S3), ↓bnd (M_games S3 r3.mod r3.inv hk), nLe_t]
        unfold F_X11_best
        simp only [↓Option.bind_some, ↓reduceIte, ↓bnd (o106 S3), ↓bnd (gt), ↓bnd (i1), ↓bnd (M_isPrice_t hx1 hx2), ↓bnd (hm), i10]
    · refine ⟨-1, st, ?_, Only.refl hS, fun st3 r3 => ?_⟩
      · simp only [↓Option.bind_some, ↓reduceIte, ↓bnd (C_isPrice_t hx1 hx2), ↓bnd (g64_3 hS), ↓bnd (g64_0 hS), ↓bnd (o79 hS), ↓bnd (C_bring4_f hR hg), i10]
      · unfold F_X11_best
        rcases goCut G l p with ⟨j, k, h2⟩ | h2
        · have z1 : F_X11_isOf n st3 (some 106) (1 : Int32) w = some 0 := M_isOf_f r3.sh r3.mod (w := 1) (by decide) (by have := r3.inv.2.1; omega) (hg.resolve_left fun q => q j k h2)
          simp only [↓Option.bind_some, ↓reduceIte, ↓bnd (o106 r3.sh), ↓bnd (M_goes_t r3 h2 hn), ↓bnd (z1), i10]
        · simp only [↓Option.bind_some, ↓reduceIte, ↓bnd (o106 r3.sh), ↓bnd (M_goes_f r3 h2 hn)]
  · refine ⟨-1, st, ?_, Only.refl hS, fun st3 r3 => ?_⟩
    · simp only [↓Option.bind_some, ↓reduceIte, ↓bnd (C_isPrice_f hx)]
    · unfold F_X11_best
      rcases goCut G l p with ⟨j, k, h2⟩ | h2
      · rcases nCut w (G.cn 1) with ⟨i, hw, rfl⟩ | hw
        · have z1 : F_X11_isOf n st3 (some 106) (1 : Int32) (nI i) = some 1 := M_isOf_t r3.sh r3.mod (w := 1) (by decide) hw (by have := r3.inv.2.1; omega)
          simp only [↓Option.bind_some, ↓reduceIte, ↓bnd (o106 r3.sh), ↓bnd (M_goes_t r3 h2 hn), ↓bnd (z1), ↓bnd (M_isPrice_f hx), i10]
        · have z1 : F_X11_isOf n st3 (some 106) (1 : Int32) w = some 0 := M_isOf_f r3.sh r3.mod (w := 1) (by decide) (by have := r3.inv.2.1; omega) hw
          simp only [↓Option.bind_some, ↓reduceIte, ↓bnd (o106 r3.sh), ↓bnd (M_goes_t r3 h2 hn), ↓bnd (z1), i10]
      · simp only [↓Option.bind_some, ↓reduceIte, ↓bnd (o106 r3.sh), ↓bnd (M_goes_f r3 h2 hn)]
/-- the least fair price, of the last m ones -/
def faN (v : Int64) : Nat → Int32
  | 0 => -1
  | m + 1 => if lg_cmp (bV v (nI (999 - m))) (0 : Int64) < (0 : Int32) then faN v m else nI (999 - m)
theorem C_fair (v : Int64) : ∀ m, m ≤ 899 → ∀ k, m < k → F_X10_fair_L57 n k st v (nI (1000 - m)) = some (faN v m, st) := by
  intro m
  induction m with
  | zero =>
    intro _ k hk
    obtain ⟨k, rfl⟩ : ∃ j, k = j + 1 := ⟨k - 1, by omega⟩
    rw [F_X10_fair_L57]
    rfl
  | succ m ih =>
    intro hm k hk
    obtain ⟨k, rfl⟩ : ∃ j, k = j + 1 := ⟨k - 1, by omega⟩
    rw [F_X10_fair_L57, faN, show 1000 - (m + 1) = 999 - m by omega]
    dsimp only
    have e4 : F_X10_gain n st v (nI (999 - m)) = some (bV v (nI (999 - m))) := rfl
    have h1 : ((999 : Int32) < nI (999 - m)) = False := eq_false (nI_nlt (a := 999) (b := 999 - m) (by omega) (by omega))
    have e5 : nI (999 - m) + 1 = nI (1000 - m) := by
      show nI (999 - m) + nI 1 = _
      rw [nAdd, show 999 - m + 1 = 1000 - m by omega]
    simp only [↓Option.bind_some, ↓reduceIte, ↓bnd (e4), h1, e5, ih (by omega) k (by omega)]
    by_cases hc : lg_cmp (bV v (nI (999 - m))) (0 : Int64) < (0 : Int32)
    · simp only [hc, if_true]
    · simp only [hc, if_false]
theorem M_fair (hS : Sh st) (hM : ModB (cI st 107) G) (hI : GhI G) (hd : lfD st 9) {j i k g : Nat} (hj : j < G.cn 0) (hi : i < G.cn 1) (hk : k < G.cn 2) (hg : g < (G.P k).n) (hn : 3000 ≤ n) : ∀ m, m ≤ 899 → ∀ q, m < q → F_X11_fair_L18 n q st (some 106) (nI j) (nI i) (nI k) (nI g) (nI (1000 - m)) = some (faN (wv (G.L j) (G.W i) (G.P k) g) m) := by
  intro m
  induction m with
  | zero =>
    intro _ q hq
    obtain ⟨q, rfl⟩ : ∃ j, q = j + 1 := ⟨q - 1, by omega⟩
    rw [F_X11_fair_L18]
    rfl
  | succ m ih =>
    intro hm q hq
    obtain ⟨q, rfl⟩ : ∃ j, q = j + 1 := ⟨q - 1, by omega⟩
    rw [F_X11_fair_L18, faN, show 1000 - (m + 1) = 999 - m by omega]
    dsimp only
    have p0 : F_X11_placeOf n st (0 : Int32) (nI j) = _ := M_placeOf0 j
    have p1 : F_X11_placeOf n st (1 : Int32) (nI i) = _ := M_placeOf1 i
    have e4 := M_betOf (n := n) hS hM hI hd hj hi hk hg hn (nI (999 - m))
    have h1 : ((1000 : Int32) ≤ nI (999 - m)) = False := eq_false (nI_ge (a := 999 - m) (b := 1000) (by omega) (by omega))
    have e5 : nI (999 - m) + 1 = nI (1000 - m) := by
      show nI (999 - m) + nI 1 = _
      rw [nAdd, show 999 - m + 1 = 1000 - m by omega]
    simp only [↓Option.bind_some, ↓reduceIte, ↓bnd (o106 hS), ↓bnd (p0), ↓bnd (p1), ↓bnd (e4), h1, e5, ih (by omega) q (by omega)]
    by_cases hc : lg_cmp (bV (wv (G.L j) (G.W i) (G.P k) g) (nI (999 - m))) (0 : Int64) < (0 : Int32)
    · simp only [hc, if_true]
    · simp only [hc, if_false]
theorem E_fair (hR : Rel st G I) (l w p g : Int32) (hn : 3000 ≤ n) : ∃ v st', F_X10_fair n st (some 64) l w p g = some (v, st') ∧ Only QC st st' ∧ ∀ st2, Rel st2 G I → F_X11_fair n st2 (some 106) l w p g = some v := by
  have hS := hR.sh
  unfold F_X10_fair
  rcases go4Cut G l w p with ⟨j, i, k, hg⟩ | hg
  · obtain ⟨st1, a, w', p', e1, o1, m1⟩ := C_b4 (n := n) hR hg
    have S1 := m1.1
    have hj := hg.1.1
    have hk := hg.1.2.1
    have hi := hg.2.1
    have hJ := hR.inv.pp hk
    have c1 := hJ.1
    rcases nCut g (G.P k).n with ⟨g, hgn, rfl⟩ | hgx
    · have hh := C_hasGame (n := n) m1.2.2.2.2.2.2 hJ (x := g) (by omega)
      rw [bI_t hgn] at hh
      obtain ⟨st2, e2, wf, e3⟩ := C_w0 (n := n) m1 (hR.inv.lg hj) (hR.inv.lw hi) hJ hgn hn
      have S2 := (m1.wf wf).1
      refine ⟨faN (wv (G.L j) (G.W i) (G.P k) g) 899, st2, ?_, o1.trans (wfQ wf), fun st3 r3 => ?_⟩
      · have hf : F_X10_fair_L57 n n st2 (wv (G.L j) (G.W i) (G.P k) g) (101 : Int32) = _ := C_fair (n := n) (st := st2) (wv (G.L j) (G.W i) (G.P k) g) 899 (by decide) n (by omega)
        simp only [↓Option.bind_some, ↓reduceIte, ↓bnd (g64_3 hS), ↓bnd (g64_0 hS), ↓bnd (o79 hS), ↓bnd (e1), ↓bnd (g64_3 S1), ↓bnd (m1.y2), ↓bnd (m1.po), ↓bnd (hh), ↓bnd (o79 S1), ↓bnd (e2), ↓bnd (g64_3 S2), ↓bnd (o79 S2), ↓bnd (e3), i10, hf]
      · have S3 := r3.sh
        have M := M_isGame_t (n := n) r3 hg hgn hn
        obtain ⟨⟨-, -, rfl, rfl, -⟩, -, rfl⟩ := hg
        have ld := lfD_none r3.2.2.2.2.2.2.1
        have hf : F_X11_fair_L18 n n st3 (some 106) (nI j) (nI i) (nI k) (nI g) (101 : Int32) = _ := M_fair (n := n) S3 r3.mod r3.inv ld hj hi hk hgn hn 899 (by decide) n (by omega)
        unfold F_X11_fair
        simp only [↓Option.bind_some, ↓reduceIte, ↓bnd (o106 S3), ↓bnd (M), i10, hf]
    · have hh := C_hasGame_neg (n := n) m1.2.2.2.2.2.2 (nOut (by omega) hgx)
      refine ⟨-1, st1, ?_, o1, fun st3 r3 => ?_⟩
      · simp only [↓Option.bind_some, ↓reduceIte, ↓bnd (g64_3 hS), ↓bnd (g64_0 hS), ↓bnd (o79 hS), ↓bnd (e1), ↓bnd (g64_3 S1), ↓bnd (m1.y2), ↓bnd (m1.po), ↓bnd (hh), i10]
      · unfold F_X11_fair
        simp only [↓Option.bind_some, ↓reduceIte, ↓bnd (o106 r3.sh), ↓bnd (M_isGame_f r3 (Or.inr ⟨j, i, k, hg, hgx⟩) hn)]
  · refine ⟨-1, st, ?_, Only.refl hS, fun st3 r3 => ?_⟩
    · simp only [↓Option.bind_some, ↓reduceIte, ↓bnd (g64_3 hS), ↓bnd (g64_0 hS), ↓bnd (o79 hS), ↓bnd (C_bring4_f hR hg)]
    · unfold F_X11_fair
      simp only [↓Option.bind_some, ↓reduceIte, ↓bnd (o106 r3.sh), ↓bnd (M_isGame_f r3 (Or.inl hg) hn)]
end FA

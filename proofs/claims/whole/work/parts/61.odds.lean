/-! ODDS, LOOSER -/
theorem zI_nat {x : Int} (h : 0 ≤ x) : zI x = nI x.toNat := by rw [nZ, Int.toNat_of_nonneg h]
section OD
variable {st st1 : xS} {n : Nat} {G : Gh} {I : Im} {x y : Int32}
theorem yS_mono {w v : Nat → Int} {k : Nat} (h : ∀ i, w i ≤ v i) : yS G x y w k ≤ yS G x y v k := by
  induction k with
  | zero => exact Int.le_refl 0
  | succ k ih =>
    rw [yS_s, yS_s]
    have := h k
    split <;> omega
theorem cw1 (k : Nat) : cw G 1 k = if mg G k ≤ 0 then 0 else 1 := rfl
theorem cw1_b (k : Nat) : 0 ≤ cw G 1 k ∧ cw G 1 k ≤ 1 := by rw [cw1]; split <;> omega
def lw (G : Gh) (l k : Nat) : Int := if l ≤ G.nt k 8 then 1 else 0
def lv (G : Gh) (l k : Nat) : Int := if l ≤ G.nt k 8 then cw G 1 k else 0
theorem lw_b (l k : Nat) : 0 ≤ lw G l k ∧ lw G l k ≤ 1 := by unfold lw; split <;> omega
theorem lv_b (l k : Nat) : 0 ≤ lv G l k ∧ lv G l k ≤ 1 := by unfold lv; have := cw1_b (G := G) k; split <;> omega
theorem yS_0 (G : Gh) (x y : Int32) : yS G x y (cw G 0) (G.cn 3) = (pc G x y : Nat) := by rw [yS_1]; rfl
theorem C_win (hI : GhI G) {k : Nat} (hk : k < G.cn 3) : ((if zI (mg G k) ≤ (0 : Int32) then some (0 : Int32) else some (1 : Int32)) : Option Int32) = some (zI (cw G 1 k)) := by
  have m := mg_b hI hk
  rw [cw1]
  simp (disch := omega) only [zLe0, zGe0, zEq0, zEq1, zEqN]
  split <;> rfl
theorem E_odds (hR : Rel st G I) (x y l u : Int32) (hn : 3000 ≤ n) : ∃ v st', F_X10_odds n st (some 64) x y l u = some (v, st') ∧ Only QC st st' ∧ ∀ st2, Rel st2 G I → ∃ st3, F_X11_odds n st2 (some 106) x y l u = some (v, st3) ∧ Only QM st2 st3 ∧ fI st3 106 15 = -1 := by
  have hS := hR.sh
  have b := hR.inv.n3
  have c := pc_le G x y
  unfold F_X10_odds
  obtain ⟨st1, e1, o1, hp⟩ := C_pick hR x y hn
  have oQ : Only QC st st1 := o1.mono fun a h => by unfold QC; omega
  have R1 := hR.qc oQ
  have S1 := R1.sh
  have s0 : ∀ st2, Rel st2 G I → F_X11_sum n st2 (some 106) x y (0 : Int32) = some (nI (pc G x y)) := fun st2 r2 => by
    have : F_X11_sum n st2 (some 106) x y (0 : Int32) = _ := M_sum r2.sh r2.mod r2.inv x y (show 0 < 6 by decide) hn
    rw [this, yS_0]
    rfl
  have s1 : ∀ st2, Rel st2 G I → F_X11_sum n st2 (some 106) x y (1 : Int32) = some (zI (yS G x y (cw G 1) (G.cn 3))) := fun st2 r2 => M_sum r2.sh r2.mod r2.inv x y (show 1 < 6 by decide) hn
  have x60 : ((60 : Int32) < nI (pc G x y)) = (60 < pc G x y) := nLt (a := 60) (by decide) (by omega)
  have y60 : (nI (pc G x y) ≤ (60 : Int32)) = (pc G x y ≤ 60) := nLe (b := 60) (by omega) (by decide)
  rcases nCut l 1001 with ⟨l, hl, rfl⟩ | hl
  · have xc : F_X10_within n st1 (nI l) (0 : Int32) (1000 : Int32) = some 1 := C_in_t (j := l) (b := 1000) (by omega) (by decide)
    have xm : ∀ st2, F_X11_isIn n st2 (nI l) (0 : Int32) (1000 : Int32) = some 1 := fun st2 => M_in_t (j := l) (b := 1000) (by omega) (by decide)
    by_cases h60 : pc G x y ≤ 60
    · have lc : F_X10_odds_L42 n n st1 (some 64) (nI l) u (nI (pc G x y)) (zI 0) (zI 0) (zI 0) (nI 0) = some (zI (iS (fun i => cw G 1 (pf G x y i)) (pc G x y)), zI (iS (fun i => lw G l (pf G x y i)) (pc G x y)), zI (iS (fun i => lv G l (pf G x y i)) (pc G x y))) := by
        refine loop_run (fun m (s : Int32 × Int32 × Int32 × Int32) => F_X10_odds_L42 n m st1 (some 64) (nI l) u (nI (pc G x y)) s.1 s.2.1 s.2.2.1 s.2.2.2) (fun i => (zI (iS (fun i => cw G 1 (pf G x y i)) i), zI (iS (fun i => lw G l (pf G x y i)) i), zI (iS (fun i => lv G l (pf G x y i)) i), nI i)) (pc G x y) _ (fun m i hi => ?_) (fun m => ?_) n (by omega)
        · dsimp only
          have t := hR.inv.nt (pf_lt hi)
          unfold NtI at t
          have e8 : F_X10_pickedOf n st1 (some 64) (nI i) (8 : Int32) = _ := C_pickedOf R1 hp hi (show 8 < 10 by decide)
          rw [F_X10_odds_L42, iS, iS, iS]
          dsimp only
          simp (disch := omega) only [↓Option.bind_some, ↓reduceIte, ↓bnd (o64 S1), ↓bnd (C_mg R1 hp hi), ↓bnd (C_win hR.inv (pf_lt hi)), ↓bnd (e8), nLe_f, nI_1, C_lw]
          unfold lw lv
          by_cases h : l ≤ G.nt (pf G x y i) 8
          · simp only [h, if_true, not_true, if_false, Option.bind_some, z_1, zAdd]
          · simp only [h, if_false, not_false_eq_true, if_true, Option.bind_some, zAdd, Int.add_zero]
        · dsimp only
          rw [F_X10_odds_L42]
          dsimp only
          simp (disch := omega) only [nLe_t, ↓reduceIte]
      rw [yS_pf G x y (cw G 1), yS_pf G x y (lw G l), yS_pf G x y (lv G l)] at lc
      have lm : ∀ st2, Rel st2 G I → F_X11_odds_L40 n n st2 (some 106) x y (nI l) u (nI (pc G x y)) (zI 0) (zI 0) (nI 0) = some (zI (yS G x y (lw G l) (G.cn 3)), zI (yS G x y (lv G l) (G.cn 3))) := by
        intro st2 r2
        have S := r2.sh
        have M := r2.mod
        refine loop_run (fun m (s : Int32 × Int32 × Int32) => F_X11_odds_L40 n m st2 (some 106) x y (nI l) u (nI (pc G x y)) s.1 s.2.1 s.2.2) (fun k => (zI (yS G x y (lw G l) k), zI (yS G x y (lv G l) k), nI k)) (G.cn 3) _ (fun m k hk => ?_) (fun m => ?_) n (by omega)
        · dsimp only
          have t := hR.inv.nt hk
          unfold NtI at t
          have e8 : F_X11_noteAt n st2 (some 106) (nI k) (8 : Int32) = _ := M_noteAt S M r2.inv hk (show 8 < 10 by decide)
          rw [F_X11_odds_L40, yS_s, yS_s]
          dsimp only
          by_cases hy : inY G x y k
          · simp (disch := omega) only [↓Option.bind_some, ↓reduceIte, ↓bnd (g106_0 S), ↓bnd (M_cnt S M), ↓bnd (o106 S), ↓bnd (M_yr S M r2.inv hk), ↓bnd (e8), bI_T, eq_true hy, i10, nLe_f, nI_1, if_true, nLe]
            unfold lw lv
            by_cases h : l ≤ G.nt k 8
            · simp only [h, if_true, ↓bnd (o106 S), ↓bnd (M_mg S M r2.inv hk), ↓bnd (C_win r2.inv hk), Option.bind_some, z_1, zAdd]
            · simp only [h, if_false, Option.bind_some, Int.add_zero]
          · simp (disch := omega) only [↓Option.bind_some, ↓reduceIte, ↓bnd (g106_0 S), ↓bnd (M_cnt S M), ↓bnd (o106 S), ↓bnd (M_yr S M r2.inv hk), bI_F, eq_false hy, nLe_f, nI_1, if_false]
        · dsimp only
          rw [F_X11_odds_L40]
          dsimp only
          simp (disch := omega) only [↓Option.bind_some, ↓reduceIte, ↓bnd (g106_0 S), ↓bnd (M_cnt S M), nLe_t]
      have bW := one_b (x := x) (y := y) hR.inv (w := cw G 1) cw1_b (Nat.le_refl _)
      have bM := one_b (x := x) (y := y) hR.inv (w := lw G l) (lw_b l) (Nat.le_refl _)
      have bA := one_b (x := x) (y := y) hR.inv (w := lv G l) (lv_b l) (Nat.le_refl _)
      have mW : yS G x y (cw G 1) (G.cn 3) ≤ yS G x y (fun _ => 1) (G.cn 3) := yS_mono fun k => (cw1_b k).2
      have mM : yS G x y (lw G l) (G.cn 3) ≤ yS G x y (fun _ => 1) (G.cn 3) := yS_mono fun k => (lw_b l k).2
      have mA : yS G x y (lv G l) (G.cn 3) ≤ yS G x y (cw G 1) (G.cn 3) := yS_mono fun k => by
        unfold lv
        have := cw1_b (G := G) k
        split <;> omega
      have y1 := yS_1 G x y
      rw [← y1] at mW mM
      rw [zI_nat bW.1, zI_nat bM.1, zI_nat bA.1] at lc
      rw [zI_nat bM.1, zI_nat bA.1] at lm
      rw [zI_nat bW.1] at s1
      generalize hW : (yS G x y (cw G 1) (G.cn 3)).toNat = W at *
      generalize hM : (yS G x y (lw G l) (G.cn 3)).toNat = M at *
      generalize hA : (yS G x y (lv G l) (G.cn 3)).toNat = A at *
      have w1 : W ≤ pc G x y := by omega
      have w2 : M ≤ pc G x y := by omega
      have w3 : A ≤ W := by omega
      have lc2 : F_X10_odds_L42 n n st1 (some 64) (nI l) u (nI (pc G x y)) (0 : Int32) (0 : Int32) (0 : Int32) (0 : Int32) = _ := lc
      have f60 : (60 < pc G x y) = False := eq_false (by omega)
      have t60 : (pc G x y ≤ 60) = True := eq_true h60
      refine ⟨if u = 0 then lZ (sT (pc G x y) W M A (W + 1 - A) : Nat) else lZ (bn (pc G x y) M : Nat), st1, ?_, oQ, fun st2 r2 => ?_⟩
      · have c1 := C_atLeast (n := n) (st := st1) h60 w1 (show M ≤ 60 by omega) (show A ≤ W + 1 by omega) hn
        have c2 := C_ways (n := n) (st := st1) (k := M) h60 (by omega) hn
        simp only [↓Option.bind_some, ↓reduceIte, ↓bnd (o64 hS), ↓bnd (e1), ↓bnd (xc), ↓bnd (lc2), x60, f60, i10]
        by_cases hu : u = 0
        · simp only [hu, if_true, ↓bnd (c1), Option.bind_some]
        · simp only [hu, if_false, ↓bnd (c2), Option.bind_some]
      · have lm2 : F_X11_odds_L40 n n st2 (some 106) x y (nI l) u (nI (pc G x y)) (0 : Int32) (0 : Int32) (0 : Int32) = _ := lm st2 r2
        obtain ⟨s3, d1, d2⟩ := M_atLeast (n := n) r2.sh h60 w1 (show M ≤ 60 by omega) (show A ≤ W + 1 by omega) hn
        obtain ⟨s4, d3, d4⟩ := M_choose (n := n) r2.sh (k := M) h60 (by omega) hn
        have qm : ∀ s, WM st2 s → Only QM st2 s ∧ fI s 106 15 = -1 := fun s h => ⟨h.mono fun a h => by unfold QM; omega, (fI_o h (by decide) 15).trans r2.2.2.2.2.2.2.1⟩
        by_cases hu : u = 0
        · refine ⟨s3, ?_, qm s3 d2⟩
          unfold F_X11_odds
          simp only [↓Option.bind_some, ↓reduceIte, ↓bnd (o106 r2.sh), ↓bnd (s0 st2 r2), ↓bnd (xm st2), ↓bnd (lm2), y60, t60, i10, hu]
          simp only [↓bnd (o106 r2.sh), ↓bnd (s1 st2 r2), ↓bnd (d1), Option.bind_some]
        · refine ⟨s4, ?_, qm s4 d4⟩
          unfold F_X11_odds
          simp only [↓Option.bind_some, ↓reduceIte, ↓bnd (o106 r2.sh), ↓bnd (s0 st2 r2), ↓bnd (xm st2), ↓bnd (lm2), y60, t60, i10, hu]
          simp only [↓bnd (o106 r2.sh), ↓bnd (d3), Option.bind_some]
    · have t60 : (60 < pc G x y) = True := eq_true (by omega)
      have f60 : (pc G x y ≤ 60) = False := eq_false h60
      refine ⟨-1, st1, ?_, oQ, fun st2 r2 => ⟨st2, ?_, Only.refl r2.sh, r2.2.2.2.2.2.2.1⟩⟩
      · simp only [↓Option.bind_some, ↓reduceIte, ↓bnd (o64 hS), ↓bnd (e1), x60, t60]
      · unfold F_X11_odds
        simp only [↓Option.bind_some, ↓reduceIte, ↓bnd (o106 r2.sh), ↓bnd (s0 st2 r2), ↓bnd (xm st2), y60, f60, i10]
  · have xc : F_X10_within n st1 l (0 : Int32) (1000 : Int32) = some 0 := C_in_f (b := 1000) hl (by decide)
    refine ⟨-1, st1, ?_, oQ, fun st2 r2 => ⟨st2, ?_, Only.refl r2.sh, r2.2.2.2.2.2.2.1⟩⟩
    · simp only [↓Option.bind_some, ↓reduceIte, ↓bnd (o64 hS), ↓bnd (e1), ↓bnd (xc), ite_self]
    · have xm : F_X11_isIn n st2 l (0 : Int32) (1000 : Int32) = some 0 := M_in_f (b := 1000) hl (by decide)
      unfold F_X11_odds
      simp only [↓Option.bind_some, ↓reduceIte, ↓bnd (o106 r2.sh), ↓bnd (s0 st2 r2), ↓bnd (xm)]
theorem C_isJudge_t {j : Nat} (h : j < 8) : F_X10_isJudge n st (nI j) = some 1 := by
  have : F_X10_within n st (nI j) (0 : Int32) (7 : Int32) = some 1 := C_in_t (j := j) (b := 7) (by omega) (by decide)
  unfold F_X10_isJudge
  simp only [↓bnd (this), rz1, Option.bind_some]
theorem C_isJudge_f {j : Int32} (h : ∀ i, i < 8 → ¬ j = nI i) : F_X10_isJudge n st j = some 0 := by
  have : F_X10_within n st j (0 : Int32) (7 : Int32) = some 0 := C_in_f (b := 7) h (by decide)
  unfold F_X10_isJudge
  simp only [↓bnd (this), rz0, Option.bind_some]
theorem E_looser (hR : Rel st G I) (j u : Int32) (hn : 3000 ≤ n) : ∃ v, F_X10_looser n st (some 64) j u = some v ∧ ∀ st2, Rel st2 G I → ∃ st3, F_X11_looser n st2 (some 106) j u = some (v, st3) ∧ Only QM st2 st3 ∧ fI st3 106 15 = -1 := by
  have hS := hR.sh
  have hT := hR.tol
  unfold F_X10_looser
  rcases nCut j 8 with ⟨j, hj, rfl⟩ | hj
  · have h0 := hR.inv.2.2.2.2.2.2.2.2.2.2.2 (2 * j) (by omega)
    have h1 := hR.inv.2.2.2.2.2.2.2.2.2.2.2 (2 * j + 1) (by omega)
    have f0 : F_X9_filmOf n st (some 65) (nI j) (0 : Int32) = some (nI (2 * j)) := by
      unfold F_X9_filmOf
      simp only [if_true, Option.bind_some, l2, nMul, show nI (2 * j) + (0 : Int32) = nI (2 * j) from nAdd _ 0]
    have f1 : F_X9_filmOf n st (some 65) (nI j) (1 : Int32) = some (nI (2 * j + 1)) := by
      unfold F_X9_filmOf
      simp only [i10, if_false, Option.bind_some, l2, nMul, nI_1]
    have v0 : F_X10_valueAt n st (some 71) (nI (2 * j)) = some (nI (G.fm (2 * j))) := by rw [C_val (c71 hS) (by omega) (by decide), hT.2.2.2.2.2.1 _ (by omega)]
    have v1 : F_X10_valueAt n st (some 71) (nI (2 * j + 1)) = some (nI (G.fm (2 * j + 1))) := by rw [C_val (c71 hS) (by omega) (by decide), hT.2.2.2.2.2.1 _ (by omega)]
    have w0 : F_X10_valueAt n st (some 72) (nI (2 * j)) = some (nI (G.fg (2 * j))) := by rw [C_val (c72 hS) (by omega) (by decide), hT.2.2.2.2.2.2.1 _ (by omega)]
    have w1 : F_X10_valueAt n st (some 72) (nI (2 * j + 1)) = some (nI (G.fg (2 * j + 1))) := by rw [C_val (c72 hS) (by omega) (by decide), hT.2.2.2.2.2.2.1 _ (by omega)]
    have a0 : F_X9_shownBy n st (some 65) (nI j) (0 : Int32) = some (nI (G.fm (2 * j))) := by unfold F_X9_shownBy; simp only [↓bnd (g65_5 hS), ↓bnd (o65 hS), ↓bnd (f0), ↓bnd (v0)]
    have a1 : F_X9_shownBy n st (some 65) (nI j) (1 : Int32) = some (nI (G.fm (2 * j + 1))) := by unfold F_X9_shownBy; simp only [↓bnd (g65_5 hS), ↓bnd (o65 hS), ↓bnd (f1), ↓bnd (v1)]
    have b0 : F_X9_gaveBy n st (some 65) (nI j) (0 : Int32) = some (nI (G.fg (2 * j))) := by unfold F_X9_gaveBy; simp only [↓bnd (g65_6 hS), ↓bnd (o65 hS), ↓bnd (f0), ↓bnd (w0)]
    have b1 : F_X9_gaveBy n st (some 65) (nI j) (1 : Int32) = some (nI (G.fg (2 * j + 1))) := by unfold F_X9_gaveBy; simp only [↓bnd (g65_6 hS), ↓bnd (o65 hS), ↓bnd (f1), ↓bnd (w1)]
    have c1 := C_atLeast (n := n) (st := st) (N := G.fm (2 * j) + G.fm (2 * j + 1)) (r := G.fg (2 * j) + G.fg (2 * j + 1)) (m := G.fm (2 * j)) (a := G.fg (2 * j)) (by omega) (by omega) (by omega) (by omega) hn
    have c2 := C_ways (n := n) (st := st) (N := G.fm (2 * j) + G.fm (2 * j + 1)) (k := G.fm (2 * j)) (by omega) (by omega) hn
    refine ⟨if u = 0 then lZ (sT (G.fm (2 * j) + G.fm (2 * j + 1)) (G.fg (2 * j) + G.fg (2 * j + 1)) (G.fm (2 * j)) (G.fg (2 * j)) (G.fg (2 * j) + G.fg (2 * j + 1) + 1 - G.fg (2 * j)) : Nat) else lZ (bn (G.fm (2 * j) + G.fm (2 * j + 1)) (G.fm (2 * j)) : Nat), ?_, fun st2 r2 => ?_⟩
    · simp only [↓Option.bind_some, ↓reduceIte, ↓bnd (C_isJudge_t hj), ↓bnd (g64_0 hS), ↓bnd (o65 hS), ↓bnd (a0), ↓bnd (a1), ↓bnd (b0), ↓bnd (b1), i10, nAdd]
      by_cases hu : u = 0
      · simp only [hu, if_true, ↓bnd (c1), Option.bind_some]
      · simp only [hu, if_false, ↓bnd (c2), Option.bind_some]
    · have S2 := r2.sh
      have hB := r2.mod.2.2.2.2.2.2.2.2.2 j hj
      have xm : F_X11_isIn n st2 (nI j) (0 : Int32) (7 : Int32) = some 1 := M_in_t (j := j) (b := 7) (by omega) (by decide)
      have q0 : (2530 : Int32) + (4 : Int32) * nI j = nI (2530 + 4 * j) := by simp only [l0, l1, l2, l3, l4, l5, l6, l7, l8, l9, l10, l11, l12, l13, l14, l15, l16, l17, l18, l19, l20, l21, l22, l23, l24, l25, l26, l27, l28, l29, l30, l31, l32, l33, l34, l35, l36, l37, l38, l39, l40, l41, l42, l43, l44, l45, l46, l47, l48, l49, l50, l51, l52, l53, l54, l55, l56, l57, l58, l59, l60, l65, l90, l96, l97, l99, l100, l101, l122, l150, l242, l255, l499, l500, l510, l800, l960, l999, l1000, l1002, l1730, l2530, l2562, l9999, l10250, l32768, l1000000, nMul, nAdd, nNegN]
      have q1 : nI (2530 + 4 * j) + (1 : Int32) = nI (2530 + 4 * j + 1) := nI_1 _
      have q2 : nI (2530 + 4 * j) + (2 : Int32) = nI (2530 + 4 * j + 2) := nAdd _ 2
      have q3 : nI (2530 + 4 * j) + (3 : Int32) = nI (2530 + 4 * j + 3) := nAdd _ 3
      have r0 : aI st2 (some 107) (nI (2530 + 4 * j)) = some (nI (G.fm (2 * j))) := by rw [M_all S2 (by omega), hB.1]
      have r1 : aI st2 (some 107) (nI (2530 + 4 * j + 1)) = some (nI (G.fg (2 * j))) := by rw [M_all S2 (by omega), hB.2.1]
      have r2' : aI st2 (some 107) (nI (2530 + 4 * j + 2)) = some (nI (G.fm (2 * j + 1))) := by rw [M_all S2 (by omega), hB.2.2.1]
      have r3 : aI st2 (some 107) (nI (2530 + 4 * j + 3)) = some (nI (G.fg (2 * j + 1))) := by rw [M_all S2 (by omega), hB.2.2.2]
      obtain ⟨s3, d1, d2⟩ := M_atLeast (n := n) S2 (N := G.fm (2 * j) + G.fm (2 * j + 1)) (r := G.fg (2 * j) + G.fg (2 * j + 1)) (m := G.fm (2 * j)) (a := G.fg (2 * j)) (by omega) (by omega) (by omega) (by omega) hn
      obtain ⟨s4, d3, d4⟩ := M_choose (n := n) S2 (N := G.fm (2 * j) + G.fm (2 * j + 1)) (k := G.fm (2 * j)) (by omega) (by omega) hn
      have qm : ∀ s, WM st2 s → Only QM st2 s ∧ fI s 106 15 = -1 := fun s h => ⟨h.mono fun a h => by unfold QM; omega, (fI_o h (by decide) 15).trans r2.2.2.2.2.2.2.1⟩
      by_cases hu : u = 0
      · refine ⟨s3, ?_, qm s3 d2⟩
        unfold F_X11_looser
        simp only [↓Option.bind_some, ↓reduceIte, ↓bnd (xm), ↓bnd (g106_0 S2), i10, q0, q1, q2, q3, ↓bnd (r0), ↓bnd (r1), ↓bnd (r2'), ↓bnd (r3), hu]
        simp only [↓bnd (g106_0 S2), ↓bnd (r0), ↓bnd (r1), ↓bnd (r2'), ↓bnd (r3), Option.bind_some, q1, q2, q3, nAdd, ↓bnd (o106 S2), ↓bnd (d1)]
      · refine ⟨s4, ?_, qm s4 d4⟩
        unfold F_X11_looser
        simp only [↓Option.bind_some, ↓reduceIte, ↓bnd (xm), ↓bnd (g106_0 S2), i10, q0, q1, q2, q3, ↓bnd (r0), ↓bnd (r1), ↓bnd (r2'), ↓bnd (r3), hu]
        simp only [↓bnd (g106_0 S2), ↓bnd (r0), ↓bnd (r1), ↓bnd (r2'), ↓bnd (r3), Option.bind_some, q1, q2, q3, nAdd, ↓bnd (o106 S2), ↓bnd (d3)]
  · refine ⟨-1, ?_, fun st2 r2 => ⟨st2, ?_, Only.refl r2.sh, r2.2.2.2.2.2.2.1⟩⟩
    · simp only [↓Option.bind_some, ↓reduceIte, ↓bnd (C_isJudge_f hj)]
    · have xm : F_X11_isIn n st2 j (0 : Int32) (7 : Int32) = some 0 := M_in_f (b := 7) hj (by decide)
      unfold F_X11_looser
      simp only [↓Option.bind_some, ↓reduceIte, ↓bnd (xm)]
end OD

/-! PEOPLE, LONGER, CARDED, HAD, SLOPE -/
section PE
variable {st st1 : xS} {n : Nat} {G : Gh} {I : Im} {x y : Int32}
/-- the sums of one kind and of the other -/
theorem C_lw (G : Gh) (l k : Nat) (hl : l < 2147483648) (hk : G.nt k 8 < 2147483648) : (nI (G.nt k 8) < nI l) = ¬ l ≤ G.nt k 8 := by
  rw [nLt hk hl]
  exact propext (by omega)
theorem E_people (hR : Rel st G I) (x y l u : Int32) (hn : 3000 ≤ n) : ∃ v st', F_X10_people n st (some 64) x y l u = some (v, st') ∧ Only QC st st' ∧ ∀ st2, Rel st2 G I → ∃ st3, F_X11_people n st2 (some 106) x y l u = some (v, st3) ∧ Only QM st2 st3 ∧ fI st3 106 15 = -1 := by
  have hS := hR.sh
  have b := hR.inv.n3
  have c := pc_le G x y
  unfold F_X10_people
  rcases nCut l 1001 with ⟨l, hl, rfl⟩ | hl
  · have xc : F_X10_within n st (nI l) (0 : Int32) (1000 : Int32) = some 1 := C_in_t (j := l) (b := 1000) (by omega) (by decide)
    obtain ⟨st1, e1, o1, hp⟩ := C_pick hR x y hn
    have oQ : Only QC st st1 := o1.mono fun a h => by unfold QC; omega
    have R1 := hR.qc oQ
    have S1 := R1.sh
    have lc : F_X10_people_L34 n n st1 (some 64) (nI l) u (nI (pc G x y)) (zI 0) (zI 0) (zI 0) (nI 0) = some (zI (iS (fun i => if l ≤ G.nt (pf G x y i) 8 then 1 else 0) (pc G x y)), zI (iS (fun i => if l ≤ G.nt (pf G x y i) 8 then mg G (pf G x y i) else 0) (pc G x y)), zI (iS (fun i => if l ≤ G.nt (pf G x y i) 8 then 0 else mg G (pf G x y i)) (pc G x y))) := by
      refine loop_run (fun m (s : Int32 × Int32 × Int32 × Int32) => F_X10_people_L34 n m st1 (some 64) (nI l) u (nI (pc G x y)) s.1 s.2.1 s.2.2.1 s.2.2.2) (fun i => (zI (iS (fun i => if l ≤ G.nt (pf G x y i) 8 then 1 else 0) i), zI (iS (fun i => if l ≤ G.nt (pf G x y i) 8 then mg G (pf G x y i) else 0) i), zI (iS (fun i => if l ≤ G.nt (pf G x y i) 8 then 0 else mg G (pf G x y i)) i), nI i)) (pc G x y) _ (fun m i hi => ?_) (fun m => ?_) n (by omega)
      · dsimp only
        have t := hR.inv.nt (pf_lt hi)
        unfold NtI at t
        have e8 : F_X10_pickedOf n st1 (some 64) (nI i) (8 : Int32) = _ := C_pickedOf R1 hp hi (show 8 < 10 by decide)
        rw [F_X10_people_L34, iS, iS, iS]
        dsimp only
        simp (disch := omega) only [↓Option.bind_some, ↓reduceIte, ↓bnd (o64 S1), ↓bnd (e8), nLe_f, nI_1, C_lw]
        by_cases h : l ≤ G.nt (pf G x y i) 8
        · simp only [h, if_true, not_true, if_false, ↓bnd (o64 S1), ↓bnd (C_mg R1 hp hi), Option.bind_some, z_1, zAdd, Int.add_zero]
        · simp only [h, if_false, not_false_eq_true, if_true, ↓bnd (o64 S1), ↓bnd (C_mg R1 hp hi), Option.bind_some, z_1, zAdd, Int.add_zero]
      · dsimp only
        rw [F_X10_people_L34]
        dsimp only
        simp (disch := omega) only [nLe_t, ↓reduceIte]
    rw [yS_pf G x y (fun k => if l ≤ G.nt k 8 then 1 else 0), yS_pf G x y (fun k => if l ≤ G.nt k 8 then mg G k else 0), yS_pf G x y (fun k => if l ≤ G.nt k 8 then 0 else mg G k)] at lc
    have lc2 : F_X10_people_L34 n n st1 (some 64) (nI l) u (nI (pc G x y)) (0 : Int32) (0 : Int32) (0 : Int32) (0 : Int32) = _ := lc
    have sp : ((pc G x y : Nat) : Int) = yS G x y (fun k => if l ≤ G.nt k 8 then 1 else 0) (G.cn 3) + yS G x y (fun k => if l ≤ G.nt k 8 then 0 else 1) (G.cn 3) := by
      rw [← yS_add, yS_1]
      exact yS_ext fun k _ => by split <;> rfl
    have bo := one_b (x := x) (y := y) hR.inv (w := fun k => if l ≤ G.nt k 8 then 1 else 0) (fun k => by split <;> omega) (Nat.le_refl _)
    have bt := one_b (x := x) (y := y) hR.inv (w := fun k => if l ≤ G.nt k 8 then 0 else 1) (fun k => by split <;> omega) (Nat.le_refl _)
    have bu := yS_b (G := G) (x := x) (y := y) (w := fun k => if l ≤ G.nt k 8 then mg G k else 0) (c := 9) (fun i hi => by have := mg_b hR.inv hi; split <;> omega) (by omega) hR.inv.n3
    have bv := yS_b (G := G) (x := x) (y := y) (w := fun k => if l ≤ G.nt k 8 then 0 else mg G k) (c := 9) (fun i hi => by have := mg_b hR.inv hi; split <;> omega) (by omega) hR.inv.n3
    refine ⟨apV (yS G x y (fun k => if l ≤ G.nt k 8 then 1 else 0) (G.cn 3)) (yS G x y (fun k => if l ≤ G.nt k 8 then 0 else 1) (G.cn 3)) (yS G x y (fun k => if l ≤ G.nt k 8 then mg G k else 0) (G.cn 3)) (yS G x y (fun k => if l ≤ G.nt k 8 then 0 else mg G k) (G.cn 3)) u, st1, ?_, oQ, fun st2 r2 => ?_⟩
    · have k := C_lessOther (n := n) (st := st1) bo bt ⟨Int.le_trans (show (-1600 : Int) ≤ -(9 * 80) by decide) bu.1, Int.le_trans bu.2 (show (9 * 80 : Int) ≤ 1600 by decide)⟩ ⟨Int.le_trans (show (-1600 : Int) ≤ -(9 * 80) by decide) bv.1, Int.le_trans bv.2 (show (9 * 80 : Int) ≤ 1600 by decide)⟩ u hn
      have d : nI (pc G x y) - zI (yS G x y (fun k => if l ≤ G.nt k 8 then 1 else 0) (G.cn 3)) = zI (yS G x y (fun k => if l ≤ G.nt k 8 then 0 else 1) (G.cn 3)) := by
        rw [← zN, zSub, sp]
        congr 1
        omega
      simp only [↓Option.bind_some, ↓reduceIte, ↓bnd (xc), ↓bnd (o64 hS), ↓bnd (e1), ↓bnd (lc2), i10, d, k]
    · have S2 := r2.sh
      have xm : F_X11_isIn n st2 (nI l) (0 : Int32) (1000 : Int32) = some 1 := M_in_t (j := l) (b := 1000) (by omega) (by decide)
      obtain ⟨s1, e1, f1, v1⟩ := M_nothing (n := n) S2
      have hl : ∃ s2, F_X11_people_L22 n n s1 (some 106) x y (nI l) u (nI 0) = some s2 ∧ AF st2 s2 ∧ AV s2 (yS G x y (fun k => if l ≤ G.nt k 8 then 1 else 0) (G.cn 3)) (yS G x y (fun k => if l ≤ G.nt k 8 then 0 else 1) (G.cn 3)) (yS G x y (fun k => if l ≤ G.nt k 8 then mg G k else 0) (G.cn 3)) (yS G x y (fun k => if l ≤ G.nt k 8 then 0 else mg G k) (G.cn 3)) := by
        refine loop_ex (fun m (s : xS × Int32) => F_X11_people_L22 n m s.1 (some 106) x y (nI l) u s.2) (fun k s => AF st2 s.1 ∧ AV s.1 (yS G x y (fun k => if l ≤ G.nt k 8 then 1 else 0) k) (yS G x y (fun k => if l ≤ G.nt k 8 then 0 else 1) k) (yS G x y (fun k => if l ≤ G.nt k 8 then mg G k else 0) k) (yS G x y (fun k => if l ≤ G.nt k 8 then 0 else mg G k) k) ∧ s.2 = nI k) (G.cn 3) (fun r => ∃ s2, r = some s2 ∧ AF st2 s2 ∧ AV s2 (yS G x y (fun k => if l ≤ G.nt k 8 then 1 else 0) (G.cn 3)) (yS G x y (fun k => if l ≤ G.nt k 8 then 0 else 1) (G.cn 3)) (yS G x y (fun k => if l ≤ G.nt k 8 then mg G k else 0) (G.cn 3)) (yS G x y (fun k => if l ≤ G.nt k 8 then 0 else mg G k) (G.cn 3))) ?_ ?_ n (by omega) (s1, nI 0) ⟨f1, v1, rfl⟩
        · rintro m k ⟨s, z⟩ hk ⟨h1, h2, h3⟩
          dsimp only at h1 h2 h3 ⊢
          subst h3
          have Rs := h1.rel r2
          have S := Rs.sh
          have M := Rs.mod
          have t := hR.inv.nt hk
          unfold NtI at t
          rw [yS_s, yS_s, yS_s, yS_s]
          have e8 : F_X11_noteAt n s (some 106) (nI k) (8 : Int32) = _ := M_noteAt S M Rs.inv hk (show 8 < 10 by decide)
          have q8 : ((if nI (G.nt k 8) < nI l then some (0 : Int32) else some (1 : Int32)) : Option Int32) = some (bI (l ≤ G.nt k 8)) := by
            simp (disch := omega) only [C_lw]
            by_cases h : l ≤ G.nt k 8
            · simp only [h, not_true, if_false, bI_t]
            · simp only [h, not_false_eq_true, if_true, bI_f]
          by_cases h : inY G x y k
          · obtain ⟨s3, e3, f3, v3⟩ := M_adds (n := n) (w := mg G k) S h2 (l ≤ G.nt k 8)
            refine ⟨(s3, nI (k + 1)), ⟨h1.trans f3, by rw [if_pos h, if_pos h, if_pos h, if_pos h]; exact v3, rfl⟩, ?_⟩
            dsimp only
            rw [F_X11_people_L22]
            dsimp only
            simp (disch := omega) only [↓Option.bind_some, ↓reduceIte, ↓bnd (g106_0 S), ↓bnd (M_cnt S M), ↓bnd (o106 S), ↓bnd (M_yr S M Rs.inv hk), ↓bnd (e8), ↓bnd (q8), ↓bnd (M_mg S M Rs.inv hk), ↓bnd (e3), bI_t h, i10, nLe_f, nI_1]
          · refine ⟨(s, nI (k + 1)), ⟨h1, by rw [if_neg h, if_neg h, if_neg h, if_neg h]; exact h2, rfl⟩, ?_⟩
            dsimp only
            rw [F_X11_people_L22]
            dsimp only
            simp (disch := omega) only [↓Option.bind_some, ↓reduceIte, ↓bnd (g106_0 S), ↓bnd (M_cnt S M), ↓bnd (o106 S), ↓bnd (M_yr S M Rs.inv hk), bI_f h, nLe_f, nI_1]
        · rintro m ⟨s, z⟩ ⟨h1, h2, h3⟩
          dsimp only at h1 h2 h3 ⊢
          subst h3
          have Rs := h1.rel r2
          have S := Rs.sh
          have M := Rs.mod
          refine ⟨s, ?_, h1, h2⟩
          rw [F_X11_people_L22]
          dsimp only
          simp (disch := omega) only [↓Option.bind_some, ↓reduceIte, ↓bnd (g106_0 S), ↓bnd (M_cnt S M), nLe_t]
      obtain ⟨s2, e2, f2, v2⟩ := hl
      have e2 : F_X11_people_L22 n n s1 (some 106) x y (nI l) u (0 : Int32) = some s2 := e2
      have k := M_apart (n := n) f2.1.2.2.1 v2 bo bt ⟨Int.le_trans (show (-1600 : Int) ≤ -(9 * 80) by decide) bu.1, Int.le_trans bu.2 (show (9 * 80 : Int) ≤ 1600 by decide)⟩ ⟨Int.le_trans (show (-1600 : Int) ≤ -(9 * 80) by decide) bv.1, Int.le_trans bv.2 (show (9 * 80 : Int) ≤ 1600 by decide)⟩ u hn
      refine ⟨s2, ?_, f2.qm, f2.2.trans r2.2.2.2.2.2.2.1⟩
      unfold F_X11_people
      simp only [↓Option.bind_some, ↓reduceIte, ↓bnd (xm), ↓bnd (o106 S2), ↓bnd (e1), ↓bnd (e2), ↓bnd (o106 f2.1.2.2.1), ↓bnd (k), i10]
  · have xc : F_X10_within n st l (0 : Int32) (1000 : Int32) = some 0 := C_in_f (b := 1000) hl (by decide)
    refine ⟨-1000000, st, ?_, Only.refl hS, fun st2 r2 => ⟨st2, ?_, Only.refl r2.sh, r2.2.2.2.2.2.2.1⟩⟩
    · simp only [↓Option.bind_some, ↓reduceIte, ↓bnd (xc)]
    · have xm : F_X11_isIn n st2 l (0 : Int32) (1000 : Int32) = some 0 := M_in_f (b := 1000) hl (by decide)
      unfold F_X11_people
      simp only [↓Option.bind_some, ↓reduceIte, ↓bnd (xm)]
/-- of a judge, behind by one or ahead by one -/
abbrev jd (G : Gh) (j : Int32) (d : Int) (k : Nat) : Prop := nI (G.nt k 9) = j ∧ mg G k = d
def jc (G : Gh) (j : Int32) (d : Int) (k : Nat) : Int := if jd G j d k then 1 else 0
def jm (G : Gh) (j : Int32) (d : Int) (k : Nat) : Int := if jd G j d k then ((G.nt k 7 : Nat) : Int) else 0
theorem E_longer (hR : Rel st G I) (x y j u : Int32) (hn : 3000 ≤ n) : ∃ v st', F_X10_longer n st (some 64) x y j u = some (v, st') ∧ Only QC st st' ∧ ∀ st2, Rel st2 G I → ∃ st3, F_X11_longer n st2 (some 106) x y j u = some (v, st3) ∧ Only QM st2 st3 ∧ fI st3 106 15 = -1 := by
  have hS := hR.sh
  have b := hR.inv.n3
  have c := pc_le G x y
  unfold F_X10_longer
  obtain ⟨st1, e1, o1, hp⟩ := C_pick hR x y hn
  have oQ : Only QC st st1 := o1.mono fun a h => by unfold QC; omega
  have R1 := hR.qc oQ
  have S1 := R1.sh
  have lc : F_X10_longer_L23 n n st1 (some 64) j u (nI (pc G x y)) (zI 0) (zI 0) (zI 0) (zI 0) (nI 0) = some (zI (iS (fun i => jc G j (-1) (pf G x y i)) (pc G x y)), zI (iS (fun i => jm G j (-1) (pf G x y i)) (pc G x y)), zI (iS (fun i => jc G j 1 (pf G x y i)) (pc G x y)), zI (iS (fun i => jm G j 1 (pf G x y i)) (pc G x y))) := by
    refine loop_run (fun m (s : Int32 × Int32 × Int32 × Int32 × Int32) => F_X10_longer_L23 n m st1 (some 64) j u (nI (pc G x y)) s.1 s.2.1 s.2.2.1 s.2.2.2.1 s.2.2.2.2) (fun i => (zI (iS (fun i => jc G j (-1) (pf G x y i)) i), zI (iS (fun i => jm G j (-1) (pf G x y i)) i), zI (iS (fun i => jc G j 1 (pf G x y i)) i), zI (iS (fun i => jm G j 1 (pf G x y i)) i), nI i)) (pc G x y) _ (fun m i hi => ?_) (fun m => ?_) n (by omega)
    · dsimp only
      have m1 := mg_b hR.inv (pf_lt hi)
      have e9 : F_X10_pickedOf n st1 (some 64) (nI i) (9 : Int32) = _ := C_pickedOf R1 hp hi (show 9 < 10 by decide)
      have e7 : F_X10_pickedOf n st1 (some 64) (nI i) (7 : Int32) = some (zI (G.nt (pf G x y i) 7 : Nat)) := C_pickedOf R1 hp hi (show 7 < 10 by decide)
      rw [F_X10_longer_L23, iS, iS, iS, iS]
      dsimp only
      unfold jc jm jd
      simp (disch := omega) only [↓Option.bind_some, ↓reduceIte, ↓bnd (o64 S1), ↓bnd (e9), nLe_f, nI_1]
      by_cases h : nI (G.nt (pf G x y i) 9) = j
      · by_cases h1 : mg G (pf G x y i) = -1
        · simp (disch := omega) only [h, if_true, true_and, ↓bnd (o64 S1), ↓bnd (C_mg R1 hp hi), ↓bnd (e7), zLe0, zGe0, zEq0, zEq1, zEqN, h1, Option.bind_some, z_1, zAdd, Int.add_zero, show ((-1 : Int) = 1) = False by decide, if_false]
        · by_cases h2 : mg G (pf G x y i) = 1
          · simp (disch := omega) only [h, if_true, true_and, ↓bnd (o64 S1), ↓bnd (C_mg R1 hp hi), ↓bnd (e7), zLe0, zGe0, zEq0, zEq1, zEqN, h2, Option.bind_some, z_1, zAdd, Int.add_zero, show ((1 : Int) = -1) = False by decide, if_false]
          · simp (disch := omega) only [h, if_true, true_and, ↓bnd (o64 S1), ↓bnd (C_mg R1 hp hi), ↓bnd (e7), zLe0, zGe0, zEq0, zEq1, zEqN, h1, h2, Option.bind_some, z_1, zAdd, Int.add_zero, if_false]
      · simp only [h, if_false, false_and, Option.bind_some, Int.add_zero]
    · dsimp only
      rw [F_X10_longer_L23]
      dsimp only
      simp (disch := omega) only [nLe_t, ↓reduceIte]
  rw [yS_pf G x y (jc G j (-1)), yS_pf G x y (jm G j (-1)), yS_pf G x y (jc G j 1), yS_pf G x y (jm G j 1)] at lc
  have lc2 : F_X10_longer_L23 n n st1 (some 64) j u (nI (pc G x y)) (0 : Int32) (0 : Int32) (0 : Int32) (0 : Int32) (0 : Int32) = _ := lc
  have j01 : ∀ d k, 0 ≤ jc G j d k ∧ jc G j d k ≤ 1 := fun d k => by unfold jc; split <;> omega
  have jm1 : ∀ d k, k < G.cn 3 → -19 ≤ jm G j d k ∧ jm G j d k ≤ 19 := fun d k hk => by
    have t := hR.inv.nt hk
    unfold NtI at t
    unfold jm
    split <;> omega
  have bo := one_b (x := x) (y := y) hR.inv (w := jc G j (-1)) (j01 (-1)) (Nat.le_refl _)
  have bt := one_b (x := x) (y := y) hR.inv (w := jc G j 1) (j01 1) (Nat.le_refl _)
  have bu := yS_b (G := G) (x := x) (y := y) (w := jm G j (-1)) (c := 19) (jm1 (-1)) (by omega) hR.inv.n3
  have bv := yS_b (G := G) (x := x) (y := y) (w := jm G j 1) (c := 19) (jm1 1) (by omega) hR.inv.n3
  refine ⟨apV (yS G x y (jc G j (-1)) (G.cn 3)) (yS G x y (jc G j 1) (G.cn 3)) (yS G x y (jm G j (-1)) (G.cn 3)) (yS G x y (jm G j 1) (G.cn 3)) u, st1, ?_, oQ, fun st2 r2 => ?_⟩
  · have k := C_lessOther (n := n) (st := st1) bo bt ⟨Int.le_trans (show (-1600 : Int) ≤ -(19 * 80) by decide) bu.1, Int.le_trans bu.2 (show (19 * 80 : Int) ≤ 1600 by decide)⟩ ⟨Int.le_trans (show (-1600 : Int) ≤ -(19 * 80) by decide) bv.1, Int.le_trans bv.2 (show (19 * 80 : Int) ≤ 1600 by decide)⟩ u hn
    simp only [↓Option.bind_some, ↓bnd (o64 hS), ↓bnd (e1), ↓bnd (lc2), k]
  · have S2 := r2.sh
    obtain ⟨s1, e1, f1, v1⟩ := M_nothing (n := n) S2
    have hl : ∃ s2, F_X11_longer_L7 n n s1 (some 106) x y j u (nI 0) = some s2 ∧ AF st2 s2 ∧ AV s2 (yS G x y (jc G j (-1)) (G.cn 3)) (yS G x y (jc G j 1) (G.cn 3)) (yS G x y (jm G j (-1)) (G.cn 3)) (yS G x y (jm G j 1) (G.cn 3)) := by
      refine loop_ex (fun m (s : xS × Int32) => F_X11_longer_L7 n m s.1 (some 106) x y j u s.2) (fun k s => AF st2 s.1 ∧ AV s.1 (yS G x y (jc G j (-1)) k) (yS G x y (jc G j 1) k) (yS G x y (jm G j (-1)) k) (yS G x y (jm G j 1) k) ∧ s.2 = nI k) (G.cn 3) (fun r => ∃ s2, r = some s2 ∧ AF st2 s2 ∧ AV s2 (yS G x y (jc G j (-1)) (G.cn 3)) (yS G x y (jc G j 1) (G.cn 3)) (yS G x y (jm G j (-1)) (G.cn 3)) (yS G x y (jm G j 1) (G.cn 3))) ?_ ?_ n (by omega) (s1, nI 0) ⟨f1, v1, rfl⟩
      · rintro m k ⟨s, z⟩ hk ⟨h1, h2, h3⟩
        dsimp only at h1 h2 h3 ⊢
        subst h3
        have Rs := h1.rel r2
        have S := Rs.sh
        have M := Rs.mod
        have m1 := mg_b hR.inv hk
        rw [yS_s, yS_s, yS_s, yS_s]
        have e9 : F_X11_noteAt n s (some 106) (nI k) (9 : Int32) = _ := M_noteAt S M Rs.inv hk (show 9 < 10 by decide)
        have e7 : F_X11_noteAt n s (some 106) (nI k) (7 : Int32) = some (zI (G.nt k 7 : Nat)) := M_noteAt S M Rs.inv hk (show 7 < 10 by decide)
        have stay : ¬ (inY G x y k ∧ (jd G j (-1) k ∨ jd G j 1 k)) → AV s (if inY G x y k then yS G x y (jc G j (-1)) k + jc G j (-1) k else yS G x y (jc G j (-1)) k) (if inY G x y k then yS G x y (jc G j 1) k + jc G j 1 k else yS G x y (jc G j 1) k) (if inY G x y k then yS G x y (jm G j (-1)) k + jm G j (-1) k else yS G x y (jm G j (-1)) k) (if inY G x y k then yS G x y (jm G j 1) k + jm G j 1 k else yS G x y (jm G j 1) k) := by
          intro hh
          by_cases h : inY G x y k
          · have n1 : ¬ jd G j (-1) k := fun q => hh ⟨h, Or.inl q⟩
            have n2 : ¬ jd G j 1 k := fun q => hh ⟨h, Or.inr q⟩
            unfold jc jm
            simp only [eq_true h, n1, n2, if_true, if_false, Int.add_zero]
            exact h2
          · simp only [eq_false h, if_false]
            exact h2
        by_cases h : inY G x y k
        · by_cases hj : nI (G.nt k 9) = j
          · by_cases h4 : mg G k = 1
            · obtain ⟨s3, e3, f3, v3⟩ := M_adds (n := n) (w := ((G.nt k 7 : Nat) : Int)) S h2 False
              simp only [if_false, Int.add_zero] at v3
              have e3 : F_X11_adds n s (some 106) (0 : Int32) (zI (G.nt k 7 : Nat)) = some s3 := e3
              refine ⟨(s3, nI (k + 1)), ⟨h1.trans f3, ?_, rfl⟩, ?_⟩
              · dsimp only
                unfold jc jm jd
                simp only [eq_true h, hj, h4, if_true, true_and, show ((1 : Int) = -1) = False by decide, if_false, Int.add_zero]
                exact v3
              · dsimp only
                rw [F_X11_longer_L7]
                dsimp only
                simp (disch := omega) only [↓Option.bind_some, ↓reduceIte, ↓bnd (g106_0 S), ↓bnd (M_cnt S M), ↓bnd (o106 S), ↓bnd (M_mg S M Rs.inv hk), ↓bnd (M_yr S M Rs.inv hk), ↓bnd (e9), ↓bnd (e7), bI_t h, i10, nLe_f, nI_1, hj, zLe0, zGe0, zEq0, zEq1, zEqN, h4, show ((1 : Int) = -1) = False by decide]
                simp only [↓bnd (o106 S), ↓bnd (e7), ↓bnd (e3), Option.bind_some]
            · by_cases h5 : mg G k = -1
              · obtain ⟨s3, e3, f3, v3⟩ := M_adds (n := n) (w := ((G.nt k 7 : Nat) : Int)) S h2 True
                simp only [if_true, Int.add_zero] at v3
                have e3 : F_X11_adds n s (some 106) (1 : Int32) (zI (G.nt k 7 : Nat)) = some s3 := e3
                refine ⟨(s3, nI (k + 1)), ⟨h1.trans f3, ?_, rfl⟩, ?_⟩
                · dsimp only
                  unfold jc jm jd
                  simp only [eq_true h, hj, h5, if_true, true_and, show ((-1 : Int) = 1) = False by decide, if_false, Int.add_zero]
                  exact v3
                · dsimp only
                  rw [F_X11_longer_L7]
                  dsimp only
                  simp (disch := omega) only [↓Option.bind_some, ↓reduceIte, ↓bnd (g106_0 S), ↓bnd (M_cnt S M), ↓bnd (o106 S), ↓bnd (M_mg S M Rs.inv hk), ↓bnd (M_yr S M Rs.inv hk), ↓bnd (e9), ↓bnd (e7), bI_t h, i10, nLe_f, nI_1, hj, zLe0, zGe0, zEq0, zEq1, zEqN, h5, show ((-1 : Int) = 1) = False by decide]
                  simp only [↓bnd (o106 S), ↓bnd (e7), ↓bnd (e3), Option.bind_some]
              · refine ⟨(s, nI (k + 1)), ⟨h1, stay fun q => q.2.elim (fun a => h5 a.2) (fun a => h4 a.2), rfl⟩, ?_⟩
                dsimp only
                rw [F_X11_longer_L7]
                dsimp only
                simp (disch := omega) only [↓Option.bind_some, ↓reduceIte, ↓bnd (g106_0 S), ↓bnd (M_cnt S M), ↓bnd (o106 S), ↓bnd (M_mg S M Rs.inv hk), ↓bnd (M_yr S M Rs.inv hk), ↓bnd (e9), bI_t h, i10, nLe_f, nI_1, hj, zLe0, zGe0, zEq0, zEq1, zEqN, h4, h5]
          · refine ⟨(s, nI (k + 1)), ⟨h1, stay fun q => q.2.elim (fun a => hj a.1) (fun a => hj a.1), rfl⟩, ?_⟩
            dsimp only
            rw [F_X11_longer_L7]
            dsimp only
            simp (disch := omega) only [↓Option.bind_some, ↓reduceIte, ↓bnd (g106_0 S), ↓bnd (M_cnt S M), ↓bnd (o106 S), ↓bnd (M_mg S M Rs.inv hk), ↓bnd (M_yr S M Rs.inv hk), ↓bnd (e9), bI_t h, i10, nLe_f, nI_1, hj]
        · refine ⟨(s, nI (k + 1)), ⟨h1, stay fun q => h q.1, rfl⟩, ?_⟩
          dsimp only
          rw [F_X11_longer_L7]
          dsimp only
          simp (disch := omega) only [↓Option.bind_some, ↓reduceIte, ↓bnd (g106_0 S), ↓bnd (M_cnt S M), ↓bnd (o106 S), ↓bnd (M_mg S M Rs.inv hk), ↓bnd (M_yr S M Rs.inv hk), bI_f h, nLe_f, nI_1]
      · rintro m ⟨s, z⟩ ⟨h1, h2, h3⟩
        dsimp only at h1 h2 h3 ⊢
        subst h3
        have Rs := h1.rel r2
        have S := Rs.sh
        have M := Rs.mod
        refine ⟨s, ?_, h1, h2⟩
        rw [F_X11_longer_L7]
        dsimp only
        simp (disch := omega) only [↓Option.bind_some, ↓reduceIte, ↓bnd (g106_0 S), ↓bnd (M_cnt S M), nLe_t]
    obtain ⟨s2, e2, f2, v2⟩ := hl
    have e2 : F_X11_longer_L7 n n s1 (some 106) x y j u (0 : Int32) = some s2 := e2
    have k := M_apart (n := n) f2.1.2.2.1 v2 bo bt ⟨Int.le_trans (show (-1600 : Int) ≤ -(19 * 80) by decide) bu.1, Int.le_trans bu.2 (show (19 * 80 : Int) ≤ 1600 by decide)⟩ ⟨Int.le_trans (show (-1600 : Int) ≤ -(19 * 80) by decide) bv.1, Int.le_trans bv.2 (show (19 * 80 : Int) ≤ 1600 by decide)⟩ u hn
    refine ⟨s2, ?_, f2.qm, f2.2.trans r2.2.2.2.2.2.2.1⟩
    unfold F_X11_longer
    simp only [↓Option.bind_some, ↓bnd (o106 S2), ↓bnd (e1), ↓bnd (e2), ↓bnd (o106 f2.1.2.2.1), ↓bnd (k)]
/-- cards of a judge -/
def cc (G : Gh) (j : Int32) (k : Nat) : Int := if nI (G.nt k 9) = j then 1 else 0
def cd (G : Gh) (j : Int32) (k : Nat) : Int := if nI (G.nt k 9) = j then (G.nt k 6 : Int) - (G.nt k 5 : Int) else 0
theorem E_carded (hR : Rel st G I) (x y j : Int32) (hn : 3000 ≤ n) : ∃ v st', F_X10_carded n st (some 64) x y j = some (v, st') ∧ Only QC st st' ∧ ∀ st2, Rel st2 G I → F_X11_carded n st2 (some 106) x y j = some v := by
  have hS := hR.sh
  have b := hR.inv.n3
  have c := pc_le G x y
  unfold F_X10_carded
  obtain ⟨st1, e1, o1, hp⟩ := C_pick hR x y hn
  have oQ : Only QC st st1 := o1.mono fun a h => by unfold QC; omega
  have R1 := hR.qc oQ
  have S1 := R1.sh
  have lc : F_X10_carded_L17 n n st1 (some 64) j (nI (pc G x y)) (zI 0) (zI 0) (nI 0) = some (zI (iS (fun i => cc G j (pf G x y i)) (pc G x y)), zI (iS (fun i => cd G j (pf G x y i)) (pc G x y))) := by
    refine loop_run (fun m (s : Int32 × Int32 × Int32) => F_X10_carded_L17 n m st1 (some 64) j (nI (pc G x y)) s.1 s.2.1 s.2.2) (fun i => (zI (iS (fun i => cc G j (pf G x y i)) i), zI (iS (fun i => cd G j (pf G x y i)) i), nI i)) (pc G x y) _ (fun m i hi => ?_) (fun m => ?_) n (by omega)
    · dsimp only
      have e9 : F_X10_pickedOf n st1 (some 64) (nI i) (9 : Int32) = _ := C_pickedOf R1 hp hi (show 9 < 10 by decide)
      have e6 : F_X10_pickedOf n st1 (some 64) (nI i) (6 : Int32) = some (zI (G.nt (pf G x y i) 6 : Nat)) := C_pickedOf R1 hp hi (show 6 < 10 by decide)
      have e5 : F_X10_pickedOf n st1 (some 64) (nI i) (5 : Int32) = some (zI (G.nt (pf G x y i) 5 : Nat)) := C_pickedOf R1 hp hi (show 5 < 10 by decide)
      rw [F_X10_carded_L17, iS, iS]
      dsimp only
      unfold cc cd
      simp (disch := omega) only [↓Option.bind_some, ↓reduceIte, ↓bnd (o64 S1), ↓bnd (e9), nLe_f, nI_1]
      by_cases h : nI (G.nt (pf G x y i) 9) = j
      · simp only [h, if_true, ↓bnd (o64 S1), ↓bnd (e6), ↓bnd (e5), Option.bind_some, z_1, zAdd, zSub]
      · simp only [h, if_false, Option.bind_some, Int.add_zero]
    · dsimp only
      rw [F_X10_carded_L17]
      dsimp only
      simp (disch := omega) only [nLe_t, ↓reduceIte]
  rw [yS_pf G x y (cc G j), yS_pf G x y (cd G j)] at lc
  have lc2 : F_X10_carded_L17 n n st1 (some 64) j (nI (pc G x y)) (0 : Int32) (0 : Int32) (0 : Int32) = _ := lc
  have bo := one_b (x := x) (y := y) hR.inv (w := cc G j) (fun k => by unfold cc; split <;> omega) (Nat.le_refl _)
  have q : (zI (yS G x y (cc G j) (G.cn 3)) = (0 : Int32)) = (yS G x y (cc G j) (G.cn 3) = 0) := zEq0 (by omega) (by omega)
  refine ⟨if yS G x y (cc G j) (G.cn 3) = 0 then -1000000 else zI (yS G x y (cd G j) (G.cn 3)), st1, ?_, oQ, fun st2 r2 => ?_⟩
  · simp only [↓bnd (o64 hS), ↓bnd (e1), ↓bnd (lc2), q]
    by_cases h : yS G x y (cc G j) (G.cn 3) = 0
    · simp only [h, if_true, Option.bind_some]
    · simp only [h, if_false, Option.bind_some]
  · have S := r2.sh
    have M := r2.mod
    have lm : F_X11_carded_L9 n n st2 (some 106) x y j (zI 0) (zI 0) (nI 0) = some (zI (yS G x y (cc G j) (G.cn 3)), zI (yS G x y (cd G j) (G.cn 3))) := by
      refine loop_run (fun m (s : Int32 × Int32 × Int32) => F_X11_carded_L9 n m st2 (some 106) x y j s.1 s.2.1 s.2.2) (fun k => (zI (yS G x y (cc G j) k), zI (yS G x y (cd G j) k), nI k)) (G.cn 3) _ (fun m k hk => ?_) (fun m => ?_) n (by omega)
      · dsimp only
        have e9 : F_X11_noteAt n st2 (some 106) (nI k) (9 : Int32) = _ := M_noteAt S M r2.inv hk (show 9 < 10 by decide)
        have e6 : F_X11_noteAt n st2 (some 106) (nI k) (6 : Int32) = some (zI (G.nt k 6 : Nat)) := M_noteAt S M r2.inv hk (show 6 < 10 by decide)
        have e5 : F_X11_noteAt n st2 (some 106) (nI k) (5 : Int32) = some (zI (G.nt k 5 : Nat)) := M_noteAt S M r2.inv hk (show 5 < 10 by decide)
        rw [F_X11_carded_L9, yS_s, yS_s]
        dsimp only
        by_cases hy : inY G x y k
        · by_cases h : nI (G.nt k 9) = j
          · simp (disch := omega) only [↓Option.bind_some, ↓reduceIte, ↓bnd (g106_0 S), ↓bnd (M_cnt S M), ↓bnd (o106 S), ↓bnd (M_yr S M r2.inv hk), ↓bnd (e9), ↓bnd (e6), ↓bnd (e5), bI_T, eq_true hy, i10, h, nLe_f, nI_1, if_true, z_1, zSub, zAdd, cc, cd]
          · simp (disch := omega) only [↓Option.bind_some, ↓reduceIte, ↓bnd (g106_0 S), ↓bnd (M_cnt S M), ↓bnd (o106 S), ↓bnd (M_yr S M r2.inv hk), ↓bnd (e9), bI_T, eq_true hy, i10, h, nLe_f, nI_1, if_false, if_true, cc, cd, Int.add_zero]
        · simp (disch := omega) only [↓Option.bind_some, ↓reduceIte, ↓bnd (g106_0 S), ↓bnd (M_cnt S M), ↓bnd (o106 S), ↓bnd (M_yr S M r2.inv hk), bI_F, eq_false hy, nLe_f, nI_1, if_false]
      · dsimp only
        rw [F_X11_carded_L9]
        dsimp only
        simp (disch := omega) only [↓Option.bind_some, ↓reduceIte, ↓bnd (g106_0 S), ↓bnd (M_cnt S M), nLe_t]
    have lm2 : F_X11_carded_L9 n n st2 (some 106) x y j (0 : Int32) (0 : Int32) (0 : Int32) = _ := lm
    unfold F_X11_carded
    simp only [↓bnd (lm2), q]
    by_cases h : yS G x y (cc G j) (G.cn 3) = 0
    · simp only [h, if_true, Option.bind_some]
    · simp only [h, if_false, Option.bind_some]
/-- what betting at a price has brought -/
def hd (G : Gh) (d k : Nat) : Int := if mg G k ≤ 0 then -100 else (d : Int) - 100
theorem hd_s (d k : Nat) : yS G x y (hd G d) k = yS G x y (cw G 1) k * d - 100 * yS G x y (cw G 0) k := by
  induction k with
  | zero => show (0 : Int) = 0 * (d : Int) - 100 * 0; omega
  | succ k ih =>
    rw [yS_s, yS_s, yS_s, ih]
    by_cases h : inY G x y k
    · rw [if_pos h, if_pos h, if_pos h]
      show _ + (if mg G k ≤ 0 then -100 else (d : Int) - 100) = (_ + (if mg G k ≤ 0 then 0 else 1)) * (d : Int) - 100 * (_ + 1)
      by_cases h1 : mg G k ≤ 0
      · rw [if_pos h1, if_pos h1, Int.add_zero]
        omega
      · rw [if_neg h1, if_neg h1, Int.add_mul]
        omega
    · rw [if_neg h, if_neg h, if_neg h]
theorem C_hd (hR : Rel st G I) (hp : ∀ i, i < pc G x y → cI st 104 i = nI (pf G x y i)) {i d : Nat} (hi : i < pc G x y) : ((if zI (mg G (pf G x y i)) ≤ (0 : Int32) then some (-100 : Int32) else some (nI d - (100 : Int32))) : Option Int32) = some (zI (hd G d (pf G x y i))) := by
  have m := mg_b hR.inv (pf_lt hi)
  unfold hd
  simp (disch := omega) only [zLe0, zGe0, zEq0, zEq1, zEqN]
  by_cases h : mg G (pf G x y i) ≤ 0
  · rw [if_pos h, if_pos h]; rfl
  · rw [if_neg h, if_neg h, l100, nSubZ]; rfl
theorem E_had (hR : Rel st G I) (x y p : Int32) (hn : 3000 ≤ n) : ∃ v st', F_X10_had n st (some 64) x y p = some (v, st') ∧ Only QC st st' ∧ ∀ st2, Rel st2 G I → F_X11_had n st2 (some 106) x y p = some v := by
  have hS := hR.sh
  have b := hR.inv.n3
  have c := pc_le G x y
  unfold F_X10_had
  rcases prCut p with ⟨d, d1, d2, rfl⟩ | hd0
  · obtain ⟨st1, e1, o1, hp⟩ := C_pick hR x y hn
    have oQ : Only QC st st1 := o1.mono fun a h => by unfold QC; omega
    have R1 := hR.qc oQ
    have S1 := R1.sh
    have lc : F_X10_had_L24 n n st1 (some 64) (nI d) (nI (pc G x y)) (zI 0) (nI 0) = some (zI (iS (fun i => hd G d (pf G x y i)) (pc G x y))) := by
      refine loop_run (fun m (s : Int32 × Int32) => F_X10_had_L24 n m st1 (some 64) (nI d) (nI (pc G x y)) s.1 s.2) (fun i => (zI (iS (fun i => hd G d (pf G x y i)) i), nI i)) (pc G x y) _ (fun m i hi => ?_) (fun m => ?_) n (by omega)
      · dsimp only
        rw [F_X10_had_L24, iS]
        dsimp only
        simp (disch := omega) only [↓Option.bind_some, ↓reduceIte, ↓bnd (o64 S1), ↓bnd (C_mg R1 hp hi), ↓bnd (C_hd R1 hp hi), nLe_f, nI_1, zAdd]
      · dsimp only
        rw [F_X10_had_L24]
        dsimp only
        simp (disch := omega) only [nLe_t, ↓reduceIte]
    rw [yS_pf G x y (hd G d), hd_s] at lc
    have lc2 : F_X10_had_L24 n n st1 (some 64) (nI d) (nI (pc G x y)) (0 : Int32) (0 : Int32) = _ := lc
    refine ⟨zI (yS G x y (cw G 1) (G.cn 3) * d - 100 * yS G x y (cw G 0) (G.cn 3)), st1, ?_, oQ, fun st2 r2 => ?_⟩
    · simp only [↓Option.bind_some, ↓reduceIte, ↓bnd (C_isPrice_t d1 d2), ↓bnd (o64 hS), ↓bnd (e1), ↓bnd (lc2), i10]
    · have s1 : F_X11_sum n st2 (some 106) x y (1 : Int32) = _ := M_sum r2.sh r2.mod r2.inv x y (show 1 < 6 by decide) hn
      have s0 : F_X11_sum n st2 (some 106) x y (0 : Int32) = _ := M_sum r2.sh r2.mod r2.inv x y (show 0 < 6 by decide) hn
      unfold F_X11_had
      simp only [↓Option.bind_some, ↓reduceIte, ↓bnd (M_isPrice_t d1 d2), ↓bnd (o106 r2.sh), ↓bnd (s1), ↓bnd (s0), i10, nZ d, zMul, show (100 : Int32) = zI 100 from rfl, zSub]
  · refine ⟨-1000000, st, ?_, Only.refl hS, fun st2 r2 => ?_⟩
    · simp only [↓Option.bind_some, ↓reduceIte, ↓bnd (C_isPrice_f hd0)]
    · unfold F_X11_had
      simp only [↓Option.bind_some, ↓reduceIte, ↓bnd (M_isPrice_f hd0)]
/-- a year, as a number -/
def yr (G : Gh) (k : Nat) : Int := ((G.nt k 2 : Nat) : Int)
theorem yr_b (hI : GhI G) {k : Nat} (hk : k < G.cn 3) : 0 ≤ yr G k ∧ yr G k ≤ 59 := by
  have t := hI.nt hk
  unfold NtI at t
  unfold yr
  omega
theorem E_slope (hR : Rel st G I) (x y u : Int32) (hn : 3000 ≤ n) : ∃ v st', F_X10_slope n st (some 64) x y u = some (v, st') ∧ Only QC st st' ∧ ∀ st2, Rel st2 G I → F_X11_slope n st2 (some 106) x y u = some v := by
  have hS := hR.sh
  have b := hR.inv.n3
  have c := pc_le G x y
  unfold F_X10_slope
  obtain ⟨st1, e1, o1, hp⟩ := C_pick hR x y hn
  have oQ : Only QC st st1 := o1.mono fun a h => by unfold QC; omega
  have R1 := hR.qc oQ
  have S1 := R1.sh
  have lc : F_X10_slope_L23 n n st1 (some 64) u (nI (pc G x y)) (zI 0) (zI 0) (zI 0) (zI 0) (nI 0) = some (zI (iS (fun i => yr G (pf G x y i)) (pc G x y)), zI (iS (fun i => mg G (pf G x y i)) (pc G x y)), zI (iS (fun i => yr G (pf G x y i) * yr G (pf G x y i)) (pc G x y)), zI (iS (fun i => yr G (pf G x y i) * mg G (pf G x y i)) (pc G x y))) := by
    refine loop_run (fun m (s : Int32 × Int32 × Int32 × Int32 × Int32) => F_X10_slope_L23 n m st1 (some 64) u (nI (pc G x y)) s.1 s.2.1 s.2.2.1 s.2.2.2.1 s.2.2.2.2) (fun i => (zI (iS (fun i => yr G (pf G x y i)) i), zI (iS (fun i => mg G (pf G x y i)) i), zI (iS (fun i => yr G (pf G x y i) * yr G (pf G x y i)) i), zI (iS (fun i => yr G (pf G x y i) * mg G (pf G x y i)) i), nI i)) (pc G x y) _ (fun m i hi => ?_) (fun m => ?_) n (by omega)
    · dsimp only
      have e2 : F_X10_pickedOf n st1 (some 64) (nI i) (2 : Int32) = some (zI (yr G (pf G x y i))) := C_pickedOf R1 hp hi (show 2 < 10 by decide)
      rw [F_X10_slope_L23, iS, iS, iS, iS]
      dsimp only
      simp (disch := omega) only [↓Option.bind_some, ↓reduceIte, ↓bnd (o64 S1), ↓bnd (e2), ↓bnd (C_mg R1 hp hi), nLe_f, nI_1, zMul, zAdd]
    · dsimp only
      rw [F_X10_slope_L23]
      dsimp only
      simp (disch := omega) only [nLe_t, ↓reduceIte]
  rw [yS_pf G x y (yr G), yS_pf G x y (mg G), yS_pf G x y (fun k => yr G k * yr G k), yS_pf G x y (fun k => yr G k * mg G k)] at lc
  have lc2 : F_X10_slope_L23 n n st1 (some 64) u (nI (pc G x y)) (0 : Int32) (0 : Int32) (0 : Int32) (0 : Int32) (0 : Int32) = _ := lc
  have bX := yS_b (G := G) (x := x) (y := y) (w := yr G) (c := 59) (fun i hi => by have := yr_b hR.inv hi; omega) (by omega) b
  have bY := mgS_b hR.inv x y
  have bQ := yS_b (G := G) (x := x) (y := y) (w := fun k => yr G k * yr G k) (c := 3481) (fun i hi => mul_b (A := 59) (B := 59) (by have := yr_b hR.inv hi; omega) (by have := yr_b hR.inv hi; omega)) (by omega) b
  have bP := yS_b (G := G) (x := x) (y := y) (w := fun k => yr G k * mg G k) (c := 531) (fun i hi => mul_b (A := 59) (B := 9) (by have := yr_b hR.inv hi; omega) (mg_b hR.inv hi)) (by omega) b
  have y1 := yS_1 G x y
  have lmS : ∀ st2, Rel st2 G I → F_X11_slope_L18 n n st2 (some 106) x y u (lZ 0) (lZ 0) (lZ 0) (lZ 0) (lZ 0) (nI 0) = some (lZ (yS G x y (fun _ => 1) (G.cn 3)), lZ (yS G x y (yr G) (G.cn 3)), lZ (yS G x y (mg G) (G.cn 3)), lZ (yS G x y (fun k => yr G k * yr G k) (G.cn 3)), lZ (yS G x y (fun k => yr G k * mg G k) (G.cn 3))) := by
    intro st2 r2
    have S := r2.sh
    have M := r2.mod
    refine loop_run (fun m (s : Int64 × Int64 × Int64 × Int64 × Int64 × Int32) => F_X11_slope_L18 n m st2 (some 106) x y u s.1 s.2.1 s.2.2.1 s.2.2.2.1 s.2.2.2.2.1 s.2.2.2.2.2) (fun k => (lZ (yS G x y (fun _ => 1) k), lZ (yS G x y (yr G) k), lZ (yS G x y (mg G) k), lZ (yS G x y (fun k => yr G k * yr G k) k), lZ (yS G x y (fun k => yr G k * mg G k) k), nI k)) (G.cn 3) _ (fun m k hk => ?_) (fun m => ?_) n (by omega)
    · dsimp only
      have m1 := mg_b hR.inv hk
      have m2 := yr_b hR.inv hk
      have e2 : F_X11_noteAt n st2 (some 106) (nI k) (2 : Int32) = some (zI (yr G k)) := M_noteAt S M r2.inv hk (show 2 < 10 by decide)
      rw [F_X11_slope_L18, yS_s, yS_s, yS_s, yS_s, yS_s]
      dsimp only
      by_cases h : inY G x y k
      · simp (disch := omega) only [↓Option.bind_some, ↓reduceIte, ↓bnd (g106_0 S), ↓bnd (M_cnt S M), ↓bnd (o106 S), ↓bnd (M_yr S M r2.inv hk), ↓bnd (e2), ↓bnd (M_mg S M r2.inv hk), bI_T, eq_true h, i10, if_true, nLe_f, nI_1, zI_64, lZ_1, lZMul, lZAdd]
      · simp (disch := omega) only [↓Option.bind_some, ↓reduceIte, ↓bnd (g106_0 S), ↓bnd (M_cnt S M), ↓bnd (o106 S), ↓bnd (M_yr S M r2.inv hk), bI_F, eq_false h, if_false, nLe_f, nI_1]
    · dsimp only
      rw [F_X11_slope_L18]
      dsimp only
      simp (disch := omega) only [↓Option.bind_some, ↓reduceIte, ↓bnd (g106_0 S), ↓bnd (M_cnt S M), nLe_t]
  rw [← y1] at lmS
  generalize yS G x y (yr G) (G.cn 3) = X at *
  generalize yS G x y (mg G) (G.cn 3) = Y at *
  generalize yS G x y (fun k => yr G k * yr G k) (G.cn 3) = Q at *
  generalize yS G x y (fun k => yr G k * mg G k) (G.cn 3) = P at *
  have k1 := mul_b (a := (pc G x y : Nat)) (b := Q) (A := 80) (B := 278480) (by omega) (by omega)
  have k2 := mul_b (a := X) (b := X) (A := 4720) (B := 4720) (by omega) (by omega)
  have k3 := mul_b (a := (pc G x y : Nat)) (b := P) (A := 80) (B := 42480) (by omega) (by omega)
  have k4 := mul_b (a := X) (b := Y) (A := 4720) (B := 720) (by omega) (by omega)
  refine ⟨if (pc G x y : Nat) * Q - X * X = 0 then -1000000 else (lZ (shV ((pc G x y : Nat) * P - X * Y) ((pc G x y : Nat) * Q - X * X) u)).toInt32, st1, ?_, oQ, fun st2 r2 => ?_⟩
  · simp only [↓bnd (o64 hS), ↓bnd (e1), ↓bnd (lc2), nZ (pc G x y), zMul, zSub]
    have q : (zI ((pc G x y : Nat) * Q - X * X) = (0 : Int32)) = ((pc G x y : Nat) * Q - X * X = 0) := zEq0 (by omega) (by omega)
    simp only [Option.bind_some, q]
    by_cases h : (pc G x y : Nat) * Q - X * X = 0
    · simp only [h, if_true, Option.bind_some]
    · have e := C_share (n := n) (st := st1) (a := (pc G x y : Nat) * P - X * Y) (b := (pc G x y : Nat) * Q - X * X) (u := u) (by unfold sm; omega) (by unfold sb; omega) h hn
      simp (disch := omega) only [h, if_false, zI_64, ↓bnd (e), Option.bind_some]
  · have lm2 : F_X11_slope_L18 n n st2 (some 106) x y u (0 : Int64) (0 : Int64) (0 : Int64) (0 : Int64) (0 : Int64) (0 : Int32) = _ := lmS st2 r2
    unfold F_X11_slope
    have q : (lg_cmp (lZ ((pc G x y : Nat) * Q - X * X)) (0 : Int64) = (0 : Int32)) = ((pc G x y : Nat) * Q - X * X = 0) := cmp0 (by unfold sm; omega)
    simp only [↓bnd (lm2), lZMul, lZSub, Option.bind_some]
    simp only [q]
    by_cases h : (pc G x y : Nat) * Q - X * X = 0
    · simp only [h, if_true, Option.bind_some]
    · have e := M_least (n := n) (st := st2) (a := (pc G x y : Nat) * P - X * Y) (b := (pc G x y : Nat) * Q - X * X) (u := u) (by unfold sm; omega) (by unfold sb; omega) h hn
      simp only [h, if_false, ↓bnd (e), Option.bind_some]
end PE

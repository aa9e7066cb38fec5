/-! ALONE, PEOPLE, SLOPE, CARDED, LONGER, HAD -/
/-- one share less another -/
def apV (o t u v : Int) (w : Int32) : Int32 := if o = 0 then -1000000 else if t = 0 then -1000000 else (lZ (shV (u * t - v * o) (o * t) w)).toInt32
section AL
variable {st st1 : xS} {n : Nat} {G : Gh} {I : Im} {x y : Int32}
theorem ap_b {o t u v : Int} (ho : 0 ≤ o ∧ o ≤ 80) (ht : 0 ≤ t ∧ t ≤ 80) (hu : -1600 ≤ u ∧ u ≤ 1600) (hv : -1600 ≤ v ∧ v ≤ 1600) : (-256000 ≤ u * t - v * o ∧ u * t - v * o ≤ 256000) ∧ (-6400 ≤ o * t ∧ o * t ≤ 6400) ∧ (-128000 ≤ u * t ∧ u * t ≤ 128000) ∧ (-128000 ≤ v * o ∧ v * o ≤ 128000) := by
  have h1 := mul_b (A := 1600) (B := 80) hu (show -80 ≤ t ∧ t ≤ 80 by omega)
  have h2 := mul_b (A := 1600) (B := 80) hv (show -80 ≤ o ∧ o ≤ 80 by omega)
  have h3 := mul_b (A := 80) (B := 80) (show -80 ≤ o ∧ o ≤ 80 by omega) (show -80 ≤ t ∧ t ≤ 80 by omega)
  omega
theorem C_lessOther {o t u v : Int} (ho : 0 ≤ o ∧ o ≤ 80) (ht : 0 ≤ t ∧ t ≤ 80) (hu : -1600 ≤ u ∧ u ≤ 1600) (hv : -1600 ≤ v ∧ v ≤ 1600) (w : Int32) (hn : 3000 ≤ n) : F_X10_lessOther n st (zI u) (zI o) (zI v) (zI t) w = some (apV o t u v w) := by
  obtain ⟨h1, h2, h3, h4⟩ := ap_b ho ht hu hv
  unfold F_X10_lessOther apV
  simp (disch := omega) only [zLe0, zGe0, zEq0, zEq1, zEqN, zMul, zSub, zI_64]
  by_cases h5 : o = 0
  · rw [if_pos h5, if_pos h5]
  · rw [if_neg h5, if_neg h5]
    by_cases h6 : t = 0
    · rw [if_pos h6, if_pos h6]
    · rw [if_neg h6, if_neg h6]
      have e := C_share (n := n) (st := st) (a := u * t - v * o) (b := o * t) (u := w) (by unfold sm; omega) (by unfold sb; omega) (Int.mul_ne_zero h5 h6) hn
      simp only [↓bnd (e)]
theorem M_apart (hS : Sh st) {o t u v : Int} (h : AV st o t u v) (ho : 0 ≤ o ∧ o ≤ 80) (ht : 0 ≤ t ∧ t ≤ 80) (hu : -1600 ≤ u ∧ u ≤ 1600) (hv : -1600 ≤ v ∧ v ≤ 1600) (w : Int32) (hn : 3000 ≤ n) : F_X11_apart n st (some 106) w = some (apV o t u v w) := by
  obtain ⟨h1, h2, h3, h4⟩ := ap_b ho ht hu hv
  obtain ⟨a1, a2, a3, a4⟩ := h
  have g1 : gI st (some 106) 11 17 = some (zI o) := by rw [g106_17 hS, a1]
  have g2 : gI st (some 106) 11 18 = some (zI t) := by rw [g106_18 hS, a2]
  have g3 : gI st (some 106) 11 19 = some (zI u) := by rw [g106_19 hS, a3]
  have g4 : gI st (some 106) 11 20 = some (zI v) := by rw [g106_20 hS, a4]
  have q1 : (zI o = (0 : Int32)) = (o = 0) := zEq0 (by omega) (by omega)
  have q2 : (zI t = (0 : Int32)) = (t = 0) := zEq0 (by omega) (by omega)
  unfold F_X11_apart apV
  simp only [↓bnd (g1), ↓bnd (g2), ↓bnd (g3), ↓bnd (g4), q1, q2]
  by_cases h5 : o = 0
  · simp only [h5, if_true, Option.bind_some]
  · by_cases h6 : t = 0
    · simp only [h5, h6, if_true, if_false, Option.bind_some]
    · have e := M_least (n := n) (st := st) (a := u * t - v * o) (b := o * t) (u := w) (by unfold sm; omega) (by unfold sb; omega) (Int.mul_ne_zero h5 h6) hn
      simp (disch := omega) only [h5, h6, if_false, zI_64, lZMul, lZSub, ↓bnd (e), Option.bind_some]
theorem mgS_b (hI : GhI G) (x y : Int32) : -720 ≤ yS G x y (mg G) (G.cn 3) ∧ yS G x y (mg G) (G.cn 3) ≤ 720 := by
  have h := yS_b (G := G) (x := x) (y := y) (w := mg G) (c := 9) (fun i hi => mg_b hI hi) (by omega) hI.n3
  omega
theorem one_b (hI : GhI G) {w : Nat → Int} (hw : ∀ i, 0 ≤ w i ∧ w i ≤ 1) {k : Nat} (hk : k ≤ G.cn 3) : 0 ≤ yS G x y w k ∧ yS G x y w k ≤ 80 := by
  have h3 := hI.n3
  have h := yS_b (G := G) (x := x) (y := y) (w := w) (c := 1) (k := k) (fun i hi => by have := hw i; omega) (by omega) (by omega)
  refine ⟨?_, by omega⟩
  clear h
  induction k with
  | zero => exact Int.le_refl 0
  | succ k ih =>
    have := ih (by omega)
    have := hw k
    rw [yS_s]
    split <;> omega
theorem yS_add (w v : Nat → Int) (k : Nat) : yS G x y (fun i => w i + v i) k = yS G x y w k + yS G x y v k := by
  induction k with
  | zero => rfl
  | succ k ih => rw [yS_s, yS_s, yS_s, ih]; split <;> omega
theorem yS_mul (c : Int) (w : Nat → Int) (k : Nat) : yS G x y (fun i => c * w i) k = c * yS G x y w k := by
  induction k with
  | zero => show (0 : Int) = c * 0; omega
  | succ k ih =>
    rw [yS_s, yS_s, ih]
    split
    · rw [Int.mul_add]
    · rfl
theorem yS_ext {w v : Nat → Int} {k : Nat} (h : ∀ i, i < k → w i = v i) : yS G x y w k = yS G x y v k := iS_congr fun i hi => by rw [h i hi]
theorem C_margins (hR : Rel st G I) (hp : ∀ i, i < pc G x y → cI st 104 i = nI (pf G x y i)) (hn : 3000 ≤ n) : F_X10_marginsTogether n st (some 64) (nI (pc G x y)) = some (zI (yS G x y (mg G) (G.cn 3))) := by
  have b := hR.inv.n3
  have c := pc_le G x y
  have hl : F_X10_marginsTogether_L4 n n st (some 64) (nI (pc G x y)) (zI 0) (nI 0) = some (zI (iS (fun i => mg G (pf G x y i)) (pc G x y))) := by
    refine loop_run (fun m (s : Int32 × Int32) => F_X10_marginsTogether_L4 n m st (some 64) (nI (pc G x y)) s.1 s.2) (fun i => (zI (iS (fun i => mg G (pf G x y i)) i), nI i)) (pc G x y) _ (fun m i hi => ?_) (fun m => ?_) n (by omega)
    · dsimp only
      rw [F_X10_marginsTogether_L4, iS]
      dsimp only
      simp (disch := omega) only [↓Option.bind_some, ↓reduceIte, ↓bnd (o64 hR.sh), ↓bnd (C_mg hR hp hi), nLe_f, nI_1, zAdd]
    · dsimp only
      rw [F_X10_marginsTogether_L4]
      dsimp only
      simp (disch := omega) only [nLe_t, ↓reduceIte]
  rw [yS_pf] at hl
  have hl2 : F_X10_marginsTogether_L4 n n st (some 64) (nI (pc G x y)) (0 : Int32) (0 : Int32) = _ := hl
  unfold F_X10_marginsTogether
  simp only [↓bnd (hl2)]
theorem M_alone (hR : Rel st G I) (x y u : Int32) (hn : 3000 ≤ n) : ∃ st', F_X11_alone n st (some 106) x y u = some (if pc G x y = 0 then -1000000 else (lZ (shV (yS G x y (mg G) (G.cn 3)) (pc G x y) u)).toInt32, st') ∧ AF st st' := by
  have hS := hR.sh
  have b := hR.inv.n3
  have c := pc_le G x y
  have m1 := mgS_b hR.inv x y
  obtain ⟨s1, e1, f1, v1⟩ := M_nothing (n := n) hS
  have hl : ∃ s2, F_X11_alone_L7 n n s1 (some 106) x y u (nI 0) = some s2 ∧ AF st s2 ∧ AV s2 (yS G x y (fun _ => 1) (G.cn 3)) 0 (yS G x y (mg G) (G.cn 3)) 0 := by
    refine loop_ex (fun m (s : xS × Int32) => F_X11_alone_L7 n m s.1 (some 106) x y u s.2) (fun k s => AF st s.1 ∧ AV s.1 (yS G x y (fun _ => 1) k) 0 (yS G x y (mg G) k) 0 ∧ s.2 = nI k) (G.cn 3) (fun r => ∃ s2, r = some s2 ∧ AF st s2 ∧ AV s2 (yS G x y (fun _ => 1) (G.cn 3)) 0 (yS G x y (mg G) (G.cn 3)) 0) ?_ ?_ n (by omega) (s1, nI 0) ⟨f1, v1, rfl⟩
    · rintro m k ⟨s, z⟩ hk ⟨h1, h2, h3⟩
      dsimp only at h1 h2 h3 ⊢
      subst h3
      have Rs := h1.rel hR
      have S := Rs.sh
      have M := Rs.mod
      rw [yS_s, yS_s]
      by_cases h : inY G x y k
      · obtain ⟨s3, e3, f3, v3⟩ := M_adds (n := n) (w := mg G k) S h2 True
        simp only [if_true, Int.add_zero] at v3
        have e3 : F_X11_adds n s (some 106) (1 : Int32) (zI (mg G k)) = some s3 := e3
        refine ⟨(s3, nI (k + 1)), ⟨h1.trans f3, by rw [if_pos h, if_pos h]; exact v3, rfl⟩, ?_⟩
        dsimp only
        rw [F_X11_alone_L7]
        dsimp only
        simp (disch := omega) only [↓Option.bind_some, ↓reduceIte, ↓bnd (g106_0 S), ↓bnd (M_cnt S M), ↓bnd (o106 S), ↓bnd (M_yr S M Rs.inv hk), ↓bnd (M_mg S M Rs.inv hk), ↓bnd (e3), bI_t h, i10, nLe_f, nI_1]
      · refine ⟨(s, nI (k + 1)), ⟨h1, by rw [if_neg h, if_neg h]; exact h2, rfl⟩, ?_⟩
        dsimp only
        rw [F_X11_alone_L7]
        dsimp only
        simp (disch := omega) only [↓Option.bind_some, ↓reduceIte, ↓bnd (g106_0 S), ↓bnd (M_cnt S M), ↓bnd (o106 S), ↓bnd (M_yr S M Rs.inv hk), bI_f h, nLe_f, nI_1]
    · rintro m ⟨s, z⟩ ⟨h1, h2, h3⟩
      dsimp only at h1 h2 h3 ⊢
      subst h3
      have Rs := h1.rel hR
      have S := Rs.sh
      have M := Rs.mod
      refine ⟨s, ?_, h1, h2⟩
      rw [F_X11_alone_L7]
      dsimp only
      simp (disch := omega) only [↓Option.bind_some, ↓reduceIte, ↓bnd (g106_0 S), ↓bnd (M_cnt S M), nLe_t]
  obtain ⟨s2, e2, f2, v2⟩ := hl
  rw [← yS_1] at v2
  have S2 := f2.1.2.2.1
  have e2 : F_X11_alone_L7 n n s1 (some 106) x y u (0 : Int32) = some s2 := e2
  refine ⟨s2, ?_, f2⟩
  have g1 : gI s2 (some 106) 11 17 = some (zI (pc G x y)) := by rw [g106_17 S2, v2.1]
  have g3 : gI s2 (some 106) 11 19 = some (zI (yS G x y (mg G) (G.cn 3))) := by rw [g106_19 S2, v2.2.2.1]
  have q : (zI (pc G x y) = (0 : Int32)) = (pc G x y = 0) := by rw [zEq0 (by omega) (by omega)]; exact propext Int.natCast_eq_zero
  unfold F_X11_alone
  simp only [↓Option.bind_some, ↓bnd (o106 hS), ↓bnd (e1), ↓bnd (e2), ↓bnd (g1), ↓bnd (g3), q]
  by_cases h : pc G x y = 0
  · simp only [h, if_true, Option.bind_some]
  · have e := M_least (n := n) (st := s2) (a := yS G x y (mg G) (G.cn 3)) (b := (pc G x y : Nat)) (u := u) (by unfold sm; omega) (by unfold sb; omega) (by omega) hn
    simp (disch := omega) only [h, if_false, zI_64, ↓bnd (e), Option.bind_some]
theorem E_alone (hR : Rel st G I) (x y u : Int32) (hn : 3000 ≤ n) : ∃ v st', F_X10_alone n st (some 64) x y u = some (v, st') ∧ Only QC st st' ∧ ∀ st2, Rel st2 G I → ∃ st3, F_X11_alone n st2 (some 106) x y u = some (v, st3) ∧ Only QM st2 st3 ∧ fI st3 106 15 = -1 := by
  have hS := hR.sh
  have b := hR.inv.n3
  have c := pc_le G x y
  have m1 := mgS_b hR.inv x y
  obtain ⟨st1, e1, o1, hp⟩ := C_pick hR x y hn
  have oQ : Only QC st st1 := o1.mono fun a h => by unfold QC; omega
  have R1 := hR.qc oQ
  have g := C_margins R1 hp hn
  refine ⟨if pc G x y = 0 then -1000000 else (lZ (shV (yS G x y (mg G) (G.cn 3)) (pc G x y) u)).toInt32, st1, ?_, oQ, fun st2 r2 => ?_⟩
  · have q : (nI (pc G x y) = (0 : Int32)) = (pc G x y = 0) := nEq (b := 0) (by omega) (by decide)
    unfold F_X10_alone
    simp only [↓Option.bind_some, ↓bnd (o64 hS), ↓bnd (e1), q]
    by_cases h : pc G x y = 0
    · simp only [h, if_true, Option.bind_some]
    · have e := C_share (n := n) (st := st1) (a := yS G x y (mg G) (G.cn 3)) (b := (pc G x y : Nat)) (u := u) (by unfold sm; omega) (by unfold sb; omega) (by omega) hn
      simp (disch := omega) only [h, if_false, zI_64, nI_64, ↓bnd (o64 R1.sh), ↓bnd (g), ↓bnd (e), Option.bind_some]
  · obtain ⟨st3, e3, f3⟩ := M_alone (n := n) r2 x y u hn
    exact ⟨st3, e3, f3.qm, f3.2.trans r2.2.2.2.2.2.2.1⟩
end AL

/-! BOTH, OFF: the model's rows -/
/-- the model's unknowns: what it writes of a side; the first that plays -/
def mUn (T : Nat → Int) (s : Nat) : Int32 := if T s = 0 then -1 else if uNn T s = 0 then -1 else nI (uNn T s)
def FsO (T : Nat → Int) (i : Nat) (v : Int32) : Prop := (uNn T i = 0 ∧ v = -1) ∨ (0 < uNn T i ∧ ∃ s, s < i ∧ v = nI s ∧ ¬ T s = 0 ∧ uNn T s = 0)
def MfD (st st' : xS) : Prop := Only (fun a => a = 106 ∨ a = 112) st st' ∧ fI st' 106 15 = fI st 106 15
def MlL (st st' : xS) : Prop := Only (fun a => a = 111) st st'
section MT
variable {st st1 : xS} {n : Nat} {G : Gh} {I : Im} {x y : Int32}
theorem MfD.rel (h : MfD st st1) (hR : Rel st G I) : Rel st1 G I := hR.qm (h.1.mono fun a h => by unfold QM; omega) (h.2.trans hR.2.2.2.2.2.2.1)
theorem MlL.rel (h : MlL st st1) (hR : Rel st G I) : Rel st1 G I := hR.qm (h.mono fun a h => by unfold QM; omega) ((fI_o h (by decide) 15).trans hR.2.2.2.2.2.2.1)
theorem ng1 : ((0 : Int32) ≤ -1) = False := by decide
theorem M_meets (hR : Rel st G I) (x y : Int32) (hn : 3000 ≤ n) : ∃ st', F_X11_meets n st (some 106) x y = some st' ∧ MfD st st' ∧ (∀ s, s < 8 → cI st' 112 s = mUn (tT G x y 3) s) ∧ fI st' 106 23 = nI (if uNn (tT G x y 3) 8 = 0 then 1 else uNn (tT G x y 3) 8) ∧ FsO (tT G x y 3) 8 (fI st' 106 24) := by
  have hS := hR.sh
  obtain ⟨T, hT⟩ : ∃ T, T = tT G x y 3 := ⟨_, rfl⟩
  rw [← hT]
  have p1 := p106_23 hS (1 : Int32)
  have S1 := s106_23 hS (1 : Int32)
  have p2 := p106_24 S1 (-1 : Int32)
  have S2 := s106_24 S1 (-1 : Int32)
  have o12 : MfD st (uV (uV st 106 23 (.int 1)) 106 24 (.int (-1))) := ⟨((Only.uV S1).trans (Only.uV S2)).mono fun a h => Or.inl h, by rw [fI_oth (by decide), fI_oth (by decide)]⟩
  have hl : ∃ st', F_X11_meets_L12 n n (uV (uV st 106 23 (.int 1)) 106 24 (.int (-1))) (some 106) x y (0 : Int32) = some st' ∧ MfD st st' ∧ (∀ s, s < 8 → cI st' 112 s = mUn T s) ∧ fI st' 106 23 = nI (if uNn T 8 = 0 then 1 else uNn T 8) ∧ FsO T 8 (fI st' 106 24) := by
    refine loop_ex (fun m (s : xS × Int32) => F_X11_meets_L12 n m s.1 (some 106) x y s.2) (fun i s => MfD st s.1 ∧ (∀ t, t < i → cI s.1 112 t = mUn T t) ∧ fI s.1 106 23 = nI (if uNn T i = 0 then 1 else uNn T i) ∧ FsO T i (fI s.1 106 24) ∧ s.2 = nI i) 8 (fun r => ∃ st', r = some st' ∧ MfD st st' ∧ (∀ s, s < 8 → cI st' 112 s = mUn T s) ∧ fI st' 106 23 = nI (if uNn T 8 = 0 then 1 else uNn T 8) ∧ FsO T 8 (fI st' 106 24)) ?_ ?_ n (by omega) (uV (uV st 106 23 (.int 1)) 106 24 (.int (-1)), 0) ⟨o12, fun t ht => absurd ht (Nat.not_lt_zero t), by dsimp only; rw [fI_oth (by decide), f106_23 hS]; rfl, Or.inl ⟨rfl, f106_24 S1 _⟩, rfl⟩
    · rintro m i ⟨s, z⟩ hi ⟨h1, h2, h4, h5, h3⟩
      dsimp only at h1 h2 h3 h4 h5 ⊢
      subst h3
      have Rs := h1.rel hR
      have S := Rs.sh
      have u := uNn_le T i
      have w1 : sS 0 s (some 112) (nI i) (-1 : Int32) = some (wA s 112 (upd (cI s 112) i (-1))) := by rw [w112 S, if_pos (ixT hi (by decide)), nIc (by omega)]
      have o1 := Only.wA S 112 (upd (cI s 112) i (-1))
      have k1 := k112 S (upd (cI s 112) i (-1))
      generalize hs1 : wA s 112 (upd (cI s 112) i (-1)) = s1 at *
      have m1 : MfD s s1 := ⟨o1.mono fun a h => Or.inr h, fI_o o1 (by decide) 15⟩
      have R1 := m1.rel Rs
      have S1 := R1.sh
      have e1 : F_X11_madeOf n s1 (some 106) x y (nI i) (3 : Int32) = some (zI (T i)) := by rw [hT]; exact M_made R1.sh R1.mod R1.inv x y hi (show 3 < 4 by decide) hn
      have tb : -720 ≤ T i ∧ T i ≤ 720 := by rw [hT]; exact tT_b hR.inv x y 3 i
      have q0 : (zI (T i) = (0 : Int32)) = (T i = 0) := zEq0 (by omega) (by omega)
      have f24 : fI s1 106 24 = fI s 106 24 := fI_o o1 (by decide) 24
      have f23 : fI s1 106 23 = nI (if uNn T i = 0 then 1 else uNn T i) := by rw [fI_o o1 (by decide), h4]
      have g24 : gI s1 (some 106) 11 24 = some (fI s 106 24) := by rw [g106_24 S1, f24]
      have b23 : (if uNn T i = 0 then 1 else uNn T i) < 100 := by split <;> omega
      by_cases c : T i = 0
      · refine ⟨(s1, nI (i + 1)), ⟨⟨h1.1.trans m1.1, m1.2.trans h1.2⟩, fun t ht => ?_, by dsimp only; rw [f23, uNn_t c], ?_, rfl⟩, ?_⟩
        · dsimp only
          rw [k1]
          by_cases q : t = i
          · rw [q, upd_s]; exact (if_pos c).symm
          · rw [pk_un q]; exact h2 t (by omega)
        · dsimp only
          rw [f24]
          rcases h5 with ⟨a, b⟩ | ⟨a, s0, b, d⟩
          · exact Or.inl ⟨by rw [uNn_t c, a], b⟩
          · exact Or.inr ⟨by rw [uNn_t c]; exact a, s0, by omega, d⟩
        · dsimp only
          rw [F_X11_meets_L12]
          dsimp only
          simp (disch := omega) only [↓Option.bind_some, ↓reduceIte, ↓bnd (g106_22 S), ↓bnd (w1), ↓bnd (o106 S1), ↓bnd (e1), l8, nLe_f, nI_1, q0, eq_true c]
      · rcases h5 with ⟨a, b⟩ | ⟨a, s0, b, d, d2, d3⟩
        · have p3 := p106_24 S1 (nI i)
          have S3 := s106_24 S1 (nI i)
          have o3 := Only.uV S3
          rw [b] at g24
          refine ⟨(uV s1 106 24 (.int (nI i)), nI (i + 1)), ⟨⟨(h1.1.trans m1.1).trans (o3.mono fun a h => Or.inl h), ?_⟩, fun t ht => ?_, ?_, Or.inr ⟨by rw [uNn_f c]; omega, i, by omega, f106_24 S1 _, c, a⟩, rfl⟩, ?_⟩
          · rw [fI_oth (by decide), m1.2, h1.2]
          · dsimp only
            rw [cI_o o3 (by decide), k1]
            by_cases q : t = i
            · rw [q, upd_s]
              unfold mUn
              rw [if_neg c, if_pos a]
            · rw [pk_un q]; exact h2 t (by omega)
          · dsimp only
            rw [fI_oth (by decide), f23, uNn_f c, a]
            rfl
          · dsimp only
            rw [F_X11_meets_L12]
            dsimp only
            simp (disch := omega) only [↓Option.bind_some, ↓reduceIte, ↓bnd (g106_22 S), ↓bnd (w1), ↓bnd (o106 S1), ↓bnd (e1), ↓bnd (g24), ↓bnd (p3), l8, nLe_f, nI_1, q0, eq_false c, ng1]
        · have a0 : ¬ uNn T i = 0 := by omega
          rw [if_neg a0] at f23
          have g23 : gI s1 (some 106) 11 23 = some (nI (uNn T i)) := by rw [g106_23 S1, f23]
          rw [d] at g24
          have w4 : sS 0 s1 (some 112) (nI i) (nI (uNn T i)) = some (wA s1 112 (upd (cI s1 112) i (nI (uNn T i)))) := by rw [w112 S1, if_pos (ixT hi (by decide)), nIc (by omega)]
          have o4 := Only.wA S1 112 (upd (cI s1 112) i (nI (uNn T i)))
          have k4 := k112 S1 (upd (cI s1 112) i (nI (uNn T i)))
          have S4 := o4.2.2.1
          generalize hs4 : wA s1 112 (upd (cI s1 112) i (nI (uNn T i))) = s4 at *
          have f4 : fI s4 106 23 = nI (uNn T i) := by rw [fI_o o4 (by decide), f23]
          have g4 : gI s4 (some 106) 11 23 = some (nI (uNn T i)) := by rw [g106_23 S4, f4]
          have p5 := p106_23 S4 (nI (uNn T i + 1))
          have S5 := s106_23 S4 (nI (uNn T i + 1))
          have o5 := Only.uV S5
          have ge0 : ((0 : Int32) ≤ nI s0) = True := nLe_t (a := 0) (by omega) (by omega)
          refine ⟨(uV s4 106 23 (.int (nI (uNn T i + 1))), nI (i + 1)), ⟨⟨((h1.1.trans m1.1).trans (o4.mono fun a h => Or.inr h)).trans (o5.mono fun a h => Or.inl h), ?_⟩, fun t ht => ?_, ?_, Or.inr ⟨by rw [uNn_f c]; omega, s0, by omega, ?_, d2, d3⟩, rfl⟩, ?_⟩
          · rw [fI_oth (by decide), fI_o o4 (by decide), m1.2, h1.2]
          · dsimp only
            rw [cI_o o5 (by decide), k4]
            by_cases q : t = i
            · rw [q, upd_s]
              unfold mUn
              rw [if_neg c, if_neg a0]
            · rw [pk_un q, k1, pk_un q]; exact h2 t (by omega)
          · dsimp only
            rw [f106_23 S4, uNn_f c, if_neg (by omega)]
          · dsimp only
            rw [fI_oth (by decide), fI_o o4 (by decide), f24, d]
          · dsimp only
            rw [F_X11_meets_L12]
            dsimp only
            simp (disch := omega) only [↓Option.bind_some, ↓reduceIte, ↓bnd (g106_22 S), ↓bnd (w1), ↓bnd (o106 S1), ↓bnd (e1), ↓bnd (g24), ↓bnd (g106_22 S1), ↓bnd (g23), ↓bnd (w4), ↓bnd (g4), nI_1, ↓bnd (p5), l8, nLe_f, q0, eq_false c, ge0]
    · rintro m ⟨s, z⟩ ⟨h1, h2, h4, h5, h3⟩
      dsimp only at h1 h2 h3 h4 h5 ⊢
      subst h3
      refine ⟨s, ?_, h1, h2, h4, h5⟩
      rw [F_X11_meets_L12]
      dsimp only
      simp (disch := omega) only [l8, nLe_t, ↓reduceIte]
  obtain ⟨st', e, q⟩ := hl
  refine ⟨st', ?_, q⟩
  unfold F_X11_meets
  simp only [↓bnd (p1), ↓bnd (p2), ↓bnd (e)]
/-- the model's factors -/
theorem mUn_q {T : Nat → Int} {s u : Nat} (h0 : ¬ T s = 0) (hs : s < 8) (hu : ¬ u = 0) (h8 : u < 8) : (mUn T s = nI u) = (u = uNn T s) := by
  have := uNn_le T s
  unfold mUn
  rw [if_neg h0]
  by_cases c : uNn T s = 0
  · rw [if_pos c, nNeg1' (by omega)]
    exact (eq_false (by omega)).symm
  · rw [if_neg c, nEq (by omega) (by omega)]
    exact propext eq_comm
theorem M_counts (hS : Sh st) (hM : ModB (cI st 107) G) (hI : GhI G) {T : Nat → Int} (hu : ∀ s, s < 8 → cI st 112 s = mUn T s) {k u : Nat} (hk : k < G.cn 3) (h0 : ¬ T (G.nt k 0) = 0) (g0 : ¬ T (G.nt k 1) = 0) (h6 : u < 8) : F_X11_countsIn n st (some 106) (nI k) (nI u) = some (zI (fcu T G u k)) := by
  have t := hI.nt hk
  unfold NtI at t
  have e0 : F_X11_noteAt n st (some 106) (nI k) (0 : Int32) = _ := M_noteAt hS hM hI hk (show 0 < 10 by decide)
  have e1 : F_X11_noteAt n st (some 106) (nI k) (1 : Int32) = _ := M_noteAt hS hM hI hk (show 1 < 10 by decide)
  have r0 : aI st (some 112) (nI (G.nt k 0)) = some (mUn T (G.nt k 0)) := by rw [a112 hS, if_pos (ixT t.1 (by decide)), nIc (by omega), hu _ t.1]
  have r1 : aI st (some 112) (nI (G.nt k 1)) = some (mUn T (G.nt k 1)) := by rw [a112 hS, if_pos (ixT t.2.1 (by decide)), nIc (by omega), hu _ t.2.1]
  have q0 : (nI u = (0 : Int32)) = (u = 0) := nEq (b := 0) (by omega) (by decide)
  unfold F_X11_countsIn fcu
  by_cases c0 : u = 0
  · rw [if_pos (show nI u = (0 : Int32) by rw [q0]; exact c0), if_pos c0]; rfl
  · have d := uNn_i t.2.2.1 h0 g0
    simp only [q0, eq_false c0, if_false, ↓bnd (g106_22 hS), ↓bnd (o106 hS), ↓bnd (e0), ↓bnd (r0), ↓bnd (e1), ↓bnd (r1), mUn_q h0 t.1 c0 h6, mUn_q g0 t.2.1 c0 h6]
    by_cases c1 : u = uNn T (G.nt k 0)
    · have c2 : ¬ u = uNn T (G.nt k 1) := by omega
      simp only [eq_true c1, eq_false c2, if_true, if_false, Option.bind_some]
      rfl
    · by_cases c2 : u = uNn T (G.nt k 1)
      · simp only [eq_false c1, eq_true c2, if_true, if_false, Option.bind_some]
        rfl
      · simp only [eq_false c1, eq_false c2, if_false, Option.bind_some]
        rfl
theorem ix7 (a b : Nat) : (7 : Int32) * nI a + nI b = nI (7 * a + b) := by rw [show (7 : Int32) = nI 7 from rfl, nMul, nAdd]
theorem ix76 (a : Nat) : (7 : Int32) * nI a + (6 : Int32) = nI (7 * a + 6) := ix7 a 6
theorem rM (hS : Sh st) {a b : Nat} (ha : a < 6) (hb : b < 7) : aL st (some 111) (nI (7 * a + b)) = some (cL st 111 (7 * a + b)) := by
  rw [a111 hS, if_pos (ixT (by omega) (by decide)), nIc (by omega)]
theorem wM (hS : Sh st) {i j : Nat} (hi : i < 6) (hj : j < 7) (v : Int64) : ∃ s', sL st (some 111) (nI (7 * i + j)) v = some s' ∧ MlL st s' ∧ cL s' 111 (7 * i + j) = v ∧ ∀ a b, b < 7 → ¬ (a = i ∧ b = j) → cL s' 111 (7 * a + b) = cL st 111 (7 * a + b) := by
  refine ⟨wL st 111 (vp_updL (cL st 111) (7 * i + j) v), by rw [w111 hS, if_pos (ixT (by omega) (by decide)), nIc (by omega)], Only.wL hS _ _, ?_, fun a b hb hab => ?_⟩
  · rw [k111 hS]; exact if_pos rfl
  · rw [k111 hS]; exact if_neg (by omega)
theorem M_sq2 (hS : Sh st) (x y : Int32) (hn : 3000 ≤ n) : ∃ st', F_X11_squares_L2 n n st (some 106) x y (0 : Int32) = some st' ∧ MlL st st' ∧ ∀ a b, a < 6 → b < 7 → cL st' 111 (7 * a + b) = 0 := by
  have hl : ∃ st', F_X11_squares_L2 n n st (some 106) x y (0 : Int32) = some st' ∧ MlL st st' ∧ ∀ e, e < 42 → cL st' 111 e = 0 := by
    refine loop_ex (fun m (s : xS × Int32) => F_X11_squares_L2 n m s.1 (some 106) x y s.2) (fun i s => MlL st s.1 ∧ (∀ e, e < i → cL s.1 111 e = 0) ∧ s.2 = nI i) 42 (fun r => ∃ st', r = some st' ∧ MlL st st' ∧ ∀ e, e < 42 → cL st' 111 e = 0) ?_ ?_ n (by omega) (st, 0) ⟨Only.refl hS, fun e he => absurd he (Nat.not_lt_zero e), rfl⟩
    · rintro m i ⟨s, z⟩ hi ⟨h1, h2, h3⟩
      dsimp only at h1 h2 h3 ⊢
      subst h3
      have S := h1.2.2.1
      have w1 : sL s (some 111) (nI i) (0 : Int64) = some (wL s 111 (vp_updL (cL s 111) i 0)) := by rw [w111 S, if_pos (ixT hi (by decide)), nIc (by omega)]
      have k1 := k111 S (vp_updL (cL s 111) i 0)
      refine ⟨(wL s 111 (vp_updL (cL s 111) i 0), nI (i + 1)), ⟨h1.trans (Only.wL S 111 _), fun e he => ?_, rfl⟩, ?_⟩
      · dsimp only
        rw [k1]
        by_cases q : e = i
        · rw [q]; exact if_pos rfl
        · rw [show vp_updL (cL s 111) i 0 e = cL s 111 e from if_neg q]; exact h2 e (by omega)
      · dsimp only
        rw [F_X11_squares_L2]
        dsimp only
        simp (disch := omega) only [↓Option.bind_some, ↓reduceIte, ↓bnd (g106_21 S), ↓bnd (w1), l42, nLe_f, nI_1]
    · rintro m ⟨s, z⟩ ⟨h1, h2, h3⟩
      dsimp only at h1 h2 h3 ⊢
      subst h3
      refine ⟨s, ?_, h1, h2⟩
      rw [F_X11_squares_L2]
      dsimp only
      simp (disch := omega) only [l42, nLe_t, ↓reduceIte]
  obtain ⟨st', e, o, k⟩ := hl
  exact ⟨st', e, o, fun a b ha hb => k _ (by omega)⟩
/-- one game more: the model -/
theorem M_sq49 (hR : Rel st G I) (x y : Int32) {T : Nat → Int} (hu : ∀ s, s < 8 → cI st 112 s = mUn T s) {m : Nat} (hm : m = uNn T 8) (hm1 : 0 < m) (hm6 : m ≤ 6) (hf : fI st 106 23 = nI m) {k : Nat} (hk : k < G.cn 3) (h0 : ¬ T (G.nt k 0) = 0) (g0 : ¬ T (G.nt k 1) = 0) (hn : 3000 ≤ n) : ∃ st', F_X11_squares_L49 n n st (some 106) x y (nI k) (0 : Int32) = some st' ∧ MlL st st' ∧ ∀ a b, a < 6 → b < 7 → cL st' 111 (7 * a + b) = cL st 111 (7 * a + b) + lZ (fXu T G a k * fXu T G b k) := by
  have t := hR.inv.nt hk
  have bn3 := hR.inv.n3
  have hg := mg_b hR.inv hk
  unfold NtI at t
  have addz : ∀ v : Int64, v + lZ 0 = v := fun v => Int64.add_zero v
  have fz : ∀ u, m ≤ u → fcu T G u k = 0 := fun u h => fcu_z t.1 t.2.1 h0 g0 hm hm1 h
  have row : ∀ s i, MlL st s → i < m → ∃ s', F_X11_squares_L61 n n s (some 106) x y (nI k) (nI i) (0 : Int32) = some s' ∧ MlL s s' ∧ ∀ a b, a < 6 → b < 7 → cL s' 111 (7 * a + b) = if a = i ∧ b < m then cL s 111 (7 * a + b) + lZ (fcu T G i k * fcu T G b k) else cL s 111 (7 * a + b) := by
    intro s i o hi
    refine loop_ex (fun q (r : xS × Int32) => F_X11_squares_L61 n q r.1 (some 106) x y (nI k) (nI i) r.2) (fun j r => MlL s r.1 ∧ (∀ a b, a < 6 → b < 7 → cL r.1 111 (7 * a + b) = if a = i ∧ b < j then cL s 111 (7 * a + b) + lZ (fcu T G i k * fcu T G b k) else cL s 111 (7 * a + b)) ∧ r.2 = nI j) m (fun r => ∃ s', r = some s' ∧ MlL s s' ∧ ∀ a b, a < 6 → b < 7 → cL s' 111 (7 * a + b) = if a = i ∧ b < m then cL s 111 (7 * a + b) + lZ (fcu T G i k * fcu T G b k) else cL s 111 (7 * a + b)) ?_ ?_ n (by omega) (s, 0) ⟨Only.refl o.2.2.1, fun a b ha hb => by rw [if_neg (fun h => Nat.not_lt_zero b h.2)], rfl⟩
    · rintro q j ⟨r, z⟩ hj ⟨h1, h2, h3⟩
      dsimp only at h1 h2 h3 ⊢
      subst h3
      have oo : MlL st r := o.trans h1
      have Rr := oo.rel hR
      have S := Rr.sh
      have hur : ∀ s, s < 8 → cI r 112 s = mUn T s := fun s hs => by rw [cI_o oo (by decide)]; exact hu s hs
      have g1 : gI r (some 106) 11 23 = some (nI m) := by rw [g106_23 S, fI_o oo (by decide), hf]
      have f1 := M_counts (n := n) (u := i) S Rr.mod Rr.inv hur hk h0 g0 (by omega)
      have f2 := M_counts (n := n) (u := j) S Rr.mod Rr.inv hur hk h0 g0 (by omega)
      have r1 : aL r (some 111) ((7 : Int32) * nI i + nI j) = some (cL r 111 (7 * i + j)) := by rw [ix7]; exact rM S (by omega) (by omega)
      obtain ⟨r2, w1, o1, k1, k2⟩ := wM S (i := i) (j := j) (by omega) (by omega) (cL r 111 (7 * i + j) + lZ (fcu T G i k * fcu T G j k))
      have b1 := fcu_b T G i k
      have b2 := fcu_b T G j k
      have b3 := mul_b (A := 1) (B := 1) b1 b2
      have e1 : (zI (fcu T G i k) * zI (fcu T G j k)).toInt64 = lZ (fcu T G i k * fcu T G j k) := by rw [zMul, zI_64 (by omega) (by omega)]
      rw [← e1, ← ix7] at w1
      refine ⟨(r2, nI (j + 1)), ⟨h1.trans o1, fun a b ha hb => ?_, rfl⟩, ?_⟩
      · dsimp only
        by_cases qb : a = i ∧ b = j
        · rw [qb.1, qb.2, k1, h2 i j (by omega) (by omega), if_neg (fun h => Nat.lt_irrefl j h.2), if_pos ⟨rfl, Nat.lt_succ_self j⟩]
        · rw [k2 a b hb qb, h2 a b ha hb]
          by_cases q2 : a = i ∧ b < j
          · rw [if_pos q2, if_pos (show a = i ∧ b < j + 1 by omega)]
          · rw [if_neg q2, if_neg (show ¬ (a = i ∧ b < j + 1) by omega)]
      · dsimp only
        rw [F_X11_squares_L61]
        dsimp only
        simp (disch := omega) only [↓Option.bind_some, ↓reduceIte, ↓bnd (g1), ↓bnd (g106_21 S), ↓bnd (r1), ↓bnd (o106 S), ↓bnd (f1), ↓bnd (f2), ↓bnd (w1), nLe_f, nI_1]
    · rintro q ⟨r, z⟩ ⟨h1, h2, h3⟩
      dsimp only at h1 h2 h3 ⊢
      subst h3
      have oo : MlL st r := o.trans h1
      have g1 : gI r (some 106) 11 23 = some (nI m) := by rw [g106_23 oo.2.2.1, fI_o oo (by decide), hf]
      refine ⟨r, ?_, h1, h2⟩
      rw [F_X11_squares_L61]
      dsimp only
      simp (disch := omega) only [↓Option.bind_some, ↓reduceIte, ↓bnd (g1), nLe_t]
  have all : ∃ st', F_X11_squares_L49 n n st (some 106) x y (nI k) (0 : Int32) = some st' ∧ MlL st st' ∧ ∀ a b, a < 6 → b < 7 → cL st' 111 (7 * a + b) = if a < m then cL st 111 (7 * a + b) + lZ (fXu T G a k * fXu T G b k) else cL st 111 (7 * a + b) := by
    refine loop_ex (fun q (r : xS × Int32) => F_X11_squares_L49 n q r.1 (some 106) x y (nI k) r.2) (fun i r => MlL st r.1 ∧ (∀ a b, a < 6 → b < 7 → cL r.1 111 (7 * a + b) = if a < i then cL st 111 (7 * a + b) + lZ (fXu T G a k * fXu T G b k) else cL st 111 (7 * a + b)) ∧ r.2 = nI i) m (fun r => ∃ st', r = some st' ∧ MlL st st' ∧ ∀ a b, a < 6 → b < 7 → cL st' 111 (7 * a + b) = if a < m then cL st 111 (7 * a + b) + lZ (fXu T G a k * fXu T G b k) else cL st 111 (7 * a + b)) ?_ ?_ n (by omega) (st, 0) ⟨Only.refl hR.sh, fun a b ha hb => by rw [if_neg (Nat.not_lt_zero a)], rfl⟩
    · rintro q i ⟨r, z⟩ hi ⟨h1, h2, h3⟩
      dsimp only at h1 h2 h3 ⊢
      subst h3
      have Rr := h1.rel hR
      have S := Rr.sh
      have g1 : gI r (some 106) 11 23 = some (nI m) := by rw [g106_23 S, fI_o h1 (by decide), hf]
      obtain ⟨r1, e1, o1, k1⟩ := row r i h1 hi
      have R1 := o1.rel Rr
      have S1 := R1.sh
      have o01 : MlL st r1 := h1.trans o1
      have hur : ∀ s, s < 8 → cI r1 112 s = mUn T s := fun s hs => by rw [cI_o o01 (by decide)]; exact hu s hs
      have f1 := M_counts (n := n) (u := i) S1 R1.mod R1.inv hur hk h0 g0 (by omega)
      have m1 := M_mg (n := n) S1 R1.mod R1.inv hk
      obtain ⟨r2, w2, o2, k2, k3⟩ := wM S1 (i := i) (j := 6) (by omega) (by omega) (cL r1 111 (7 * i + 6) + lZ (fcu T G i k * mg G k))
      have b1 := fcu_b T G i k
      have b3 := mul_b (A := 1) (B := 9) b1 hg
      have e2 : (zI (fcu T G i k) * zI (mg G k)).toInt64 = lZ (fcu T G i k * mg G k) := by rw [zMul, zI_64 (by omega) (by omega)]
      rw [← e2, ← ix76] at w2
      have rr : aL r1 (some 111) ((7 : Int32) * nI i + (6 : Int32)) = some (cL r1 111 (7 * i + 6)) := by rw [ix76]; exact rM S1 (by omega) (by decide)
      refine ⟨(r2, nI (i + 1)), ⟨h1.trans (o1.trans o2), fun a b ha hb => ?_, rfl⟩, ?_⟩
      · dsimp only
        by_cases qa : a = i
        · subst qa
          rw [if_pos (Nat.lt_succ_self a), fXu_b T G ha]
          by_cases qb : b = 6
          · rw [qb, k2, k1 a 6 ha (by decide), if_neg (by omega), h2 a 6 ha (by decide), if_neg (Nat.lt_irrefl a), fXu_6]
          · rw [k3 a b hb (fun h => qb h.2), k1 a b ha hb, h2 a b ha hb, if_neg (Nat.lt_irrefl a), fXu_b T G (show b < 6 by omega)]
            by_cases q2 : b < m
            · rw [if_pos ⟨rfl, q2⟩]
            · rw [if_neg (fun h => q2 h.2), fz b (by omega), Int.mul_zero, addz]
        · rw [k3 a b hb (fun h => qa h.1), k1 a b ha hb, if_neg (fun h => qa h.1), h2 a b ha hb]
          by_cases q2 : a < i
          · rw [if_pos q2, if_pos (show a < i + 1 by omega)]
          · rw [if_neg q2, if_neg (show ¬ a < i + 1 by omega)]
      · dsimp only
        rw [F_X11_squares_L49]
        dsimp only
        simp (disch := omega) only [↓Option.bind_some, ↓reduceIte, ↓bnd (g1), ↓bnd (e1), ↓bnd (g106_21 S1), ↓bnd (rr), ↓bnd (o106 S1), ↓bnd (f1), ↓bnd (m1), ↓bnd (w2), nLe_f, nI_1]
    · rintro q ⟨r, z⟩ ⟨h1, h2, h3⟩
      dsimp only at h1 h2 h3 ⊢
      subst h3
      have g1 : gI r (some 106) 11 23 = some (nI m) := by rw [g106_23 h1.2.2.1, fI_o h1 (by decide), hf]
      refine ⟨r, ?_, h1, h2⟩
      rw [F_X11_squares_L49]
      dsimp only
      simp (disch := omega) only [↓Option.bind_some, ↓reduceIte, ↓bnd (g1), nLe_t]
  obtain ⟨st', e, o, k⟩ := all
  refine ⟨st', e, o, fun a b ha hb => ?_⟩
  rw [k a b ha hb]
  by_cases q : a < m
  · rw [if_pos q]
  · rw [if_neg q, fXu_b T G ha, fz a (by omega), Int.zero_mul, addz]
/-- who plays in what is noted of some years, plays -/
theorem tT_in {k s : Nat} (hI : GhI G) (hk : k < G.cn 3) (hy : inY G x y k) (h : G.nt k 0 = s ∨ G.nt k 1 = s) : ¬ tT G x y 3 s = 0 := by
  have key : ∀ N, k < N → 1 ≤ yS G x y (mt G 3 s) N := by
    intro N
    induction N with
    | zero => exact fun h => absurd h (Nat.not_lt_zero k)
    | succ N ih =>
      intro hN
      rw [yS_s]
      by_cases q : k = N
      · have g : 0 ≤ yS G x y (mt G 3 s) N := iS_ge (fun i => by have := mt3_b G s i; split <;> omega) N
        have e : mt G 3 s N = 1 := by rw [mt3, ← q]; exact if_pos h
        rw [← q] at hN ⊢
        rw [if_pos hy]
        rw [← q] at g e
        omega
      · have := ih (by omega)
        have := mt3_b G s N
        split <;> omega
  have := key (G.cn 3) hk
  unfold tT
  omega
theorem M_squares (hR : Rel st G I) (hu : ∀ s, s < 8 → cI st 112 s = mUn (tT G x y 3) s) {m : Nat} (hm : m = uNn (tT G x y 3) 8) (hm1 : 0 < m) (hm6 : m ≤ 6) (hf : fI st 106 23 = nI m) (hn : 3000 ≤ n) : ∃ st', F_X11_squares n st (some 106) x y = some st' ∧ MlL st st' ∧ ∀ a b, a < 6 → b < 7 → cL st' 111 (7 * a + b) = lZ (yS G x y (fun k => fXu (tT G x y 3) G a k * fXu (tT G x y 3) G b k) (G.cn 3)) := by
  have b := hR.inv.n3
  obtain ⟨s1, e1, o1, k1⟩ := M_sq2 (n := n) hR.sh x y hn
  have hl : ∃ st', F_X11_squares_L23 n n s1 (some 106) x y (0 : Int32) = some st' ∧ MlL st st' ∧ ∀ a b, a < 6 → b < 7 → cL st' 111 (7 * a + b) = lZ (yS G x y (fun k => fXu (tT G x y 3) G a k * fXu (tT G x y 3) G b k) (G.cn 3)) := by
    refine loop_ex (fun q (s : xS × Int32) => F_X11_squares_L23 n q s.1 (some 106) x y s.2) (fun k s => MlL st s.1 ∧ (∀ a b, a < 6 → b < 7 → cL s.1 111 (7 * a + b) = lZ (yS G x y (fun k => fXu (tT G x y 3) G a k * fXu (tT G x y 3) G b k) k)) ∧ s.2 = nI k) (G.cn 3) (fun r => ∃ st', r = some st' ∧ MlL st st' ∧ ∀ a b, a < 6 → b < 7 → cL st' 111 (7 * a + b) = lZ (yS G x y (fun k => fXu (tT G x y 3) G a k * fXu (tT G x y 3) G b k) (G.cn 3))) ?_ ?_ n (by omega) (s1, 0) ⟨o1, fun a b ha hb => by dsimp only; rw [k1 a b ha hb]; rfl, rfl⟩
    · rintro q k ⟨s, z⟩ hk ⟨h1, h2, h3⟩
      dsimp only at h1 h2 h3 ⊢
      subst h3
      have Rs := h1.rel hR
      have S := Rs.sh
      have M := Rs.mod
      by_cases h : inY G x y k
      · obtain ⟨s2, e2, o2, k2⟩ := M_sq49 (n := n) Rs x y (T := tT G x y 3) (fun s hs => by rw [cI_o h1 (by decide)]; exact hu s hs) hm hm1 hm6 (by rw [fI_o h1 (by decide), hf]) hk (tT_in Rs.inv hk h (Or.inl rfl)) (tT_in Rs.inv hk h (Or.inr rfl)) hn
        refine ⟨(s2, nI (k + 1)), ⟨h1.trans o2, fun a b ha hb => ?_, rfl⟩, ?_⟩
        · dsimp only
          rw [k2 a b ha hb, h2 a b ha hb, yS_s, if_pos h, lZAdd]
        · dsimp only
          rw [F_X11_squares_L23]
          dsimp only
          simp (disch := omega) only [↓Option.bind_some, ↓reduceIte, ↓bnd (g106_0 S), ↓bnd (M_cnt S M), ↓bnd (o106 S), ↓bnd (M_yr S M Rs.inv hk), ↓bnd (e2), bI_t h, i10, nLe_f, nI_1]
      · refine ⟨(s, nI (k + 1)), ⟨h1, fun a b ha hb => ?_, rfl⟩, ?_⟩
        · dsimp only
          rw [h2 a b ha hb, yS_s, if_neg h]
        · dsimp only
          rw [F_X11_squares_L23]
          dsimp only
          simp (disch := omega) only [↓Option.bind_some, ↓reduceIte, ↓bnd (g106_0 S), ↓bnd (M_cnt S M), ↓bnd (o106 S), ↓bnd (M_yr S M Rs.inv hk), bI_f h, nLe_f, nI_1]
    · rintro q ⟨s, z⟩ ⟨h1, h2, h3⟩
      dsimp only at h1 h2 h3 ⊢
      subst h3
      have Rs := h1.rel hR
      refine ⟨s, ?_, h1, h2⟩
      rw [F_X11_squares_L23]
      dsimp only
      simp (disch := omega) only [↓Option.bind_some, ↓reduceIte, ↓bnd (g106_0 Rs.sh), ↓bnd (M_cnt Rs.sh Rs.mod), nLe_t]
  obtain ⟨st', e, q⟩ := hl
  refine ⟨st', ?_, q⟩
  unfold F_X11_squares
  simp only [↓bnd (e1), ↓bnd (e)]
end MT

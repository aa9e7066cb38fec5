/-! FIXED, FRESH, FELT -/
section OR
variable {st st1 : xS} {n : Nat} {G : Gh} {I : Im} {x y : Int32}
def OF (st st' : xS) : Prop := Only (fun a => a = 106 ∨ a = 114) st st' ∧ fI st' 106 15 = fI st 106 15
theorem OF.refl (h : Sh st) : OF st st := ⟨Only.refl h, rfl⟩
theorem OF.trans {st2 : xS} (h : OF st st1) (k : OF st1 st2) : OF st st2 := ⟨h.1.trans k.1, k.2.trans h.2⟩
theorem OF.qm (h : OF st st1) : Only QM st st1 := h.1.mono fun a h => by unfold QM; omega
theorem OF.rel (h : OF st st1) (hR : Rel st G I) : Rel st1 G I := hR.qm h.qm (h.2.trans hR.2.2.2.2.2.2.1)
theorem OF_A (hS : Sh st) (f : Nat → Int32) : OF st (wA st 114 f) := ⟨(Only.wA hS 114 _).mono fun a h => Or.inr h, fI_c (wA_n (by decide) _ _) 15⟩
theorem OF_V (hS : Sh st) (v : Int32) : OF st (uV st 106 29 (.int v)) := ⟨(Only.uV (s106_29 hS v)).mono fun a h => Or.inl h, fI_oth (by decide) _⟩
theorem M_ins (hR : Rel st G I) {f : Nat → Nat} {c k : Nat} (hc : c ≤ k) (hk : k < G.cn 3) (hf : ∀ i, i < c → f i < G.cn 3) {a1 a2 : Int32} : ∀ i, i ≤ c → ∀ m s, i < m → OF st s → fI s 106 29 = fI st 106 29 → (∀ j, j < i → cI s 114 j = nI (f j)) → (∀ j, i < j → j ≤ c → cI s 114 j = nI (f (j - 1))) →
    ∃ s', F_X11_orders_L36 n m s (some 106) a1 a2 (nI k) (nI i) = some (nI (ip (fun i => G.nt (f i) 2) (G.nt k 2) i), s') ∧ OF st s' ∧ fI s' 106 29 = fI st 106 29 ∧ (∀ j, j < ip (fun i => G.nt (f i) 2) (G.nt k 2) i → cI s' 114 j = nI (f j)) ∧ ∀ j, ip (fun i => G.nt (f i) 2) (G.nt k 2) i < j → j ≤ c → cI s' 114 j = nI (f (j - 1)) := by
  have b := hR.inv.n3
  intro i
  induction i with
  | zero =>
    intro _ m s hm o h0 h1 h2
    obtain ⟨m, rfl⟩ : ∃ j, m = j + 1 := ⟨m - 1, by omega⟩
    refine ⟨s, ?_, o, h0, h1, h2⟩
    rw [F_X11_orders_L36]
    dsimp only
    simp (disch := omega) only [l0, nLe_t, if_true]
    rfl
  | succ i ih =>
    intro hi m s hm o h0 h1 h2
    obtain ⟨m, rfl⟩ : ∃ j, m = j + 1 := ⟨m - 1, by omega⟩
    have hRs := o.rel hR
    have S := hRs.sh
    have y1 := (hR.inv.nt hk).2.2.2.1
    have y2 := (hR.inv.nt (hf i (by omega))).2.2.2.1
    have r1 : aI s (some 114) (nI (i + 1) - (1 : Int32)) = some (nI (f i)) := by rw [nI_pred, a114 S, if_pos (ixT (by omega) (by decide)), nIc (by omega), h1 i (by omega)]
    have e1 : F_X11_noteAt n s (some 106) (nI (f i)) (2 : Int32) = some (nI (G.nt (f i) 2)) := M_noteAt S hRs.mod hRs.inv (hf i (by omega)) (by decide)
    have e2 : F_X11_noteAt n s (some 106) (nI k) (2 : Int32) = some (nI (G.nt k 2)) := M_noteAt S hRs.mod hRs.inv hk (by decide)
    by_cases hh : G.nt (f i) 2 ≤ G.nt k 2
    · rw [show ip (fun i => G.nt (f i) 2) (G.nt k 2) (i + 1) = i + 1 from if_pos hh]
      refine ⟨s, ?_, o, h0, h1, h2⟩
      rw [F_X11_orders_L36]
      dsimp only
      simp (disch := omega) only [↓Option.bind_some, ↓reduceIte, ↓bnd (g106_28 S), ↓bnd (r1), ↓bnd (o106 S), ↓bnd (e1), ↓bnd (e2), l0, nLe_f, nLe_t]
    · rw [show ip (fun i => G.nt (f i) 2) (G.nt k 2) (i + 1) = ip (fun i => G.nt (f i) 2) (G.nt k 2) i from if_neg hh]
      have w1 : sS 0 s (some 114) (nI (i + 1)) (nI (f i)) = some (wA s 114 (upd (cI s 114) (i + 1) (nI (f i)))) := by rw [w114 S, if_pos (ixT (by omega) (by decide)), nIc (by omega)]
      have k1 := k114 S (upd (cI s 114) (i + 1) (nI (f i)))
      obtain ⟨s', e', q⟩ := ih (by omega) m (wA s 114 (upd (cI s 114) (i + 1) (nI (f i)))) (by omega) (o.trans (OF_A S _)) ((fI_c (wA_n (by decide) _ _) 29).trans h0) (fun j hj => by rw [k1, pk_un (by omega)]; exact h1 j (by omega)) (fun j hj hj2 => by
        rw [k1]
        by_cases hji : j = i + 1
        · rw [hji, upd_s]; rfl
        · rw [pk_un hji]
          exact h2 j (by omega) hj2)
      refine ⟨s', ?_, q⟩
      rw [← e', F_X11_orders_L36]
      dsimp only
      simp (disch := omega) only [↓Option.bind_some, ↓reduceIte, ↓bnd (g106_28 S), ↓bnd (r1), ↓bnd (o106 S), ↓bnd (e1), ↓bnd (e2), ↓bnd (w1), l0, nLe_f, nI_pm1]
theorem M_orders (hR : Rel st G I) (x y : Int32) (hn : 3000 ≤ n) : ∃ st', F_X11_orders n st (some 106) x y = some st' ∧ OF st st' ∧ fI st' 106 29 = nI (pc G x y) ∧ ∀ i, i < pc G x y → cI st' 114 i = nI (pf G x y i) := by
  have hS := hR.sh
  have b := hR.inv.n3
  have S0 := s106_29 hS 0
  have p0 := p106_29 hS 0
  have o0 := OF_V hS 0
  have f0 := f106_29 hS 0
  have hl : ∃ st', F_X11_orders_L7 n n (uV st 106 29 (.int 0)) (some 106) x y (nI 0) = some st' ∧ OF st st' ∧ fI st' 106 29 = nI (pc G x y) ∧ ∀ i, i < pc G x y → cI st' 114 i = nI (pf G x y i) := by
    refine loop_ex (fun m (s : xS × Int32) => F_X11_orders_L7 n m s.1 (some 106) x y s.2) (fun k s => OF st s.1 ∧ fI s.1 106 29 = nI (pkN G x y k).1 ∧ (∀ i, i < (pkN G x y k).1 → cI s.1 114 i = nI ((pkN G x y k).2 i)) ∧ s.2 = nI k) (G.cn 3) (fun r => ∃ st', r = some st' ∧ OF st st' ∧ fI st' 106 29 = nI (pc G x y) ∧ ∀ i, i < pc G x y → cI st' 114 i = nI (pf G x y i)) ?_ ?_ n (by omega) (uV st 106 29 (.int 0), nI 0) ⟨o0, f0, fun i hi => absurd hi (Nat.not_lt_zero i), rfl⟩
    · rintro m k ⟨s, v⟩ hk ⟨h1, h3, h2, h4⟩
      dsimp only at h1 h2 h3 h4 ⊢
      subst h4
      have hRs := h1.rel hR
      have S := hRs.sh
      have M := hRs.mod
      have hc := pkN_le G x y k
      have g29 : gI s (some 106) 11 29 = some (nI (pkN G x y k).1) := by rw [g106_29 S, h3]
      by_cases hy : inY G x y k
      · obtain ⟨s1, i1, i2, i5, i3, i4⟩ := M_ins (n := n) (a1 := x) (a2 := y) hRs hc hk (fun i hi => by have := (pkN_in G x y k i hi).1; omega) (pkN G x y k).1 (Nat.le_refl _) n s (by omega) (OF.refl S) rfl h2 (fun j hj hj2 => by omega)
        have S1 := i2.1.2.2.1
        have hp := ip_le (fun i => G.nt ((pkN G x y k).2 i) 2) (G.nt k 2) (pkN G x y k).1
        rw [pkN_t hy]
        generalize hP : ip (fun i => G.nt ((pkN G x y k).2 i) 2) (G.nt k 2) (pkN G x y k).1 = P at *
        have w1 : sS 0 s1 (some 114) (nI P) (nI k) = some (wA s1 114 (upd (cI s1 114) P (nI k))) := by rw [w114 S1, if_pos (ixT (by omega) (by decide)), nIc (by omega)]
        have o2 := OF_A S1 (upd (cI s1 114) P (nI k))
        have S2 := o2.1.2.2.1
        have k2 := k114 S1 (upd (cI s1 114) P (nI k))
        have j2 : fI (wA s1 114 (upd (cI s1 114) P (nI k))) 106 29 = fI s1 106 29 := fI_c (wA_n (by decide) _ _) 29
        generalize wA s1 114 (upd (cI s1 114) P (nI k)) = s2 at *
        have g2 : gI s2 (some 106) 11 29 = some (nI (pkN G x y k).1) := by rw [g106_29 S2, j2, i5, h3]
        have p2 := p106_29 S2 (nI ((pkN G x y k).1 + 1))
        refine ⟨(uV s2 106 29 (.int (nI ((pkN G x y k).1 + 1))), nI (k + 1)), ⟨(h1.trans i2).trans (o2.trans (OF_V S2 _)), f106_29 S2 _, fun j hj => ?_, rfl⟩, ?_⟩
        · dsimp only at hj ⊢
          rw [cI_c (uV_n (by decide) _ _ _), k2]
          unfold insF
          by_cases j1 : j < P
          · rw [if_pos j1, pk_un (by omega), i3 j j1]
          · rw [if_neg j1]
            by_cases j2 : j = P
            · rw [if_pos j2, j2, upd_s]
            · rw [if_neg j2, pk_un j2, i4 j (by omega) (by omega)]
        · dsimp only
          rw [F_X11_orders_L7]
          dsimp only
          simp (disch := omega) only [↓Option.bind_some, ↓reduceIte, ↓bnd (g106_0 S), ↓bnd (M_cnt S M), ↓bnd (o106 S), ↓bnd (M_yr S M hRs.inv hk), ↓bnd (g29), ↓bnd (i1), ↓bnd (g106_28 S1), ↓bnd (w1), ↓bnd (g2), bI_t hy, i10, nLe_f, nI_1, ↓bnd (p2)]
      · rw [pkN_f hy]
        refine ⟨(s, nI (k + 1)), ⟨h1, h3, h2, rfl⟩, ?_⟩
        dsimp only
        rw [F_X11_orders_L7]
        dsimp only
        simp (disch := omega) only [↓Option.bind_some, ↓reduceIte, ↓bnd (g106_0 S), ↓bnd (M_cnt S M), ↓bnd (o106 S), ↓bnd (M_yr S M hRs.inv hk), bI_f hy, nLe_f, nI_1]
    · rintro m ⟨s, v⟩ ⟨h1, h3, h2, h4⟩
      dsimp only at h1 h2 h3 h4 ⊢
      subst h4
      have hRs := h1.rel hR
      have S := hRs.sh
      have M := hRs.mod
      refine ⟨s, ?_, h1, h3, h2⟩
      rw [F_X11_orders_L7]
      dsimp only
      simp (disch := omega) only [↓Option.bind_some, ↓reduceIte, ↓bnd (g106_0 S), ↓bnd (M_cnt S M), nLe_t]
  obtain ⟨st', e, o⟩ := hl
  have e : F_X11_orders_L7 n n (uV st 106 29 (.int 0)) (some 106) x y (0 : Int32) = some st' := e
  refine ⟨st', ?_, o⟩
  unfold F_X11_orders
  simp only [↓bnd (p0), ↓bnd (e)]
/-- betting till the money is gone -/
def fxN (G : Gh) (x y : Int32) (d : Nat) (a4 : Int32) : Nat → Int32 → Int32
  | 0, _ => nI (pc G x y)
  | m + 1, s => if -a4 ≤ s + zI (hd G d (pf G x y (pc G x y - 1 - m))) then fxN G x y d a4 m (s + zI (hd G d (pf G x y (pc G x y - 1 - m)))) else nI (pc G x y - m)
theorem E_fixed (hR : Rel st G I) (x y p w : Int32) (hn : 3000 ≤ n) : ∃ v st', F_X10_fixed n st (some 64) x y p w = some (v, st') ∧ Only QC st st' ∧ ∀ st2, Rel st2 G I → ∃ st3, F_X11_fixed n st2 (some 106) x y p w = some (v, st3) ∧ Only QM st2 st3 ∧ fI st3 106 15 = -1 := by
  have hS := hR.sh
  have b := hR.inv.n3
  have c := pc_le G x y
  unfold F_X10_fixed
  rcases prCut p with ⟨d, d1, d2, rfl⟩ | hd0
  · rcases nCut w 10000 with ⟨w, hw, rfl⟩ | hw
    · have xc : F_X10_within n st (nI w) (0 : Int32) (9999 : Int32) = some 1 := C_in_t (j := w) (b := 9999) (by omega) (by decide)
      obtain ⟨st1, e1, o1, hp⟩ := C_pick hR x y hn
      have oQ : Only QC st st1 := o1.mono fun a h => by unfold QC; omega
      have R1 := hR.qc oQ
      have S1 := R1.sh
      have lc : ∀ m, m ≤ pc G x y → ∀ k s, m < k → F_X10_fixed_L35 n k st1 (some 64) (nI d) (nI w) (nI (pc G x y)) s (nI (pc G x y - m)) = some (fxN G x y d (nI w) m s, st1) := by
        intro m
        induction m with
        | zero =>
          intro _ k s hk
          obtain ⟨k, rfl⟩ : ∃ j, k = j + 1 := ⟨k - 1, by omega⟩
          rw [F_X10_fixed_L35]
          dsimp only
          simp (disch := omega) only [nLe_t, if_true, fxN]
        | succ m ih =>
          intro hm k s hk
          obtain ⟨k, rfl⟩ : ∃ j, k = j + 1 := ⟨k - 1, by omega⟩
          have e : pc G x y - (m + 1) = pc G x y - 1 - m := by omega
          have e2 : nI (pc G x y - 1 - m) + (1 : Int32) = nI (pc G x y - m) := by rw [nI_1]; congr 1; omega
          have hi : pc G x y - 1 - m < pc G x y := by omega
          rw [e, F_X10_fixed_L35, fxN]
          dsimp only
          simp (disch := omega) only [↓Option.bind_some, ↓reduceIte, ↓bnd (o64 S1), ↓bnd (C_mg R1 hp hi), ↓bnd (C_hd R1 hp hi), nLe_f, e2, ih (by omega) k _ (by omega)]
          split <;> rfl
      have l0 : F_X10_fixed_L35 n n st1 (some 64) (nI d) (nI w) (nI (pc G x y)) (0 : Int32) (0 : Int32) = some (fxN G x y d (nI w) (pc G x y) 0, st1) := by
        have := lc (pc G x y) (Nat.le_refl _) n 0 (by omega)
        rw [Nat.sub_self] at this
        exact this
      refine ⟨fxN G x y d (nI w) (pc G x y) 0, st1, ?_, oQ, fun st2 r2 => ?_⟩
      · simp only [↓Option.bind_some, ↓reduceIte, ↓bnd (C_isPrice_t d1 d2), ↓bnd (xc), ↓bnd (o64 hS), ↓bnd (e1), i10, l0]
      · have xm : F_X11_isIn n st2 (nI w) (0 : Int32) (9999 : Int32) = some 1 := M_in_t (j := w) (b := 9999) (by omega) (by decide)
        obtain ⟨s3, f1, f2, f3, f4⟩ := M_orders (n := n) r2 x y hn
        have R3 := f2.rel r2
        have S3 := R3.sh
        have g29 : gI s3 (some 106) 11 29 = some (nI (pc G x y)) := by rw [g106_29 S3, f3]
        have lm : ∀ m, m ≤ pc G x y → ∀ k s, m < k → F_X11_fixed_L33 n k s3 (some 106) (nI d) (nI w) s (nI (pc G x y - m)) = some (fxN G x y d (nI w) m s, s3) := by
          intro m
          induction m with
          | zero =>
            intro _ k s hk
            obtain ⟨k, rfl⟩ : ∃ j, k = j + 1 := ⟨k - 1, by omega⟩
            rw [F_X11_fixed_L33]
            dsimp only
            simp (disch := omega) only [↓Option.bind_some, ↓reduceIte, ↓bnd (g29), nLe_t, if_true, fxN]
          | succ m ih =>
            intro hm k s hk
            obtain ⟨k, rfl⟩ : ∃ j, k = j + 1 := ⟨k - 1, by omega⟩
            have e : pc G x y - (m + 1) = pc G x y - 1 - m := by omega
            have e2 : nI (pc G x y - 1 - m) + (1 : Int32) = nI (pc G x y - m) := by rw [nI_1]; congr 1; omega
            have hi : pc G x y - 1 - m < pc G x y := by omega
            have r : aI s3 (some 114) (nI (pc G x y - 1 - m)) = some (nI (pf G x y (pc G x y - 1 - m))) := by rw [a114 S3, if_pos (ixT (by omega) (by decide)), nIc (by omega), f4 _ hi]
            have hh : ((if zI (mg G (pf G x y (pc G x y - 1 - m))) ≤ (0 : Int32) then some (-100 : Int32) else some (nI d - (100 : Int32))) : Option Int32) = some (zI (hd G d (pf G x y (pc G x y - 1 - m)))) := by
              have m1 := mg_b hR.inv (pf_lt hi)
              unfold hd
              simp (disch := omega) only [zLe0, zGe0, zEq0, zEq1, zEqN]
              by_cases h : mg G (pf G x y (pc G x y - 1 - m)) ≤ 0
              · rw [if_pos h, if_pos h]; rfl
              · rw [if_neg h, if_neg h, l100, nSubZ]; rfl
            rw [e, F_X11_fixed_L33, fxN]
            dsimp only
            simp (disch := omega) only [↓Option.bind_some, ↓reduceIte, ↓bnd (g29), ↓bnd (g106_28 S3), ↓bnd (r), ↓bnd (o106 S3), ↓bnd (M_mg S3 R3.mod R3.inv (pf_lt hi)), ↓bnd (hh), nLe_f, e2, ih (by omega) k _ (by omega)]
            split <;> rfl
        have l0 : F_X11_fixed_L33 n n s3 (some 106) (nI d) (nI w) (0 : Int32) (0 : Int32) = some (fxN G x y d (nI w) (pc G x y) 0, s3) := by
          have := lm (pc G x y) (Nat.le_refl _) n 0 (by omega)
          rw [Nat.sub_self] at this
          exact this
        refine ⟨s3, ?_, f2.qm, f2.2.trans r2.2.2.2.2.2.2.1⟩
        unfold F_X11_fixed
        simp only [↓Option.bind_some, ↓reduceIte, ↓bnd (M_isPrice_t d1 d2), ↓bnd (xm), ↓bnd (o106 r2.sh), ↓bnd (f1), i10, l0]
    · have xc : F_X10_within n st w (0 : Int32) (9999 : Int32) = some 0 := C_in_f (b := 9999) hw (by decide)
      refine ⟨-1, st, ?_, Only.refl hS, fun st2 r2 => ⟨st2, ?_, Only.refl r2.sh, r2.2.2.2.2.2.2.1⟩⟩
      · simp only [↓Option.bind_some, ↓reduceIte, ↓bnd (C_isPrice_t d1 d2), ↓bnd (xc), i10]
      · have xm : F_X11_isIn n st2 w (0 : Int32) (9999 : Int32) = some 0 := M_in_f (b := 9999) hw (by decide)
        unfold F_X11_fixed
        simp only [↓Option.bind_some, ↓reduceIte, ↓bnd (M_isPrice_t d1 d2), ↓bnd (xm), i10]
  · refine ⟨-1, st, ?_, Only.refl hS, fun st2 r2 => ⟨st2, ?_, Only.refl r2.sh, r2.2.2.2.2.2.2.1⟩⟩
    · simp only [↓Option.bind_some, ↓reduceIte, ↓bnd (C_isPrice_f hd0)]
    · unfold F_X11_fixed
      simp only [↓Option.bind_some, ↓reduceIte, ↓bnd (M_isPrice_f hd0)]
/-- the home games that are fresh, and those after -/
def frN (G : Gh) (x y a1 a3 : Int32) : Nat → Int32 → Int32 → Int32 × Int32
  | 0, u, v => (u, v)
  | m + 1, u, v => if (2 : Int32) * a3 ≤ u then (u, v) else if nI (G.nt (pf G x y (pc G x y - 1 - m)) 0) = a1 then frN G x y a1 a3 m (u + 1) (v + if a3 ≤ u then -zI (pt (mg G (pf G x y (pc G x y - 1 - m)))) else zI (pt (mg G (pf G x y (pc G x y - 1 - m))))) else frN G x y a1 a3 m u v
theorem E_fresh (hR : Rel st G I) (s x k : Int32) (hn : 3000 ≤ n) : ∃ v st', F_X10_fresh n st (some 64) s x k = some (v, st') ∧ Only QC st st' ∧ ∀ st2, Rel st2 G I → ∃ st3, F_X11_fresh n st2 (some 106) s x k = some (v, st3) ∧ Only QM st2 st3 ∧ fI st3 106 15 = -1 := by
  have hS := hR.sh
  have b := hR.inv.n3
  have c := pc_le G x 59
  unfold F_X10_fresh
  rcases nCut s 8 with ⟨s, hs, rfl⟩ | hs
  · have xs : F_X10_isSide n st (nI s) = some 1 := by
      have : F_X10_within n st (nI s) (0 : Int32) (7 : Int32) = some 1 := C_in_t (j := s) (b := 7) (by omega) (by decide)
      unfold F_X10_isSide
      simp only [↓bnd (this), rz1, Option.bind_some]
    have xsm : ∀ st2, F_X11_isIn n st2 (nI s) (0 : Int32) (7 : Int32) = some 1 := fun st2 => M_in_t (j := s) (b := 7) (by omega) (by decide)
    by_cases hk : 1 ≤ k ∧ k ≤ 40
    · have xk : F_X10_within n st k (1 : Int32) (40 : Int32) = some 1 := by
        unfold F_X10_within
        rw [if_neg (Int32.not_lt.mpr hk.1), if_neg (Int32.not_lt.mpr hk.2)]; rfl
      have xkm : ∀ st2, F_X11_isIn n st2 k (1 : Int32) (40 : Int32) = some 1 := fun st2 => by rw [M_isIn, bI_t hk]
      obtain ⟨st1, e1, o1, hp⟩ := C_pick hR x 59 hn
      have oQ : Only QC st st1 := o1.mono fun a h => by unfold QC; omega
      have R1 := hR.qc oQ
      have S1 := R1.sh
      have lc : ∀ m, m ≤ pc G x 59 → ∀ q u v, m < q → F_X10_fresh_L38 n q st1 (some 64) (nI s) k (nI (pc G x 59)) u v (nI (pc G x 59 - m)) = some (frN G x 59 (nI s) k m u v) := by
        intro m
        induction m with
        | zero =>
          intro _ q u v hq
          obtain ⟨q, rfl⟩ : ∃ j, q = j + 1 := ⟨q - 1, by omega⟩
          rw [F_X10_fresh_L38]
          dsimp only
          simp (disch := omega) only [nLe_t, if_true, frN]
        | succ m ih =>
          intro hm q u v hq
          obtain ⟨q, rfl⟩ : ∃ j, q = j + 1 := ⟨q - 1, by omega⟩
          have e : pc G x 59 - (m + 1) = pc G x 59 - 1 - m := by omega
          have e2 : nI (pc G x 59 - 1 - m) + (1 : Int32) = nI (pc G x 59 - m) := by rw [nI_1]; congr 1; omega
          have hi : pc G x 59 - 1 - m < pc G x 59 := by omega
          have m1 := mg_b hR.inv (pf_lt hi)
          have e0 : F_X10_pickedOf n st1 (some 64) (nI (pc G x 59 - 1 - m)) (0 : Int32) = _ := C_pickedOf R1 hp hi (show 0 < 10 by decide)
          rw [e, F_X10_fresh_L38, frN]
          dsimp only
          simp (disch := omega) only [↓Option.bind_some, ↓reduceIte, ↓bnd (o64 S1), ↓bnd (e0), nLe_f, e2]
          by_cases h0 : (2 : Int32) * k ≤ u
          · simp only [h0, if_true]
          · simp only [h0, if_false]
            by_cases h1 : nI (G.nt (pf G x 59 (pc G x 59 - 1 - m)) 0) = nI s
            · have cp := C_pointsBy (n := n) (st := st1) (m := mg G (pf G x 59 (pc G x 59 - 1 - m))) (by omega) (by omega)
              simp only [h1, if_true, ↓bnd (o64 S1), ↓bnd (C_mg R1 hp hi), ↓bnd (cp)]
              by_cases h2 : k ≤ u
              · simp only [h2, if_true, Option.bind_some]
                exact ih (by omega) q _ _ (by omega)
              · simp only [h2, if_false, Option.bind_some]
                exact ih (by omega) q _ _ (by omega)
            · simp only [h1, if_false, Option.bind_some]
              exact ih (by omega) q _ _ (by omega)
      have l0 : F_X10_fresh_L38 n n st1 (some 64) (nI s) k (nI (pc G x 59)) (0 : Int32) (0 : Int32) (0 : Int32) = some (frN G x 59 (nI s) k (pc G x 59) 0 0) := by
        have := lc (pc G x 59) (Nat.le_refl _) n 0 0 (by omega)
        rw [Nat.sub_self] at this
        exact this
      generalize hF : frN G x 59 (nI s) k (pc G x 59) 0 0 = F at l0
      refine ⟨if (2 : Int32) * k ≤ F.1 then F.2 else -1000000, st1, ?_, oQ, fun st2 r2 => ?_⟩
      · simp only [↓Option.bind_some, ↓reduceIte, ↓bnd (xs), ↓bnd (xk), ↓bnd (o64 hS), ↓bnd (e1), ↓bnd (l0), i10]
        split <;> rfl
      · obtain ⟨s3, f1, f2, f3, f4⟩ := M_orders (n := n) r2 x 59 hn
        have R3 := f2.rel r2
        have S3 := R3.sh
        have g29 : gI s3 (some 106) 11 29 = some (nI (pc G x 59)) := by rw [g106_29 S3, f3]
        have lm : ∀ m, m ≤ pc G x 59 → ∀ q u v, m < q → F_X11_fresh_L40 n q s3 (some 106) (nI s) k u v (nI (pc G x 59 - m)) = some (frN G x 59 (nI s) k m u v) := by
          intro m
          induction m with
          | zero =>
            intro _ q u v hq
            obtain ⟨q, rfl⟩ : ∃ j, q = j + 1 := ⟨q - 1, by omega⟩
            rw [F_X11_fresh_L40]
            dsimp only
            simp (disch := omega) only [↓Option.bind_some, ↓reduceIte, ↓bnd (g29), nLe_t, if_true, frN]
          | succ m ih =>
            intro hm q u v hq
            obtain ⟨q, rfl⟩ : ∃ j, q = j + 1 := ⟨q - 1, by omega⟩
            have e : pc G x 59 - (m + 1) = pc G x 59 - 1 - m := by omega
            have e2 : nI (pc G x 59 - 1 - m) + (1 : Int32) = nI (pc G x 59 - m) := by rw [nI_1]; congr 1; omega
            have hi : pc G x 59 - 1 - m < pc G x 59 := by omega
            have m1 := mg_b hR.inv (pf_lt hi)
            have r : aI s3 (some 114) (nI (pc G x 59 - 1 - m)) = some (nI (pf G x 59 (pc G x 59 - 1 - m))) := by rw [a114 S3, if_pos (ixT (by omega) (by decide)), nIc (by omega), f4 _ hi]
            have e0 : F_X11_noteAt n s3 (some 106) (nI (pf G x 59 (pc G x 59 - 1 - m))) (0 : Int32) = _ := M_noteAt S3 R3.mod R3.inv (pf_lt hi) (show 0 < 10 by decide)
            rw [e, F_X11_fresh_L40, frN]
            dsimp only
            simp (disch := omega) only [↓Option.bind_some, ↓reduceIte, ↓bnd (g29), ↓bnd (g106_28 S3), ↓bnd (r), ↓bnd (o106 S3), ↓bnd (e0), nLe_f, e2]
            by_cases h0 : (2 : Int32) * k ≤ u
            · simp only [h0, if_true]
            · simp only [h0, if_false]
              by_cases h1 : nI (G.nt (pf G x 59 (pc G x 59 - 1 - m)) 0) = nI s
              · have cp : ((if zI (mg G (pf G x 59 (pc G x 59 - 1 - m))) ≤ (0 : Int32) then if zI (mg G (pf G x 59 (pc G x 59 - 1 - m))) = (0 : Int32) then some (1 : Int32) else some (0 : Int32) else some (3 : Int32)) : Option Int32) = some (zI (pt (mg G (pf G x 59 (pc G x 59 - 1 - m))))) := by
                  unfold pt
                  simp (disch := omega) only [zLe0, zGe0, zEq0, zEq1, zEqN]
                  by_cases h1 : mg G (pf G x 59 (pc G x 59 - 1 - m)) ≤ 0
                  · by_cases h0 : mg G (pf G x 59 (pc G x 59 - 1 - m)) = 0
                    · rw [if_pos h1, if_pos h0, if_pos h1, if_pos h0]; rfl
                    · rw [if_pos h1, if_neg h0, if_pos h1, if_neg h0]; rfl
                  · rw [if_neg h1, if_neg h1]; rfl
                simp only [h1, if_true, ↓bnd (g106_28 S3), ↓bnd (r), ↓bnd (o106 S3), ↓bnd (M_mg S3 R3.mod R3.inv (pf_lt hi)), ↓bnd (cp)]
                by_cases h2 : k ≤ u
                · simp only [h2, if_true, Option.bind_some]
                  exact ih (by omega) q _ _ (by omega)
                · simp only [h2, if_false, Option.bind_some]
                  exact ih (by omega) q _ _ (by omega)
              · simp only [h1, if_false, Option.bind_some]
                exact ih (by omega) q _ _ (by omega)
        have l0 : F_X11_fresh_L40 n n s3 (some 106) (nI s) k (0 : Int32) (0 : Int32) (0 : Int32) = some F := by
          have := lm (pc G x 59) (Nat.le_refl _) n 0 0 (by omega)
          rw [Nat.sub_self, hF] at this
          exact this
        refine ⟨s3, ?_, f2.qm, f2.2.trans r2.2.2.2.2.2.2.1⟩
        unfold F_X11_fresh
        simp only [↓Option.bind_some, ↓reduceIte, ↓bnd (xsm st2), ↓bnd (xkm st2), ↓bnd (o106 r2.sh), ↓bnd (f1), ↓bnd (l0), i10]
        split <;> rfl
    · have xk : F_X10_within n st k (1 : Int32) (40 : Int32) = some 0 := by
        have : F_X11_isIn n st k (1 : Int32) (40 : Int32) = some 0 := by rw [M_isIn, bI_f hk]
        exact this
      refine ⟨-1000000, st, ?_, Only.refl hS, fun st2 r2 => ⟨st2, ?_, Only.refl r2.sh, r2.2.2.2.2.2.2.1⟩⟩
      · simp only [↓Option.bind_some, ↓reduceIte, ↓bnd (xs), ↓bnd (xk), i10]
      · have xkm : F_X11_isIn n st2 k (1 : Int32) (40 : Int32) = some 0 := by rw [M_isIn, bI_f hk]
        unfold F_X11_fresh
        simp only [↓Option.bind_some, ↓reduceIte, ↓bnd (xsm st2), ↓bnd (xkm), i10]
  · have xs : F_X10_isSide n st s = some 0 := by
      have : F_X10_within n st s (0 : Int32) (7 : Int32) = some 0 := C_in_f (b := 7) hs (by decide)
      unfold F_X10_isSide
      simp only [↓bnd (this), rz0, Option.bind_some]
    refine ⟨-1000000, st, ?_, Only.refl hS, fun st2 r2 => ⟨st2, ?_, Only.refl r2.sh, r2.2.2.2.2.2.2.1⟩⟩
    · simp only [↓Option.bind_some, ↓reduceIte, ↓bnd (xs)]
    · have xm : F_X11_isIn n st2 s (0 : Int32) (7 : Int32) = some 0 := M_in_f (b := 7) hs (by decide)
      unfold F_X11_fresh
      simp only [↓Option.bind_some, ↓reduceIte, ↓bnd (xm)]
end OR

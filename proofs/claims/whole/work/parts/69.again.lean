/-! IMAGE, AGAIN: both -/
section AG
variable {st st1 st2 s s1 : xS} {n t u T k : Nat} {G G1 g : Gh} {I I1 : Im}
theorem ModB.ext {B B1 : Nat → Int32} (hM : ModB B G) (hI : GhI G) (h : ∀ i, i < 2562 → B1 i = B i) : ModB B1 G := hM.mono hI fun q hq => h q (by have := hI.n3; omega)
/-- the model copies what is told: from or to an image -/
theorem M_save (hS : Sh st) {k : Nat} (hk : k < 3) (hn : 3000 ≤ n) : ∃ s, F_X11_image_L20 n n st (some 106) (nI k) (0 : Int32) = some s ∧ Only (fun a => a = 107) st s ∧ (∀ j, j < 2562 → cI s 107 (2562 * (k + 1) + j) = cI st 107 j) ∧ ∀ q, q < 2562 * (k + 1) ∨ 2562 * (k + 1) + 2562 ≤ q → cI s 107 q = cI st 107 q := by
  have hl : ∃ s, F_X11_image_L20 n n st (some 106) (nI k) (nI 0) = some s ∧ Only (fun a => a = 107) st s ∧ (∀ j, j < 2562 → cI s 107 (2562 * (k + 1) + j) = cI st 107 j) ∧ ∀ q, q < 2562 * (k + 1) ∨ 2562 * (k + 1) + 2562 ≤ q → cI s 107 q = cI st 107 q := by
    refine loop_ex (fun m (s : xS × Int32) => F_X11_image_L20 n m s.1 (some 106) (nI k) s.2) (fun i s => Only (fun a => a = 107) st s.1 ∧ (∀ j, j < i → cI s.1 107 (2562 * (k + 1) + j) = cI st 107 j) ∧ (∀ q, q < 2562 * (k + 1) ∨ 2562 * (k + 1) + i ≤ q → cI s.1 107 q = cI st 107 q) ∧ s.2 = nI i) 2562 (fun r => ∃ s, r = some s ∧ Only (fun a => a = 107) st s ∧ (∀ j, j < 2562 → cI s 107 (2562 * (k + 1) + j) = cI st 107 j) ∧ ∀ q, q < 2562 * (k + 1) ∨ 2562 * (k + 1) + 2562 ≤ q → cI s 107 q = cI st 107 q) ?_ ?_ n (by omega) (st, nI 0) ⟨Only.refl hS, fun j hj => absurd hj (Nat.not_lt_zero j), fun _ _ => rfl, rfl⟩
    · rintro m i ⟨s, z⟩ hi ⟨h1, h2, h3, h4⟩
      dsimp only at h1 h2 h3 h4 ⊢
      subst h4
      have S := h1.2.2.1
      have r : aI s (some 107) (nI i) = some (cI st 107 i) := by rw [M_all S (by omega), h3 i (by omega)]
      have q : (2562 : Int32) * nI (k + 1) + nI i = nI (2562 * (k + 1) + i) := by simp only [l0, l1, l2, l3, l4, l5, l6, l7, l8, l9, l10, l11, l12, l13, l14, l15, l16, l17, l18, l19, l20, l21, l22, l23, l24, l25, l26, l27, l28, l29, l30, l31, l32, l33, l34, l35, l36, l37, l38, l39, l40, l41, l42, l43, l44, l45, l46, l47, l48, l49, l50, l51, l52, l53, l54, l55, l56, l57, l58, l59, l60, l65, l90, l96, l97, l99, l100, l101, l122, l150, l242, l255, l499, l500, l510, l800, l960, l999, l1000, l1002, l1730, l2530, l2562, l9999, l10250, l32768, l1000000, nMul, nAdd, nNegN]
      have w : sS 0 s (some 107) (nI (2562 * (k + 1) + i)) (cI st 107 i) = some (wA s 107 (upd (cI s 107) (2562 * (k + 1) + i) (cI st 107 i))) := by rw [w107 S, if_pos (ixT (by omega) (by decide)), nIc (by omega)]
      have k1 := k107 S (upd (cI s 107) (2562 * (k + 1) + i) (cI st 107 i))
      refine ⟨(wA s 107 (upd (cI s 107) (2562 * (k + 1) + i) (cI st 107 i)), nI (i + 1)), ⟨h1.trans (Only.wA S 107 _), fun j hj => ?_, fun q hq => ?_, rfl⟩, ?_⟩
      · dsimp only
        rw [k1]
        by_cases hji : j = i
        · rw [hji, upd_s]
        · rw [pk_un (by omega)]
          exact h2 j (by omega)
      · dsimp only
        rw [k1, pk_un (by omega)]
        exact h3 q (by omega)
      · dsimp only
        rw [F_X11_image_L20]
        dsimp only
        simp (disch := omega) only [l2562, ↓Option.bind_some, ↓reduceIte, nLe_f, ↓bnd (g106_0 S), ↓bnd (r), nI_1]
        rw [← l2562, q]
        simp only [↓bnd (w)]
    · rintro m ⟨s, z⟩ ⟨h1, h2, h3, h4⟩
      dsimp only at h1 h2 h3 h4 ⊢
      subst h4
      refine ⟨s, ?_, h1, h2, h3⟩
      rw [F_X11_image_L20]
      dsimp only
      simp (disch := omega) only [l2562, ↓reduceIte, nLe_t]
  exact hl
theorem M_load (hS : Sh st) {k : Nat} (hk : k < 3) (hn : 3000 ≤ n) : ∃ s, F_X11_again_L22 n n st (some 106) (nI k) (0 : Int32) = some s ∧ Only (fun a => a = 107) st s ∧ (∀ j, j < 2562 → cI s 107 j = cI st 107 (2562 * (k + 1) + j)) ∧ ∀ q, 2562 ≤ q → cI s 107 q = cI st 107 q := by
  have hl : ∃ s, F_X11_again_L22 n n st (some 106) (nI k) (nI 0) = some s ∧ Only (fun a => a = 107) st s ∧ (∀ j, j < 2562 → cI s 107 j = cI st 107 (2562 * (k + 1) + j)) ∧ ∀ q, 2562 ≤ q → cI s 107 q = cI st 107 q := by
    refine loop_ex (fun m (s : xS × Int32) => F_X11_again_L22 n m s.1 (some 106) (nI k) s.2) (fun i s => Only (fun a => a = 107) st s.1 ∧ (∀ j, j < i → cI s.1 107 j = cI st 107 (2562 * (k + 1) + j)) ∧ (∀ q, i ≤ q → cI s.1 107 q = cI st 107 q) ∧ s.2 = nI i) 2562 (fun r => ∃ s, r = some s ∧ Only (fun a => a = 107) st s ∧ (∀ j, j < 2562 → cI s 107 j = cI st 107 (2562 * (k + 1) + j)) ∧ ∀ q, 2562 ≤ q → cI s 107 q = cI st 107 q) ?_ ?_ n (by omega) (st, nI 0) ⟨Only.refl hS, fun j hj => absurd hj (Nat.not_lt_zero j), fun _ _ => rfl, rfl⟩
    · rintro m i ⟨s, z⟩ hi ⟨h1, h2, h3, h4⟩
      dsimp only at h1 h2 h3 h4 ⊢
      subst h4
      have S := h1.2.2.1
      have q : (2562 : Int32) * nI (k + 1) + nI i = nI (2562 * (k + 1) + i) := by simp only [l0, l1, l2, l3, l4, l5, l6, l7, l8, l9, l10, l11, l12, l13, l14, l15, l16, l17, l18, l19, l20, l21, l22, l23, l24, l25, l26, l27, l28, l29, l30, l31, l32, l33, l34, l35, l36, l37, l38, l39, l40, l41, l42, l43, l44, l45, l46, l47, l48, l49, l50, l51, l52, l53, l54, l55, l56, l57, l58, l59, l60, l65, l90, l96, l97, l99, l100, l101, l122, l150, l242, l255, l499, l500, l510, l800, l960, l999, l1000, l1002, l1730, l2530, l2562, l9999, l10250, l32768, l1000000, nMul, nAdd, nNegN]
      have r : aI s (some 107) (nI (2562 * (k + 1) + i)) = some (cI st 107 (2562 * (k + 1) + i)) := by rw [M_all S (by omega), h3 _ (by omega)]
      have w : sS 0 s (some 107) (nI i) (cI st 107 (2562 * (k + 1) + i)) = some (wA s 107 (upd (cI s 107) i (cI st 107 (2562 * (k + 1) + i)))) := by rw [w107 S, if_pos (ixT (by omega) (by decide)), nIc (by omega)]
      have k1 := k107 S (upd (cI s 107) i (cI st 107 (2562 * (k + 1) + i)))
      refine ⟨(wA s 107 (upd (cI s 107) i (cI st 107 (2562 * (k + 1) + i))), nI (i + 1)), ⟨h1.trans (Only.wA S 107 _), fun j hj => ?_, fun q hq => ?_, rfl⟩, ?_⟩
      · dsimp only
        rw [k1]
        by_cases hji : j = i
        · rw [hji, upd_s]
        · rw [pk_un hji]
          exact h2 j (by omega)
      · dsimp only
        rw [k1, pk_un (by omega)]
        exact h3 q (by omega)
      · dsimp only
        rw [F_X11_again_L22]
        dsimp only
        simp (disch := omega) only [l2562, ↓Option.bind_some, ↓reduceIte, nLe_f, ↓bnd (g106_0 S), nI_1]
        rw [← l2562, q]
        simp only [↓bnd (r), ↓bnd (w)]
    · rintro m ⟨s, z⟩ ⟨h1, h2, h3, h4⟩
      dsimp only at h1 h2 h3 h4 ⊢
      subst h4
      refine ⟨s, ?_, h1, h2, fun q hq => h3 q hq⟩
      rw [F_X11_again_L22]
      dsimp only
      simp (disch := omega) only [l2562, ↓reduceIte, nLe_t]
  exact hl
theorem BF.kf (h : BF t st st1) (ht : t = 65 ∨ 116 ≤ t) : KF st st1 := fun a h1 h2 => h.2.2.2.2.2 a fun i hi => by omega
theorem E_again (hR : Rel st G I) (x : Int32) (hn : 3000 ≤ n) : Chg (fun st => F_X10_again n st (some 64) x) (fun st => F_X11_again n st (some 106) x) st G I 0 0 := by
  have hS := hR.sh
  rcases nCut x 3 with ⟨k, hk, rfl⟩ | hx
  · have a0 : (nI k < (0 : Int32)) = False := eq_false (nI_pos (by omega))
    have a1 : (nI k < nI 3) = True := nLt_t hk (by decide)
    have r : aR st (some 74) (nI k) = some (cR st 74 k) := by rw [a74 hS, if_pos (ixT hk (by decide)), nIc (by omega)]
    have xm : ∀ st2, F_X11_isIn n st2 (nI k) (0 : Int32) (2 : Int32) = some 1 := fun st2 => M_in_t (j := k) (b := 2) (by omega) (by decide)
    have rm : ∀ st2, Sh st2 → aS 3 st2 (some 108) (nI k) = some (cI st2 108 k) := fun st2 S => by rw [a108 S, if_pos (ixT hk (by decide)), nIc (by omega)]
    cases hIk : I k with
    | none =>
      have c := (hR.cls.2.2.2.2.2 k hk).1 hIk
      refine Chg.none hR (v := 0) ?_ fun st2 r2 => ?_
      · unfold F_X10_again
        simp only [↓Option.bind_some, ↓reduceIte, a0, a1, ↓bnd (g64_1 hS), ↓bnd (n74 hS), ↓bnd (r), c, rz0]
      · have m := (r2.2.2.2.2.2 k hk).1 hIk
        unfold F_X11_again
        simp only [↓Option.bind_some, ↓reduceIte, ↓bnd (xm st2), ↓bnd (g106_1 r2.1), ↓bnd (rm st2 r2.1), m, i10, rz0]
    | some g =>
      obtain ⟨t, c, ts, tr⟩ := (hR.cls.2.2.2.2.2 k hk).2 g hIk
      have gI := hR.2.2.1 k g hIk
      have h116 := ts.2.2.2.2.2.2.2.2.2.1
      obtain ⟨s', e', b', t'⟩ := C_become (n := n) (t := 65) hS (TS_65 hS) ts.ts (by omega) (Or.inl rfl) tr gI hn
      have c74 : cR s' 74 = cR st 74 := cR_c (b'.2.2.2.2.2 74 fun i hi => by omega)
      refine ⟨1, s', g, I, ?_, ⟨b'.2.2.1, gI, hR.2.2.1, by rw [c74]; exact hR.2.2.2.1, t', fun q hq => ?_⟩, b'.kf (Or.inl rfl), Nat.le_of_eq b'.1.symm, Nat.le_of_eq b'.1, Nat.le_of_eq b'.2.1, fun st2 r2 => ?_⟩
      · dsimp only
        unfold F_X10_again
        simp only [↓Option.bind_some, ↓reduceIte, a0, a1, ↓bnd (g64_1 hS), ↓bnd (n74 hS), ↓bnd (r), c, reduceCtorEq, ↓bnd (g64_0 hS), ↓bnd (o65 hS), ↓bnd (e'), rz1]
      · rw [c74]
        refine ⟨(hR.cls.2.2.2.2.2 q hq).1, fun g2 hg2 => ?_⟩
        obtain ⟨t2, c2, ts2, tr2⟩ := (hR.cls.2.2.2.2.2 q hq).2 g2 hg2
        have h2 := ts2.2.2.2.2.2.2.2.2.2.1
        exact ⟨t2, c2, ts2.bf b', tr2.bf b' ts2.ts (by omega)⟩
      · obtain ⟨m1, m2⟩ := (r2.2.2.2.2.2 k hk).2 g hIk
        obtain ⟨s3, e3, o3, v3, w3⟩ := M_load (n := n) r2.1 hk hn
        have q3 : Only QN st2 s3 := o3.mono fun a h => by unfold QN; omega
        refine ⟨s3, ?_, r2.base q3 gI (m2.ext gI v3) ((fI_o o3 (by decide) 15).trans r2.2.2.2.2.1) (cI_o o3 (by decide)) w3, q3⟩
        dsimp only
        unfold F_X11_again
        simp only [↓Option.bind_some, ↓reduceIte, ↓bnd (xm st2), ↓bnd (g106_1 r2.1), ↓bnd (rm st2 r2.1), m1, i10, ↓bnd (e3), rz1]
  · refine Chg.none hR (v := 0) ?_ fun st2 r2 => ?_
    · unfold F_X10_again
      rcases nOut (by decide) hx with h | h
      · rw [if_pos h]; rfl
      · by_cases h0 : x < 0
        · rw [if_pos h0]; rfl
        · have h3 : (x < nI 3) = False := eq_false (Int32.not_lt.mpr h)
          rw [if_neg h0]
          simp only [↓bnd (g64_1 hS), ↓bnd (n74 hS), h3, if_false, rz0, Option.bind_some]
    · have xm : F_X11_isIn n st2 x (0 : Int32) (2 : Int32) = some 0 := M_in_f (b := 2) hx (by decide)
      unfold F_X11_again
      simp only [↓Option.bind_some, ↓reduceIte, ↓bnd (xm), rz0]
/-- a new one that tells nothing -/
theorem N_new {fs : List Value} (h : s.2.2 T = .inr (9, fs)) (hT : T < 64 + s.1) {j sl : Nat} (hj : j < fs.length) (c : xC) : ∃ s', pF (xnew s sl c) (some T) 9 j (va_rf (some (64 + s.1))) = some s' ∧ s'.1 = s.1 + 1 ∧ s'.2.1 = s.2.1 + sl ∧ s'.2.2 T = .inr (9, fs.set j (.ref (64 + s.1))) ∧ s'.2.2 (64 + s.1) = c ∧ ∀ a, a < 64 + s.1 → a ≠ T → s'.2.2 a = s.2.2 a := by
  have e : (xnew s sl c).2.2 T = .inr (9, fs) := by
    show (if T = 64 + s.1 then c else s.2.2 T) = _
    rw [if_neg (by omega), h]
  have p := pF_of e (v := va_rf (some (64 + s.1))) hj
  have u : uV (xnew s sl c) T j (va_rf (some (64 + s.1))) = xup (xnew s sl c) T (.inr (9, fs.set j (.ref (64 + s.1)))) := by
    unfold uV
    rw [e]
    rfl
  rw [u] at p
  refine ⟨_, p, rfl, rfl, xup_s _ _ _, ?_, fun a ha hne => ?_⟩
  · rw [xup_n (by omega)]
    exact if_pos rfl
  · rw [xup_n hne]
    exact if_neg (by omega)
theorem N_int {fs : List Value} (h : s.2.2 T = .inr (9, fs)) {j : Nat} (hj : j < fs.length) (v : Int32) : ∃ s', pF s (some T) 9 j (.int v) = some s' ∧ s'.1 = s.1 ∧ s'.2.1 = s.2.1 ∧ s'.2.2 T = .inr (9, fs.set j (.int v)) ∧ ∀ a, a ≠ T → s'.2.2 a = s.2.2 a := by
  have p := pF_of h (v := .int v) hj
  have u : uV s T j (.int v) = xup s T (.inr (9, fs.set j (.int v))) := by
    unfold uV
    rw [h]
  rw [u] at p
  exact ⟨_, p, rfl, rfl, xup_s _ _ _, fun a hne => xup_n hne _ _⟩
theorem C_newTold (hS : Sh st) : ∃ s', F_X9_init n (xnew st 11 (.inr (9, [Value.null, Value.null, Value.null, Value.null, Value.null, Value.null, Value.null, Value.null, Value.int 0, Value.int 0, Value.int 0]))) (some (64 + st.1)) = some s' ∧ s'.1 = st.1 + 9 ∧ s'.2.1 = st.2.1 + 1356 ∧ TolS s' (64 + st.1) ∧ KD st s' := by
  generalize hs0 : xnew st 11 (.inr (9, [Value.null, Value.null, Value.null, Value.null, Value.null, Value.null, Value.null, Value.null, Value.int 0, Value.int 0, Value.int 0])) = s0
  have h0 : s0.2.2 (64 + st.1) = .inr (9, [Value.null, Value.null, Value.null, Value.null, Value.null, Value.null, Value.null, Value.null, Value.int 0, Value.int 0, Value.int 0]) := by rw [← hs0]; exact if_pos rfl
  have a0 : s0.1 = st.1 + 1 := by rw [← hs0]; rfl
  have b0 : s0.2.1 = st.2.1 + 11 := by rw [← hs0]; rfl
  have o0 : ∀ a, a < 64 + st.1 → s0.2.2 a = st.2.2 a := fun a ha => by rw [← hs0]; exact if_neg (by omega)
  have hst := hS.1
  obtain ⟨s1, e1, a1, b1, h1, c1, o1⟩ := N_new h0 (by omega) (j := 0) (sl := 3) (by show 0 < 11; omega) (.inl (4, 3, .inr (.inr (.inr (.inr fun _ => none)))))
  obtain ⟨s2, e2, a2, b2, h2, c2, o2⟩ := N_new h1 (by omega) (j := 1) (sl := 3) (by show 1 < 11; omega) (.inl (5, 3, .inr (.inr (.inr (.inr fun _ => none)))))
  obtain ⟨s3, e3, a3, b3, h3, c3, o3⟩ := N_new h2 (by omega) (j := 2) (sl := 3) (by show 2 < 11; omega) (.inl (6, 3, .inr (.inr (.inr (.inr fun _ => none)))))
  obtain ⟨s4, e4, a4, b4, h4, c4, o4⟩ := N_new h3 (by omega) (j := 3) (sl := 4) (by show 3 < 11; omega) (.inl (0, 4, .inl fun _ => 0))
  obtain ⟨s5, e5, a5, b5, h5, c5, o5⟩ := N_new h4 (by omega) (j := 4) (sl := 800) (by show 4 < 11; omega) (.inl (0, 800, .inl fun _ => 0))
  obtain ⟨s6, e6, a6, b6, h6, c6, o6⟩ := N_new h5 (by omega) (j := 5) (sl := 16) (by show 5 < 11; omega) (.inl (0, 16, .inl fun _ => 0))
  obtain ⟨s7, e7, a7, b7, h7, c7, o7⟩ := N_new h6 (by omega) (j := 6) (sl := 16) (by show 6 < 11; omega) (.inl (0, 16, .inl fun _ => 0))
  obtain ⟨s8, e8, a8, b8, h8, c8, o8⟩ := N_new h7 (by omega) (j := 7) (sl := 500) (by show 7 < 11; omega) (.inl (2, 500, .inl fun _ => 0))
  obtain ⟨s9, e9, a9, b9, h9, o9⟩ := N_int h8 (j := 8) (by show 8 < 11; omega) 0
  obtain ⟨s10, e10, a10, b10, h10, o10⟩ := N_int h9 (j := 9) (by show 9 < 11; omega) 0
  obtain ⟨s11, e11, a11, b11, h11, o11⟩ := N_int h10 (j := 10) (by show 10 < 11; omega) (-1)
  have lo : ∀ a, a < 64 + st.1 → s11.2.2 a = st.2.2 a := fun a ha => by
    rw [o11 a (by omega), o10 a (by omega), o9 a (by omega), o8 a (by omega) (by omega), o7 a (by omega) (by omega), o6 a (by omega) (by omega), o5 a (by omega) (by omega), o4 a (by omega) (by omega), o3 a (by omega) (by omega), o2 a (by omega) (by omega), o1 a (by omega) (by omega), o0 a ha]
  have hi8 : ∀ a, a ≠ 64 + st.1 → s11.2.2 a = s8.2.2 a := fun a ha => by rw [o11 a ha, o10 a ha, o9 a ha]
  rw [a0] at h1 c1
  rw [show s1.1 = st.1 + 2 by omega] at h2 c2
  rw [show s2.1 = st.1 + 3 by omega] at h3 c3
  rw [show s3.1 = st.1 + 4 by omega] at h4 c4
  rw [show s4.1 = st.1 + 5 by omega] at h5 c5
  rw [show s5.1 = st.1 + 6 by omega] at h6 c6
  rw [show s6.1 = st.1 + 7 by omega] at h7 c7
  rw [show s7.1 = st.1 + 8 by omega] at h8 c8
  refine ⟨s11, ?_, by omega, by omega, ⟨⟨0, 0, -1, ?_⟩, ?_, ?_, ?_, ?_, ?_, ?_, ?_, ?_, by omega, by omega⟩, by omega, hS.same (by omega) fun b hb => lo b (by omega), fun b hb => lo b (by omega), fun b hb _ => lo b hb⟩
  · unfold F_X9_init
    simp only [Option.bind_some, ↓bnd (e1), ↓bnd (e2), ↓bnd (e3), ↓bnd (e4), ↓bnd (e5), ↓bnd (e6), ↓bnd (e7), ↓bnd (e8), ↓bnd (e9), ↓bnd (e10), ↓bnd (e11)]
  · rw [h11, a0, show s1.1 = st.1 + 2 by omega, show s2.1 = st.1 + 3 by omega, show s3.1 = st.1 + 4 by omega, show s4.1 = st.1 + 5 by omega, show s5.1 = st.1 + 6 by omega, show s6.1 = st.1 + 7 by omega, show s7.1 = st.1 + 8 by omega]
    rfl
  · rw [hi8 _ (by omega), o8 _ (by omega) (by omega), o7 _ (by omega) (by omega), o6 _ (by omega) (by omega), o5 _ (by omega) (by omega), o4 _ (by omega) (by omega), o3 _ (by omega) (by omega), o2 _ (by omega) (by omega)]
    exact ⟨_, c1⟩
  · rw [hi8 _ (by omega), o8 _ (by omega) (by omega), o7 _ (by omega) (by omega), o6 _ (by omega) (by omega), o5 _ (by omega) (by omega), o4 _ (by omega) (by omega), o3 _ (by omega) (by omega)]
    exact ⟨_, c2⟩
  · rw [hi8 _ (by omega), o8 _ (by omega) (by omega), o7 _ (by omega) (by omega), o6 _ (by omega) (by omega), o5 _ (by omega) (by omega), o4 _ (by omega) (by omega)]
    exact ⟨_, c3⟩
  · rw [hi8 _ (by omega), o8 _ (by omega) (by omega), o7 _ (by omega) (by omega), o6 _ (by omega) (by omega), o5 _ (by omega) (by omega)]
    exact ⟨_, c4⟩
  · rw [hi8 _ (by omega), o8 _ (by omega) (by omega), o7 _ (by omega) (by omega), o6 _ (by omega) (by omega)]
    exact ⟨_, c5⟩
  · rw [hi8 _ (by omega), o8 _ (by omega) (by omega), o7 _ (by omega) (by omega)]
    exact ⟨_, c6⟩
  · rw [hi8 _ (by omega), o8 _ (by omega) (by omega)]
    exact ⟨_, c7⟩
  · rw [hi8 _ (by omega)]
    exact ⟨_, c8⟩
/-- an image kept -/
def imG (I : Im) (k : Nat) (G : Gh) : Im := fun q => if q = k then some G else I q
theorem C_keep (hK : RelK s G I1) (hI1 : ∀ q, q ≠ k → I1 q = I q) (hk : k < 3) (ht : cR s 74 k = some t) (ts : TolS s t) (hne : ∀ q, q < 3 → q ≠ k → cR s 74 q ≠ some t) (hn : 3000 ≤ n) : ∃ s', F_X9_become n s (some t) (some 65) = some s' ∧ BF t s s' ∧ RelK s' G (imG I k G) := by
  have hS := hK.1
  have h116 := ts.2.2.2.2.2.2.2.2.2.1
  obtain ⟨s', e', b', t'⟩ := C_become (n := n) (u := 65) hS ts.ts (TS_65 hS) (by omega) (Or.inr h116) hK.2.2.2.2.1 hK.2.1 hn
  have c74 : cR s' 74 = cR s 74 := cR_c (b'.2.2.2.2.2 74 fun i hi => by omega)
  refine ⟨s', e', b', b'.2.2.1, hK.2.1, fun q g hq => ?_, by rw [c74]; exact hK.2.2.2.1, hK.2.2.2.2.1.bf b' (TS_65 hS) (by omega), fun q hq => ?_⟩
  · unfold imG at hq
    by_cases hqk : q = k
    · rw [if_pos hqk] at hq
      cases hq
      exact hK.2.1
    · rw [if_neg hqk, ← hI1 q hqk] at hq
      exact hK.2.2.1 q g hq
  · rw [c74]
    unfold imG
    by_cases hqk : q = k
    · rw [if_pos hqk]
      refine ⟨(fun h => by cases h), fun g hg => ?_⟩
      cases hg
      exact ⟨t, by rw [hqk]; exact ht, ts.bf b', t'⟩
    · rw [if_neg hqk, ← hI1 q hqk]
      refine ⟨(hK.2.2.2.2.2 q hq).1, fun g hg => ?_⟩
      obtain ⟨t2, c2, ts2, tr2⟩ := (hK.2.2.2.2.2 q hq).2 g hg
      have hne2 : t2 ≠ t := fun h => hne q hq hqk (by rw [c2, h])
      exact ⟨t2, c2, ts2.bf b', tr2.bf b' ts2.ts hne2⟩
theorem E_image (hR : Rel st G I) (x : Int32) (hn : 3000 ≤ n) : Chg (fun st => F_X10_image n st (some 64) x) (fun st => F_X11_image n st (some 106) x) st G I 9 1356 := by
  have hS := hR.sh
  have hst := hS.1
  have up : ∀ {v : Int32}, F_X10_image n st (some 64) x = some (v, st) → (∀ st2, RelN st2 G I → F_X11_image n st2 (some 106) x = some (v, st2)) → Chg (fun st => F_X10_image n st (some 64) x) (fun st => F_X11_image n st (some 106) x) st G I 9 1356 := fun h1 h2 => ⟨_, st, G, I, h1, hR.cls, fun _ _ _ => rfl, Nat.le_refl _, by omega, by omega, fun st2 r => ⟨st2, h2 st2 r, r, Only.refl r.1⟩⟩
  rcases nCut x 3 with ⟨k, hk, rfl⟩ | hx
  · have a0 : (nI k < (0 : Int32)) = False := eq_false (nI_pos (by omega))
    have a1 : (nI k < nI 3) = True := nLt_t hk (by decide)
    have r : aR st (some 74) (nI k) = some (cR st 74 k) := by rw [a74 hS, if_pos (ixT hk (by decide)), nIc (by omega)]
    have M : ∀ st2, RelN st2 G I → ∃ st3, F_X11_image n st2 (some 106) (nI k) = some (1, st3) ∧ RelN st3 G (imG I k G) ∧ Only QN st2 st3 := by
      intro st2 r2
      have xm : F_X11_isIn n st2 (nI k) (0 : Int32) (2 : Int32) = some 1 := M_in_t (j := k) (b := 2) (by omega) (by decide)
      have w : sS 3 st2 (some 108) (nI k) (vp_nar .boolean (1 : Int32)) = some (wA st2 108 (upd (cI st2 108) k 1)) := by
        rw [w108 r2.1, if_pos (ixT hk (by decide)), nIc (by omega)]
        rfl
      have o1 := Only.wA r2.1 108 (upd (cI st2 108) k 1)
      have k1 := k108 r2.1 (upd (cI st2 108) k 1)
      generalize wA st2 108 (upd (cI st2 108) k 1) = s1 at *
      obtain ⟨s2, e2, o2, v2, w2⟩ := M_save (n := n) o1.2.2.1 hk hn
      have c7 : cI s1 107 = cI st2 107 := cI_o o1 (by decide)
      have c8 : cI s2 108 = cI s1 108 := cI_o o2 (by decide)
      rw [c7] at v2 w2
      have q : Only QN st2 s2 := (o1.mono fun a h => by unfold QN; omega).trans (o2.mono fun a h => by unfold QN; omega)
      refine ⟨s2, ?_, ⟨o2.2.2.1, r2.2.1, fun q g hq => ?_, r2.mod.ext r2.2.1 fun i hi => w2 i (by omega), ((fI_o o2 (by decide) 15).trans (fI_o o1 (by decide) 15)).trans r2.2.2.2.2.1, fun q hq => ?_⟩, q⟩
      · unfold F_X11_image
        simp only [↓Option.bind_some, ↓reduceIte, ↓bnd (xm), ↓bnd (g106_1 r2.1), ↓bnd (w), ↓bnd (e2), i10, rz1]
      · unfold imG at hq
        by_cases hqk : q = k
        · rw [if_pos hqk] at hq
          cases hq
          exact r2.2.1
        · rw [if_neg hqk] at hq
          exact r2.2.2.1 q g hq
      · rw [c8, k1]
        unfold imG
        by_cases hqk : q = k
        · rw [if_pos hqk, hqk, upd_s]
          refine ⟨(fun h => by cases h), fun g hg => ?_⟩
          cases hg
          exact ⟨rfl, r2.mod.ext r2.2.1 fun i hi => v2 i hi⟩
        · rw [if_neg hqk, pk_un hqk]
          refine ⟨(r2.2.2.2.2.2 q hq).1, fun g hg => ?_⟩
          obtain ⟨m1, m2⟩ := (r2.2.2.2.2.2 q hq).2 g hg
          exact ⟨m1, m2.ext (r2.2.2.1 q g hg) fun i hi => w2 _ (by omega)⟩
    cases hIk : I k with
    | none =>
      have c := (hR.cls.2.2.2.2.2 k hk).1 hIk
      obtain ⟨s1, e1, z1, z2, ts, kd⟩ := C_newTold (n := n) hS
      have K1 := hR.cls.kd kd
      have S1 := kd.2.1
      have ce : cR s1 74 = cR st 74 := cR_c (kd.2.2.1 74 (by decide))
      obtain ⟨x', y', z', hcell⟩ := ts.1
      have ok : okR s1 7 (some (64 + st.1)) = true := okR_o (by decide) (by decide) hcell rfl
      have w : sR s1 (some 74) (nI k) (some (64 + st.1)) = some (wR s1 74 (va_up (cR s1 74) k (some (64 + st.1)))) := by rw [w74 S1, if_pos ⟨ixT hk (by decide), ok⟩, nIc (by omega)]
      have o2 := Only.wR S1 74 (by decide) (va_up (cR s1 74) k (some (64 + st.1)))
      have k2 : cR (wR s1 74 (va_up (cR s1 74) k (some (64 + st.1)))) 74 = va_up (cR s1 74) k (some (64 + st.1)) := cR_s (c74 S1) _
      generalize wR s1 74 (va_up (cR s1 74) k (some (64 + st.1))) = s2 at *
      have lim : ∀ q, q < 3 → q ≠ k → cR s2 74 q = cR st 74 q ∧ cR st 74 q ≠ some (64 + st.1) := fun q hq hqk => by
        refine ⟨by rw [k2, vup_n _ _ hqk, ce], fun h => ?_⟩
        cases hIq : I q with
        | none => rw [(hR.cls.2.2.2.2.2 q hq).1 hIq] at h; cases h
        | some g =>
          obtain ⟨t2, c2, ts2, -⟩ := (hR.cls.2.2.2.2.2 q hq).2 g hIq
          rw [c2] at h
          injection h with h
          have := ts2.2.2.2.2.2.2.2.2.2.2
          omega
      have K3 : ∃ s', F_X9_become n s2 (some (64 + st.1)) (some 65) = some s' ∧ BF (64 + st.1) s2 s' ∧ RelK s' G (imG I k G) := by
        have S2 := o2.2.2.1
        have ts2 : TolS s2 (64 + st.1) := ts.only o2 (fun a h => by omega)
        have h65 : TolR s2 65 G := K1.2.2.2.2.1.only o2 (fun a h => by omega) (fun i hi => by omega)
        obtain ⟨s', e', b', t'⟩ := C_become (n := n) (t := 64 + st.1) (u := 65) S2 ts2.ts (TS_65 S2) (by omega) (Or.inr (by omega)) h65 hR.inv hn
        have c74' : cR s' 74 = cR s2 74 := cR_c (b'.2.2.2.2.2 74 fun i hi => by omega)
        refine ⟨s', e', b', b'.2.2.1, hR.inv, fun q g hq => ?_, fun i j hi hj hij he => ?_, h65.bf b' (TS_65 S2) (by omega), fun q hq => ?_⟩
        · unfold imG at hq
          by_cases hqk : q = k
          · rw [if_pos hqk] at hq
            cases hq
            exact hR.inv
          · rw [if_neg hqk] at hq
            exact hR.2.2.1 q g hq
        · rw [c74'] at he ⊢
          by_cases hik : i = k
          · by_cases hjk : j = k
            · exact absurd (hik.trans hjk.symm) hij
            · have l := lim j hj hjk
              rw [hik, k2, vup_s] at he
              rw [k2] at l
              exact absurd (by rw [← l.1, ← he]) l.2
          · have l := lim i hi hik
            by_cases hjk : j = k
            · rw [hjk] at he
              rw [l.1, k2, vup_s] at he
              exact absurd he l.2
            · have l2 := lim j hj hjk
              rw [l.1] at he ⊢
              rw [l2.1] at he
              exact hR.2.2.2.1 i j hi hj hij he
        · rw [c74']
          unfold imG
          by_cases hqk : q = k
          · rw [if_pos hqk]
            refine ⟨(fun h => by cases h), fun g hg => ?_⟩
            cases hg
            exact ⟨64 + st.1, by rw [hqk, k2, vup_s], ts2.bf b', t'⟩
          · rw [if_neg hqk]
            have l := lim q hq hqk
            rw [l.1]
            refine ⟨(hR.cls.2.2.2.2.2 q hq).1, fun g hg => ?_⟩
            obtain ⟨t2, q2, u2, v2⟩ := (K1.2.2.2.2.2 q hq).2 g hg
            rw [ce] at q2
            have u3 := u2.only o2 (fun a h => by omega)
            have h116 := u2.2.2.2.2.2.2.2.2.2.1
            have v3 := v2.only o2 (fun a h => by omega) (fun i hi h => by omega)
            have hne2 : t2 ≠ 64 + st.1 := fun h => l.2 (by rw [q2, h])
            exact ⟨t2, q2, u3.bf b', v3.bf b' u3.ts hne2⟩
      obtain ⟨s', e', b', K'⟩ := K3
      have S2 := o2.2.2.1
      have n1 := o2.1
      have n2 := o2.2.1
      have n3 := b'.1
      have n4 := b'.2.1
      have kfe : KF st s' := (kd.kf.trans (KF.of o2 (fun a h => by omega))).trans (b'.kf (Or.inr (by omega)))
      have cT : s2.2.2 (64 + st.1) = .inr (9, _) := (o2.2.2.2 (64 + st.1) (fun h => by omega)).trans hcell
      refine ⟨1, s', G, imG I k G, ?_, K', kfe, by omega, by omega, by omega, M⟩
      dsimp only
      unfold F_X10_image
      simp only [↓Option.bind_some, ↓reduceIte, a0, a1, ↓bnd (g64_1 hS), ↓bnd (n74 hS), ↓bnd (r), c, ↓bnd (e1), ↓bnd (g64_1 S1), ↓bnd (w), ↓bnd (g64_0 S2), ↓bnd (isO_of cT), ↓bnd (e'), rz1]
    | some g =>
      obtain ⟨t, c, ts, tr⟩ := (hR.cls.2.2.2.2.2 k hk).2 g hIk
      obtain ⟨s', e', b', K'⟩ := C_keep (n := n) (k := k) (I := I) hR.cls (fun _ _ => rfl) hk c ts (fun q hq hqk h => by
        have := hR.2.2.2.1 q k hq hk hqk (h.trans c.symm)
        rw [this] at h
        cases h) hn
      obtain ⟨x', y', z', hcell⟩ := ts.1
      refine ⟨1, s', G, imG I k G, ?_, K', b'.kf (Or.inr ts.2.2.2.2.2.2.2.2.2.1), Nat.le_of_eq b'.1.symm, by have := b'.1; omega, by have := b'.2.1; omega, M⟩
      dsimp only
      unfold F_X10_image
      simp only [↓Option.bind_some, ↓reduceIte, a0, a1, ↓bnd (g64_1 hS), ↓bnd (n74 hS), ↓bnd (r), c, reduceCtorEq, ↓bnd (g64_0 hS), ↓bnd (isO_of hcell), ↓bnd (e'), rz1]
  · refine up (v := 0) ?_ fun st2 r2 => ?_
    · unfold F_X10_image
      rcases nOut (by decide) hx with h | h
      · rw [if_pos h]; rfl
      · by_cases h0 : x < 0
        · rw [if_pos h0]; rfl
        · have h3 : (x < nI 3) = False := eq_false (Int32.not_lt.mpr h)
          rw [if_neg h0]
          simp only [↓bnd (g64_1 hS), ↓bnd (n74 hS), h3, if_false, rz0, Option.bind_some]
    · have xm : F_X11_isIn n st2 x (0 : Int32) (2 : Int32) = some 0 := M_in_f (b := 2) hx (by decide)
      unfold F_X11_image
      simp only [↓Option.bind_some, ↓reduceIte, ↓bnd (xm), rz0]
end AG

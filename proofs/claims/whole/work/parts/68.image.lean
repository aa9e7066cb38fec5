/-! IMAGE, AGAIN: the class -/
theorem vup_s {α : Type} (f : Nat → α) (k : Nat) (v : α) : va_up f k v k = v := if_pos rfl
theorem vup_n {α : Type} (f : Nat → α) {k j : Nat} (v : α) (h : j ≠ k) : va_up f k v j = f j := if_neg h
section IM
variable {st st1 st2 s s1 : xS} {n t u : Nat} {G G1 : Gh} {I I1 : Im}
theorem isR_c {a k m : Nat} (h : isR k m (st.2.2 a)) : st.2.2 a = .inl (k, m, .inr (.inr (.inr (.inr (cR st a))))) := by
  obtain ⟨f, e⟩ := h
  unfold cR
  rw [e]
theorem isA_c {a k m : Nat} (h : isA k m (st.2.2 a)) : st.2.2 a = .inl (k, m, .inl (cI st a)) := by
  obtain ⟨f, e⟩ := h
  unfold cI
  rw [e]
theorem okR_n {k : Nat} (h1 : 4 ≤ k) (h2 : k < 8) : okR st k none = true := decide_eq_true ⟨h1, h2⟩
theorem okR_o {k a ci : Nat} {fs : List Value} (h1 : 4 ≤ k) (h2 : k < 8) (e : st.2.2 a = .inr (ci, fs)) (hc : ci = xkc k) : okR st k (some a) = true := by
  unfold okR
  dsimp only
  rw [e]
  simp [h1, h2, hc]
theorem cR_s {a k m : Nat} {g : Nat → Option Nat} (h : st.2.2 a = .inl (k, m, .inr (.inr (.inr (.inr g))))) (f : Nat → Option Nat) : cR (wR st a f) a = f := by
  have : (wR st a f).2.2 a = .inl (k, m, .inr (.inr (.inr (.inr f)))) := by
    unfold wR
    rw [h]
    exact xup_s _ _ _
  unfold cR
  rw [this]
theorem cp_of {a b k N : Nat} {f g : Nat → Int32} (h0 : st.2.2 a = .inl (k, N, .inl f)) (h1 : st.2.2 b = .inl (k, N, .inl g)) (hN : N < 2147483648) (hf : ∀ i, i < N → fits (xty k) (.int (f i)) = true) : cpS k st (some a) (0 : Int32) (some b) (0 : Int32) (nI N) = some (wA st b (va_cpy f g 0 0 N)) := by
  have e : wA st b (va_cpy f g 0 0 N) = xup st b (.inl (k, N, .inl (va_cpy f g 0 0 N))) := by
    unfold wA
    rw [h1]
  have z : (0 : Int32).toNatClampNeg = 0 := by decide
  have m : (nI N).toNatClampNeg = N := nIc hN
  unfold cpS
  simp only [Option.bind_some, h0, h1, z, m, Nat.zero_add]
  rw [e]
  exact if_pos ⟨by simp, ⟨by decide, by decide, nI_pos (by omega)⟩, ⟨Nat.le_refl _, Nat.le_refl _⟩, hf⟩
theorem cpy_in (f g : Nat → Int32) {N i : Nat} (h : i < N) : va_cpy f g 0 0 N i = f i := by
  rw [pk_cpy_in (Nat.zero_le i) (by omega)]
  simp
/-- one array copied -/
theorem C_cpA (hS : Sh s) (ht : TS s t) (hu : TS s u) (hne : t ≠ u) {w k N : Nat} (h1 : 4 ≤ w) (h2 : w ≤ 8) (ha : isA k N (s.2.2 (u + w))) (hb : isA k N (s.2.2 (t + w))) (hN : N < 2147483648) (hf : ∀ i, i < N → fits (xty k) (.int (cI s (u + w) i)) = true) : ∃ s', cpS k s (some (u + w)) (0 : Int32) (some (t + w)) (0 : Int32) (nI N) = some s' ∧ BF t s s' ∧ (∀ i, i < N → cI s' (t + w) i = cI s (u + w) i) ∧ ∀ a, a ≠ t + w → s'.2.2 a = s.2.2 a := by
  refine ⟨_, cp_of (isA_c ha) (isA_c hb) hN hf, BF_A hS ht h1 h2 _, fun i hi => ?_, fun a hne => wA_n hne _ _⟩
  rw [cI_s (isA_c hb), cpy_in _ _ hi]
/-- one reference put -/
theorem C_putR (hS : Sh s) (ht : TS s t) (t92 : t = 65 ∨ 116 ≤ t) {w k i : Nat} (h1 : 1 ≤ w) (h2 : w ≤ 3) (hb : isR k 3 (s.2.2 (t + w))) (hi : i < 3) {v : Option Nat} (hv : okR s k v = true) : ∃ s', sR s (some (t + w)) (nI i) v = some s' ∧ BF t s s' ∧ cR s' (t + w) i = v ∧ (∀ j, j ≠ i → cR s' (t + w) j = cR s (t + w) j) ∧ ∀ a, a ≠ t + w → s'.2.2 a = s.2.2 a := by
  have c := isR_c hb
  refine ⟨wR s (t + w) (va_up (cR s (t + w)) i v), ?_, BF_R hS ht h1 h2 (by omega) _, ?_, fun j hj => ?_, fun a hne => wR_n hne _ _⟩
  · rw [sR_of c, if_pos ⟨ixT hi (by decide), hv⟩, nIc (by omega)]
  · rw [cR_s c, vup_s]
  · rw [cR_s c, vup_n _ _ hj]
theorem BF.src (h : BF t st s) (hu : TS st u) (hne : t ≠ u) : ∀ i, i < 9 → s.2.2 (u + i) = st.2.2 (u + i) := fun i hi => h.2.2.2.2.2 _ fun j hj => hu.apart h.2.2.2.1 (Ne.symm hne) i j hi hj
theorem C_become (hS : Sh st) (ht : TS st t) (hu : TS st u) (hne : t ≠ u) (t92 : t = 65 ∨ 116 ≤ t) (hT : TolR st u G) (hI : GhI G) (hn : 3000 ≤ n) : ∃ st', F_X9_become n st (some t) (some u) = some st' ∧ BF t st st' ∧ TolR st' t G := by
  have hT0 := hT
  obtain ⟨h1, h2, h3, h4, h5, h6, h7, h8, h9, h10, h11⟩ := hT
  have hl : ∃ s, F_X9_become_L2 n n st (some t) (some u) (nI 0) = some s ∧ BF t st s ∧ ∀ k, k < 3 → cR s (t + 1) k = cR st (u + 1) k ∧ cR s (t + 2) k = cR st (u + 2) k ∧ cR s (t + 3) k = cR st (u + 3) k := by
    refine loop_ex (fun m (s : xS × Int32) => F_X9_become_L2 n m s.1 (some t) (some u) s.2) (fun i s => BF t st s.1 ∧ (∀ k, k < i → cR s.1 (t + 1) k = cR st (u + 1) k ∧ cR s.1 (t + 2) k = cR st (u + 2) k ∧ cR s.1 (t + 3) k = cR st (u + 3) k) ∧ s.2 = nI i) 3 (fun r => ∃ s, r = some s ∧ BF t st s ∧ ∀ k, k < 3 → cR s (t + 1) k = cR st (u + 1) k ∧ cR s (t + 2) k = cR st (u + 2) k ∧ cR s (t + 3) k = cR st (u + 3) k) ?_ ?_ n (by omega) (st, nI 0) ⟨BF.refl hS ht, fun k hk => absurd hk (Nat.not_lt_zero k), rfl⟩
    · rintro m i ⟨s, z⟩ hi ⟨q1, q2, q3⟩
      dsimp only at q1 q2 q3 ⊢
      subst q3
      have S := q1.2.2.1
      have T := q1.2.2.2.2.1
      have U := hu.bf q1
      have su := q1.src hu hne
      have rd : ∀ s', BF t st s' → ∀ w k, w < 9 → 4 ≤ k → k < 9 → isR k 3 (s'.2.2 (u + w)) → aR s' (some (u + w)) (nI i) = some (cR st (u + w) i) := fun s' b w k hw k1 k2 hk => by
        rw [aR_of (isR_c hk) k1 k2, if_pos (ixT hi (by decide)), nIc (by omega), cR_c (b.src hu hne w hw)]
      have ok1 : ∀ s', BF t st s' → okR s' 4 (cR st (u + 1) i) = true := fun s' b => by
        by_cases c : i < G.cn 0
        · obtain ⟨a, e1, e2⟩ := (h1 i hi).1 c
          obtain ⟨r, q, f, h, l1, -⟩ := e2.bf b
          rw [e1]
          exact okR_o (by decide) (by decide) l1 rfl
        · rw [(h1 i hi).2 c]; exact okR_n (by decide) (by decide)
      have ok2 : ∀ s', BF t st s' → okR s' 5 (cR st (u + 2) i) = true := fun s' b => by
        by_cases c : i < G.cn 1
        · obtain ⟨a, e1, e2⟩ := (h2 i hi).1 c
          obtain ⟨r, f, l1, -⟩ := e2.bf b
          rw [e1]
          exact okR_o (by decide) (by decide) l1 rfl
        · rw [(h2 i hi).2 c]; exact okR_n (by decide) (by decide)
      have ok3 : ∀ s', BF t st s' → okR s' 6 (cR st (u + 3) i) = true := fun s' b => by
        by_cases c : i < G.cn 2
        · obtain ⟨a, e1, e2⟩ := (h3 i hi).1 c
          obtain ⟨r, f, x1, x2, x3, x4, l1, -⟩ := e2.bf b
          rw [e1]
          exact okR_o (by decide) (by decide) l1 rfl
        · rw [(h3 i hi).2 c]; exact okR_n (by decide) (by decide)
      obtain ⟨a1, e1, b1, v1, w1, o1⟩ := C_putR S T t92 (w := 1) (by decide) (by decide) T.2.1 hi (ok1 s q1)
      have B1 := q1.trans b1
      have U1 := hu.bf B1
      obtain ⟨a2, e2, b2, v2, w2, o2⟩ := C_putR b1.2.2.1 b1.2.2.2.2.1 t92 (w := 2) (by decide) (by decide) b1.2.2.2.2.1.2.2.1 hi (ok2 a1 B1)
      have B2 := B1.trans b2
      have U2 := hu.bf B2
      obtain ⟨a3, e3, b3, v3, w3, o3⟩ := C_putR b2.2.2.1 b2.2.2.2.2.1 t92 (w := 3) (by decide) (by decide) b2.2.2.2.2.1.2.2.2.1 hi (ok3 a2 B2)
      have B3 := B2.trans b3
      refine ⟨(a3, nI (i + 1)), ⟨B3, fun k hk => ?_, rfl⟩, ?_⟩
      · dsimp only
        rw [cR_c (o3 (t + 1) (by omega)), cR_c (o2 (t + 1) (by omega)), cR_c (o3 (t + 2) (by omega))]
        by_cases hki : k = i
        · subst hki
          exact ⟨v1, v2, v3⟩
        · rw [w1 k hki, w2 k hki, w3 k hki, cR_c (o1 (t + 2) (by omega)), cR_c (o2 (t + 3) (by omega)), cR_c (o1 (t + 3) (by omega))]
          exact q2 k (by omega)
      · dsimp only
        rw [F_X9_become_L2]
        dsimp only
        simp (disch := omega) only [l3, ↓Option.bind_some, ↓reduceIte, nLe_f, ↓bnd (T.g (k := 0) (by decide)), ↓bnd (U.g (k := 0) (by decide)), ↓bnd (rd s q1 1 4 (by decide) (by decide) (by decide) U.2.1), ↓bnd (e1), ↓bnd (b1.2.2.2.2.1.g (k := 1) (by decide)), ↓bnd (U1.g (k := 1) (by decide)), ↓bnd (rd a1 B1 2 5 (by decide) (by decide) (by decide) U1.2.2.1), ↓bnd (e2), ↓bnd (b2.2.2.2.2.1.g (k := 2) (by decide)), ↓bnd (U2.g (k := 2) (by decide)), ↓bnd (rd a2 B2 3 6 (by decide) (by decide) (by decide) U2.2.2.2.1), ↓bnd (e3), nI_1]
    · rintro m ⟨s, z⟩ ⟨q1, q2, q3⟩
      dsimp only at q1 q2 q3 ⊢
      subst q3
      refine ⟨s, ?_, q1, q2⟩
      rw [F_X9_become_L2]
      dsimp only
      simp (disch := omega) only [l3, ↓reduceIte, nLe_t]
  obtain ⟨s0, e0, B0, v0⟩ := hl
  have e0 : F_X9_become_L2 n n st (some t) (some u) (0 : Int32) = some s0 := e0
  have U0 := hu.bf B0
  have T0 := B0.2.2.2.2.1
  obtain ⟨s4, e4, b4, v4, o4⟩ := C_cpA B0.2.2.1 T0 U0 hne (w := 4) (by decide) (by decide) U0.2.2.2.2.1 T0.2.2.2.2.1 (by decide) (fun _ _ => rfl)
  have B4 := B0.trans b4
  have U4 := hu.bf B4
  have T4 := b4.2.2.2.2.1
  obtain ⟨s5, e5, b5, v5, o5⟩ := C_cpA b4.2.2.1 T4 U4 hne (w := 5) (by decide) (by decide) U4.2.2.2.2.2.1 T4.2.2.2.2.2.1 (by decide) (fun _ _ => rfl)
  have B5 := B4.trans b5
  have U5 := hu.bf B5
  have T5 := b5.2.2.2.2.1
  obtain ⟨s6, e6, b6, v6, o6⟩ := C_cpA b5.2.2.1 T5 U5 hne (w := 6) (by decide) (by decide) U5.2.2.2.2.2.2.1 T5.2.2.2.2.2.2.1 (by decide) (fun _ _ => rfl)
  have B6 := B5.trans b6
  have U6 := hu.bf B6
  have T6 := b6.2.2.2.2.1
  obtain ⟨s7, e7, b7, v7, o7⟩ := C_cpA b6.2.2.1 T6 U6 hne (w := 7) (by decide) (by decide) U6.2.2.2.2.2.2.2.1 T6.2.2.2.2.2.2.2.1 (by decide) (fun _ _ => rfl)
  have B7 := B6.trans b7
  have U7 := hu.bf B7
  have T7 := b7.2.2.2.2.1
  obtain ⟨s8, e8, b8, v8, o8⟩ := C_cpA b7.2.2.1 T7 U7 hne (w := 8) (by decide) (by decide) U7.2.2.2.2.2.2.2.2 T7.2.2.2.2.2.2.2.2 (by decide) (fun i hi => by
    rw [cI_c (B7.src hu hne 8 (by decide))]
    exact (h8 i hi).2)
  have B8 := B7.trans b8
  have U8 := hu.bf B8
  have T8 := b8.2.2.2.2.1
  have f8 := BF_V b8.2.2.1 T8 t92 (k := 8) (Or.inl rfl) (fI s8 u 8)
  have B9 := B8.trans f8
  have U9 := hu.bf B9
  have T9 := f8.2.2.2.2.1
  have f9 := BF_V f8.2.2.1 T9 t92 (k := 9) (Or.inr (Or.inl rfl)) (fI (uV s8 t 8 (.int (fI s8 u 8))) u 9)
  have B10 := B9.trans f9
  have U10 := hu.bf B10
  have T10 := f9.2.2.2.2.1
  have f10 := BF_V f9.2.2.1 T10 t92 (k := 10) (Or.inr (Or.inr rfl)) (fI (uV (uV s8 t 8 (.int (fI s8 u 8))) t 9 (.int (fI (uV s8 t 8 (.int (fI s8 u 8))) u 9))) u 10)
  have B11 := B10.trans f10
  have pfV : ∀ (s : xS) (k : Nat), TS s t → (k = 8 ∨ k = 9 ∨ k = 10) → ∀ v : Int32, pF s (some t) 9 k (.int v) = some (uV s t k (.int v)) := fun s k hs hk v => by
    obtain ⟨⟨x, y, z, e1⟩, -⟩ := hs
    exact pF_of e1 (by show k < 11; omega)
  have fself : ∀ (s : xS) (k : Nat), TS s t → (k = 8 ∨ k = 9 ∨ k = 10) → ∀ v : Int32, fI (uV s t k (.int v)) t k = v := fun s k hs hk v => by
    obtain ⟨⟨x, y, z, e1⟩, -⟩ := hs
    unfold fI
    rw [fV_s e1 k (by show k < 11; omega)]
    rfl
  have p8 := pfV s8 8 T8 (Or.inl rfl) (fI s8 u 8)
  have p9 := pfV _ 9 T9 (Or.inr (Or.inl rfl)) (fI (uV s8 t 8 (.int (fI s8 u 8))) u 9)
  have p10 := pfV _ 10 T10 (Or.inr (Or.inr rfl)) (fI (uV (uV s8 t 8 (.int (fI s8 u 8))) t 9 (.int (fI (uV s8 t 8 (.int (fI s8 u 8))) u 9))) u 10)
  have g8 := U8.v (k := 8) (Or.inl rfl)
  have g9 := U9.v (k := 9) (Or.inr (Or.inl rfl))
  have g10 := U10.v (k := 10) (Or.inr (Or.inr rfl))
  have x8 : fI s8 u 8 = fI st u 8 := fI_c (B8.src hu hne 0 (by decide)) 8
  have x9 : fI (uV s8 t 8 (.int (fI s8 u 8))) u 9 = fI st u 9 := fI_c (B9.src hu hne 0 (by decide)) 9
  have x10 : fI (uV (uV s8 t 8 (.int (fI s8 u 8))) t 9 (.int (fI (uV s8 t 8 (.int (fI s8 u 8))) u 9))) u 10 = fI st u 10 := fI_c (B10.src hu hne 0 (by decide)) 10
  have y10 := fself _ 10 T10 (Or.inr (Or.inr rfl)) (fI (uV (uV s8 t 8 (.int (fI s8 u 8))) t 9 (.int (fI (uV s8 t 8 (.int (fI s8 u 8))) u 9))) u 10)
  have y9 := fself _ 9 T9 (Or.inr (Or.inl rfl)) (fI (uV s8 t 8 (.int (fI s8 u 8))) u 9)
  have y8 := fself _ 8 T8 (Or.inl rfl) (fI s8 u 8)
  have nn : ∀ s : xS, TS s t → aN s (some (t + 4)) = some (nI 4) ∧ aN s (some (t + 5)) = some (nI 800) ∧ aN s (some (t + 6)) = some (nI 16) ∧ aN s (some (t + 7)) = some (nI 16) ∧ aN s (some (t + 8)) = some (nI 500) := fun s hs => ⟨aN_of (isA_c hs.2.2.2.2.1) (by decide), aN_of (isA_c hs.2.2.2.2.2.1) (by decide), aN_of (isA_c hs.2.2.2.2.2.2.1) (by decide), aN_of (isA_c hs.2.2.2.2.2.2.2.1) (by decide), aN_of (isA_c hs.2.2.2.2.2.2.2.2) (by decide)⟩
  have hne2 : ∀ a, a ≠ t → ∀ (s : xS) (k : Nat) (v : Value), (uV s t k v).2.2 a = s.2.2 a := fun a ha s k v => uV_n ha s k v
  refine ⟨_, ?_, B11, ?_⟩
  · unfold F_X9_become
    simp only [↓bnd (e0), ↓bnd (U0.g (k := 3) (by decide)), ↓bnd (T0.g (k := 3) (by decide)), ↓bnd ((nn s0 T0).1), ↓bnd (e4), ↓bnd (U4.g (k := 4) (by decide)), ↓bnd (T4.g (k := 4) (by decide)), ↓bnd ((nn s4 T4).2.1), ↓bnd (e5), ↓bnd (U5.g (k := 5) (by decide)), ↓bnd (T5.g (k := 5) (by decide)), ↓bnd ((nn s5 T5).2.2.1), ↓bnd (e6), ↓bnd (U6.g (k := 6) (by decide)), ↓bnd (T6.g (k := 6) (by decide)), ↓bnd ((nn s6 T6).2.2.2.1), ↓bnd (e7), ↓bnd (U7.g (k := 7) (by decide)), ↓bnd (T7.g (k := 7) (by decide)), ↓bnd ((nn s7 T7).2.2.2.2), ↓bnd (e8), ↓bnd (g8), ↓bnd (p8), ↓bnd (g9), ↓bnd (p9), ↓bnd (g10), ↓bnd (p10)]
  · rw [x10] at B11 y10 ⊢
    rw [x9] at B11 y9 y10 ⊢
    rw [x8] at B11 y8 y9 y10 ⊢
    generalize hs9 : uV s8 t 8 (.int (fI st u 8)) = s9 at *
    generalize hs10 : uV s9 t 9 (.int (fI st u 9)) = s10 at *
    generalize hs11 : uV s10 t 10 (.int (fI st u 10)) = s11 at *
    have c89 : ∀ a, a ≠ t → s11.2.2 a = s8.2.2 a := fun a ha => by rw [← hs11, hne2 a ha, ← hs10, hne2 a ha, ← hs9, hne2 a ha]
    refine ⟨fun k hk => ?_, fun k hk => ?_, fun k hk => ?_, fun w hw => ?_, fun k w hk hw => ?_, fun i hi => ?_, fun i hi => ?_, fun i hi => ?_, ?_, ?_, ?_⟩
    · rw [cR_c (c89 (t + 1) (by omega)), cR_c (o8 (t + 1) (by omega)), cR_c (o7 (t + 1) (by omega)), cR_c (o6 (t + 1) (by omega)), cR_c (o5 (t + 1) (by omega)), cR_c (o4 (t + 1) (by omega)), (v0 k hk).1]
      refine ⟨fun q => ?_, (h1 k hk).2⟩
      obtain ⟨a, e1, e2⟩ := (h1 k hk).1 q
      exact ⟨a, e1, e2.bf B11⟩
    · rw [cR_c (c89 (t + 2) (by omega)), cR_c (o8 (t + 2) (by omega)), cR_c (o7 (t + 2) (by omega)), cR_c (o6 (t + 2) (by omega)), cR_c (o5 (t + 2) (by omega)), cR_c (o4 (t + 2) (by omega)), (v0 k hk).2.1]
      refine ⟨fun q => ?_, (h2 k hk).2⟩
      obtain ⟨a, e1, e2⟩ := (h2 k hk).1 q
      exact ⟨a, e1, e2.bf B11⟩
    · rw [cR_c (c89 (t + 3) (by omega)), cR_c (o8 (t + 3) (by omega)), cR_c (o7 (t + 3) (by omega)), cR_c (o6 (t + 3) (by omega)), cR_c (o5 (t + 3) (by omega)), cR_c (o4 (t + 3) (by omega)), (v0 k hk).2.2]
      refine ⟨fun q => ?_, (h3 k hk).2⟩
      obtain ⟨a, e1, e2⟩ := (h3 k hk).1 q
      exact ⟨a, e1, e2.bf B11⟩
    · rw [cI_c (c89 (t + 4) (by omega)), cI_c (o8 (t + 4) (by omega)), cI_c (o7 (t + 4) (by omega)), cI_c (o6 (t + 4) (by omega)), cI_c (o5 (t + 4) (by omega)), v4 w hw, cI_c (B0.src hu hne 4 (by decide))]
      exact h4 w hw
    · rw [cI_c (c89 (t + 5) (by omega)), cI_c (o8 (t + 5) (by omega)), cI_c (o7 (t + 5) (by omega)), cI_c (o6 (t + 5) (by omega)), v5 _ (by have := hI.n3; omega), cI_c (B4.src hu hne 5 (by decide))]
      exact h5 k w hk hw
    · rw [cI_c (c89 (t + 6) (by omega)), cI_c (o8 (t + 6) (by omega)), cI_c (o7 (t + 6) (by omega)), v6 i hi, cI_c (B5.src hu hne 6 (by decide))]
      exact h6 i hi
    · rw [cI_c (c89 (t + 7) (by omega)), cI_c (o8 (t + 7) (by omega)), v7 i hi, cI_c (B6.src hu hne 7 (by decide))]
      exact h7 i hi
    · rw [cI_c (c89 (t + 8) (by omega)), v8 i hi, cI_c (B7.src hu hne 8 (by decide))]
      exact h8 i hi
    · rw [← hs11, fI_oth (by decide), ← hs10, fI_oth (by decide), ← hs9, hs9, y8]
      exact h9
    · rw [← hs11, fI_oth (by decide), y9]
      exact h10
    · rw [y10]
      exact h11
end IM

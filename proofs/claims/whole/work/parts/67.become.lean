/-! ONE TOLD BECOMES ANOTHER -/
def TS (st : xS) (t : Nat) : Prop := (∃ x y z : Int32, st.2.2 t = .inr (9, [.ref (t + 1), .ref (t + 2), .ref (t + 3), .ref (t + 4), .ref (t + 5), .ref (t + 6), .ref (t + 7), .ref (t + 8), .int x, .int y, .int z])) ∧ isR 4 3 (st.2.2 (t + 1)) ∧ isR 5 3 (st.2.2 (t + 2)) ∧ isR 6 3 (st.2.2 (t + 3)) ∧
  isA 0 4 (st.2.2 (t + 4)) ∧ isA 0 800 (st.2.2 (t + 5)) ∧ isA 0 16 (st.2.2 (t + 6)) ∧ isA 0 16 (st.2.2 (t + 7)) ∧ isA 2 500 (st.2.2 (t + 8))
section TS
variable {st st1 st2 s s1 : xS} {n t u : Nat} {G G1 : Gh} {I I1 : Im}
theorem TolS.ts (h : TolS st t) : TS st t := ⟨h.1, h.2.1, h.2.2.1, h.2.2.2.1, h.2.2.2.2.1, h.2.2.2.2.2.1, h.2.2.2.2.2.2.1, h.2.2.2.2.2.2.2.1, h.2.2.2.2.2.2.2.2.1⟩
theorem TS_65 (hS : Sh st) : TS st 65 := by
  refine ⟨?_, hS.2 2 _ rfl, hS.2 3 _ rfl, hS.2 4 _ rfl, hS.2 5 _ rfl, hS.2 6 _ rfl, hS.2 7 _ rfl, hS.2 8 _ rfl, hS.2 9 _ rfl⟩
  obtain ⟨fs, e, l, h⟩ := hS.2 1 _ rfl
  have e : st.2.2 65 = .inr (9, fs) := e
  have l : fs.length = 11 := l
  match fs, l with
  | [v0, v1, v2, v3, v4, v5, v6, v7, v8, v9, v10], _ =>
    obtain ⟨_, a0, b0⟩ := h 0 _ rfl
    obtain ⟨_, a1, b1⟩ := h 1 _ rfl
    obtain ⟨_, a2, b2⟩ := h 2 _ rfl
    obtain ⟨_, a3, b3⟩ := h 3 _ rfl
    obtain ⟨_, a4, b4⟩ := h 4 _ rfl
    obtain ⟨_, a5, b5⟩ := h 5 _ rfl
    obtain ⟨_, a6, b6⟩ := h 6 _ rfl
    obtain ⟨_, a7, b7⟩ := h 7 _ rfl
    obtain ⟨_, a8, b8⟩ := h 8 _ rfl
    obtain ⟨_, a9, b9⟩ := h 9 _ rfl
    obtain ⟨_, a10, b10⟩ := h 10 _ rfl
    cases a0; cases a1; cases a2; cases a3; cases a4; cases a5; cases a6; cases a7; cases a8; cases a9; cases a10
    obtain ⟨x, rfl⟩ := b8
    obtain ⟨y, rfl⟩ := b9
    obtain ⟨z, rfl⟩ := b10
    have b0 : v0 = .ref 66 := b0
    have b1 : v1 = .ref 67 := b1
    have b2 : v2 = .ref 68 := b2
    have b3 : v3 = .ref 69 := b3
    have b4 : v4 = .ref 70 := b4
    have b5 : v5 = .ref 71 := b5
    have b6 : v6 = .ref 72 := b6
    have b7 : v7 = .ref 73 := b7
    subst b0; subst b1; subst b2; subst b3; subst b4; subst b5; subst b6; subst b7
    exact ⟨x, y, z, e⟩
theorem TS.no {i : Nat} (h : TS st t) (h1 : 1 ≤ i) (h2 : i ≤ 8) (c : Nat) (fs : List Value) : st.2.2 (t + i) ≠ .inr (c, fs) := by
  obtain ⟨-, ⟨f2, e2⟩, ⟨f3, e3⟩, ⟨f4, e4⟩, ⟨f5, e5⟩, ⟨f6, e6⟩, ⟨f7, e7⟩, ⟨f8, e8⟩, ⟨f9, e9⟩⟩ := h
  rcases (show i = 1 ∨ i = 2 ∨ i = 3 ∨ i = 4 ∨ i = 5 ∨ i = 6 ∨ i = 7 ∨ i = 8 by omega) with rfl | rfl | rfl | rfl | rfl | rfl | rfl | rfl
  · rw [e2]; intro h; cases h
  · rw [e3]; intro h; cases h
  · rw [e4]; intro h; cases h
  · rw [e5]; intro h; cases h
  · rw [e6]; intro h; cases h
  · rw [e7]; intro h; cases h
  · rw [e8]; intro h; cases h
  · rw [e9]; intro h; cases h
theorem TS.apart (h : TS st t) (k : TS st u) (hne : t ≠ u) : ∀ i j, i < 9 → j < 9 → t + i ≠ u + j := by
  intro i j hi hj e
  rcases Nat.lt_trichotomy i j with c | c | c
  · obtain ⟨x, y, z, e1⟩ := h.1
    rw [show t = u + (j - i) by omega] at e1
    exact k.no (i := j - i) (by omega) (by omega) _ _ e1
  · omega
  · obtain ⟨x, y, z, e1⟩ := k.1
    rw [show u = t + (i - j) by omega] at e1
    exact h.no (i := i - j) (by omega) (by omega) _ _ e1
/-- only the cells of one told change, and not their shape -/
def BF (t : Nat) (st st' : xS) : Prop := st'.1 = st.1 ∧ st'.2.1 = st.2.1 ∧ Sh st' ∧ TS st t ∧ TS st' t ∧ ∀ a, (∀ i, i < 9 → a ≠ t + i) → st'.2.2 a = st.2.2 a
theorem BF.refl (hS : Sh st) (h : TS st t) : BF t st st := ⟨rfl, rfl, hS, h, h, fun _ _ => rfl⟩
theorem BF.trans (h : BF t st st1) (k : BF t st1 st2) : BF t st st2 := ⟨k.1.trans h.1, k.2.1.trans h.2.1, k.2.2.1, h.2.2.2.1, k.2.2.2.2.1, fun a ha => (k.2.2.2.2.2 a ha).trans (h.2.2.2.2.2 a ha)⟩
theorem BF.cell {a : Nat} (h : BF t st st1) (ha : ∀ i, i < 9 → st.2.2 a ≠ st.2.2 (t + i)) : st1.2.2 a = st.2.2 a := h.2.2.2.2.2 a fun i hi e => ha i hi (by rw [e])
theorem TS.sh (h : TS st t) {i : Nat} (hi : i < 9) : (∃ fs, st.2.2 (t + i) = .inr (9, fs)) ∨ (∃ k m f, st.2.2 (t + i) = .inl (k, m, .inr (.inr (.inr (.inr f))))) ∨ ∃ k m f, st.2.2 (t + i) = .inl (k, m, .inl f) ∧ (m = 4 ∨ m = 800 ∨ m = 16 ∨ m = 500) := by
  obtain ⟨⟨x, y, z, e1⟩, ⟨f2, e2⟩, ⟨f3, e3⟩, ⟨f4, e4⟩, ⟨f5, e5⟩, ⟨f6, e6⟩, ⟨f7, e7⟩, ⟨f8, e8⟩, ⟨f9, e9⟩⟩ := h
  rcases (show i = 0 ∨ i = 1 ∨ i = 2 ∨ i = 3 ∨ i = 4 ∨ i = 5 ∨ i = 6 ∨ i = 7 ∨ i = 8 by omega) with rfl | rfl | rfl | rfl | rfl | rfl | rfl | rfl | rfl
  · exact Or.inl ⟨_, e1⟩
  · exact Or.inr (Or.inl ⟨_, _, _, e2⟩)
  · exact Or.inr (Or.inl ⟨_, _, _, e3⟩)
  · exact Or.inr (Or.inl ⟨_, _, _, e4⟩)
  · exact Or.inr (Or.inr ⟨_, _, _, e5, Or.inl rfl⟩)
  · exact Or.inr (Or.inr ⟨_, _, _, e6, Or.inr (Or.inl rfl)⟩)
  · exact Or.inr (Or.inr ⟨_, _, _, e7, Or.inr (Or.inr (Or.inl rfl))⟩)
  · exact Or.inr (Or.inr ⟨_, _, _, e8, Or.inr (Or.inr (Or.inl rfl))⟩)
  · exact Or.inr (Or.inr ⟨_, _, _, e9, Or.inr (Or.inr (Or.inr rfl))⟩)
theorem BF.obj {a c : Nat} {fs : List Value} (h : BF t st st1) (e : st.2.2 a = .inr (c, fs)) (hc : c ≠ 9) : st1.2.2 a = .inr (c, fs) := by
  rw [← e]
  refine h.cell fun i hi q => ?_
  rw [e] at q
  rcases h.2.2.2.1.sh hi with ⟨gs, k⟩ | ⟨k1, m, f, k⟩ | ⟨k1, m, f, k, -⟩
  · rw [k] at q; injection q with q; injection q with q q'; exact hc q
  · rw [k] at q; cases q
  · rw [k] at q; cases q
theorem BF.arr {a k0 m0 : Nat} {g : Nat → Int32} (h : BF t st st1) (e : st.2.2 a = .inl (k0, m0, .inl g)) (hc : ¬ (m0 = 4 ∨ m0 = 800 ∨ m0 = 16 ∨ m0 = 500)) : st1.2.2 a = .inl (k0, m0, .inl g) := by
  rw [← e]
  refine h.cell fun i hi q => ?_
  rw [e] at q
  rcases h.2.2.2.1.sh hi with ⟨gs, k⟩ | ⟨k1, m, f, k⟩ | ⟨k1, m, f, k, hm⟩
  · rw [k] at q; cases q
  · rw [k] at q; injection q with q; injection q with q q'; injection q' with q' q''; cases q''
  · rw [k] at q; injection q with q; injection q with q q'; injection q' with q' q''; exact hc (by rw [q']; exact hm)
theorem BF.dn (h : BF t st st1) {a : Nat} (k : dyn st a) : dyn st1 a := by unfold dyn at *; rw [h.1]; exact k
theorem LgR.bf {a : Nat} {D : LgD} (hL : LgR st a D) (k : BF t st st1) : LgR st1 a D := by
  obtain ⟨r, q, f, g, h1, h2, h3, h4, h5, h6, h7, h8⟩ := hL
  exact ⟨r, q, f, g, k.obj h1 (by decide), k.arr h2 (by decide), k.arr h3 (by decide), h4, h5, k.dn h6, k.dn h7, k.dn h8⟩
theorem LwR.bf {a : Nat} {D : LwD} (hL : LwR st a D) (k : BF t st st1) : LwR st1 a D := by
  obtain ⟨r, f, h1, h2, h3, h4, h5⟩ := hL
  exact ⟨r, f, k.obj h1 (by decide), k.arr h2 (by decide), h3, k.dn h4, k.dn h5⟩
theorem PlR.bf {a : Nat} {D : PlD} (hL : PlR st a D) (k : BF t st st1) : PlR st1 a D := by
  obtain ⟨r, f, x1, x2, x3, x4, h1, h2, h3, h4, h5, h6⟩ := hL
  exact ⟨r, f, x1, x2, x3, x4, k.obj h1 (by decide), k.arr h2 (by decide), h3, h4, k.dn h5, k.dn h6⟩
/-- what is told elsewhere stays -/
theorem TolR.bf (hT : TolR st u G) (k : BF t st st1) (hu : TS st u) (hne : u ≠ t) : TolR st1 u G := by
  have ap := hu.apart k.2.2.2.1 hne
  have e : ∀ i, i < 9 → st1.2.2 (u + i) = st.2.2 (u + i) := fun i hi => k.2.2.2.2.2 _ fun j hj => ap i j hi hj
  obtain ⟨h1, h2, h3, h4, h5, h6, h7, h8, h9, h10, h11⟩ := hT
  have e0 : st1.2.2 u = st.2.2 u := e 0 (by omega)
  refine ⟨fun k' hk => ?_, fun k' hk => ?_, fun k' hk => ?_, ?_, ?_, ?_, ?_, ?_, ?_, ?_, ?_⟩
  · rw [cR_c (e 1 (by omega))]
    refine ⟨fun q => ?_, (h1 k' hk).2⟩
    obtain ⟨a, e1, e2⟩ := (h1 k' hk).1 q
    exact ⟨a, e1, e2.bf k⟩
  · rw [cR_c (e 2 (by omega))]
    refine ⟨fun q => ?_, (h2 k' hk).2⟩
    obtain ⟨a, e1, e2⟩ := (h2 k' hk).1 q
    exact ⟨a, e1, e2.bf k⟩
  · rw [cR_c (e 3 (by omega))]
    refine ⟨fun q => ?_, (h3 k' hk).2⟩
    obtain ⟨a, e1, e2⟩ := (h3 k' hk).1 q
    exact ⟨a, e1, e2.bf k⟩
  · rw [cI_c (e 4 (by omega))]; exact h4
  · rw [cI_c (e 5 (by omega))]; exact h5
  · rw [cI_c (e 6 (by omega))]; exact h6
  · rw [cI_c (e 7 (by omega))]; exact h7
  · rw [cI_c (e 8 (by omega))]; exact h8
  · rw [fI_c e0]; exact h9
  · rw [fI_c e0]; exact h10
  · rw [fI_c e0]; exact h11
theorem TS.bf (hu : TS st u) (k : BF t st st1) : TS st1 u := by
  by_cases hne : u = t
  · rw [hne]; exact k.2.2.2.2.1
  · have ap := hu.apart k.2.2.2.1 hne
    have e : ∀ i, i < 9 → st1.2.2 (u + i) = st.2.2 (u + i) := fun i hi => k.2.2.2.2.2 _ fun j hj => ap i j hi hj
    unfold TS
    rw [show st1.2.2 u = st.2.2 u from e 0 (by omega), e 1 (by omega), e 2 (by omega), e 3 (by omega), e 4 (by omega), e 5 (by omega), e 6 (by omega), e 7 (by omega), e 8 (by omega)]
    exact hu
theorem TolS.bf (hu : TolS st u) (k : BF t st st1) : TolS st1 u := by
  have h := hu.ts.bf k
  exact ⟨h.1, h.2.1, h.2.2.1, h.2.2.2.1, h.2.2.2.2.1, h.2.2.2.2.2.1, h.2.2.2.2.2.2.1, h.2.2.2.2.2.2.2.1, h.2.2.2.2.2.2.2.2, hu.2.2.2.2.2.2.2.2.2.1, by rw [k.1]; exact hu.2.2.2.2.2.2.2.2.2.2⟩
/-- the steps -/
theorem BF_A (hS : Sh st) (h : TS st t) {i : Nat} (h1 : 4 ≤ i) (h2 : i ≤ 8) (f : Nat → Int32) : BF t st (wA st (t + i) f) := by
  have o : ∀ a, a ≠ t + i → (wA st (t + i) f).2.2 a = st.2.2 a := fun a ha => wA_n ha _ _
  refine ⟨(wA_1 _ _ _).1, (wA_1 _ _ _).2, shw_A hS _ _, h, ?_, fun a ha => o a (ha i (by omega))⟩
  obtain ⟨⟨x, y, z, e1⟩, e2, e3, e4, ⟨f5, e5⟩, ⟨f6, e6⟩, ⟨f7, e7⟩, ⟨f8, e8⟩, ⟨f9, e9⟩⟩ := h
  have sel : ∀ j k m, (∃ g, st.2.2 (t + j) = .inl (k, m, .inl g)) → isA k m ((wA st (t + i) f).2.2 (t + j)) := by
    rintro j k m ⟨g, e⟩
    by_cases hj : j = i
    · subst hj
      rcases wA_at st (t + j) f with ⟨k', m', g', q1, q2⟩ | ⟨q1, q2⟩
      · rw [e] at q1
        injection q1 with q1
        injection q1 with q1 q3
        injection q3 with q3 q4
        rw [q2, xup_s, q1, q3]
        exact ⟨f, rfl⟩
      · exact absurd e (q1 _ _ _)
    · rw [o _ (by omega)]
      exact ⟨g, e⟩
  refine ⟨⟨x, y, z, by rw [o t (by omega)]; exact e1⟩, by rw [o _ (by omega)]; exact e2, by rw [o _ (by omega)]; exact e3, by rw [o _ (by omega)]; exact e4, sel 4 _ _ ⟨_, e5⟩, sel 5 _ _ ⟨_, e6⟩, sel 6 _ _ ⟨_, e7⟩, sel 7 _ _ ⟨_, e8⟩, sel 8 _ _ ⟨_, e9⟩⟩
theorem BF_R (hS : Sh st) (h : TS st t) {i : Nat} (h1 : 1 ≤ i) (h2 : i ≤ 3) (ht : t + i ≠ 92) (f : Nat → Option Nat) : BF t st (wR st (t + i) f) := by
  have o : ∀ a, a ≠ t + i → (wR st (t + i) f).2.2 a = st.2.2 a := fun a ha => wR_n ha _ _
  refine ⟨(wR_1 _ _ _).1, (wR_1 _ _ _).2, shw_R hS _ _ ht, h, ?_, fun a ha => o a (ha i (by omega))⟩
  obtain ⟨⟨x, y, z, e1⟩, ⟨f2, e2⟩, ⟨f3, e3⟩, ⟨f4, e4⟩, e5, e6, e7, e8, e9⟩ := h
  have sel : ∀ j k, (∃ g, st.2.2 (t + j) = .inl (k, 3, .inr (.inr (.inr (.inr g))))) → isR k 3 ((wR st (t + i) f).2.2 (t + j)) := by
    rintro j k ⟨g, e⟩
    by_cases hj : j = i
    · subst hj
      have : (wR st (t + j) f).2.2 (t + j) = .inl (k, 3, .inr (.inr (.inr (.inr f)))) := by
        unfold wR
        rw [e]
        exact xup_s _ _ _
      rw [this]
      exact ⟨f, rfl⟩
    · rw [o _ (by omega)]
      exact ⟨g, e⟩
  refine ⟨⟨x, y, z, by rw [o t (by omega)]; exact e1⟩, sel 1 _ ⟨_, e2⟩, sel 2 _ ⟨_, e3⟩, sel 3 _ ⟨_, e4⟩, by rw [o _ (by omega)]; exact e5, by rw [o _ (by omega)]; exact e6, by rw [o _ (by omega)]; exact e7, by rw [o _ (by omega)]; exact e8, by rw [o _ (by omega)]; exact e9⟩
theorem BF_V (hS : Sh st) (h : TS st t) (ht : t = 65 ∨ 116 ≤ t) {k : Nat} (hk : k = 8 ∨ k = 9 ∨ k = 10) (v : Int32) : BF t st (uV st t k (.int v)) := by
  have o : ∀ a, a ≠ t → (uV st t k (.int v)).2.2 a = st.2.2 a := fun a ha => uV_n ha _ _ _
  have hs : Sh (uV st t k (.int v)) := by
    rcases ht with rfl | ht
    · rcases hk with rfl | rfl | rfl
      · exact s65_8 hS v
      · exact s65_9 hS v
      · exact s65_10 hS v
    · exact hS.same (Nat.le_of_eq (uV_1 _ _ _ _).1.symm) fun b hb => o b (by omega)
  refine ⟨(uV_1 _ _ _ _).1, (uV_1 _ _ _ _).2, hs, h, ?_, fun a ha => o a (ha 0 (by omega))⟩
  obtain ⟨⟨x, y, z, e1⟩, e2, e3, e4, e5, e6, e7, e8, e9⟩ := h
  refine ⟨?_, by rw [o _ (by omega)]; exact e2, by rw [o _ (by omega)]; exact e3, by rw [o _ (by omega)]; exact e4, by rw [o _ (by omega)]; exact e5, by rw [o _ (by omega)]; exact e6, by rw [o _ (by omega)]; exact e7, by rw [o _ (by omega)]; exact e8, by rw [o _ (by omega)]; exact e9⟩
  have e : (uV st t k (.int v)).2.2 t = .inr (9, [.ref (t + 1), .ref (t + 2), .ref (t + 3), .ref (t + 4), .ref (t + 5), .ref (t + 6), .ref (t + 7), .ref (t + 8), .int x, .int y, .int z].set k (.int v)) := by
    unfold uV
    rw [e1]
    exact xup_s _ _ _
  rw [e]
  rcases hk with rfl | rfl | rfl
  · exact ⟨v, y, z, rfl⟩
  · exact ⟨x, v, z, rfl⟩
  · exact ⟨x, y, v, rfl⟩
theorem TS.g (h : TS st t) {k : Nat} (hk : k < 8) : gR st (some t) 9 k = some (some (t + (k + 1))) := by
  obtain ⟨⟨x, y, z, e1⟩, -⟩ := h
  refine gR_of e1 ?_
  rcases (show k = 0 ∨ k = 1 ∨ k = 2 ∨ k = 3 ∨ k = 4 ∨ k = 5 ∨ k = 6 ∨ k = 7 by omega) with rfl | rfl | rfl | rfl | rfl | rfl | rfl | rfl <;> rfl
theorem TS.v (h : TS st t) {k : Nat} (hk : k = 8 ∨ k = 9 ∨ k = 10) : gI st (some t) 9 k = some (fI st t k) := by
  obtain ⟨⟨x, y, z, e1⟩, -⟩ := h
  have e : fV st t k = ([.ref (t + 1), .ref (t + 2), .ref (t + 3), .ref (t + 4), .ref (t + 5), .ref (t + 6), .ref (t + 7), .ref (t + 8), .int x, .int y, .int z][k]?).getD .null := by unfold fV; rw [e1]
  rcases hk with rfl | rfl | rfl
  · rw [gI_of (x := x) e1 rfl]; unfold fI; rw [e]; rfl
  · rw [gI_of (x := y) e1 rfl]; unfold fI; rw [e]; rfl
  · rw [gI_of (x := z) e1 rfl]; unfold fI; rw [e]; rfl
end TS

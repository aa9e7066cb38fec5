/-! WHAT A TEXT PUTS: the class -/
def setL (G : Gh) (k : Nat) (D : LgD) : Gh := ((fun w => if w = 0 then max (G.cn 0) (k + 1) else G.cn w), G.tl, G.fl, G.pl, G.tp, (fun q => if q = k then D else G.L q), G.W, G.P, G.nt, G.fm, G.fg)
def setW (G : Gh) (k : Nat) (D : LwD) : Gh := ((fun w => if w = 1 then max (G.cn 1) (k + 1) else G.cn w), G.tl, G.fl, G.pl, G.tp, G.L, (fun q => if q = k then D else G.W q), G.P, G.nt, G.fm, G.fg)
def setP (G : Gh) (k : Nat) (D : PlD) : Gh := ((fun w => if w = 2 then max (G.cn 2) (k + 1) else G.cn w), G.tl, G.fl, G.pl, G.tp, G.L, G.W, (fun q => if q = k then D else G.P q), G.nt, G.fm, G.fg)
def setQ (G : Gh) (fl : Nat) (pl : Int32) : Gh := (G.cn, 0, fl, pl, G.tp, G.L, G.W, G.P, G.nt, G.fm, G.fg)
theorem setQ_I {G : Gh} (hI : GhI G) {fl : Nat} {pl : Int32} (h : fl ≤ 3) : GhI (setQ G fl pl) := by
  obtain ⟨h1, h2, h3, h4, h5, h6, h7⟩ := hI
  exact ⟨h1, h2, h3, h4, Nat.zero_le _, h, h7⟩
theorem setL_I {G : Gh} (hI : GhI G) {k : Nat} {D : LgD} (hD : LgI D) (hk : k ≤ G.cn 0) (h3 : k < 3) : GhI (setL G k D) := by
  obtain ⟨h1, h2, h3', h4, h5, h6, h7, h8, h9, h10, h11⟩ := hI
  refine ⟨(show max (G.cn 0) (k + 1) ≤ 3 by omega), h2, h3', h4, h5, h6, h7, fun q hq => ?_, h9, h10, h11⟩
  have hq : q < max (G.cn 0) (k + 1) := hq
  show LgI (if q = k then D else G.L q)
  by_cases c : q = k
  · rw [if_pos c]; exact hD
  · rw [if_neg c]; exact h8 q (by omega)
theorem setW_I {G : Gh} (hI : GhI G) {k : Nat} {D : LwD} (hD : LwI D) (hk : k ≤ G.cn 1) (h3 : k < 3) : GhI (setW G k D) := by
  obtain ⟨h1, h2, h3', h4, h5, h6, h7, h8, h9, h10, h11⟩ := hI
  refine ⟨h1, (show max (G.cn 1) (k + 1) ≤ 3 by omega), h3', h4, h5, h6, h7, h8, fun q hq => ?_, h10, h11⟩
  have hq : q < max (G.cn 1) (k + 1) := hq
  show LwI (if q = k then D else G.W q)
  by_cases c : q = k
  · rw [if_pos c]; exact hD
  · rw [if_neg c]; exact h9 q (by omega)
theorem setP_I {G : Gh} (hI : GhI G) {k : Nat} {D : PlD} (hD : PlI D) (hk : k ≤ G.cn 2) (h3 : k < 3) : GhI (setP G k D) := by
  obtain ⟨h1, h2, h3', h4, h5, h6, h7, h8, h9, h10, h11⟩ := hI
  refine ⟨h1, h2, (show max (G.cn 2) (k + 1) ≤ 3 by omega), h4, h5, h6, h7, h8, h9, fun q hq => ?_, h11⟩
  have hq : q < max (G.cn 2) (k + 1) := hq
  show PlI (if q = k then D else G.P q)
  by_cases c : q = k
  · rw [if_pos c]; exact hD
  · rw [if_neg c]; exact h10 q (by omega)
section PU
variable {st st1 st2 s s1 : xS} {n m0 k : Nat} {G G1 : Gh} {I I1 : Im}
theorem TolR.putL {a : Nat} {D : LgD} (hT : TolR s 65 G) (b : BF 65 s s1) (hk : k ≤ G.cn 0) (h3 : k < 3) (e1 : cR s1 66 k = some a) (e2 : ∀ j, j ≠ k → cR s1 66 j = cR s 66 j) (hL : LgR s1 a D) (h69 : cI s1 69 = upd (cI s 69) 0 (nI (max (G.cn 0) (k + 1)))) (ho : ∀ a, a ≠ 66 → a ≠ 69 → s1.2.2 a = s.2.2 a) : TolR s1 65 (setL G k D) := by
  obtain ⟨h1, h2, h3', h4, h5, h6, h7, h8, h9, h10, h11⟩ := hT
  refine ⟨fun q hq => ?_, fun q hq => ?_, fun q hq => ?_, fun v hv => ?_, ?_, ?_, ?_, ?_, ?_, ?_, ?_⟩
  · show (q < max (G.cn 0) (k + 1) → ∃ a, cR s1 66 q = some a ∧ LgR s1 a (if q = k then D else G.L q)) ∧ (¬ q < max (G.cn 0) (k + 1) → cR s1 66 q = none)
    by_cases c : q = k
    · subst c
      refine ⟨fun _ => ⟨a, e1, by rw [if_pos rfl]; exact hL⟩, fun h => absurd h (by omega)⟩
    · rw [e2 q c, if_neg c]
      refine ⟨fun h => ?_, fun h => (h1 q hq).2 (by omega)⟩
      obtain ⟨a', x1, x2⟩ := (h1 q hq).1 (by omega)
      exact ⟨a', x1, x2.bf b⟩
  · show (q < G.cn 1 → ∃ a, cR s1 67 q = some a ∧ LwR s1 a (G.W q)) ∧ (¬ q < G.cn 1 → cR s1 67 q = none)
    rw [cR_c (ho 67 (by decide) (by decide))]
    refine ⟨fun h => ?_, (h2 q hq).2⟩
    obtain ⟨a', x1, x2⟩ := (h2 q hq).1 h
    exact ⟨a', x1, x2.bf b⟩
  · show (q < G.cn 2 → ∃ a, cR s1 68 q = some a ∧ PlR s1 a (G.P q)) ∧ (¬ q < G.cn 2 → cR s1 68 q = none)
    rw [cR_c (ho 68 (by decide) (by decide))]
    refine ⟨fun h => ?_, (h3' q hq).2⟩
    obtain ⟨a', x1, x2⟩ := (h3' q hq).1 h
    exact ⟨a', x1, x2.bf b⟩
  · show cI s1 69 v = nI (if v = 0 then max (G.cn 0) (k + 1) else G.cn v)
    rw [h69]
    by_cases c : v = 0
    · rw [if_pos c, c, upd_s]
    · rw [if_neg c, pk_un c]; exact h4 v hv
  · rw [cI_c (ho 70 (by decide) (by decide))]; exact h5
  · rw [cI_c (ho 71 (by decide) (by decide))]; exact h6
  · rw [cI_c (ho 72 (by decide) (by decide))]; exact h7
  · rw [cI_c (ho 73 (by decide) (by decide))]; exact h8
  · rw [fI_c (ho 65 (by decide) (by decide)) 8]; exact h9
  · rw [fI_c (ho 65 (by decide) (by decide)) 9]; exact h10
  · rw [fI_c (ho 65 (by decide) (by decide)) 10]; exact h11
theorem TolR.putW {a : Nat} {D : LwD} (hT : TolR s 65 G) (b : BF 65 s s1) (hk : k ≤ G.cn 1) (h3 : k < 3) (e1 : cR s1 67 k = some a) (e2 : ∀ j, j ≠ k → cR s1 67 j = cR s 67 j) (hL : LwR s1 a D) (h69 : cI s1 69 = upd (cI s 69) 1 (nI (max (G.cn 1) (k + 1)))) (ho : ∀ a, a ≠ 67 → a ≠ 69 → s1.2.2 a = s.2.2 a) : TolR s1 65 (setW G k D) := by
  obtain ⟨h1, h2, h3', h4, h5, h6, h7, h8, h9, h10, h11⟩ := hT
  refine ⟨fun q hq => ?_, fun q hq => ?_, fun q hq => ?_, fun v hv => ?_, ?_, ?_, ?_, ?_, ?_, ?_, ?_⟩
  · show (q < G.cn 0 → ∃ a, cR s1 66 q = some a ∧ LgR s1 a (G.L q)) ∧ (¬ q < G.cn 0 → cR s1 66 q = none)
    rw [cR_c (ho 66 (by decide) (by decide))]
    refine ⟨fun h => ?_, (h1 q hq).2⟩
    obtain ⟨a', x1, x2⟩ := (h1 q hq).1 h
    exact ⟨a', x1, x2.bf b⟩
  · show (q < max (G.cn 1) (k + 1) → ∃ a, cR s1 67 q = some a ∧ LwR s1 a (if q = k then D else G.W q)) ∧ (¬ q < max (G.cn 1) (k + 1) → cR s1 67 q = none)
    by_cases c : q = k
    · subst c
      refine ⟨fun _ => ⟨a, e1, by rw [if_pos rfl]; exact hL⟩, fun h => absurd h (by omega)⟩
    · rw [e2 q c, if_neg c]
      refine ⟨fun h => ?_, fun h => (h2 q hq).2 (by omega)⟩
      obtain ⟨a', x1, x2⟩ := (h2 q hq).1 (by omega)
      exact ⟨a', x1, x2.bf b⟩
  · show (q < G.cn 2 → ∃ a, cR s1 68 q = some a ∧ PlR s1 a (G.P q)) ∧ (¬ q < G.cn 2 → cR s1 68 q = none)
    rw [cR_c (ho 68 (by decide) (by decide))]
    refine ⟨fun h => ?_, (h3' q hq).2⟩
    obtain ⟨a', x1, x2⟩ := (h3' q hq).1 h
    exact ⟨a', x1, x2.bf b⟩
  · show cI s1 69 v = nI (if v = 1 then max (G.cn 1) (k + 1) else G.cn v)
    rw [h69]
    by_cases c : v = 1
    · rw [if_pos c, c, upd_s]
    · rw [if_neg c, pk_un c]; exact h4 v hv
  · rw [cI_c (ho 70 (by decide) (by decide))]; exact h5
  · rw [cI_c (ho 71 (by decide) (by decide))]; exact h6
  · rw [cI_c (ho 72 (by decide) (by decide))]; exact h7
  · rw [cI_c (ho 73 (by decide) (by decide))]; exact h8
  · rw [fI_c (ho 65 (by decide) (by decide)) 8]; exact h9
  · rw [fI_c (ho 65 (by decide) (by decide)) 9]; exact h10
  · rw [fI_c (ho 65 (by decide) (by decide)) 10]; exact h11
theorem TolR.putP {a : Nat} {D : PlD} (hT : TolR s 65 G) (b : BF 65 s s1) (hk : k ≤ G.cn 2) (h3 : k < 3) (e1 : cR s1 68 k = some a) (e2 : ∀ j, j ≠ k → cR s1 68 j = cR s 68 j) (hL : PlR s1 a D) (h69 : cI s1 69 = upd (cI s 69) 2 (nI (max (G.cn 2) (k + 1)))) (ho : ∀ a, a ≠ 68 → a ≠ 69 → s1.2.2 a = s.2.2 a) : TolR s1 65 (setP G k D) := by
  obtain ⟨h1, h2, h3', h4, h5, h6, h7, h8, h9, h10, h11⟩ := hT
  refine ⟨fun q hq => ?_, fun q hq => ?_, fun q hq => ?_, fun v hv => ?_, ?_, ?_, ?_, ?_, ?_, ?_, ?_⟩
  · show (q < G.cn 0 → ∃ a, cR s1 66 q = some a ∧ LgR s1 a (G.L q)) ∧ (¬ q < G.cn 0 → cR s1 66 q = none)
    rw [cR_c (ho 66 (by decide) (by decide))]
    refine ⟨fun h => ?_, (h1 q hq).2⟩
    obtain ⟨a', x1, x2⟩ := (h1 q hq).1 h
    exact ⟨a', x1, x2.bf b⟩
  · show (q < G.cn 1 → ∃ a, cR s1 67 q = some a ∧ LwR s1 a (G.W q)) ∧ (¬ q < G.cn 1 → cR s1 67 q = none)
    rw [cR_c (ho 67 (by decide) (by decide))]
    refine ⟨fun h => ?_, (h2 q hq).2⟩
    obtain ⟨a', x1, x2⟩ := (h2 q hq).1 h
    exact ⟨a', x1, x2.bf b⟩
  · show (q < max (G.cn 2) (k + 1) → ∃ a, cR s1 68 q = some a ∧ PlR s1 a (if q = k then D else G.P q)) ∧ (¬ q < max (G.cn 2) (k + 1) → cR s1 68 q = none)
    by_cases c : q = k
    · subst c
      refine ⟨fun _ => ⟨a, e1, by rw [if_pos rfl]; exact hL⟩, fun h => absurd h (by omega)⟩
    · rw [e2 q c, if_neg c]
      refine ⟨fun h => ?_, fun h => (h3' q hq).2 (by omega)⟩
      obtain ⟨a', x1, x2⟩ := (h3' q hq).1 (by omega)
      exact ⟨a', x1, x2.bf b⟩
  · show cI s1 69 v = nI (if v = 2 then max (G.cn 2) (k + 1) else G.cn v)
    rw [h69]
    by_cases c : v = 2
    · rw [if_pos c, c, upd_s]
    · rw [if_neg c, pk_un c]; exact h4 v hv
  · rw [cI_c (ho 70 (by decide) (by decide))]; exact h5
  · rw [cI_c (ho 71 (by decide) (by decide))]; exact h6
  · rw [cI_c (ho 72 (by decide) (by decide))]; exact h7
  · rw [cI_c (ho 73 (by decide) (by decide))]; exact h8
  · rw [fI_c (ho 65 (by decide) (by decide)) 8]; exact h9
  · rw [fI_c (ho 65 (by decide) (by decide)) 9]; exact h10
  · rw [fI_c (ho 65 (by decide) (by decide)) 10]; exact h11
theorem TolR.q (hT : TolR s 65 G) (b : BF 65 s s1) {fl : Nat} {pl : Int32} (ho : ∀ a, a ≠ 65 → s1.2.2 a = s.2.2 a) (h8 : fI s1 65 8 = 0) (h9 : fI s1 65 9 = nI fl) (h10 : fI s1 65 10 = pl) : TolR s1 65 (setQ G fl pl) := by
  obtain ⟨x1, x2, x3, x4, x5, x6, x7, x8, -⟩ := hT
  refine ⟨fun q hq => ?_, fun q hq => ?_, fun q hq => ?_, ?_, ?_, ?_, ?_, ?_, h8, h9, h10⟩
  · rw [cR_c (ho (65 + 1) (by decide))]
    refine ⟨fun h => ?_, (x1 q hq).2⟩
    obtain ⟨a', y1, y2⟩ := (x1 q hq).1 h
    exact ⟨a', y1, y2.bf b⟩
  · rw [cR_c (ho (65 + 2) (by decide))]
    refine ⟨fun h => ?_, (x2 q hq).2⟩
    obtain ⟨a', y1, y2⟩ := (x2 q hq).1 h
    exact ⟨a', y1, y2.bf b⟩
  · rw [cR_c (ho (65 + 3) (by decide))]
    refine ⟨fun h => ?_, (x3 q hq).2⟩
    obtain ⟨a', y1, y2⟩ := (x3 q hq).1 h
    exact ⟨a', y1, y2.bf b⟩
  · rw [cI_c (ho (65 + 4) (by decide))]; exact x4
  · rw [cI_c (ho (65 + 5) (by decide))]; exact x5
  · rw [cI_c (ho (65 + 6) (by decide))]; exact x6
  · rw [cI_c (ho (65 + 7) (by decide))]; exact x7
  · rw [cI_c (ho (65 + 8) (by decide))]; exact x8
/-- what is told now is another, by cells of its own -/
theorem RelK.bf (h : RelK s G I) (b : BF 65 s s1) (hI : GhI G1) (hT : TolR s1 65 G1) : RelK s1 G1 I := by
  obtain ⟨h1, h2, h3, h4, h5⟩ := h
  have c74 : cR s1 74 = cR s 74 := cR_c (b.2.2.2.2.2 74 fun i hi => by omega)
  refine ⟨b.2.2.1, hI, h3, by rw [c74]; exact h4, hT, fun q hq => ?_⟩
  rw [c74]
  refine ⟨(h5.2 q hq).1, fun g2 hg2 => ?_⟩
  obtain ⟨t2, c2, ts2, tr2⟩ := (h5.2 q hq).2 g2 hg2
  have h2 := ts2.2.2.2.2.2.2.2.2.2.1
  exact ⟨t2, c2, ts2.bf b, tr2.bf b ts2.ts (by omega)⟩
/-- new cells are made, and the reader reads -/
theorem RelK.gx (h : RelK s G I) (h1 : s.1 ≤ s1.1) (S1 : Sh s1) (e : ∀ a, a < 64 + s.1 → ¬ (a = 75 ∨ a = 77 ∨ a = 78) → s1.2.2 a = s.2.2 a) : RelK s1 G I := by
  have h52 := h.1.1
  have z : ∃ s2 : xS, s2.1 = s.1 ∧ s2.2.1 = s.2.1 ∧ ∀ a, s2.2.2 a = if a = 75 ∨ a = 77 ∨ a = 78 then s1.2.2 a else s.2.2 a := ⟨(s.1, s.2.1, fun a => if a = 75 ∨ a = 77 ∨ a = 78 then s1.2.2 a else s.2.2 a), rfl, rfl, fun _ => rfl⟩
  obtain ⟨s2, z1, z2, z3⟩ := z
  have low : ∀ a, a < 64 + s.1 → s1.2.2 a = s2.2.2 a := fun a ha => by
    rw [z3]
    by_cases c : a = 75 ∨ a = 77 ∨ a = 78
    · rw [if_pos c]
    · rw [if_neg c]; exact e a ha c
  have S2 : Sh s2 := by
    refine ⟨by omega, fun i c hc => ?_⟩
    have hlt : i < 52 := (List.getElem?_eq_some_iff.mp hc).1
    rw [← low (64 + i) (by omega)]
    exact S1.2 i c hc
  have o : Only (fun a => a = 75 ∨ a = 77 ∨ a = 78) s s2 := ⟨z1, z2, S2, fun a ha => by rw [z3, if_neg ha]⟩
  exact (h.only o fun a q => by omega).kd ⟨by omega, S1, fun b hb => low b (by omega), fun b hb _ => low b (by omega)⟩
theorem C_grow {c w : Nat} (hS : Sh s) (hw : w < 3) (hc : cI s 69 w = nI c) (c3 : c ≤ 3) (h3 : k < 3) : ∃ s', F_X9_grow n s (some 65) (nI w) (nI k) = some s' ∧ BF 65 s s' ∧ cI s' 69 = upd (cI s 69) w (nI (max c (k + 1))) ∧ ∀ a, a ≠ 69 → s'.2.2 a = s.2.2 a := by
  have hm : F_X9_howMany n s (some 65) (nI w) = some (nI c) := by
    unfold F_X9_howMany
    simp (disch := omega) only [g65_3 hS, Option.bind_some, C_val (c69 hS), hc]
  have mx : imax (nI c) (nI (k + 1)) = nI (max c (k + 1)) := by
    rw [nZ, nZ, imax_z (by omega) (by omega)]
    rw [nZ]
    congr 1
    omega
  have e := C_setAt (n := n) (c69 hS) (k := w) (by omega) (by decide) (nI (max c (k + 1)))
  refine ⟨_, ?_, BF_A hS (TS_65 hS) (i := 4) (by decide) (by decide) _, k69 hS _, fun a ha => wA_n ha _ _⟩
  unfold F_X9_grow
  simp only [↓bnd (g65_3 hS), ↓bnd (o65 hS), ↓bnd (hm), nI_1, mx, ↓bnd (e)]
theorem C_putL {fs : List Value} {D : LgD} (hS : Sh s) (hT : TolR s 65 G) (hI : GhI G) (hk : k ≤ G.cn 0) (h3 : k < 3) (hm : s.2.2 m0 = .inr (4, fs)) (hL : ∀ s', BF 65 s s' → LgR s' m0 D) : ∃ s', F_X9_putLeague n s (some 65) (nI k) (some m0) = some s' ∧ BF 65 s s' ∧ TolR s' 65 (setL G k D) := by
  have T := TS_65 hS
  have c3 : G.cn 0 ≤ 3 := hI.1
  obtain ⟨s1, e1, b1, v1, w1, o1⟩ := C_putR (t := 65) (k := 4) hS T (Or.inl rfl) (w := 1) (by decide) (by decide) T.2.1 h3 (okR_o (by decide) (by decide) hm rfl)
  have c69 : cI s1 69 = cI s 69 := cI_c (o1 69 (by decide))
  obtain ⟨s2, e2, b2, v2, o2⟩ := C_grow (n := n) (w := 0) b1.2.2.1 (by decide) (by rw [c69]; exact hT.2.2.2.1 0 (by decide)) c3 h3
  have B := b1.trans b2
  have e2 : F_X9_grow n s1 (some 65) (0 : Int32) (nI k) = some s2 := e2
  have e1 : sR s (some 66) (nI k) (some m0) = some s1 := e1
  refine ⟨s2, ?_, B, hT.putL B hk h3 ?_ ?_ (hL s2 B) (by rw [v2, c69]) fun a x1 x2 => (o2 a x2).trans (o1 a x1)⟩
  · unfold F_X9_putLeague
    rw [if_neg (nI_pos (by omega))]
    simp (disch := omega) only [↓bnd (g65_0 hS), ↓bnd (n66 hS), nLe_f, if_false, ↓bnd (e1), ↓bnd (o65 b1.2.2.1), ↓bnd (e2), Option.bind_some]
  · rw [cR_c (o2 66 (by decide))]; exact v1
  · intro j hj
    rw [cR_c (o2 66 (by decide))]; exact w1 j hj
theorem C_putW {fs : List Value} {D : LwD} (hS : Sh s) (hT : TolR s 65 G) (hI : GhI G) (hk : k ≤ G.cn 1) (h3 : k < 3) (hm : s.2.2 m0 = .inr (3, fs)) (hL : ∀ s', BF 65 s s' → LwR s' m0 D) : ∃ s', F_X9_putLaw n s (some 65) (nI k) (some m0) = some s' ∧ BF 65 s s' ∧ TolR s' 65 (setW G k D) := by
  have T := TS_65 hS
  have c3 : G.cn 1 ≤ 3 := hI.2.1
  obtain ⟨s1, e1, b1, v1, w1, o1⟩ := C_putR (t := 65) (k := 5) hS T (Or.inl rfl) (w := 2) (by decide) (by decide) T.2.2.1 h3 (okR_o (by decide) (by decide) hm rfl)
  have c69 : cI s1 69 = cI s 69 := cI_c (o1 69 (by decide))
  obtain ⟨s2, e2, b2, v2, o2⟩ := C_grow (n := n) (w := 1) b1.2.2.1 (by decide) (by rw [c69]; exact hT.2.2.2.1 1 (by decide)) c3 h3
  have B := b1.trans b2
  have e2 : F_X9_grow n s1 (some 65) (1 : Int32) (nI k) = some s2 := e2
  have e1 : sR s (some 67) (nI k) (some m0) = some s1 := e1
  refine ⟨s2, ?_, B, hT.putW B hk h3 ?_ ?_ (hL s2 B) (by rw [v2, c69]) fun a x1 x2 => (o2 a x2).trans (o1 a x1)⟩
  · unfold F_X9_putLaw
    rw [if_neg (nI_pos (by omega))]
    simp (disch := omega) only [↓bnd (g65_1 hS), ↓bnd (n67 hS), nLe_f, if_false, ↓bnd (e1), ↓bnd (o65 b1.2.2.1), ↓bnd (e2), Option.bind_some]
  · rw [cR_c (o2 67 (by decide))]; exact v1
  · intro j hj
    rw [cR_c (o2 67 (by decide))]; exact w1 j hj
theorem C_putP {fs : List Value} {D : PlD} (hS : Sh s) (hT : TolR s 65 G) (hI : GhI G) (hk : k ≤ G.cn 2) (h3 : k < 3) (hm : s.2.2 m0 = .inr (6, fs)) (hL : ∀ s', BF 65 s s' → PlR s' m0 D) : ∃ s', F_X9_putPlan n s (some 65) (nI k) (some m0) = some s' ∧ BF 65 s s' ∧ TolR s' 65 (setP G k D) := by
  have T := TS_65 hS
  have c3 : G.cn 2 ≤ 3 := hI.2.2.1
  obtain ⟨s1, e1, b1, v1, w1, o1⟩ := C_putR (t := 65) (k := 6) hS T (Or.inl rfl) (w := 3) (by decide) (by decide) T.2.2.2.1 h3 (okR_o (by decide) (by decide) hm rfl)
  have c69 : cI s1 69 = cI s 69 := cI_c (o1 69 (by decide))
  obtain ⟨s2, e2, b2, v2, o2⟩ := C_grow (n := n) (w := 2) b1.2.2.1 (by decide) (by rw [c69]; exact hT.2.2.2.1 2 (by decide)) c3 h3
  have B := b1.trans b2
  have e2 : F_X9_grow n s1 (some 65) (2 : Int32) (nI k) = some s2 := e2
  have e1 : sR s (some 68) (nI k) (some m0) = some s1 := e1
  refine ⟨s2, ?_, B, hT.putP B hk h3 ?_ ?_ (hL s2 B) (by rw [v2, c69]) fun a x1 x2 => (o2 a x2).trans (o1 a x1)⟩
  · unfold F_X9_putPlan
    rw [if_neg (nI_pos (by omega))]
    simp (disch := omega) only [↓bnd (g65_2 hS), ↓bnd (n68 hS), nLe_f, if_false, ↓bnd (e1), ↓bnd (o65 b1.2.2.1), ↓bnd (e2), Option.bind_some]
  · rw [cR_c (o2 68 (by decide))]; exact v1
  · intro j hj
    rw [cR_c (o2 68 (by decide))]; exact w1 j hj
end PU

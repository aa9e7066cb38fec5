/-! PLAY -/
def uv (x : Int32) : Nat := x.toBitVec.toNat / 2 ^ 16
theorem uv_le (x : Int32) : uv x < 65536 := by
  have h : x.toBitVec.toNat < 2 ^ 32 := x.toBitVec.isLt
  unfold uv
  omega
theorem ush_uv (x : Int32) : ush x (16 : Int32) = nI (uv x) := by
  have h := uv_le x
  unfold ush uv at *
  apply Int32.toBitVec_inj.mp
  apply BitVec.eq_of_toNat_eq
  rw [pk_ushr x 16 16 (by decide), pk_tn (by omega)]
def rnd (x : Int32) : Int32 := x * (1103515245 : Int32) + (12345 : Int32)
theorem dR_uv (x : Int32) {m : Nat} (h0 : 0 < m) (hm : m ≤ 100) : dR (ush x (16 : Int32)) (nI m) = some (nI (uv x % m)) := by
  have h := uv_le x
  rw [ush_uv, dR_n (by omega) h0 (by omega)]
/-- three shots -/
def sh3 (p : Nat) (x : Int32) : Nat → Nat × Int32
  | 0 => (0, x)
  | i + 1 => (if p ≤ uv (rnd (sh3 p x i).2) % 100 then (sh3 p x i).1 else (sh3 p x i).1 + 1, rnd (sh3 p x i).2)
theorem sh3_le (p : Nat) (x : Int32) (i : Nat) : (sh3 p x i).1 ≤ i := by
  induction i with
  | zero => exact Nat.le_refl 0
  | succ i ih => unfold sh3; dsimp only; split <;> omega
/-- the cells of a drawing object apart, all stays -/
def KD (st st' : xS) : Prop := st.1 ≤ st'.1 ∧ Sh st' ∧ (∀ b, b < 116 → st'.2.2 b = st.2.2 b) ∧ ∀ b, b < 64 + st.1 → (∀ fs, st.2.2 b ≠ .inr (0, fs)) → st'.2.2 b = st.2.2 b
section PL
variable {st st1 st2 : xS} {n d : Nat} {G G1 : Gh} {I I1 : Im} {x y : Int32}
theorem Sh.same (hS : Sh st) (h1 : st.1 ≤ st1.1) (h : ∀ b, b < 116 → st1.2.2 b = st.2.2 b) : Sh st1 := by
  refine ⟨Nat.le_trans hS.1 h1, fun i c hc => ?_⟩
  have hlt : i < 52 := (List.getElem?_eq_some_iff.mp hc).1
  rw [h (64 + i) (by omega)]
  exact hS.2 i c hc
theorem KD.dn (k : KD st st1) {a : Nat} (h : dyn st a) : dyn st1 a := by
  have := k.1
  unfold dyn at *
  omega
theorem dyn_lt {a : Nat} (h : dyn st a) : a < 64 + st.1 := h.2
theorem LgR.kd {a : Nat} {D : LgD} (hL : LgR st a D) (k : KD st st1) : LgR st1 a D := by
  obtain ⟨r, q, f, g, h1, h2, h3, h4, h5, h6, h7, h8⟩ := hL
  exact ⟨r, q, f, g, by rw [k.2.2.2 a h6.2 (by rw [h1]; intro fs h; injection h with h; injection h with h h'; cases h), h1], by rw [k.2.2.2 r h7.2 (by rw [h2]; intro fs h; cases h), h2], by rw [k.2.2.2 q h8.2 (by rw [h3]; intro fs h; cases h), h3], h4, h5, k.dn h6, k.dn h7, k.dn h8⟩
theorem LwR.kd {a : Nat} {D : LwD} (hL : LwR st a D) (k : KD st st1) : LwR st1 a D := by
  obtain ⟨r, f, h1, h2, h3, h4, h5⟩ := hL
  exact ⟨r, f, by rw [k.2.2.2 a h4.2 (by rw [h1]; intro fs h; injection h with h; injection h with h h'; cases h), h1], by rw [k.2.2.2 r h5.2 (by rw [h2]; intro fs h; cases h), h2], h3, k.dn h4, k.dn h5⟩
theorem PlR.kd {a : Nat} {D : PlD} (hL : PlR st a D) (k : KD st st1) : PlR st1 a D := by
  obtain ⟨r, f, x1, x2, x3, x4, h1, h2, h3, h4, h5, h6⟩ := hL
  exact ⟨r, f, x1, x2, x3, x4, by rw [k.2.2.2 a h5.2 (by rw [h1]; intro fs h; injection h with h; injection h with h h'; cases h), h1], by rw [k.2.2.2 r h6.2 (by rw [h2]; intro fs h; cases h), h2], h3, h4, k.dn h5, k.dn h6⟩
/-- what is told at t: its own cells as they were -/
theorem TolR.kd {t : Nat} (hT : TolR st t G) (k : KD st st1) (e : ∀ i, i < 9 → st1.2.2 (t + i) = st.2.2 (t + i)) : TolR st1 t G := by
  obtain ⟨h1, h2, h3, h4, h5, h6, h7, h8, h9, h10, h11⟩ := hT
  have e0 : st1.2.2 t = st.2.2 t := e 0 (by omega)
  refine ⟨fun k' hk => ?_, fun k' hk => ?_, fun k' hk => ?_, ?_, ?_, ?_, ?_, ?_, ?_, ?_, ?_⟩
  · rw [cR_c (e 1 (by omega))]
    refine ⟨fun q => ?_, (h1 k' hk).2⟩
    obtain ⟨a, e1, e2⟩ := (h1 k' hk).1 q
    exact ⟨a, e1, e2.kd k⟩
  · rw [cR_c (e 2 (by omega))]
    refine ⟨fun q => ?_, (h2 k' hk).2⟩
    obtain ⟨a, e1, e2⟩ := (h2 k' hk).1 q
    exact ⟨a, e1, e2.kd k⟩
  · rw [cR_c (e 3 (by omega))]
    refine ⟨fun q => ?_, (h3 k' hk).2⟩
    obtain ⟨a, e1, e2⟩ := (h3 k' hk).1 q
    exact ⟨a, e1, e2.kd k⟩
  · rw [cI_c (e 4 (by omega))]; exact h4
  · rw [cI_c (e 5 (by omega))]; exact h5
  · rw [cI_c (e 6 (by omega))]; exact h6
  · rw [cI_c (e 7 (by omega))]; exact h7
  · rw [cI_c (e 8 (by omega))]; exact h8
  · rw [fI_c e0]; exact h9
  · rw [fI_c e0]; exact h10
  · rw [fI_c e0]; exact h11
theorem TolS.n0 {t : Nat} (hT : TolS st t) {i : Nat} (hi : i < 9) : t + i < 64 + st.1 ∧ ∀ fs, st.2.2 (t + i) ≠ .inr (0, fs) := by
  obtain ⟨⟨x, y, z, h1⟩, ⟨f2, h2⟩, ⟨f3, h3⟩, ⟨f4, h4⟩, ⟨f5, h5⟩, ⟨f6, h6⟩, ⟨f7, h7⟩, ⟨f8, h8⟩, ⟨f9, h9⟩, h10, h11⟩ := hT
  refine ⟨by omega, fun fs => ?_⟩
  rcases (show i = 0 ∨ i = 1 ∨ i = 2 ∨ i = 3 ∨ i = 4 ∨ i = 5 ∨ i = 6 ∨ i = 7 ∨ i = 8 by omega) with rfl | rfl | rfl | rfl | rfl | rfl | rfl | rfl | rfl
  · rw [Nat.add_zero, h1]; intro h; injection h with h; injection h with h h'; cases h
  · rw [h2]; intro h; cases h
  · rw [h3]; intro h; cases h
  · rw [h4]; intro h; cases h
  · rw [h5]; intro h; cases h
  · rw [h6]; intro h; cases h
  · rw [h7]; intro h; cases h
  · rw [h8]; intro h; cases h
  · rw [h9]; intro h; cases h
theorem TolS.kd {t : Nat} (hT : TolS st t) (k : KD st st1) : TolS st1 t ∧ ∀ i, i < 9 → st1.2.2 (t + i) = st.2.2 (t + i) := by
  have e : ∀ i, i < 9 → st1.2.2 (t + i) = st.2.2 (t + i) := fun i hi => k.2.2.2 _ (hT.n0 hi).1 (hT.n0 hi).2
  refine ⟨?_, e⟩
  have h0 := k.1
  obtain ⟨h1, h2, h3, h4, h5, h6, h7, h8, h9, h10, h11⟩ := hT
  unfold TolS
  rw [show st1.2.2 t = st.2.2 t from e 0 (by omega), e 1 (by omega), e 2 (by omega), e 3 (by omega), e 4 (by omega), e 5 (by omega), e 6 (by omega), e 7 (by omega), e 8 (by omega)]
  exact ⟨h1, h2, h3, h4, h5, h6, h7, h8, h9, h10, by omega⟩
theorem RelK.kd (h : RelK st G I) (k : KD st st1) : RelK st1 G I := by
  obtain ⟨h1, h2, h3, h4, h5⟩ := h
  have e74 : cR st1 74 = cR st 74 := cR_c (k.2.2.1 74 (by decide))
  refine ⟨k.2.1, h2, h3, by rw [e74]; exact h4, h5.1.kd k fun i hi => k.2.2.1 _ (by omega), fun q hq => ?_⟩
  rw [e74]
  refine ⟨(h5.2 q hq).1, fun g hg => ?_⟩
  obtain ⟨t, e1, e2, e3⟩ := (h5.2 q hq).2 g hg
  have := e2.kd k
  exact ⟨t, e1, this.1, e3.kd k this.2⟩
theorem RelK.only {S : Nat → Prop} (h : RelK st G I) (o : Only S st st1) (hS : ∀ a, S a → 75 ≤ a ∧ a < 116) : RelK st1 G I := by
  obtain ⟨h1, h2, h3, h4, h5⟩ := h
  refine ⟨o.2.2.1, h2, h3, ?_, h5.only o hS⟩
  rw [cR_o o (fun q => by have := hS _ q; omega)]
  exact h4
theorem KD.kf (k : KD st st1) : KF st st1 := fun a _ h => k.2.2.1 a h
theorem MS.kd {a w p : Nat} {L : LgD} {W : LwD} {P : PlD} (h : MS st a w p L W P) (k : KD st st1) : MS st1 a w p L W P := by
  obtain ⟨h1, h2, h3, h4, h5, h6, h7⟩ := h
  have e : ∀ i, fR st1 79 i = fR st 79 i := fun i => fR_c (k.2.2.1 79 (by decide)) i
  exact ⟨k.2.1, (e 0).trans h2, (e 1).trans h3, (e 2).trans h4, h5.kd k, h6.kd k, h7.kd k⟩
/-- the drawing object: d; x stands in it -/
def DR (st : xS) (d : Nat) (x : Int32) : Prop := 116 ≤ d ∧ st.2.2 d = .inr (0, [.int x])
def DT (st st' : xS) (d : Nat) : Prop := KD st st' ∧ st'.1 = st.1 ∧ st'.2.1 = st.2.1 ∧ ∀ a, a ≠ d → st'.2.2 a = st.2.2 a
theorem DT.refl (hS : Sh st) (d : Nat) : DT st st d := ⟨⟨Nat.le_refl _, hS, fun _ _ => rfl, fun _ _ _ => rfl⟩, rfl, rfl, fun _ _ => rfl⟩
theorem KD.trans (h : KD st st1) (k : KD st1 st2) : KD st st2 := ⟨Nat.le_trans h.1 k.1, k.2.1, fun b hb => (k.2.2.1 b hb).trans (h.2.2.1 b hb), fun b hb hc => by
  have e := h.2.2.2 b hb hc
  have := h.1
  exact (k.2.2.2 b (by omega) (by rw [e]; exact hc)).trans e⟩
theorem DT.trans (h : DT st st1 d) (k : DT st1 st2 d) : DT st st2 d := ⟨h.1.trans k.1, k.2.1.trans h.2.1, k.2.2.1.trans h.2.2.1, fun a ha => (k.2.2.2 a ha).trans (h.2.2.2 a ha)⟩
theorem DT_up (hS : Sh st) (h : DR st d x) (y : Int32) : DT st (xup st d (.inr (0, [.int y]))) d ∧ DR (xup st d (.inr (0, [.int y]))) d y := by
  have o : ∀ a, a ≠ d → (xup st d (.inr (0, [.int y]))).2.2 a = st.2.2 a := fun a ha => xup_n ha _ _
  have l : ∀ b, b < 116 → (xup st d (.inr (0, [.int y]))).2.2 b = st.2.2 b := fun b hb => o b (by have := h.1; omega)
  refine ⟨⟨⟨Nat.le_refl _, hS.same (Nat.le_refl _) l, l, fun b _ hc => o b fun e => hc [.int x] (by rw [e, h.2])⟩, rfl, rfl, o⟩, h.1, xup_s _ _ _⟩
theorem C_below (hS : Sh st) (h : DR st d x) {m : Nat} (h0 : 0 < m) (hm : m ≤ 100) : ∃ st', F_X0_below n st (some d) (nI m) = some (nI (uv (rnd x) % m), st') ∧ DT st st' d ∧ DR st' d (rnd x) := by
  have g : gI st (some d) 0 0 = some x := gI_of h.2 rfl
  have p : pF st (some d) 0 0 (.int (rnd x)) = some (xup st d (.inr (0, [.int (rnd x)]))) := by
    show (match st.2.2 d with | .inr (c, fs) => if c = 0 ∧ 0 < fs.length then some (xup st d (.inr (0, fs.set 0 (.int (rnd x))))) else none | _ => none) = _
    rw [h.2]
    rfl
  have u := DT_up hS h (rnd x)
  have g2 : gI (xup st d (.inr (0, [.int (rnd x)]))) (some d) 0 0 = some (rnd x) := gI_of u.2.2 rfl
  refine ⟨_, ?_, u⟩
  unfold F_X0_below
  have hm2 : (nI m ≤ (0 : Int32)) = False := nLe_f (b := 0) h0 (by omega)
  simp only [↓bnd (g)]
  rw [show x * (1103515245 : Int32) + (12345 : Int32) = rnd x from rfl]
  simp only [↓bnd (p), hm2, if_false, ↓bnd (g2), ↓bnd (dR_uv (rnd x) h0 hm), Option.bind_some]
theorem C_sh3 (hS : Sh st) (h : DR st d x) {p : Nat} (hp : p ≤ 100) (hn : 3000 ≤ n) : ∃ st', F_X0_shots n st (some d) (nI p) = some (nI (sh3 p x 3).1, st') ∧ DT st st' d ∧ DR st' d (sh3 p x 3).2 := by
  have hl : ∃ st', F_X0_shots_L4 n n st (some d) (nI p) (nI 0) (nI 0) = some (nI (sh3 p x 3).1, st') ∧ DT st st' d ∧ DR st' d (sh3 p x 3).2 := by
    refine loop_ex (fun m (s : xS × Int32 × Int32) => F_X0_shots_L4 n m s.1 (some d) (nI p) s.2.1 s.2.2) (fun i s => DT st s.1 d ∧ DR s.1 d (sh3 p x i).2 ∧ s.2.1 = nI (sh3 p x i).1 ∧ s.2.2 = nI i) 3 (fun r => ∃ st', r = some (nI (sh3 p x 3).1, st') ∧ DT st st' d ∧ DR st' d (sh3 p x 3).2) ?_ ?_ n (by omega) (st, nI 0, nI 0) ⟨DT.refl hS d, h, rfl, rfl⟩
    · rintro m i ⟨s, u, v⟩ hi ⟨h1, h2, h3, h4⟩
      dsimp only at h1 h2 h3 h4 ⊢
      subst h3
      subst h4
      obtain ⟨s2, e2, d2, r2⟩ := C_below (n := n) h1.1.2.1 h2 (show 0 < 100 by decide) (Nat.le_refl _)
      have e2 : F_X0_below n s (some d) (100 : Int32) = _ := e2
      have hu : uv (rnd (sh3 p x i).2) % 100 < 100 := Nat.mod_lt _ (by decide)
      have hc := sh3_le p x i
      refine ⟨(s2, nI (sh3 p x (i + 1)).1, nI (i + 1)), ⟨h1.trans d2, r2, rfl, rfl⟩, ?_⟩
      dsimp only
      rw [F_X0_shots_L4, sh3]
      dsimp only
      simp (disch := omega) only [l3, ↓Option.bind_some, ↓reduceIte, nLe_f, ↓bnd (isO_of h2.2), ↓bnd (e2), nLe, nI_1]
      by_cases hq : p ≤ uv (rnd (sh3 p x i).2) % 100
      · simp only [hq, if_true, Option.bind_some]
      · simp only [hq, if_false, Option.bind_some]
    · rintro m ⟨s, u, v⟩ ⟨h1, h2, h3, h4⟩
      dsimp only at h1 h2 h3 h4 ⊢
      subst h3
      subst h4
      refine ⟨s, ?_, h1, h2⟩
      rw [F_X0_shots_L4]
      dsimp only
      simp (disch := omega) only [l3, ↓reduceIte, nLe_t]
  obtain ⟨st', e, o⟩ := hl
  have e : F_X0_shots_L4 n n st (some d) (nI p) (0 : Int32) (0 : Int32) = _ := e
  refine ⟨st', ?_, o⟩
  unfold F_X0_shots
  simp only [↓bnd (e)]
/-- the model draws -/
theorem PM.draw {s0 s : xS} {k w : Nat} {f : Nat → Nat} (h : PM s0 s k w f) (hx : fI s 106 16 = x) {m : Nat} (h0 : 0 < m) (hm : m ≤ 100) : ∃ s', F_X11_drawn n s (some 106) (nI m) = some (nI (uv (rnd x) % m), s') ∧ PM s0 s' k w f ∧ fI s' 106 16 = rnd x := by
  obtain ⟨o, h15, h1, h2⟩ := h
  have S := o.2.2.1
  have g : gI s (some 106) 11 16 = some x := by rw [g106_16 S, hx]
  have p := p106_16 S (rnd x)
  have S2 := s106_16 S (rnd x)
  have f2 := f106_16 S (rnd x)
  have g2 : gI (uV s 106 16 (.int (rnd x))) (some 106) 11 16 = some (rnd x) := by rw [g106_16 S2, f2]
  have c : cI (uV s 106 16 (.int (rnd x))) 107 = cI s 107 := cI_c (uV_n (by decide) _ _ _)
  refine ⟨_, ?_, ⟨o.trans ((Only.uV S2).mono fun a h => Or.inl h), (fI_oth (by decide) _).trans h15, by rw [c]; exact h1, by rw [c]; exact h2⟩, f2⟩
  unfold F_X11_drawn
  simp only [↓bnd (g)]
  rw [show x * (1103515245 : Int32) + (12345 : Int32) = rnd x from rfl]
  simp only [↓bnd (p), ↓bnd (g2), ↓bnd (dR_uv (rnd x) h0 hm)]
theorem PM.goals {s0 s : xS} {k w : Nat} {f : Nat → Nat} (h : PM s0 s k w f) (hx : fI s 106 16 = x) {p : Nat} (hp : p ≤ 100) (hn : 3000 ≤ n) : ∃ s', F_X11_goals n s (some 106) (nI p) = some (nI (sh3 p x 3).1, s') ∧ PM s0 s' k w f ∧ fI s' 106 16 = (sh3 p x 3).2 := by
  have hl : ∃ s', F_X11_goals_L4 n n s (some 106) (nI p) (nI 0) (nI 0) = some (nI (sh3 p x 3).1, s') ∧ PM s0 s' k w f ∧ fI s' 106 16 = (sh3 p x 3).2 := by
    refine loop_ex (fun m (s : xS × Int32 × Int32) => F_X11_goals_L4 n m s.1 (some 106) (nI p) s.2.1 s.2.2) (fun i s => PM s0 s.1 k w f ∧ fI s.1 106 16 = (sh3 p x i).2 ∧ s.2.1 = nI (sh3 p x i).1 ∧ s.2.2 = nI i) 3 (fun r => ∃ s', r = some (nI (sh3 p x 3).1, s') ∧ PM s0 s' k w f ∧ fI s' 106 16 = (sh3 p x 3).2) ?_ ?_ n (by omega) (s, nI 0, nI 0) ⟨h, hx, rfl, rfl⟩
    · rintro m i ⟨s, u, v⟩ hi ⟨h1, h2, h3, h4⟩
      dsimp only at h1 h2 h3 h4 ⊢
      subst h3
      subst h4
      obtain ⟨s2, e2, d2, r2⟩ := h1.draw (n := n) h2 (show 0 < 100 by decide) (Nat.le_refl _)
      have e2 : F_X11_drawn n s (some 106) (100 : Int32) = _ := e2
      have hu : uv (rnd (sh3 p x i).2) % 100 < 100 := Nat.mod_lt _ (by decide)
      have hc := sh3_le p x i
      refine ⟨(s2, nI (sh3 p x (i + 1)).1, nI (i + 1)), ⟨d2, r2, rfl, rfl⟩, ?_⟩
      dsimp only
      rw [F_X11_goals_L4, sh3]
      dsimp only
      simp (disch := omega) only [l3, ↓Option.bind_some, ↓reduceIte, nLe_f, ↓bnd (o106 h1.1.2.2.1), ↓bnd (e2), nLe, nI_1]
      by_cases hq : p ≤ uv (rnd (sh3 p x i).2) % 100
      · simp only [hq, if_true, Option.bind_some, show nI (sh3 p x i).1 + (0 : Int32) = nI (sh3 p x i).1 from nAdd _ 0]
      · simp only [hq, if_false, Option.bind_some, nI_1]
    · rintro m ⟨s, u, v⟩ ⟨h1, h2, h3, h4⟩
      dsimp only at h1 h2 h3 h4 ⊢
      subst h3
      subst h4
      refine ⟨s, ?_, h1, h2⟩
      rw [F_X11_goals_L4]
      dsimp only
      simp (disch := omega) only [l3, ↓reduceIte, nLe_t]
  obtain ⟨s', e, o⟩ := hl
  have e : F_X11_goals_L4 n n s (some 106) (nI p) (0 : Int32) (0 : Int32) = _ := e
  refine ⟨s', ?_, o⟩
  unfold F_X11_goals
  simp only [↓bnd (e)]
end PL

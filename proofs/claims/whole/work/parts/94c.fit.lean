/-! BOTH, OFF: the class's rows -/
/-- how many sides below one play -/
def uNn (T : Nat → Int) : Nat → Nat
  | 0 => 0
  | s + 1 => if T s = 0 then uNn T s else uNn T s + 1
theorem uNn_t {T : Nat → Int} {s : Nat} (h : T s = 0) : uNn T (s + 1) = uNn T s := if_pos h
theorem uNn_f {T : Nat → Int} {s : Nat} (h : ¬ T s = 0) : uNn T (s + 1) = uNn T s + 1 := if_neg h
theorem uNn_le (T : Nat → Int) (s : Nat) : uNn T s ≤ s := by
  induction s with
  | zero => exact Nat.le_refl 0
  | succ s ih => rw [uNn]; split <;> omega
theorem uNn_m (T : Nat → Int) (a d : Nat) : uNn T a ≤ uNn T (a + d) := by
  induction d with
  | zero => exact Nat.le_refl _
  | succ d ih => rw [← Nat.add_assoc, uNn]; split <;> omega
theorem uNn_lt {T : Nat → Int} {a b : Nat} (h : a < b) (ha : ¬ T a = 0) : uNn T a < uNn T b := by
  have m := uNn_m T (a + 1) (b - (a + 1))
  rw [show a + 1 + (b - (a + 1)) = b by omega, uNn_f ha] at m
  omega
theorem uNn_i {T : Nat → Int} {a b : Nat} (h : ¬ a = b) (ha : ¬ T a = 0) (hb : ¬ T b = 0) : ¬ uNn T a = uNn T b := by
  rcases Nat.lt_or_gt_of_ne h with q | q
  · have := uNn_lt q ha; omega
  · have := uNn_lt q hb; omega
def fcu (T : Nat → Int) (G : Gh) (u k : Nat) : Int := if u = 0 then 1 else if u = uNn T (G.nt k 0) then 1 else if u = uNn T (G.nt k 1) then -1 else 0
def fXu (T : Nat → Int) (G : Gh) (u k : Nat) : Int := if u = 6 then mg G k else fcu T G u k
def XXu (G : Gh) (x y : Int32) (u k : Nat) : Int := if inY G x y k then fXu (tT G x y 3) G u k else 0
theorem mt3 (G : Gh) (s k : Nat) : mt G 3 s k = if G.nt k 0 = s ∨ G.nt k 1 = s then 1 else 0 := rfl
theorem fcu_b (T : Nat → Int) (G : Gh) (u k : Nat) : -1 ≤ fcu T G u k ∧ fcu T G u k ≤ 1 := by
  unfold fcu
  split
  · omega
  · split
    · omega
    · split <;> omega
theorem fXu_b (T : Nat → Int) (G : Gh) {u : Nat} (hu : u < 6) (k : Nat) : fXu T G u k = fcu T G u k := if_neg (by omega)
theorem fXu_6 (T : Nat → Int) (G : Gh) (k : Nat) : fXu T G 6 k = mg G k := rfl
theorem cmpE (v : Int64) : (lg_cmp v (0 : Int64) = (0 : Int32)) = (v = 0) := propext (lg_cmp_eq _ _)
theorem dLw {a b : Int64} (h : ¬ b = 0) : dL a b = some (a / b) := if_neg h
def FIT : Nat → Prop := fun a => 93 ≤ a ∧ a < 99
section FT
variable {st st1 : xS} {n : Nat} {G : Gh} {I : Im} {x y : Int32}
theorem c92 (hS : Sh st) : st.2.2 92 = .inl (8, 6, .inr (.inr (.inr (.inr fun i => if i < 6 then some (93 + i) else none)))) := hS.2 28 _ rfl
theorem r92 (hS : Sh st) {i : Nat} (hi : i < 6) : aR st (some 92) (nI i) = some (some (93 + i)) := by
  rw [aR_of (c92 hS) (by decide) (by decide), if_pos (ixT hi (by decide)), nIc (by omega), if_pos hi]
theorem cRow (hS : Sh st) {i : Nat} (hi : i < 6) : st.2.2 (93 + i) = .inl (1, 7, .inr (.inl (cL st (93 + i)))) := by
  rcases (show i = 0 ∨ i = 1 ∨ i = 2 ∨ i = 3 ∨ i = 4 ∨ i = 5 by omega) with rfl | rfl | rfl | rfl | rfl | rfl
  · exact c93 hS
  · exact c94 hS
  · exact c95 hS
  · exact c96 hS
  · exact c97 hS
  · exact c98 hS
theorem rRow (hS : Sh st) {i j : Nat} (hi : i < 6) (hj : j < 7) : aL st (some (93 + i)) (nI j) = some (cL st (93 + i) j) := by
  rw [aL_of (cRow hS hi), if_pos (ixT hj (by decide)), nIc (by omega)]
theorem wRow (hS : Sh st) {i j : Nat} (hi : i < 6) (hj : j < 7) (v : Int64) : ∃ s', sL st (some (93 + i)) (nI j) v = some s' ∧ Only (fun a => a = 93 + i) st s' ∧ cL s' (93 + i) j = v ∧ ∀ b, ¬ b = j → cL s' (93 + i) b = cL st (93 + i) b := by
  refine ⟨wL st (93 + i) (vp_updL (cL st (93 + i)) j v), by rw [sL_of (cRow hS hi), if_pos (ixT hj (by decide)), nIc (by omega)], Only.wL hS _ _, ?_, fun b hb => ?_⟩
  · rw [cL_s (cRow hS hi)]; exact if_pos rfl
  · rw [cL_s (cRow hS hi)]; exact if_neg hb
theorem oRow {s s' : xS} {i b : Nat} (h : Only (fun a => a = 93 + i) s s') (hb : ¬ b = i) : cL s' (93 + b) = cL s (93 + b) := cL_o h (by omega)
theorem C_clearF (hS : Sh st) (hn : 3000 ≤ n) : ∃ st', F_X1_clear n st (some 90) = some st' ∧ Only (fun a => a = 91) st st' ∧ ∀ s, s < 8 → cI st' 91 s = -1 := by
  have hl : ∃ st', F_X1_clear_L2 n n st (some 90) (0 : Int32) = some st' ∧ Only (fun a => a = 91) st st' ∧ ∀ s, s < 8 → cI st' 91 s = -1 := by
    refine loop_ex (fun m (s : xS × Int32) => F_X1_clear_L2 n m s.1 (some 90) s.2) (fun i s => Only (fun a => a = 91) st s.1 ∧ (∀ j, j < i → cI s.1 91 j = -1) ∧ s.2 = nI i) 8 (fun r => ∃ st', r = some st' ∧ Only (fun a => a = 91) st st' ∧ ∀ s, s < 8 → cI st' 91 s = -1) ?_ ?_ n (by omega) (st, 0) ⟨Only.refl hS, fun j hj => absurd hj (Nat.not_lt_zero j), rfl⟩
    · rintro m i ⟨s, z⟩ hi ⟨h1, h2, h3⟩
      dsimp only at h1 h2 h3 ⊢
      subst h3
      have S := h1.2.2.1
      have w1 : sS 0 s (some 91) (nI i) (-1 : Int32) = some (wA s 91 (upd (cI s 91) i (-1))) := by rw [w91 S, if_pos (ixT hi (by decide)), nIc (by omega)]
      have k1 := k91 S (upd (cI s 91) i (-1))
      refine ⟨(wA s 91 (upd (cI s 91) i (-1)), nI (i + 1)), ⟨h1.trans (Only.wA S 91 _), fun j hj => ?_, rfl⟩, ?_⟩
      · dsimp only
        rw [k1]
        by_cases e : j = i
        · rw [e, upd_s]
        · rw [pk_un e]; exact h2 j (by omega)
      · dsimp only
        rw [F_X1_clear_L2]
        dsimp only
        simp (disch := omega) only [↓Option.bind_some, ↓reduceIte, ↓bnd (g90_0 S), ↓bnd (w1), l8, nLe_f, nI_1]
    · rintro m ⟨s, z⟩ ⟨h1, h2, h3⟩
      dsimp only at h1 h2 h3 ⊢
      subst h3
      refine ⟨s, ?_, h1, h2⟩
      rw [F_X1_clear_L2]
      dsimp only
      simp (disch := omega) only [l8, nLe_t, ↓reduceIte]
  obtain ⟨st', e, q⟩ := hl
  refine ⟨st', ?_, q⟩
  unfold F_X1_clear
  simp only [↓bnd (e)]
theorem C_seeF (hS : Sh st) {h g : Nat} (hh : h < 8) (hg : g < 8) : F_X1_see n st (some 90) (nI h) (nI g) = some (wA (wA st 91 (upd (cI st 91) h 0)) 91 (upd (upd (cI st 91) h 0) g 0)) := by
  have S1 := shw_A hS 91 (upd (cI st 91) h 0)
  have e1 : F_X10_setAt n st (some 91) (nI h) (0 : Int32) = _ := C_setAt (n := n) (c91 hS) hh (by decide) 0
  have e2 : F_X10_setAt n (wA st 91 (upd (cI st 91) h 0)) (some 91) (nI g) (0 : Int32) = _ := C_setAt (n := n) (c91 S1) hg (by decide) 0
  rw [k91 hS] at e2
  unfold F_X1_see
  simp only [↓bnd (g90_0 hS), ↓bnd (e1), ↓bnd (g90_0 S1), ↓bnd (e2)]
theorem iS_ge {f : Nat → Int} (h : ∀ i, 0 ≤ f i) : ∀ N, 0 ≤ iS f N := by
  intro N
  induction N with
  | zero => exact Int.le_refl 0
  | succ N ih => rw [iS]; have := h N; omega
theorem mt3_b (G : Gh) (s k : Nat) : 0 ≤ mt G 3 s k := by rw [mt3]; split <;> omega
/-- which sides play: the class -/
theorem C_fit17 (hR : Rel st G I) (hp : ∀ i, i < pc G x y → cI st 104 i = nI (pf G x y i)) (h0 : ∀ s, s < 8 → cI st 91 s = -1) (hn : 3000 ≤ n) : ∃ st', F_X10_fitYears_L17 n n st (some 64) (nI (pc G x y)) (0 : Int32) = some st' ∧ Only (fun a => a = 91) st st' ∧ ∀ s, s < 8 → cI st' 91 s = if tT G x y 3 s = 0 then -1 else 0 := by
  have b := hR.inv.n3
  have c := pc_le G x y
  have hs : ∀ s, tT G x y 3 s = iS (fun r => mt G 3 s (pf G x y r)) (pc G x y) := fun s => (yS_pf G x y (mt G 3 s)).symm
  refine loop_ex (fun m (s : xS × Int32) => F_X10_fitYears_L17 n m s.1 (some 64) (nI (pc G x y)) s.2) (fun i s => Only (fun a => a = 91) st s.1 ∧ (∀ t, t < 8 → cI s.1 91 t = if iS (fun r => mt G 3 t (pf G x y r)) i = 0 then -1 else 0) ∧ s.2 = nI i) (pc G x y) (fun r => ∃ st', r = some st' ∧ Only (fun a => a = 91) st st' ∧ ∀ s, s < 8 → cI st' 91 s = if tT G x y 3 s = 0 then -1 else 0) ?_ ?_ n (by omega) (st, 0) ⟨Only.refl hR.sh, fun t ht => by rw [h0 t ht]; exact (if_pos rfl).symm, rfl⟩
  · rintro m i ⟨s, z⟩ hi ⟨h1, h2, h3⟩
    dsimp only at h1 h2 h3 ⊢
    subst h3
    have hRs := hR.qc (h1.mono fun a h => by unfold QC; omega)
    have S := hRs.sh
    have hps : ∀ i, i < pc G x y → cI s 104 i = nI (pf G x y i) := fun i hi => by rw [cI_o h1 (by omega)]; exact hp i hi
    have t := hR.inv.nt (pf_lt hi)
    unfold NtI at t
    have p0 : F_X10_pickedOf n s (some 64) (nI i) (0 : Int32) = _ := C_pickedOf hRs hps hi (show 0 < 10 by decide)
    have p1 : F_X10_pickedOf n s (some 64) (nI i) (1 : Int32) = _ := C_pickedOf hRs hps hi (show 1 < 10 by decide)
    have e := C_seeF (n := n) S t.1 t.2.1
    have o1 := Only.wA S 91 (upd (cI s 91) (G.nt (pf G x y i) 0) 0)
    have o2 := Only.wA o1.2.2.1 91 (upd (upd (cI s 91) (G.nt (pf G x y i) 0) 0) (G.nt (pf G x y i) 1) 0)
    refine ⟨(wA (wA s 91 (upd (cI s 91) (G.nt (pf G x y i) 0) 0)) 91 (upd (upd (cI s 91) (G.nt (pf G x y i) 0) 0) (G.nt (pf G x y i) 1) 0), nI (i + 1)), ⟨h1.trans (o1.trans o2), fun t ht => ?_, rfl⟩, ?_⟩
    · dsimp only
      rw [k91 o1.2.2.1, iS, mt3]
      have g := iS_ge (f := fun r => mt G 3 t (pf G x y r)) (fun r => mt3_b G t _) i
      by_cases q1 : t = G.nt (pf G x y i) 1
      · rw [← q1, upd_s, if_pos (Or.inr rfl), if_neg (by omega)]
      · rw [pk_un q1]
        by_cases q0 : t = G.nt (pf G x y i) 0
        · rw [← q0, upd_s, if_pos (Or.inl rfl), if_neg (by omega)]
        · rw [pk_un q0, h2 t ht, if_neg (show ¬ (G.nt (pf G x y i) 0 = t ∨ G.nt (pf G x y i) 1 = t) by omega), Int.add_zero]
    · dsimp only
      rw [F_X10_fitYears_L17]
      dsimp only
      simp (disch := omega) only [↓Option.bind_some, ↓reduceIte, ↓bnd (g64_4 S), ↓bnd (o64 S), ↓bnd (p0), ↓bnd (p1), ↓bnd (o90 S), ↓bnd (e), nLe_f, nI_1]
  · rintro m ⟨s, z⟩ ⟨h1, h2, h3⟩
    dsimp only at h1 h2 h3 ⊢
    subst h3
    refine ⟨s, ?_, h1, fun t ht => by rw [h2 t ht, hs]⟩
    rw [F_X10_fitYears_L17]
    dsimp only
    simp (disch := omega) only [nLe_t, ↓reduceIte]
/-- the class's unknowns -/
theorem C_arr7 (hS : Sh st) (T : Nat → Int) (h0 : ∀ s, s < 8 → cI st 91 s = if T s = 0 then -1 else 0) (hm : fI st 90 2 = nI 0) (hn : 3000 ≤ n) : ∃ st', F_X1_arrange_L7 n n st (some 90) (0 : Int32) = some st' ∧ Only (fun a => a = 90 ∨ a = 91) st st' ∧ (∀ s, s < 8 → cI st' 91 s = if T s = 0 then -1 else nI (uNn T s)) ∧ fI st' 90 2 = nI (uNn T 8) := by
  refine loop_ex (fun m (s : xS × Int32) => F_X1_arrange_L7 n m s.1 (some 90) s.2) (fun i s => Only (fun a => a = 90 ∨ a = 91) st s.1 ∧ (∀ t, t < 8 → cI s.1 91 t = if T t = 0 then -1 else if t < i then nI (uNn T t) else 0) ∧ fI s.1 90 2 = nI (uNn T i) ∧ s.2 = nI i) 8 (fun r => ∃ st', r = some st' ∧ Only (fun a => a = 90 ∨ a = 91) st st' ∧ (∀ s, s < 8 → cI st' 91 s = if T s = 0 then -1 else nI (uNn T s)) ∧ fI st' 90 2 = nI (uNn T 8)) ?_ ?_ n (by omega) (st, 0) ⟨Only.refl hS, fun t ht => by rw [h0 t ht, if_neg (Nat.not_lt_zero t)], hm, rfl⟩
  · rintro m i ⟨s, z⟩ hi ⟨h1, h2, h4, h3⟩
    dsimp only at h1 h2 h3 h4 ⊢
    subst h3
    have S := h1.2.2.1
    have u := uNn_le T i
    have r1 : aI s (some 91) (nI i) = some (cI s 91 i) := by rw [a91 S, if_pos (ixT hi (by decide)), nIc (by omega)]
    by_cases c : T i = 0
    · have v : cI s 91 i = -1 := by rw [h2 i hi, if_pos c]
      rw [v] at r1
      refine ⟨(s, nI (i + 1)), ⟨h1, fun t ht => ?_, by dsimp only; rw [h4, uNn_t c], rfl⟩, ?_⟩
      · dsimp only
        rw [h2 t ht]
        by_cases q : T t = 0
        · rw [if_pos q, if_pos q]
        · have : ¬ t = i := fun e => q (by rw [e]; exact c)
          rw [if_neg q, if_neg q]
          by_cases q2 : t < i
          · rw [if_pos q2, if_pos (by omega)]
          · rw [if_neg q2, if_neg (by omega)]
      · dsimp only
        rw [F_X1_arrange_L7]
        dsimp only
        simp (disch := omega) only [↓Option.bind_some, ↓reduceIte, ↓bnd (g90_0 S), ↓bnd (r1), l8, nLe_f, nI_1]
    · have v : cI s 91 i = 0 := by rw [h2 i hi, if_neg c, if_neg (by omega)]
      rw [v] at r1
      have g1 : gI s (some 90) 1 2 = some (nI (uNn T i)) := by rw [g90_2 S, h4]
      have w1 : sS 0 s (some 91) (nI i) (nI (uNn T i)) = some (wA s 91 (upd (cI s 91) i (nI (uNn T i)))) := by rw [w91 S, if_pos (ixT hi (by decide)), nIc (by omega)]
      have o1 := Only.wA S 91 (upd (cI s 91) i (nI (uNn T i)))
      have S1 := o1.2.2.1
      have f1 : fI (wA s 91 (upd (cI s 91) i (nI (uNn T i)))) 90 2 = nI (uNn T i) := by rw [fI_o o1 (by decide), h4]
      have g2 : gI (wA s 91 (upd (cI s 91) i (nI (uNn T i)))) (some 90) 1 2 = some (nI (uNn T i)) := by rw [g90_2 S1, f1]
      have p2 := p90_2 S1 (nI (uNn T i + 1))
      have o2 := Only.uV (s90_2 S1 (nI (uNn T i + 1)))
      have k1 := k91 S (upd (cI s 91) i (nI (uNn T i)))
      refine ⟨(uV (wA s 91 (upd (cI s 91) i (nI (uNn T i)))) 90 2 (.int (nI (uNn T i + 1))), nI (i + 1)), ⟨h1.trans ((o1.mono fun a h => Or.inr h).trans (o2.mono fun a h => Or.inl h)), fun t ht => ?_, ?_, rfl⟩, ?_⟩
      · dsimp only
        rw [cI_o o2 (by decide), k1]
        by_cases q : t = i
        · subst q
          rw [upd_s, if_neg c, if_pos (by omega)]
        · rw [pk_un q, h2 t ht]
          by_cases q2 : t < i
          · rw [if_pos q2, if_pos (show t < i + 1 by omega)]
          · rw [if_neg q2, if_neg (show ¬ t < i + 1 by omega)]
      · dsimp only
        rw [f90_2 S1, uNn_f c]
      · dsimp only
        rw [F_X1_arrange_L7]
        dsimp only
        simp (disch := omega) only [↓Option.bind_some, ↓reduceIte, ↓bnd (g90_0 S), ↓bnd (r1), ↓bnd (g1), ↓bnd (w1), ↓bnd (g2), show ((0 : Int32) = -1) = False by decide, nI_1, ↓bnd (p2), l8, nLe_f]
  · rintro m ⟨s, z⟩ ⟨h1, h2, h4, h3⟩
    dsimp only at h1 h2 h3 h4 ⊢
    subst h3
    refine ⟨s, ?_, h1, fun t ht => by rw [h2 t ht, if_pos ht], h4⟩
    rw [F_X1_arrange_L7]
    dsimp only
    simp (disch := omega) only [l8, nLe_t, ↓reduceIte]
theorem C_arr59 (hS : Sh st) {i : Nat} (hi : i < 6) (hn : 3000 ≤ n) : ∃ st', F_X1_arrange_L59 n n st (some 90) (nI i) (0 : Int32) = some st' ∧ Only (fun a => a = 93 + i) st st' ∧ ∀ b, b < 7 → cL st' (93 + i) b = 0 := by
  refine loop_ex (fun m (s : xS × Int32) => F_X1_arrange_L59 n m s.1 (some 90) (nI i) s.2) (fun j s => Only (fun a => a = 93 + i) st s.1 ∧ (∀ b, b < j → cL s.1 (93 + i) b = 0) ∧ s.2 = nI j) 7 (fun r => ∃ st', r = some st' ∧ Only (fun a => a = 93 + i) st st' ∧ ∀ b, b < 7 → cL st' (93 + i) b = 0) ?_ ?_ n (by omega) (st, 0) ⟨Only.refl hS, fun b hb => absurd hb (Nat.not_lt_zero b), rfl⟩
  · rintro m j ⟨s, z⟩ hj ⟨h1, h2, h3⟩
    dsimp only at h1 h2 h3 ⊢
    subst h3
    have S := h1.2.2.1
    obtain ⟨s1, w1, o1, k1, k2⟩ := wRow S hi hj 0
    refine ⟨(s1, nI (j + 1)), ⟨h1.trans o1, fun b hb => ?_, rfl⟩, ?_⟩
    · dsimp only
      by_cases q : b = j
      · rw [q, k1]
      · rw [k2 b q, h2 b (by omega)]
    · dsimp only
      rw [F_X1_arrange_L59]
      dsimp only
      simp (disch := omega) only [↓Option.bind_some, ↓reduceIte, ↓bnd (g90_1 S), ↓bnd (r92 S hi), ↓bnd (w1), l6, nLt_f, nI_1]
  · rintro m ⟨s, z⟩ ⟨h1, h2, h3⟩
    dsimp only at h1 h2 h3 ⊢
    subst h3
    refine ⟨s, ?_, h1, h2⟩
    rw [F_X1_arrange_L59]
    dsimp only
    simp (disch := omega) only [l6, nLt_t, ↓reduceIte]
theorem C_arr51 (hS : Sh st) (hn : 3000 ≤ n) : ∃ st', F_X1_arrange_L51 n n st (some 90) (0 : Int32) = some st' ∧ Only FIT st st' ∧ ∀ a b, a < 6 → b < 7 → cL st' (93 + a) b = 0 := by
  refine loop_ex (fun m (s : xS × Int32) => F_X1_arrange_L51 n m s.1 (some 90) s.2) (fun i s => Only FIT st s.1 ∧ (∀ a b, a < i → b < 7 → cL s.1 (93 + a) b = 0) ∧ s.2 = nI i) 6 (fun r => ∃ st', r = some st' ∧ Only FIT st st' ∧ ∀ a b, a < 6 → b < 7 → cL st' (93 + a) b = 0) ?_ ?_ n (by omega) (st, 0) ⟨Only.refl hS, fun a b ha => absurd ha (Nat.not_lt_zero a), rfl⟩
  · rintro m i ⟨s, z⟩ hi ⟨h1, h2, h3⟩
    dsimp only at h1 h2 h3 ⊢
    subst h3
    have S := h1.2.2.1
    obtain ⟨s1, e1, o1, k1⟩ := C_arr59 (n := n) S hi hn
    refine ⟨(s1, nI (i + 1)), ⟨h1.trans (o1.mono fun a h => by unfold FIT; omega), fun a b ha hb => ?_, rfl⟩, ?_⟩
    · dsimp only
      by_cases q : a = i
      · rw [q]; exact k1 b hb
      · rw [oRow o1 q]; exact h2 a b (by omega) hb
    · dsimp only
      rw [F_X1_arrange_L51]
      dsimp only
      simp (disch := omega) only [↓Option.bind_some, ↓reduceIte, ↓bnd (e1), l6, nLe_f, nI_1]
  · rintro m ⟨s, z⟩ ⟨h1, h2, h3⟩
    dsimp only at h1 h2 h3 ⊢
    subst h3
    refine ⟨s, ?_, h1, h2⟩
    rw [F_X1_arrange_L51]
    dsimp only
    simp (disch := omega) only [l6, nLe_t, ↓reduceIte]
theorem C_arrange (hS : Sh st) (T : Nat → Int) (h0 : ∀ s, s < 8 → cI st 91 s = if T s = 0 then -1 else 0) (hn : 3000 ≤ n) : ∃ st', F_X1_arrange n st (some 90) = some (bI (0 < uNn T 8 ∧ uNn T 8 ≤ 6), st') ∧ Only (fun a => 90 ≤ a ∧ a < 99) st st' ∧ (∀ s, s < 8 → cI st' 91 s = if T s = 0 then -1 else nI (uNn T s)) ∧ fI st' 90 2 = nI (uNn T 8) ∧ ∀ a b, a < 6 → b < 7 → cL st' (93 + a) b = 0 := by
  have u := uNn_le T 8
  have p1 := p90_2 hS (0 : Int32)
  have S1 := s90_2 hS (0 : Int32)
  have o1 := Only.uV S1
  obtain ⟨s2, e2, o2, k2, m2⟩ := C_arr7 (n := n) S1 T (fun s hs => by rw [cI_o o1 (by decide)]; exact h0 s hs) (f90_2 hS _) hn
  have S2 := o2.2.2.1
  obtain ⟨s3, e3, o3, k3⟩ := C_arr51 (n := n) S2 hn
  have S3 := o3.2.2.1
  have m3 : fI s3 90 2 = nI (uNn T 8) := by rw [fI_o o3 (by unfold FIT; omega), m2]
  have g3 : gI s3 (some 90) 1 2 = some (nI (uNn T 8)) := by rw [g90_2 S3, m3]
  refine ⟨s3, ?_, ((o1.mono fun a h => by omega).trans (o2.mono fun a h => by omega)).trans (o3.mono fun a h => by unfold FIT at h; omega), fun s hs => by rw [cI_o o3 (by unfold FIT; omega)]; exact k2 s hs, m3, k3⟩
  unfold F_X1_arrange
  simp (disch := omega) only [↓Option.bind_some, ↓bnd (p1), ↓bnd (e2), ↓bnd (e3), ↓bnd (g3), l0, l6, nLe, nLt]
  by_cases c0 : uNn T 8 ≤ 0
  · rw [bI_f (by omega)]
    simp only [c0, if_true, Option.bind_some]
    rfl
  · by_cases c1 : 6 < uNn T 8
    · rw [bI_f (by omega)]
      simp only [c0, c1, if_true, if_false, Option.bind_some]
      rfl
    · rw [bI_t (by omega)]
      simp only [c0, c1, if_false, Option.bind_some]
      rfl
/-- the class's factors -/
theorem C_factor (hS : Sh st) {T : Nat → Int} (hu : ∀ s, s < 8 → cI st 91 s = if T s = 0 then -1 else nI (uNn T s)) {k u : Nat} (h8 : G.nt k 0 < 8) (g8 : G.nt k 1 < 8) (h0 : ¬ T (G.nt k 0) = 0) (g0 : ¬ T (G.nt k 1) = 0) (h6 : u < 8) : F_X1_factor n st (some 90) (nI u) (nI (G.nt k 0)) (nI (G.nt k 1)) = some (zI (fcu T G u k)) := by
  have u1 := uNn_le T (G.nt k 0)
  have u2 := uNn_le T (G.nt k 1)
  have e1 : F_X10_valueAt n st (some 91) (nI (G.nt k 0)) = some (nI (uNn T (G.nt k 0))) := by rw [C_val (c91 hS) h8 (by decide), hu _ h8, if_neg h0]
  have e2 : F_X10_valueAt n st (some 91) (nI (G.nt k 1)) = some (nI (uNn T (G.nt k 1))) := by rw [C_val (c91 hS) g8 (by decide), hu _ g8, if_neg g0]
  have q0 : (nI u = (0 : Int32)) = (u = 0) := nEq (b := 0) (by omega) (by decide)
  unfold F_X1_factor fcu
  simp (disch := omega) only [↓bnd (g90_0 hS), ↓bnd (e1), ↓bnd (e2), q0, nEq]
  by_cases c0 : u = 0
  · rw [if_pos c0, if_pos c0]; rfl
  · by_cases c1 : u = uNn T (G.nt k 0)
    · rw [if_neg c0, if_pos c1, if_neg c0, if_pos c1]; rfl
    · rw [if_neg c0, if_neg c1, if_neg c0, if_neg c1]
      by_cases c2 : u = uNn T (G.nt k 1)
      · rw [if_pos c2, if_pos c2]; rfl
      · rw [if_neg c2, if_neg c2]; rfl
theorem fcu_z {T : Nat → Int} {k u m : Nat} (h8 : G.nt k 0 < 8) (g8 : G.nt k 1 < 8) (h0 : ¬ T (G.nt k 0) = 0) (g0 : ¬ T (G.nt k 1) = 0) (hm : m = uNn T 8) (h1 : 0 < m) (hu : m ≤ u) : fcu T G u k = 0 := by
  have a := uNn_lt h8 h0
  have b := uNn_lt g8 g0
  unfold fcu
  rw [if_neg (by omega), if_neg (by omega), if_neg (by omega)]
/-- one game more: the class -/
theorem C_addF (hS : Sh st) {T : Nat → Int} (hu : ∀ s, s < 8 → cI st 91 s = if T s = 0 then -1 else nI (uNn T s)) {m : Nat} (hm : m = uNn T 8) (hm1 : 0 < m) (hm6 : m ≤ 6) (hf : fI st 90 2 = nI m) {k : Nat} (h8 : G.nt k 0 < 8) (g8 : G.nt k 1 < 8) (h0 : ¬ T (G.nt k 0) = 0) (g0 : ¬ T (G.nt k 1) = 0) (hg : -9 ≤ mg G k ∧ mg G k ≤ 9) (hn : 3000 ≤ n) : ∃ st', F_X1_add n st (some 90) (nI (G.nt k 0)) (nI (G.nt k 1)) (zI (mg G k)) = some st' ∧ Only FIT st st' ∧ ∀ a b, a < 6 → b < 7 → cL st' (93 + a) b = cL st (93 + a) b + lZ (fXu T G a k * fXu T G b k) := by
  have addz : ∀ v : Int64, v + lZ 0 = v := fun v => Int64.add_zero v
  have fz : ∀ u, m ≤ u → fcu T G u k = 0 := fun u h => fcu_z h8 g8 h0 g0 hm hm1 h
  -- one row
  have row : ∀ s i, Only FIT st s → i < m → ∃ s', F_X1_add_L32 n n s (some 90) (nI (G.nt k 0)) (nI (G.nt k 1)) (zI (mg G k)) (nI i) (zI (fcu T G i k)) (0 : Int32) = some s' ∧ Only (fun a => a = 93 + i) s s' ∧ ∀ b, b < 7 → cL s' (93 + i) b = if b < m then cL s (93 + i) b + lZ (fcu T G i k * fcu T G b k) else cL s (93 + i) b := by
    intro s i o hi
    refine loop_ex (fun q (r : xS × Int32) => F_X1_add_L32 n q r.1 (some 90) (nI (G.nt k 0)) (nI (G.nt k 1)) (zI (mg G k)) (nI i) (zI (fcu T G i k)) r.2) (fun j r => Only (fun a => a = 93 + i) s r.1 ∧ (∀ b, b < 7 → cL r.1 (93 + i) b = if b < j then cL s (93 + i) b + lZ (fcu T G i k * fcu T G b k) else cL s (93 + i) b) ∧ r.2 = nI j) m (fun r => ∃ s', r = some s' ∧ Only (fun a => a = 93 + i) s s' ∧ ∀ b, b < 7 → cL s' (93 + i) b = if b < m then cL s (93 + i) b + lZ (fcu T G i k * fcu T G b k) else cL s (93 + i) b) ?_ ?_ n (by omega) (s, 0) ⟨Only.refl o.2.2.1, fun b hb => by rw [if_neg (Nat.not_lt_zero b)], rfl⟩
    · rintro q j ⟨r, z⟩ hj ⟨h1, h2, h3⟩
      dsimp only at h1 h2 h3 ⊢
      subst h3
      have oo : Only FIT st r := o.trans (h1.mono fun a h => by unfold FIT; omega)
      have S := oo.2.2.1
      have hur : ∀ s, s < 8 → cI r 91 s = if T s = 0 then -1 else nI (uNn T s) := fun s hs => by rw [cI_o oo (by unfold FIT; omega)]; exact hu s hs
      have g1 : gI r (some 90) 1 2 = some (nI m) := by rw [g90_2 S, fI_o oo (by unfold FIT; omega), hf]
      have f1 := C_factor (n := n) (u := j) S hur h8 g8 h0 g0 (by omega)
      obtain ⟨r1, w1, o1, k1, k2⟩ := wRow S (i := i) (j := j) (by omega) (by omega) (cL r (93 + i) j + lZ (fcu T G i k * fcu T G j k))
      have b1 := fcu_b T G i k
      have b2 := fcu_b T G j k
      have b3 := mul_b (A := 1) (B := 1) b1 b2
      have e1 : (zI (fcu T G i k) * zI (fcu T G j k)).toInt64 = lZ (fcu T G i k * fcu T G j k) := by rw [zMul, zI_64 (by omega) (by omega)]
      rw [← e1] at w1
      refine ⟨(r1, nI (j + 1)), ⟨h1.trans o1, fun b hb => ?_, rfl⟩, ?_⟩
      · dsimp only
        by_cases qb : b = j
        · rw [qb, k1, h2 j (by omega), if_neg (Nat.lt_irrefl j), if_pos (Nat.lt_succ_self j)]
        · rw [k2 b qb, h2 b hb]
          by_cases q2 : b < j
          · rw [if_pos q2, if_pos (show b < j + 1 by omega)]
          · rw [if_neg q2, if_neg (show ¬ b < j + 1 by omega)]
      · dsimp only
        rw [F_X1_add_L32]
        dsimp only
        simp (disch := omega) only [↓Option.bind_some, ↓reduceIte, ↓bnd (g1), ↓bnd (g90_1 S), ↓bnd (r92 S (show i < 6 by omega)), ↓bnd (rRow S (show i < 6 by omega) (show j < 7 by omega)), ↓bnd (o90 S), ↓bnd (f1), ↓bnd (w1), l6, nLe_f, nI_1]
    · rintro q ⟨r, z⟩ ⟨h1, h2, h3⟩
      dsimp only at h1 h2 h3 ⊢
      subst h3
      have oo : Only FIT st r := o.trans (h1.mono fun a h => by unfold FIT; omega)
      have g1 : gI r (some 90) 1 2 = some (nI m) := by rw [g90_2 oo.2.2.1, fI_o oo (by unfold FIT; omega), hf]
      refine ⟨r, ?_, h1, h2⟩
      rw [F_X1_add_L32]
      dsimp only
      simp (disch := omega) only [↓Option.bind_some, ↓reduceIte, ↓bnd (g1), nLe_t]
  have all : ∃ st', F_X1_add_L3 n n st (some 90) (nI (G.nt k 0)) (nI (G.nt k 1)) (zI (mg G k)) (0 : Int32) = some st' ∧ Only FIT st st' ∧ ∀ a b, a < 6 → b < 7 → cL st' (93 + a) b = if a < m then cL st (93 + a) b + lZ (fXu T G a k * fXu T G b k) else cL st (93 + a) b := by
    refine loop_ex (fun q (r : xS × Int32) => F_X1_add_L3 n q r.1 (some 90) (nI (G.nt k 0)) (nI (G.nt k 1)) (zI (mg G k)) r.2) (fun i r => Only FIT st r.1 ∧ (∀ a b, a < 6 → b < 7 → cL r.1 (93 + a) b = if a < i then cL st (93 + a) b + lZ (fXu T G a k * fXu T G b k) else cL st (93 + a) b) ∧ r.2 = nI i) m (fun r => ∃ st', r = some st' ∧ Only FIT st st' ∧ ∀ a b, a < 6 → b < 7 → cL st' (93 + a) b = if a < m then cL st (93 + a) b + lZ (fXu T G a k * fXu T G b k) else cL st (93 + a) b) ?_ ?_ n (by omega) (st, 0) ⟨Only.refl hS, fun a b ha hb => by rw [if_neg (Nat.not_lt_zero a)], rfl⟩
    · rintro q i ⟨r, z⟩ hi ⟨h1, h2, h3⟩
      dsimp only at h1 h2 h3 ⊢
      subst h3
      have S := h1.2.2.1
      have hur : ∀ s, s < 8 → cI r 91 s = if T s = 0 then -1 else nI (uNn T s) := fun s hs => by rw [cI_o h1 (by unfold FIT; omega)]; exact hu s hs
      have g1 : gI r (some 90) 1 2 = some (nI m) := by rw [g90_2 S, fI_o h1 (by unfold FIT; omega), hf]
      have f1 := C_factor (n := n) (u := i) S hur h8 g8 h0 g0 (by omega)
      obtain ⟨r1, e1, o1, k1⟩ := row r i h1 hi
      have S1 := o1.2.2.1
      obtain ⟨r2, w2, o2, k2, k3⟩ := wRow S1 (i := i) (j := 6) (by omega) (by omega) (cL r1 (93 + i) 6 + lZ (fcu T G i k * mg G k))
      have b1 := fcu_b T G i k
      have b3 := mul_b (A := 1) (B := 9) b1 hg
      have e2 : (zI (fcu T G i k) * zI (mg G k)).toInt64 = lZ (fcu T G i k * mg G k) := by rw [zMul, zI_64 (by omega) (by omega)]
      rw [← e2] at w2
      have rr : aL r1 (some (93 + i)) (6 : Int32) = some (cL r1 (93 + i) 6) := rRow S1 (show i < 6 by omega) (show 6 < 7 by decide)
      have w3 : sL r1 (some (93 + i)) (6 : Int32) (cL r1 (93 + i) 6 + (zI (fcu T G i k) * zI (mg G k)).toInt64) = some r2 := w2
      refine ⟨(r2, nI (i + 1)), ⟨h1.trans ((o1.trans o2).mono fun a h => by unfold FIT; omega), fun a b ha hb => ?_, rfl⟩, ?_⟩
      · dsimp only
        by_cases qa : a = i
        · subst qa
          rw [if_pos (Nat.lt_succ_self a), fXu_b T G ha]
          by_cases qb : b = 6
          · rw [qb, k2, k1 6 (by decide), if_neg (by omega), h2 a 6 ha (by decide), if_neg (Nat.lt_irrefl a), fXu_6]
          · rw [k3 b qb, k1 b hb, h2 a b ha hb, if_neg (Nat.lt_irrefl a), fXu_b T G (show b < 6 by omega)]
            by_cases q2 : b < m
            · rw [if_pos q2]
            · rw [if_neg q2, fz b (by omega), Int.mul_zero, addz]
        · rw [oRow o2 qa, oRow o1 qa, h2 a b ha hb]
          by_cases q2 : a < i
          · rw [if_pos q2, if_pos (show a < i + 1 by omega)]
          · rw [if_neg q2, if_neg (show ¬ a < i + 1 by omega)]
      · dsimp only
        rw [F_X1_add_L3]
        dsimp only
        simp (disch := omega) only [↓Option.bind_some, ↓reduceIte, ↓bnd (g1), ↓bnd (o90 S), ↓bnd (f1), ↓bnd (e1), ↓bnd (g90_1 S1), ↓bnd (r92 S1 (show i < 6 by omega)), ↓bnd (rr), ↓bnd (w3), nLe_f, nI_1, show ((6 : Int32) ≤ nI i) = False from nLe_f (b := i) (a := 6) (by omega) (by decide)]
    · rintro q ⟨r, z⟩ ⟨h1, h2, h3⟩
      dsimp only at h1 h2 h3 ⊢
      subst h3
      have g1 : gI r (some 90) 1 2 = some (nI m) := by rw [g90_2 h1.2.2.1, fI_o h1 (by unfold FIT; omega), hf]
      refine ⟨r, ?_, h1, h2⟩
      rw [F_X1_add_L3]
      dsimp only
      simp (disch := omega) only [↓Option.bind_some, ↓reduceIte, ↓bnd (g1), nLe_t]
  obtain ⟨st', e, o, k⟩ := all
  refine ⟨st', ?_, o, fun a b ha hb => ?_⟩
  · unfold F_X1_add
    simp only [↓bnd (e)]
  · rw [k a b ha hb]
    by_cases q : a < m
    · rw [if_pos q]
    · rw [if_neg q, fXu_b T G ha, fz a (by omega), Int.zero_mul, addz]
end FT

/-! WHAT CHANGES: the class's half and the model's -/
def ImI (I : Im) : Prop := ∀ k g, I k = some g → GhI g
def RelK (st : xS) (G : Gh) (I : Im) : Prop := Sh st ∧ GhI G ∧ ImI I ∧ (∀ j k, j < 3 → k < 3 → j ≠ k → cR st 74 j = cR st 74 k → cR st 74 j = none) ∧ RelC st G I
def RelN (st : xS) (G : Gh) (I : Im) : Prop := Sh st ∧ GhI G ∧ ImI I ∧ RelM st G I
/-- the class changes nothing of the model's -/
def KF (st st' : xS) : Prop := ∀ a, a < 64 ∨ 106 ≤ a → a < 116 → st'.2.2 a = st.2.2 a
def QN : Nat → Prop := fun a => 106 ≤ a ∧ a < 116
section CH
variable {st st1 st2 : xS} {n : Nat} {G G1 : Gh} {I I1 : Im}
theorem Rel.cls (h : Rel st G I) : RelK st G I := ⟨h.1, h.2.1, h.2.2.1, h.2.2.2.1, h.2.2.2.2.1⟩
theorem Rel.mdl (h : Rel st G I) : RelN st G I := ⟨h.1, h.2.1, h.2.2.1, h.2.2.2.2.2⟩
theorem RelK.and (h : RelK st G I) (k : RelN st G I) : Rel st G I := ⟨h.1, h.2.1, h.2.2.1, h.2.2.2.1, h.2.2.2.2, k.2.2.2⟩
theorem KF.of {S : Nat → Prop} (o : Only S st st1) (hS : ∀ a, S a → 64 ≤ a ∧ a < 106) : KF st st1 := fun a h1 _ => o.2.2.2 a fun q => by have := hS a q; omega
theorem KF.trans (h : KF st st1) (k : KF st1 st2) : KF st st2 := fun a h1 h2 => (k a h1 h2).trans (h a h1 h2)
theorem RelN.kf (h : RelN st G I) (k : KF st st1) (hS : Sh st1) : RelN st1 G I := ⟨hS, h.2.1, h.2.2.1, h.2.2.2.only (cI_c (k 107 (by decide) (by decide))) (cI_c (k 108 (by decide) (by decide))) (fI_c (k 106 (by decide) (by decide)) 15)⟩
theorem RelK.nf (h : RelK st G I) (o : Only QN st st1) : RelK st1 G I := by
  obtain ⟨h1, h2, h3, h4, h5⟩ := h
  refine ⟨o.2.2.1, h2, h3, ?_, h5.only o fun a q => by unfold QN at q; omega⟩
  rw [cR_o o (by unfold QN; omega)]
  exact h4
theorem RelN.mod (h : RelN st G I) : ModB (cI st 107) G := h.2.2.2.1
/-- the model's base is another, its images stay -/
theorem RelN.base (h : RelN st G I) (o : Only QN st st1) (hI : GhI G1) (hM : ModB (cI st1 107) G1) (h15 : fI st1 106 15 = -1) (h8 : cI st1 108 = cI st 108) (hi : ∀ i, 2562 ≤ i → cI st1 107 i = cI st 107 i) : RelN st1 G1 I := by
  refine ⟨o.2.2.1, hI, h.2.2.1, hM, h15, fun k hk => ?_⟩
  have h0 := h.2.2.2.2.2 k hk
  rw [h8]
  refine ⟨h0.1, fun g hg => ⟨(h0.2 g hg).1, ?_⟩⟩
  have e : (fun i => cI st1 107 (2562 * (k + 1) + i)) = fun i => cI st 107 (2562 * (k + 1) + i) := by
    funext i
    exact hi _ (by omega)
  rw [e]
  exact (h0.2 g hg).2
/-- what is told now is another, the images stay -/
theorem RelK.base (h : RelK st G I) (o : Only (fun a => 65 ≤ a ∧ a < 106 ∧ a ≠ 74) st st1) (hI : GhI G1) (hT : TolR st1 65 G1) : RelK st1 G1 I := by
  obtain ⟨h1, h2, h3, h4, h5⟩ := h
  refine ⟨o.2.2.1, hI, h3, ?_, hT, fun k hk => ?_⟩
  · rw [cR_o o (by omega)]
    exact h4
  · rw [cR_o o (by omega)]
    refine ⟨(h5.2 k hk).1, fun g hg => ?_⟩
    obtain ⟨t, e1, e2, e3⟩ := (h5.2 k hk).2 g hg
    have h116 := e2.2.2.2.2.2.2.2.2.2.1
    exact ⟨t, e1, e2.only o (by omega), e3.only o (by omega) fun i hi q => by omega⟩
theorem C_setAt {a N k : Nat} {f : Nat → Int32} (h : st.2.2 a = .inl (0, N, .inl f)) (hk : k < N) (hN : N < 2147483648) (v : Int32) : F_X10_setAt n st (some a) (nI k) v = some (wA st a (upd f k v)) := by
  have e1 : aN st (some a) = some (nI N) := aN_of h (by decide)
  have e2 : sS 0 st (some a) (nI k) v = some (wA st a (upd f k v)) := by rw [sS_of h, if_pos (ixT hk (by omega)), nIc (by omega)]
  unfold F_X10_setAt
  rw [if_neg (nI_pos (by omega))]
  simp (disch := omega) only [↓bnd (e1), nLe_f, if_false, ↓bnd (e2), Option.bind_some]
/-- films: what is told -/
def setF (G : Gh) (i m g : Nat) : Gh := (G.cn, G.tl, G.fl, G.pl, G.tp, G.L, G.W, G.P, G.nt, (fun q => if q = i then m else G.fm q), (fun q => if q = i then g else G.fg q))
theorem setF_I (hI : GhI G) {i m g : Nat} (hm : m ≤ 30) (hg : g ≤ m) : GhI (setF G i m g) := by
  obtain ⟨h1, h2, h3, h4, h5, h6, h7, h8, h9, h10, h11, h12⟩ := hI
  refine ⟨h1, h2, h3, h4, h5, h6, h7, h8, h9, h10, h11, fun q hq => ?_⟩
  show (if q = i then m else G.fm q) ≤ 30 ∧ (if q = i then g else G.fg q) ≤ (if q = i then m else G.fm q)
  by_cases h : q = i
  · simp only [h, if_true]; exact ⟨hm, hg⟩
  · simp only [h, if_false]; exact h12 q hq
theorem TolR.fm (hT : TolR st 65 G) (o : Only (fun a => a = 71 ∨ a = 72) st st1) {i m g : Nat} (h71 : cI st1 71 = upd (cI st 71) i (nI m)) (h72 : cI st1 72 = upd (cI st 72) i (nI g)) : TolR st1 65 (setF G i m g) := by
  have hS : ∀ a, a = 71 ∨ a = 72 → a < 116 := fun a h => by omega
  obtain ⟨h1, h2, h3, h4, h5, h6, h7, h8, h9, h10, h11⟩ := hT
  refine ⟨fun k hk => ?_, fun k hk => ?_, fun k hk => ?_, ?_, ?_, ?_, ?_, ?_, ?_, ?_, ?_⟩
  · rw [cR_o o (by omega)]
    refine ⟨fun q => ?_, (h1 k hk).2⟩
    obtain ⟨a, e1, e2⟩ := (h1 k hk).1 q
    exact ⟨a, e1, e2.only o hS⟩
  · rw [cR_o o (by omega)]
    refine ⟨fun q => ?_, (h2 k hk).2⟩
    obtain ⟨a, e1, e2⟩ := (h2 k hk).1 q
    exact ⟨a, e1, e2.only o hS⟩
  · rw [cR_o o (by omega)]
    refine ⟨fun q => ?_, (h3 k hk).2⟩
    obtain ⟨a, e1, e2⟩ := (h3 k hk).1 q
    exact ⟨a, e1, e2.only o hS⟩
  · rw [cI_o o (by omega)]; exact h4
  · rw [cI_o o (by omega)]; exact h5
  · intro q hq
    show cI st1 71 q = nI (if q = i then m else G.fm q)
    rw [h71]
    by_cases h : q = i
    · rw [if_pos h, h, upd_s]
    · rw [if_neg h, pk_un h]; exact h6 q hq
  · intro q hq
    show cI st1 72 q = nI (if q = i then g else G.fg q)
    rw [h72]
    by_cases h : q = i
    · rw [if_pos h, h, upd_s]
    · rw [if_neg h, pk_un h]; exact h7 q hq
  · rw [cI_o o (by omega)]; exact h8
  · rw [fI_o o (by omega)]; exact h9
  · rw [fI_o o (by omega)]; exact h10
  · rw [fI_o o (by omega)]; exact h11
theorem ModB.fm {B B1 : Nat → Int32} (hM : ModB B G) {i m g : Nat} (hi : i < 16) (h0 : B1 (2530 + 2 * i) = nI m) (h1 : B1 (2530 + 2 * i + 1) = nI g) (ho : ∀ q, q ≠ 2530 + 2 * i → q ≠ 2530 + 2 * i + 1 → B1 q = B q) (hI : GhI G) : ModB B1 (setF G i m g) := by
  have b0 := hI.1
  have b1 := hI.2.1
  have b2 := hI.2.2.1
  have b3 := hI.2.2.2.1
  obtain ⟨m1, m2, m3, m4, m5, m6, m7, m8, m9, m10⟩ := hM
  have o : ∀ q, q < 2530 → B1 q = B q := fun q hq => ho q (by omega) (by omega)
  refine ⟨fun w hw => (o w (by omega)).trans (m1 w hw), (o 4 (by omega)).trans m2, (o 5 (by omega)).trans m3, (o 6 (by omega)).trans m4, fun q hq => (o _ (by omega)).trans (m5 q hq), fun k hk => ?_, fun k hk => ?_, fun k hk => ?_, fun k w hk hw => ?_, fun j hj => ?_⟩
  · have hk : k < G.cn 0 := hk
    obtain ⟨g1, g2, g3, g4, g5, g6, g7, g8⟩ := m6 k hk
    exact ⟨(o _ (by omega)).trans g1, (o _ (by omega)).trans g2, fun x hx => (o _ (by omega)).trans (g3 x hx), fun x hx => (o _ (by omega)).trans (g4 x hx), fun x hx => (o _ (by omega)).trans (g5 x hx), fun x hx => (o _ (by omega)).trans (g6 x hx), fun x hx => (o _ (by omega)).trans (g7 x hx), fun x y hx hy => (o _ (by omega)).trans (g8 x y hx hy)⟩
  · have hk : k < G.cn 1 := hk
    obtain ⟨g1, g2, g3⟩ := m7 k hk
    exact ⟨(o _ (by omega)).trans g1, fun x hx => (o _ (by omega)).trans (g2 x hx), fun x hx => (o _ (by omega)).trans (g3 x hx)⟩
  · have hk : k < G.cn 2 := hk
    obtain ⟨g1, g2, g3⟩ := m8 k hk
    have c2 := (hI.pp hk).1
    exact ⟨(o _ (by omega)).trans g1, fun x w hx hw => by
      have hx : x < (G.P k).n := hx
      exact (o _ (by omega)).trans (g2 x w hx hw), fun x hx => by
      have hx : x < (G.P k).n := hx
      exact (o _ (by omega)).trans (g3 x hx)⟩
  · have hk : k < G.cn 3 := hk
    exact (o _ (by omega)).trans (m9 k w hk hw)
  · obtain ⟨d1, d2, d3, d4⟩ := m10 j hj
    show _ = nI (if 2 * j = i then m else G.fm (2 * j)) ∧ _ = nI (if 2 * j = i then g else G.fg (2 * j)) ∧ _ = nI (if 2 * j + 1 = i then m else G.fm (2 * j + 1)) ∧ _ = nI (if 2 * j + 1 = i then g else G.fg (2 * j + 1))
    by_cases e0 : 2 * j = i
    · rw [if_pos e0, if_pos e0, if_neg (by omega), if_neg (by omega)]
      exact ⟨by rw [← h0, ← e0]; congr 1; omega, by rw [← h1, ← e0]; congr 1; omega, (ho _ (by omega) (by omega)).trans d3, (ho _ (by omega) (by omega)).trans d4⟩
    · rw [if_neg e0, if_neg e0]
      by_cases e1 : 2 * j + 1 = i
      · rw [if_pos e1, if_pos e1]
        exact ⟨(ho _ (by omega) (by omega)).trans d1, (ho _ (by omega) (by omega)).trans d2, by rw [← h0, ← e1]; congr 1; omega, by rw [← h1, ← e1]; congr 1; omega⟩
      · rw [if_neg e1, if_neg e1]
        exact ⟨(ho _ (by omega) (by omega)).trans d1, (ho _ (by omega) (by omega)).trans d2, (ho _ (by omega) (by omega)).trans d3, (ho _ (by omega) (by omega)).trans d4⟩
/-- the form of what changes: v: the answer, c cells and s slots made at most -/
def Chg (C : xS → Option (Int32 × xS)) (M : xS → Option (Int32 × xS)) (st : xS) (G : Gh) (I : Im) (c s : Nat) : Prop := ∃ v st' G' I', C st = some (v, st') ∧ RelK st' G' I' ∧ KF st st' ∧ st.1 ≤ st'.1 ∧ st'.1 ≤ st.1 + c ∧ st'.2.1 ≤ st.2.1 + s ∧ ∀ st2, RelN st2 G I → ∃ st3, M st2 = some (v, st3) ∧ RelN st3 G' I' ∧ Only QN st2 st3
theorem Chg.none {C M : xS → Option (Int32 × xS)} (hR : Rel st G I) {v : Int32} (h1 : C st = some (v, st)) (h2 : ∀ st2, RelN st2 G I → M st2 = some (v, st2)) : Chg C M st G I 0 0 :=
  ⟨v, st, G, I, h1, hR.cls, fun _ _ _ => rfl, Nat.le_refl _, Nat.le_refl _, Nat.le_refl _, fun st2 r => ⟨st2, h2 st2 r, r, Only.refl r.1⟩⟩
theorem E_films (hR : Rel st G I) (j u a b : Int32) : Chg (fun st => F_X10_films n st (some 64) j u a b) (fun st => F_X11_films n st (some 106) j u a b) st G I 0 0 := by
  have hS := hR.sh
  have hT := hR.tol
  rcases nCut j 8 with ⟨j, hj, rfl⟩ | hj
  · have xj : ∀ st2, F_X11_isIn n st2 (nI j) (0 : Int32) (7 : Int32) = some 1 := fun st2 => M_in_t (j := j) (b := 7) (by omega) (by decide)
    rcases nCut a 31 with ⟨a, ha, rfl⟩ | ha
    · have xa : ∀ st2, F_X11_isIn n st2 (nI a) (0 : Int32) (30 : Int32) = some 1 := fun st2 => M_in_t (j := a) (b := 30) (by omega) (by decide)
      have xac : ∀ st2, F_X10_within n st2 (nI a) (0 : Int32) (30 : Int32) = some 1 := fun st2 => C_in_t (j := a) (b := 30) (by omega) (by decide)
      rcases nCut b (a + 1) with ⟨b, hb, rfl⟩ | hb
      · have xb : ∀ st2, F_X11_isIn n st2 (nI b) (0 : Int32) (nI a) = some 1 := fun st2 => M_in_t (j := b) (b := a) (by omega) (by omega)
        have xbc : ∀ st2, F_X10_within n st2 (nI b) (0 : Int32) (nI a) = some 1 := fun st2 => C_in_t (j := b) (b := a) (by omega) (by omega)
        obtain ⟨i, hi, e1, e2, e3⟩ : ∃ i, i < 16 ∧ (∀ st2, F_X9_filmOf n st2 (some 65) (nI j) u = some (nI i)) ∧ (((if u = (0 : Int32) then some (0 : Int32) else some (2 : Int32)) : Option Int32).bind fun q => some (((2530 : Int32) + ((4 : Int32) * nI j)) + q)) = some (nI (2530 + 2 * i)) ∧ (((if u = (0 : Int32) then some (1 : Int32) else some (3 : Int32)) : Option Int32).bind fun q => some (((2530 : Int32) + ((4 : Int32) * nI j)) + q)) = some (nI (2530 + 2 * i + 1)) := by
          by_cases hu : u = 0
          · refine ⟨2 * j, by omega, fun st2 => ?_, ?_, ?_⟩
            · unfold F_X9_filmOf
              simp only [hu, if_true, Option.bind_some, l2, nMul, show nI (2 * j) + (0 : Int32) = nI (2 * j) from nAdd _ 0]
            · rw [if_pos hu, Option.bind_some]
              simp only [l0, l1, l2, l3, l4, l5, l6, l7, l8, l9, l10, l11, l12, l13, l14, l15, l16, l17, l18, l19, l20, l21, l22, l23, l24, l25, l26, l27, l28, l29, l30, l31, l32, l33, l34, l35, l36, l37, l38, l39, l40, l41, l42, l43, l44, l45, l46, l47, l48, l49, l50, l51, l52, l53, l54, l55, l56, l57, l58, l59, l60, l65, l90, l96, l97, l99, l100, l101, l122, l150, l242, l255, l499, l500, l510, l800, l960, l999, l1000, l1002, l1730, l2530, l2562, l9999, l10250, l32768, l1000000, nMul, nAdd, nNegN]
              exact congrArg (fun z => some (nI z)) (by omega)
            · rw [if_pos hu, Option.bind_some]
              simp only [l0, l1, l2, l3, l4, l5, l6, l7, l8, l9, l10, l11, l12, l13, l14, l15, l16, l17, l18, l19, l20, l21, l22, l23, l24, l25, l26, l27, l28, l29, l30, l31, l32, l33, l34, l35, l36, l37, l38, l39, l40, l41, l42, l43, l44, l45, l46, l47, l48, l49, l50, l51, l52, l53, l54, l55, l56, l57, l58, l59, l60, l65, l90, l96, l97, l99, l100, l101, l122, l150, l242, l255, l499, l500, l510, l800, l960, l999, l1000, l1002, l1730, l2530, l2562, l9999, l10250, l32768, l1000000, nMul, nAdd, nNegN]
              exact congrArg (fun z => some (nI z)) (by omega)
          · refine ⟨2 * j + 1, by omega, fun st2 => ?_, ?_, ?_⟩
            · unfold F_X9_filmOf
              simp only [hu, if_false, Option.bind_some, l2, nMul, nI_1]
            · rw [if_neg hu, Option.bind_some]
              simp only [l0, l1, l2, l3, l4, l5, l6, l7, l8, l9, l10, l11, l12, l13, l14, l15, l16, l17, l18, l19, l20, l21, l22, l23, l24, l25, l26, l27, l28, l29, l30, l31, l32, l33, l34, l35, l36, l37, l38, l39, l40, l41, l42, l43, l44, l45, l46, l47, l48, l49, l50, l51, l52, l53, l54, l55, l56, l57, l58, l59, l60, l65, l90, l96, l97, l99, l100, l101, l122, l150, l242, l255, l499, l500, l510, l800, l960, l999, l1000, l1002, l1730, l2530, l2562, l9999, l10250, l32768, l1000000, nMul, nAdd, nNegN]
              exact congrArg (fun z => some (nI z)) (by omega)
            · rw [if_neg hu, Option.bind_some]
              simp only [l0, l1, l2, l3, l4, l5, l6, l7, l8, l9, l10, l11, l12, l13, l14, l15, l16, l17, l18, l19, l20, l21, l22, l23, l24, l25, l26, l27, l28, l29, l30, l31, l32, l33, l34, l35, l36, l37, l38, l39, l40, l41, l42, l43, l44, l45, l46, l47, l48, l49, l50, l51, l52, l53, l54, l55, l56, l57, l58, l59, l60, l65, l90, l96, l97, l99, l100, l101, l122, l150, l242, l255, l499, l500, l510, l800, l960, l999, l1000, l1002, l1730, l2530, l2562, l9999, l10250, l32768, l1000000, nMul, nAdd, nNegN]
              exact congrArg (fun z => some (nI z)) (by omega)
        have c1 := C_setAt (n := n) (c71 hS) hi (by decide) (nI a)
        have o1 : Only (fun a => a = 71 ∨ a = 72) st (wA st 71 (upd (cI st 71) i (nI a))) := (Only.wA hS 71 _).mono fun a h => Or.inl h
        have k1 := cI_s (c71 hS) (upd (cI st 71) i (nI a))
        have k12 : cI (wA st 71 (upd (cI st 71) i (nI a))) 72 = cI st 72 := cI_c (wA_n (by decide) _ _)
        generalize wA st 71 (upd (cI st 71) i (nI a)) = s1 at *
        have S1 := o1.2.2.1
        have c2 := C_setAt (n := n) (c72 S1) hi (by decide) (nI b)
        have o2 : Only (fun a => a = 71 ∨ a = 72) s1 (wA s1 72 (upd (cI s1 72) i (nI b))) := (Only.wA S1 72 _).mono fun a h => Or.inr h
        have k2 := cI_s (c72 S1) (upd (cI s1 72) i (nI b))
        have k21 : cI (wA s1 72 (upd (cI s1 72) i (nI b))) 71 = cI s1 71 := cI_c (wA_n (by decide) _ _)
        generalize wA s1 72 (upd (cI s1 72) i (nI b)) = s2 at *
        have o := o1.trans o2
        have gI := setF_I (i := i) hR.inv (m := a) (g := b) (by omega) (by omega)
        refine ⟨1, s2, setF G i a b, I, ?_, hR.cls.base (o.mono fun a h => by omega) gI (hT.fm o (k21.trans k1) (by rw [k2, k12])), KF.of o (by omega), Nat.le_of_eq o.1.symm, Nat.le_of_eq o.1, Nat.le_of_eq o.2.1, fun st2 r2 => ?_⟩
        · dsimp only
          unfold F_X10_films F_X9_setFilms
          simp only [↓Option.bind_some, ↓reduceIte, ↓bnd (C_isJudge_t hj), ↓bnd (xac st), ↓bnd (xbc st), ↓bnd (g64_0 hS), ↓bnd (o65 hS), ↓bnd (g65_5 hS), ↓bnd (e1 st), ↓bnd (c1), ↓bnd (g65_6 S1), ↓bnd (o65 S1), ↓bnd (e1 s1), ↓bnd (c2), i10, rz1]
        · have S2 := r2.1
          have w1 : sS 0 st2 (some 107) (nI (2530 + 2 * i)) (nI a) = some (wA st2 107 (upd (cI st2 107) (2530 + 2 * i) (nI a))) := by rw [w107 S2, if_pos (ixT (by omega) (by decide)), nIc (by omega)]
          have p1 := Only.wA S2 107 (upd (cI st2 107) (2530 + 2 * i) (nI a))
          have j1 := k107 S2 (upd (cI st2 107) (2530 + 2 * i) (nI a))
          generalize wA st2 107 (upd (cI st2 107) (2530 + 2 * i) (nI a)) = s3 at *
          have S3 := p1.2.2.1
          have w2 : sS 0 s3 (some 107) (nI (2530 + 2 * i + 1)) (nI b) = some (wA s3 107 (upd (cI s3 107) (2530 + 2 * i + 1) (nI b))) := by rw [w107 S3, if_pos (ixT (by omega) (by decide)), nIc (by omega)]
          have p2 := Only.wA S3 107 (upd (cI s3 107) (2530 + 2 * i + 1) (nI b))
          have j2 := k107 S3 (upd (cI s3 107) (2530 + 2 * i + 1) (nI b))
          generalize wA s3 107 (upd (cI s3 107) (2530 + 2 * i + 1) (nI b)) = s4 at *
          have p := p1.trans p2
          have q : Only QN st2 s4 := p.mono fun a h => by unfold QN; omega
          refine ⟨s4, ?_, r2.base q gI (r2.mod.fm hi ?_ ?_ ?_ r2.2.1) ((fI_o p (by decide) 15).trans r2.2.2.2.2.1) (cI_o p (by decide)) ?_, q⟩
          · dsimp only
            unfold F_X11_films
            have e2 : ∀ {β : Type} (f : Int32 → Option β), (((if u = (0 : Int32) then some (0 : Int32) else some (2 : Int32)) : Option Int32).bind fun q => f (((2530 : Int32) + ((4 : Int32) * nI j)) + q)) = f (nI (2530 + 2 * i)) := fun f => by
              have := congrArg (fun o => Option.bind o f) e2
              simpa only [Option.bind_assoc, Option.bind_some] using this
            have e3 : ∀ {β : Type} (f : Int32 → Option β), (((if u = (0 : Int32) then some (1 : Int32) else some (3 : Int32)) : Option Int32).bind fun q => f (((2530 : Int32) + ((4 : Int32) * nI j)) + q)) = f (nI (2530 + 2 * i + 1)) := fun f => by
              have := congrArg (fun o => Option.bind o f) e3
              simpa only [Option.bind_assoc, Option.bind_some] using this
            simp only [↓Option.bind_some, ↓reduceIte, ↓bnd (xj st2), ↓bnd (xa st2), ↓bnd (xb st2), ↓bnd (g106_0 S2), i10]
            rw [e2 (fun q => (sS 0 st2 (some 107) q (nI a)).bind _)]
            simp only [↓bnd (w1), ↓bnd (g106_0 S3)]
            rw [e3 (fun q => (sS 0 s3 (some 107) q (nI b)).bind _)]
            simp only [↓bnd (w2), rz1, Option.bind_some]
          · rw [j2, pk_un (by omega), j1, upd_s]
          · rw [j2, upd_s]
          · intro q h1 h2
            rw [j2, pk_un h2, j1, pk_un h1]
          · intro q hq
            rw [j2, pk_un (by omega), j1, pk_un (by omega)]
      · refine Chg.none hR (v := 0) ?_ fun st2 r2 => ?_
        · have xbc : F_X10_within n st b (0 : Int32) (nI a) = some 0 := C_in_f (b := a) hb (by omega)
          unfold F_X10_films
          simp only [↓Option.bind_some, ↓reduceIte, ↓bnd (C_isJudge_t hj), ↓bnd (xac st), ↓bnd (xbc), i10, rz0]
        · have xb : F_X11_isIn n st2 b (0 : Int32) (nI a) = some 0 := M_in_f (b := a) hb (by omega)
          unfold F_X11_films
          simp only [↓Option.bind_some, ↓reduceIte, ↓bnd (xj st2), ↓bnd (xa st2), ↓bnd (xb), i10, rz0]
    · refine Chg.none hR (v := 0) ?_ fun st2 r2 => ?_
      · have xac : F_X10_within n st a (0 : Int32) (30 : Int32) = some 0 := C_in_f (b := 30) ha (by omega)
        unfold F_X10_films
        simp only [↓Option.bind_some, ↓reduceIte, ↓bnd (C_isJudge_t hj), ↓bnd (xac), i10, rz0]
      · have xa : F_X11_isIn n st2 a (0 : Int32) (30 : Int32) = some 0 := M_in_f (b := 30) ha (by omega)
        unfold F_X11_films
        simp only [↓Option.bind_some, ↓reduceIte, ↓bnd (xj st2), ↓bnd (xa), i10, rz0]
  · refine Chg.none hR (v := 0) ?_ fun st2 r2 => ?_
    · unfold F_X10_films
      simp only [↓Option.bind_some, ↓reduceIte, ↓bnd (C_isJudge_f hj), rz0]
    · have xj : F_X11_isIn n st2 j (0 : Int32) (7 : Int32) = some 0 := M_in_f (b := 7) hj (by omega)
      unfold F_X11_films
      simp only [↓Option.bind_some, ↓reduceIte, ↓bnd (xj), rz0]
end CH

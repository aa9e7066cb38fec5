/-! FRAMES: which cells a method changes -/
def Only (S : Nat → Prop) (st st' : xS) : Prop := st'.1 = st.1 ∧ st'.2.1 = st.2.1 ∧ Sh st' ∧ ∀ a, ¬ S a → st'.2.2 a = st.2.2 a
section FR
variable {st st1 st2 : xS} {S T : Nat → Prop} {n : Nat} {G : Gh} {I : Im}
theorem Only.refl (h : Sh st) : Only S st st := ⟨rfl, rfl, h, fun _ _ => rfl⟩
theorem Only.trans (h : Only S st st1) (k : Only S st1 st2) : Only S st st2 := ⟨k.1.trans h.1, k.2.1.trans h.2.1, k.2.2.1, fun a ha => (k.2.2.2 a ha).trans (h.2.2.2 a ha)⟩
theorem Only.mono (h : Only S st st1) (k : ∀ a, S a → T a) : Only T st st1 := ⟨h.1, h.2.1, h.2.2.1, fun a ha => h.2.2.2 a (fun q => ha (k a q))⟩
theorem Only.wA (hS : Sh st) (a : Nat) (f : Nat → Int32) : Only (fun x => x = a) st (wA st a f) := ⟨(wA_1 st a f).1, (wA_1 st a f).2, shw_A hS a f, fun b hb => wA_n hb st f⟩
theorem Only.wL (hS : Sh st) (a : Nat) (f : Nat → Int64) : Only (fun x => x = a) st (wL st a f) := ⟨(wL_1 st a f).1, (wL_1 st a f).2, shw_L hS a f, fun b hb => wL_n hb st f⟩
theorem Only.wR (hS : Sh st) (a : Nat) (h92 : a ≠ 92) (f : Nat → Option Nat) : Only (fun x => x = a) st (wR st a f) := ⟨(wR_1 st a f).1, (wR_1 st a f).2, shw_R hS a f h92, fun b hb => wR_n hb st f⟩
theorem Only.uV {a k : Nat} {v : Value} (hS : Sh (uV st a k v)) : Only (fun x => x = a) st (uV st a k v) := ⟨(uV_1 st a k v).1, (uV_1 st a k v).2, hS, fun b hb => uV_n hb st k v⟩
theorem Only.dk (h : Only S st st1) (hS : ∀ a, S a → a < 116) {a : Nat} (ha : dyn st a) : dyn st1 a ∧ st1.2.2 a = st.2.2 a := by
  unfold dyn at *
  exact ⟨by rw [h.1]; exact ha, h.2.2.2 a (fun q => by have := hS a q; omega)⟩
theorem LgR.only {a : Nat} {D : LgD} (hL : LgR st a D) (h : Only S st st1) (hS : ∀ a, S a → a < 116) : LgR st1 a D := by
  obtain ⟨r, q, f, g, h1, h2, h3, h4, h5, h6, h7, h8⟩ := hL
  exact ⟨r, q, f, g, by rw [(h.dk hS h6).2, h1], by rw [(h.dk hS h7).2, h2], by rw [(h.dk hS h8).2, h3], h4, h5, (h.dk hS h6).1, (h.dk hS h7).1, (h.dk hS h8).1⟩
theorem LwR.only {a : Nat} {D : LwD} (hL : LwR st a D) (h : Only S st st1) (hS : ∀ a, S a → a < 116) : LwR st1 a D := by
  obtain ⟨r, f, h1, h2, h3, h4, h5⟩ := hL
  exact ⟨r, f, by rw [(h.dk hS h4).2, h1], by rw [(h.dk hS h5).2, h2], h3, (h.dk hS h4).1, (h.dk hS h5).1⟩
theorem PlR.only {a : Nat} {D : PlD} (hL : PlR st a D) (h : Only S st st1) (hS : ∀ a, S a → a < 116) : PlR st1 a D := by
  obtain ⟨r, f, x1, x2, x3, x4, h1, h2, h3, h4, h5, h6⟩ := hL
  exact ⟨r, f, x1, x2, x3, x4, by rw [(h.dk hS h5).2, h1], by rw [(h.dk hS h6).2, h2], h3, h4, (h.dk hS h5).1, (h.dk hS h6).1⟩
theorem cI_o (h : Only S st st1) {a : Nat} (ha : ¬ S a) : cI st1 a = cI st a := cI_c (h.2.2.2 a ha)
theorem cL_o (h : Only S st st1) {a : Nat} (ha : ¬ S a) : cL st1 a = cL st a := cL_c (h.2.2.2 a ha)
theorem cR_o (h : Only S st st1) {a : Nat} (ha : ¬ S a) : cR st1 a = cR st a := cR_c (h.2.2.2 a ha)
theorem fI_o (h : Only S st st1) {a : Nat} (ha : ¬ S a) (k : Nat) : fI st1 a k = fI st a k := fI_c (h.2.2.2 a ha) k
theorem fR_o (h : Only S st st1) {a : Nat} (ha : ¬ S a) (k : Nat) : fR st1 a k = fR st a k := fR_c (h.2.2.2 a ha) k
theorem fL_o (h : Only S st st1) {a : Nat} (ha : ¬ S a) (k : Nat) : fL st1 a k = fL st a k := fL_c (h.2.2.2 a ha) k
/-- what is told at t stays if neither its cells nor the leagues', laws', plans' change -/
theorem TolR.only {t : Nat} (hT : TolR st t G) (h : Only S st st1) (hS : ∀ a, S a → a < 116) (ht : ∀ i, i < 9 → ¬ S (t + i)) : TolR st1 t G := by
  obtain ⟨h1, h2, h3, h4, h5, h6, h7, h8, h9, h10, h11⟩ := hT
  have ht0 : ¬ S t := ht 0 (by omega)
  refine ⟨fun k hk => ?_, fun k hk => ?_, fun k hk => ?_, ?_, ?_, ?_, ?_, ?_, ?_, ?_, ?_⟩
  · rw [cR_o h (ht 1 (by omega))]
    refine ⟨fun q => ?_, (h1 k hk).2⟩
    obtain ⟨a, e1, e2⟩ := (h1 k hk).1 q
    exact ⟨a, e1, e2.only h hS⟩
  · rw [cR_o h (ht 2 (by omega))]
    refine ⟨fun q => ?_, (h2 k hk).2⟩
    obtain ⟨a, e1, e2⟩ := (h2 k hk).1 q
    exact ⟨a, e1, e2.only h hS⟩
  · rw [cR_o h (ht 3 (by omega))]
    refine ⟨fun q => ?_, (h3 k hk).2⟩
    obtain ⟨a, e1, e2⟩ := (h3 k hk).1 q
    exact ⟨a, e1, e2.only h hS⟩
  · rw [cI_o h (ht 4 (by omega))]
    exact h4
  · rw [cI_o h (ht 5 (by omega))]
    exact h5
  · rw [cI_o h (ht 6 (by omega))]
    exact h6
  · rw [cI_o h (ht 7 (by omega))]
    exact h7
  · rw [cI_o h (ht 8 (by omega))]
    exact h8
  · rw [fI_o h ht0]
    exact h9
  · rw [fI_o h ht0]
    exact h10
  · rw [fI_o h ht0]
    exact h11
theorem TolS.only {t : Nat} (hT : TolS st t) (h : Only S st st1) (hS : ∀ a, S a → a < 116) : TolS st1 t := by
  obtain ⟨h1, h2, h3, h4, h5, h6, h7, h8, h9, h10, h11⟩ := hT
  have e : ∀ i, i < 9 → st1.2.2 (t + i) = st.2.2 (t + i) := fun i hi => h.2.2.2 _ (fun q => by have := hS _ q; omega)
  unfold TolS
  rw [show st1.2.2 t = st.2.2 t from e 0 (by omega), e 1 (by omega), e 2 (by omega), e 3 (by omega), e 4 (by omega), e 5 (by omega), e 6 (by omega), e 7 (by omega), e 8 (by omega), h.1]
  exact ⟨h1, h2, h3, h4, h5, h6, h7, h8, h9, h10, h11⟩
theorem RelC.only (hR : RelC st G I) (h : Only S st st1) (hS : ∀ a, S a → 75 ≤ a ∧ a < 116) : RelC st1 G I := by
  have hS2 : ∀ a, S a → a < 116 := fun a q => (hS a q).2
  refine ⟨hR.1.only h hS2 (fun i hi q => by have := hS _ q; omega), fun k hk => ?_⟩
  rw [cR_o h (fun q => by have := hS _ q; omega)]
  refine ⟨(hR.2 k hk).1, fun g hg => ?_⟩
  obtain ⟨t, e1, e2, e3⟩ := (hR.2 k hk).2 g hg
  refine ⟨t, e1, e2.only h hS2, e3.only h hS2 (fun i hi q => ?_)⟩
  have h1 := hS2 _ q
  have h2 := e2.2.2.2.2.2.2.2.2.2.1
  omega
theorem RelM.only (hR : RelM st G I) (h7 : cI st1 107 = cI st 107) (h8 : cI st1 108 = cI st 108) (h6 : fI st1 106 15 = fI st 106 15) : RelM st1 G I := by
  unfold RelM
  rw [h7, h8, h6]
  exact hR
/-- a question changes only what is worked with: QC: of the class; QM: of the model -/
def QC : Nat → Prop := fun a => 75 ≤ a ∧ a < 106
def QM : Nat → Prop := fun a => a = 106 ∨ 109 ≤ a ∧ a < 116
theorem Rel.qc (hR : Rel st G I) (h : Only QC st st1) : Rel st1 G I := by
  obtain ⟨r1, r2, r3, r4, r5, r6⟩ := hR
  refine ⟨h.2.2.1, r2, r3, ?_, r5.only h (fun a q => by unfold QC at q; omega), r6.only (cI_o h (by unfold QC; omega)) (cI_o h (by unfold QC; omega)) (fI_o h (by unfold QC; omega) _)⟩
  rw [cR_o h (by unfold QC; omega)]
  exact r4
theorem Rel.qm (hR : Rel st G I) (h : Only QM st st1) (h6 : fI st1 106 15 = -1) : Rel st1 G I := by
  obtain ⟨r1, r2, r3, r4, r5, r6⟩ := hR
  refine ⟨h.2.2.1, r2, r3, ?_, r5.only h (fun a q => by unfold QM at q; omega), r6.only (cI_o h (by unfold QM; omega)) (cI_o h (by unfold QM; omega)) (by rw [h6, r6.2.1])⟩
  rw [cR_o h (by unfold QM; omega)]
  exact r4
/-- a league and a plan that goes in it -/
def GoP (G : Gh) (l p : Int32) (j k : Nat) : Prop := j < G.cn 0 ∧ k < G.cn 2 ∧ l = nI j ∧ p = nI k ∧ (G.P k).ts ≤ (G.L j).s ∧ (G.P k).tg ≤ (G.L j).g
def MtR (st : xS) (L : LgD) (P : PlD) : Prop := ∃ a p, fR st 79 0 = some a ∧ fR st 79 2 = some p ∧ LgR st a L ∧ PlR st p P
def MlR (st : xS) (W : LwD) : Prop := ∃ w, fR st 79 1 = some w ∧ LwR st w W
theorem MtR.only {L : LgD} {P : PlD} (hM : MtR st L P) (h : Only S st st1) (hS : ∀ a, S a → a < 116) (h0 : fR st1 79 0 = fR st 79 0) (h2 : fR st1 79 2 = fR st 79 2) : MtR st1 L P := by
  obtain ⟨a, p, e1, e2, e3, e4⟩ := hM
  exact ⟨a, p, h0.trans e1, h2.trans e2, e3.only h hS, e4.only h hS⟩
theorem MlR.only {W : LwD} (hM : MlR st W) (h : Only S st st1) (hS : ∀ a, S a → a < 116) (h1 : fR st1 79 1 = fR st 79 1) : MlR st1 W := by
  obtain ⟨a, e1, e2⟩ := hM
  exact ⟨a, h1.trans e1, e2.only h hS⟩
theorem fR_set {a c k : Nat} {fs : List Value} (h : st.2.2 a = .inr (c, fs)) (hk : k < fs.length) (o : Option Nat) : fR (uV st a k (va_rf o)) a k = o := by
  unfold fR
  rw [fV_s h k hk]
  cases o <;> rfl
theorem fR_oth {a j k : Nat} (h : j ≠ k) (v : Value) : fR (uV st a k v) a j = fR st a j := by
  unfold fR
  rw [fV_o h]
theorem fI_oth {a j k : Nat} (h : j ≠ k) (v : Value) : fI (uV st a k v) a j = fI st a j := by
  unfold fI
  rw [fV_o h]
theorem fL_oth {a j k : Nat} (h : j ≠ k) (v : Value) : fL (uV st a k v) a j = fL st a j := by
  unfold fL
  rw [fV_o h]
theorem C_fits {a p : Nat} {L : LgD} {P : PlD} (hL : LgR st a L) (hP : PlR st p P) (hI : LgI L) (hJ : PlI P) : F_X6_fits n st (some p) (some a) = some (bI (P.ts ≤ L.s ∧ P.tg ≤ L.g)) := by
  have b1 := hI.1
  have b2 := hI.2.1
  have b3 := hJ.2.2.2.2.1
  have b4 := hJ.2.2.2.2.2
  unfold F_X6_fits
  rw [hL.s, hL.g]
  obtain ⟨r, f, x1, x2, x3, x4, h1, h2⟩ := hP
  rw [gI_of (k := 2) h1 rfl, gI_of (k := 3) h1 rfl]
  simp only [Option.bind_some]
  rw [nZ, nZ]
  by_cases c1 : P.ts ≤ L.s
  · rw [if_neg (by rw [zLe (by omega) (by omega) (by omega) (by omega)]; omega)]
    by_cases c2 : P.tg ≤ L.g
    · rw [if_neg (by rw [zLe (by omega) (by omega) (by omega) (by omega)]; omega), bI_t ⟨c1, c2⟩]
      rfl
    · rw [if_pos (by rw [zLe (by omega) (by omega) (by omega) (by omega)]; omega), bI_f (fun h => c2 h.2)]
      rfl
  · rw [if_pos (by rw [zLe (by omega) (by omega) (by omega) (by omega)]; omega), bI_f (fun h => c1 h.1)]
    rfl
theorem C_bring_t (hR : Rel st G I) {l p : Int32} {j k : Nat} (hg : GoP G l p j k) : ∃ st', F_X5_bring n st (some 79) (some 65) l p = some (1, st') ∧ Only (fun a => a = 79) st st' ∧ MtR st' (G.L j) (G.P k) ∧ fR st' 79 1 = fR st 79 1 := by
  obtain ⟨hj, hk, rfl, rfl, c1, c2⟩ := hg
  have hS := hR.sh
  obtain ⟨a, e1, e2⟩ := C_leagueAt_t (n := n) hS hR.tol hR.inv hj
  obtain ⟨b, e3, e4⟩ := C_planAt_t (n := n) hS hR.tol hR.inv hk
  have hI := hR.inv.2.2.2.2.2.2.2.1 j hj
  have hJ := hR.inv.2.2.2.2.2.2.2.2.2.1 k hk
  have s1 : Sh (uV st 79 0 (va_rf (some a))) := s79_0 hS (some a)
  have s2 : Sh (uV (uV st 79 0 (va_rf (some a))) 79 2 (va_rf (some b))) := s79_2 s1 (some b)
  have o1 : Only (fun a => a = 79) st (uV st 79 0 (va_rf (some a))) := Only.uV s1
  have o2 : Only (fun a => a = 79) (uV st 79 0 (va_rf (some a))) (uV (uV st 79 0 (va_rf (some a))) 79 2 (va_rf (some b))) := Only.uV s2
  have o3 := o1.trans o2
  refine ⟨_, ?_, o3, ⟨a, b, ?_, ?_, e2.only o3 (by omega), e4.only o3 (by omega)⟩, ?_⟩
  · unfold F_X5_bring
    simp only [o65 hS, e1, e3, Option.bind_some, reduceCtorEq, if_false, e4.o, C_fits e2 e4 hI hJ, bI_t (show (G.P k).ts ≤ (G.L j).s ∧ (G.P k).tg ≤ (G.L j).g from ⟨c1, c2⟩), show ¬ (1 : Int32) = 0 by decide, p79_0 hS, p79_2 s1, rz1]
  · rw [fR_oth (by decide)]
    exact f79_0 hS (some a)
  · exact f79_2 s1 (some b)
  · rw [fR_oth (by decide), fR_oth (by decide)]
theorem C_bring_f (hR : Rel st G I) {l p : Int32} (hg : ∀ j k, ¬ GoP G l p j k) : F_X5_bring n st (some 79) (some 65) l p = some (0, st) := by
  have hS := hR.sh
  unfold F_X5_bring
  rcases nCut l (G.cn 0) with ⟨j, hj, rfl⟩ | hl
  · obtain ⟨a, e1, e2⟩ := C_leagueAt_t (n := n) hS hR.tol hR.inv hj
    rcases nCut p (G.cn 2) with ⟨k, hk, rfl⟩ | hp
    · obtain ⟨b, e3, e4⟩ := C_planAt_t (n := n) hS hR.tol hR.inv hk
      have hI := hR.inv.2.2.2.2.2.2.2.1 j hj
      have hJ := hR.inv.2.2.2.2.2.2.2.2.2.1 k hk
      have hn : ¬ ((G.P k).ts ≤ (G.L j).s ∧ (G.P k).tg ≤ (G.L j).g) := fun h => hg j k ⟨hj, hk, rfl, rfl, h.1, h.2⟩
      simp only [o65 hS, e1, e3, Option.bind_some, reduceCtorEq, if_false, e4.o, C_fits e2 e4 hI hJ, bI_f hn, if_true, rz0]
    · simp only [o65 hS, e1, C_planAt_f hS hR.tol hp, Option.bind_some, reduceCtorEq, if_false, if_true, rz0]
  · rcases nCut p (G.cn 2) with ⟨k, hk, rfl⟩ | hp
    · obtain ⟨b, e3, e4⟩ := C_planAt_t (n := n) hS hR.tol hR.inv hk
      simp only [o65 hS, C_leagueAt_f hS hR.tol hl, e3, Option.bind_some, if_true, rz0]
    · simp only [o65 hS, C_leagueAt_f hS hR.tol hl, C_planAt_f hS hR.tol hp, Option.bind_some, if_true, rz0]
theorem C_bring4_t (hR : Rel st G I) {l w p : Int32} {j i k : Nat} (hg : GoP G l p j k) (hi : i < G.cn 1) (hw : w = nI i) : ∃ st', F_X5_bring_ n st (some 79) (some 65) l w p = some (1, st') ∧ Only (fun a => a = 79) st st' ∧ MtR st' (G.L j) (G.P k) ∧ MlR st' (G.W i) := by
  have hS := hR.sh
  subst hw
  obtain ⟨a, e1, e2⟩ := C_lawAt_t (n := n) hS hR.tol hR.inv hi
  obtain ⟨st1, f1, f2, f3, f4⟩ := C_bring_t (n := n) hR hg
  have s1 : Sh (uV st1 79 1 (va_rf (some a))) := s79_1 f2.2.2.1 (some a)
  have o1 : Only (fun a => a = 79) st1 (uV st1 79 1 (va_rf (some a))) := Only.uV s1
  refine ⟨_, ?_, f2.trans o1, f3.only o1 (by omega) (fR_oth (by decide) _) (fR_oth (by decide) _), ⟨a, f79_1 f2.2.2.1 (some a), e2.only (f2.trans o1) (by omega)⟩⟩
  unfold F_X5_bring_
  simp only [o65 hS, o79 hS, e1, Option.bind_some, reduceCtorEq, if_false, f1, show ¬ (1 : Int32) = 0 by decide, p79_1 f2.2.2.1, rz1]
theorem C_bring4_f (hR : Rel st G I) {l w p : Int32} (hg : (∀ j k, ¬ GoP G l p j k) ∨ ∀ i, i < G.cn 1 → ¬ w = nI i) : F_X5_bring_ n st (some 79) (some 65) l w p = some (0, st) := by
  have hS := hR.sh
  unfold F_X5_bring_
  rcases nCut w (G.cn 1) with ⟨i, hi, rfl⟩ | hw
  · obtain ⟨a, e1, e2⟩ := C_lawAt_t (n := n) hS hR.tol hR.inv hi
    simp only [o65 hS, o79 hS, e1, Option.bind_some, reduceCtorEq, if_false, C_bring_f hR (hg.resolve_right fun h => h i hi rfl), if_true, rz0]
  · simp only [o65 hS, C_lawAt_f hS hR.tol hw, Option.bind_some, if_true, rz0]
end FR

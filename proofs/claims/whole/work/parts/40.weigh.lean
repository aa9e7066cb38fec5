/-! A GAME WEIGHED: the class -/
def gO (L : LgD) (P : PlD) (g : Nat) : Nat := match P.e g with
  | none => L.r (40 + P.c g 0)
  | some x => x
def gA (L : LgD) (P : PlD) (g : Nat) : Nat := L.r (40 + P.c g 1)
def gN (L : LgD) (P : PlD) (g : Nat) : Nat := if P.c g 3 = 1 then L.r (30 + gO L P g) / (1 + L.r (20 + gO L P g)) else 0
def rsN (P : PlD) (g s : Nat) : Nat → Int
  | 0 => 30
  | i + 1 => if P.c i 0 = s ∨ P.c i 1 = s then (P.c g 2 : Int) - P.c i 2 else rsN P g s i
def gT (L : LgD) (W : LwD) (P : PlD) (g : Nat) : Nat → Nat
  | 0 => if gO L P g = L.r (40 + P.c g 0) then (if gO L P g = gA L P g then 0 else 1) else 0
  | 1 => L.d (10 * gA L P g + gO L P g) / W 21
  | 2 => if (W 22 : Int) ≤ rsN P g (P.c g 1) g then 0 else if rsN P g (P.c g 0) g < (W 22 : Int) then 0 else 1
  | 3 => gN L P g / W 23
  | 4 => if P.c g 4 = 1 then gN L P g / W 24 else 0
  | _ => (L.r (10 + gO L P g) - L.r (10 + gA L P g)) / W 25
def gP (L : LgD) (W : LwD) (P : PlD) (g p : Nat) : Nat := min 50 (W (10 + p) * gT L W P g p)
/-- all parts together but part d -/
def gE (f : Nat → Nat) (d : Nat) : Nat := nS (fun p => if p = d then 0 else f p) 6
def hu (x : Int) : Nat := (max 0 (min 100 x)).toNat
def gp (L : LgD) (W : LwD) (P : PlD) (g e : Nat) : Nat := hu ((W 0 : Int) + ((L.r (50 + P.c g 0) : Int) - L.r (50 + P.c g 1)) + e)
def gq (L : LgD) (W : LwD) (P : PlD) (g : Nat) : Nat := hu ((W 0 : Int) - ((L.r (50 + P.c g 0) : Int) - L.r (50 + P.c g 1)))
theorem hu_le (x : Int) : hu x ≤ 100 := by unfold hu; omega
theorem gP_le (L : LgD) (W : LwD) (P : PlD) (g p : Nat) : gP L W P g p ≤ 50 := Nat.min_le_left _ _
theorem gE_le {f : Nat → Nat} (h : ∀ p, f p ≤ 50) (d : Nat) : gE f d ≤ 300 := by
  have : nS (fun p => if p = d then 0 else f p) 6 ≤ 6 * 50 := nS_le (fun i => by
    show (if i = d then 0 else f i) ≤ 50
    have := h i
    split <;> omega) 6
  exact this
section WG
variable {st st1 st2 : xS} {n a w p g : Nat} {L : LgD} {W : LwD} {P : PlD}
def MS (st : xS) (a w p : Nat) (L : LgD) (W : LwD) (P : PlD) : Prop := Sh st ∧ fR st 79 0 = some a ∧ fR st 79 1 = some w ∧ fR st 79 2 = some p ∧ LgR st a L ∧ LwR st w W ∧ PlR st p P
def WF (st st' : xS) : Prop := Only (fun a => a = 79 ∨ a = 87) st st' ∧ ∀ k, k < 3 → fR st' 79 k = fR st 79 k
theorem WF.refl (h : Sh st) : WF st st := ⟨Only.refl h, fun _ _ => rfl⟩
theorem WF.trans (h : WF st st1) (k : WF st1 st2) : WF st st2 := ⟨h.1.trans k.1, fun i hi => (k.2 i hi).trans (h.2 i hi)⟩
theorem MS.wf (h : MS st a w p L W P) (k : WF st st1) : MS st1 a w p L W P := by
  obtain ⟨h1, h2, h3, h4, h5, h6, h7⟩ := h
  exact ⟨k.1.2.2.1, (k.2 0 (by decide)).trans h2, (k.2 1 (by decide)).trans h3, (k.2 2 (by decide)).trans h4, h5.only k.1 (by omega), h6.only k.1 (by omega), h7.only k.1 (by omega)⟩
theorem MS.of (hS : Sh st) (h1 : MtR st L P) (h2 : MlR st W) : ∃ a w p, MS st a w p L W P := by
  obtain ⟨a, p, e1, e2, e3, e4⟩ := h1
  obtain ⟨w, e5, e6⟩ := h2
  exact ⟨a, w, p, hS, e1, e5, e2, e3, e6, e4⟩
theorem WF_p (hS : Sh st) (i : Nat) (v : Int32) : WF st (wA st 87 (upd (cI st 87) i v)) := ⟨(Only.wA hS 87 _).mono fun x h => Or.inr h, fun k _ => fR_c (wA_n (by decide) _ _) k⟩
theorem WF_f (hS : Sh st) {k : Nat} (hk : k = 4 ∨ k = 5 ∨ k = 6 ∨ k = 7) (v : Int32) : WF st (uV st 79 k (.int v)) := by
  have h : Sh (uV st 79 k (.int v)) := by
    rcases hk with rfl | rfl | rfl | rfl
    · exact s79_4 hS v
    · exact s79_5 hS v
    · exact s79_6 hS v
    · exact s79_7 hS v
  exact ⟨(Only.uV h).mono fun x h => Or.inl h, fun j hj => fR_oth (by omega) _⟩
/-- the readings, with the literals as the code has them -/
theorem MS.r0 (m : MS st a w p L W P) (hJ : PlI P) (hg : g < P.n) : F_X6_of n st (some p) (nI g) (0 : Int32) = some (nI (P.c g 0)) := C_of m.2.2.2.2.2.2 hJ hg (by decide)
theorem MS.r1 (m : MS st a w p L W P) (hJ : PlI P) (hg : g < P.n) : F_X6_of n st (some p) (nI g) (1 : Int32) = some (nI (P.c g 1)) := C_of m.2.2.2.2.2.2 hJ hg (by decide)
theorem MS.r2 (m : MS st a w p L W P) (hJ : PlI P) (hg : g < P.n) : F_X6_of n st (some p) (nI g) (2 : Int32) = some (nI (P.c g 2)) := C_of m.2.2.2.2.2.2 hJ hg (by decide)
theorem MS.r3 (m : MS st a w p L W P) (hJ : PlI P) (hg : g < P.n) : F_X6_of n st (some p) (nI g) (3 : Int32) = some (nI (P.c g 3)) := C_of m.2.2.2.2.2.2 hJ hg (by decide)
theorem MS.r4 (m : MS st a w p L W P) (hJ : PlI P) (hg : g < P.n) : F_X6_of n st (some p) (nI g) (4 : Int32) = some (nI (P.c g 4)) := C_of m.2.2.2.2.2.2 hJ hg (by decide)
theorem MS.r5 (m : MS st a w p L W P) (hJ : PlI P) (hg : g < P.n) : F_X6_of n st (some p) (nI g) (5 : Int32) = some (eI (P.e g)) := C_of5 m.2.2.2.2.2.2 hJ hg
theorem MS.e1 (m : MS st a w p L W P) : F_X3_per n st (some w) (1 : Int32) = some (nI (W 21)) := C_per m.2.2.2.2.2.1 (by decide)
theorem MS.e2 (m : MS st a w p L W P) : F_X3_per n st (some w) (2 : Int32) = some (nI (W 22)) := C_per m.2.2.2.2.2.1 (by decide)
theorem MS.e3 (m : MS st a w p L W P) : F_X3_per n st (some w) (3 : Int32) = some (nI (W 23)) := C_per m.2.2.2.2.2.1 (by decide)
theorem MS.e4 (m : MS st a w p L W P) : F_X3_per n st (some w) (4 : Int32) = some (nI (W 24)) := C_per m.2.2.2.2.2.1 (by decide)
theorem MS.e5 (m : MS st a w p L W P) : F_X3_per n st (some w) (5 : Int32) = some (nI (W 25)) := C_per m.2.2.2.2.2.1 (by decide)
theorem eI_n1 (x : Nat) (hx : x < 2147483648) : (nI x = (-1 : Int32)) = False := nNeg1 hx
theorem gO_lt (hI : LgI L) (hJ : PlI P) (hg : g < P.n) : gO L P g < 10 := by
  have d := hJ.2.1 g hg
  unfold gO
  cases h : P.e g with
  | none => exact hI.2.2.2.2.2.2.1 _ d.1
  | some x => exact d.2.2.2.2.2.2 x h
theorem gA_lt (hI : LgI L) (hJ : PlI P) (hg : g < P.n) : gA L P g < 10 := hI.2.2.2.2.2.2.1 _ (hJ.2.1 g hg).2.1
theorem gN_le (hI : LgI L) : gN L P g ≤ 999 := by
  unfold gN
  have := hI.2.2.1 (30 + gO L P g)
  split
  · exact Nat.le_trans (Nat.div_le_self _ _) this
  · omega
theorem C_groundOf (m : MS st a w p L W P) (hJ : PlI P) (hg : g < P.n) : F_X5_groundOf n st (some 79) (nI g) (nI (P.c g 0)) = some (nI (gO L P g)) := by
  have d := hJ.2.1 g hg
  have m' := m
  obtain ⟨h1, h2, h3, h4, h5, h6, h7⟩ := m
  unfold F_X5_groundOf gO
  simp only [g79_2 h1, h4, h7.o, Option.bind_some, m'.r5 hJ hg]
  cases h : P.e g with
  | none =>
    have : eI none = -1 := rfl
    simp only [this, if_true, g79_0 h1, h2, h5.o, Option.bind_some, C_own h5 (show P.c g 0 < 20 by omega)]
  | some x =>
    have hx := d.2.2.2.2.2.2 x h
    have : eI (some x) = nI x := rfl
    simp only [this, nNeg1 (show x < 2147483648 by omega), if_false, Option.bind_some]
theorem C_restOf {s : Nat} (hP : PlR st p P) (hJ : PlI P) (hg : g < P.n) (hs : s < 8) (hn : 3000 ≤ n) : F_X6_restOf n st (some p) (nI g) (nI s) = some (zI (rsN P g s g)) := by
  have c1 := hJ.1
  have key : ∀ i, i ≤ g → ∀ k, i < k → F_X6_restOf_L4 n k st (some p) (nI g) (nI s) (nI i - 1) = some (zI (rsN P g s i)) := by
    intro i
    induction i with
    | zero =>
      intro _ k hk
      obtain ⟨k, rfl⟩ : ∃ j, k = j + 1 := ⟨k - 1, by omega⟩
      rw [F_X6_restOf_L4]
      have : (nI 0 - 1 : Int32) < 0 := by decide
      simp only [this, if_true]
      rfl
    | succ i ih =>
      intro hi k hk
      obtain ⟨k, rfl⟩ : ∃ j, k = j + 1 := ⟨k - 1, by omega⟩
      have e : (nI (i + 1) - 1 : Int32) = nI i := nI_pred i
      have e2 : ∀ q : Nat, nI q + (-1 : Int32) = nI q - 1 := fun q => by
        show nI q + zI (-1) = nI q - nI 1
        rw [nSubZ, nZ, zAdd]
        rfl
      rw [F_X6_restOf_L4, e]
      have d := hJ.2.1 i (by omega)
      have a1 := C_plays (n := n) hP hJ (show i < P.n by omega) (show s < 2147483648 by omega)
      have a2 : F_X6_of n st (some p) (nI g) (2 : Int32) = some (nI (P.c g 2)) := C_of hP hJ hg (by decide)
      have a3 : F_X6_of n st (some p) (nI i) (2 : Int32) = some (nI (P.c i 2)) := C_of hP hJ (by omega) (by decide)
      have a0 : ¬ nI i < (0 : Int32) := nI_pos (by omega)
      simp only [a0, if_false, hP.o, a1, a2, a3, Option.bind_some, e2]
      by_cases h1 : P.c i 0 = s ∨ P.c i 1 = s
      · have : (if P.c i 0 = s then 1 else if P.c i 1 = s then 1 else 0) = 1 := by
          rcases h1 with h1 | h1
          · rw [if_pos h1]
          · rw [if_pos h1, ite_self]
        rw [this, if_neg (by decide), rsN, if_pos h1, nSubZ]
      · have : (if P.c i 0 = s then 1 else if P.c i 1 = s then 1 else 0) = 0 := by rw [if_neg (fun q => h1 (Or.inl q)), if_neg (fun q => h1 (Or.inr q))]
        rw [this, if_pos (show nI 0 = (0 : Int32) from rfl), rsN, if_neg h1]
        exact ih (by omega) k (by omega)
  unfold F_X6_restOf
  simp only [Option.bind_some]
  exact key g (Nat.le_refl g) n (by omega)
theorem rsN_le (hJ : PlI P) {s : Nat} (g : Nat) (hg : g < P.n) : ∀ i, i ≤ g → -1000 ≤ rsN P g s i ∧ rsN P g s i ≤ 1000 := by
  intro i
  induction i with
  | zero => exact fun _ => by unfold rsN; omega
  | succ i ih =>
    intro hi
    have d1 := (hJ.2.1 g hg).2.2.2.1
    have d2 := (hJ.2.1 i (by omega)).2.2.2.1
    have := ih (by omega)
    unfold rsN
    split <;> omega
theorem imax0 {x y : Nat} (hx : x < 2147483648) (hy : y < 2147483648) : imax (0 : Int32) (nI x - nI y) = nI (x - y) := by
  unfold imax
  rw [nSubZ]
  by_cases h : y < x
  · rw [if_pos (by
      show zI 0 < _
      rw [zLt (by omega) (by omega) (by omega) (by omega)]
      omega), nZ]
    congr 1
    omega
  · rw [if_neg (by
      show ¬ zI 0 < _
      rw [zLt (by omega) (by omega) (by omega) (by omega)]
      omega), show x - y = 0 by omega]
    rfl
theorem C_percent {x : Int} (h1 : -1000000 ≤ x) (h2 : x ≤ 1000000) : F_X5_percent n st (zI x) = some (nI (hu x)) := by
  unfold F_X5_percent imax imin hu
  by_cases h3 : x < 100
  · have a1 : zI x < (100 : Int32) := by
      show zI x < zI 100
      rw [zLt (by omega) (by omega) (by omega) (by omega)]
      exact h3
    simp only [a1, if_true]
    by_cases h4 : 0 < x
    · have a2 : (0 : Int32) < zI x := by
        show zI 0 < zI x
        rw [zLt (by omega) (by omega) (by omega) (by omega)]
        exact h4
      simp only [a2, if_true]
      rw [nZ, show ((max 0 (min 100 x)).toNat : Int) = x by omega]
    · have a2 : ¬ (0 : Int32) < zI x := by
        show ¬ zI 0 < zI x
        rw [zLt (by omega) (by omega) (by omega) (by omega)]
        exact h4
      simp only [a2, if_false]
      rw [show (max 0 (min 100 x)).toNat = 0 by omega]
      rfl
  · have a1 : ¬ zI x < (100 : Int32) := by
      show ¬ zI x < zI 100
      rw [zLt (by omega) (by omega) (by omega) (by omega)]
      exact h3
    simp only [a1, if_false]
    rw [show (max 0 (min 100 x)).toNat = 100 by omega]
    rfl
theorem uV_w (st : xS) (a k : Nat) (u v : Value) : uV (uV st a k u) a k v = uV st a k v := by
  rcases uV_at st a k u with ⟨c, fs, h, e⟩ | ⟨h, e⟩
  · rw [e]
    unfold uV
    rw [xup_s, h]
    show xup (xup st a _) a _ = xup st a _
    unfold xup
    simp only [List.set_set]
    congr 2
    funext q
    by_cases hq : q = a <;> simp [hq]
  · rw [e]
theorem C_aim (m : MS st a w p L W P) (hI : LgI L) (hV : LwI W) (hJ : PlI P) (hg : g < P.n) {f : Nat → Nat} (hf : ∀ i, f i ≤ 50) (hp : ∀ i, i < 6 → cI st 87 i = nI (f i)) (hn : 3000 ≤ n) :
    ∃ st', F_X5_aim n st (some 79) (nI g) = some st' ∧ WF st st' ∧ cI st' 87 = cI st 87 ∧ fI st' 79 4 = nI (gE f 9) ∧ fI st' 79 5 = fI st 79 5 ∧ fI st' 79 6 = nI (gp L W P g (gE f 9)) ∧ fI st' 79 7 = nI (gq L W P g) := by
  have hS := m.1
  have bE := gE_le hf 9
  have hl : F_X5_aim_L7 n n (uV st 79 4 (.int (0 : Int32))) (some 79) (nI g) (0 : Int32) = some (uV st 79 4 (.int (nI (gE f 9)))) := by
    refine loop_run (fun k (s : xS × Int32) => F_X5_aim_L7 n k s.1 (some 79) (nI g) s.2) (fun i => (uV st 79 4 (.int (nI (nS (fun p => if p = 9 then 0 else f p) i))), nI i)) 6 _ (fun k i hi => ?_) (fun k => ?_) n (by omega)
    · dsimp only
      have s1 := s79_4 hS (nI (nS (fun p => if p = 9 then 0 else f p) i))
      have e1 : cI (uV st 79 4 (.int (nI (nS (fun p => if p = 9 then 0 else f p) i)))) 87 = cI st 87 := cI_c (uV_n (by decide) _ _ _)
      rw [F_X5_aim_L7, nS]
      simp (disch := omega) only [l0, l1, l2, l3, l4, l5, l6, l7, l8, l9, l10, l11, l12, l13, l14, l15, l16, l17, l18, l19, l20, l21, l22, l23, l24, l25, l26, l27, l28, l29, l30, l31, l32, l33, l34, l35, l36, l37, l38, l39, l40, l41, l42, l43, l44, l45, l46, l47, l48, l49, l50, l51, l52, l53, l54, l55, l56, l57, l58, l59, l60, l65, l90, l96, l97, l99, l100, l101, l122, l150, l242, l255, l499, l500, l510, l800, l960, l999, l1000, l1002, l1730, l2530, l2562, l9999, l10250, l32768, l1000000, nMul, nAdd, nNegN, nLt, nLe, nEq, nNeg1, nNeg1', nEqM, nEqM', if_true, if_false, if_pos, if_neg, reduceCtorEq, Option.bind_some, g79_4 s1, f79_4 hS, g79_3 s1, a87 s1, ixT, nIc, e1, hp, p79_4 s1, uV_w]
    · dsimp only
      rw [F_X5_aim_L7]
      simp (disch := omega) only [l0, l1, l2, l3, l4, l5, l6, l7, l8, l9, l10, l11, l12, l13, l14, l15, l16, l17, l18, l19, l20, l21, l22, l23, l24, l25, l26, l27, l28, l29, l30, l31, l32, l33, l34, l35, l36, l37, l38, l39, l40, l41, l42, l43, l44, l45, l46, l47, l48, l49, l50, l51, l52, l53, l54, l55, l56, l57, l58, l59, l60, l65, l90, l96, l97, l99, l100, l101, l122, l150, l242, l255, l499, l500, l510, l800, l960, l999, l1000, l1002, l1730, l2530, l2562, l9999, l10250, l32768, l1000000, nMul, nAdd, nNegN, nLt, nLe, nEq, nNeg1, nNeg1', nEqM, nEqM', if_true, if_false, if_pos, if_neg, reduceCtorEq]
      rfl
  have k1 := WF_f hS (k := 4) (Or.inl rfl) (nI (gE f 9))
  have g1 : fI (uV st 79 4 (.int (nI (gE f 9)))) 79 4 = nI (gE f 9) := f79_4 hS _
  have g2 : fI (uV st 79 4 (.int (nI (gE f 9)))) 79 5 = fI st 79 5 := fI_oth (by decide) _
  have g3 : cI (uV st 79 4 (.int (nI (gE f 9)))) 87 = cI st 87 := cI_c (uV_n (by decide) _ _ _)
  have m1 := m.wf k1
  unfold F_X5_aim
  simp only [p79_4 hS, Option.bind_some, hl]
  generalize uV st 79 4 (.int (nI (gE f 9))) = st1 at k1 g1 g2 g3 m1 ⊢
  have d := hJ.2.1 g hg
  have b0 := hV.1
  have b1 := hI.2.2.2.2.2.1 (P.c g 0) d.1
  have b2 := hI.2.2.2.2.2.1 (P.c g 1) d.2.1
  have q1 : F_X5_percent n st1 (nI (W 0) + (nI (L.r (50 + P.c g 0)) - nI (L.r (50 + P.c g 1))) + nI (gE f 9)) = some (nI (gp L W P g (gE f 9))) := by
    rw [nSubZ, nZ, nZ (gE f 9), zAdd, zAdd]
    exact C_percent (by omega) (by omega)
  have c1 := C_lead (n := n) m1.1 ⟨a, p, m1.2.1, m1.2.2.2.1, m1.2.2.2.2.1, m1.2.2.2.2.2.2⟩ hJ hg
  simp only [g79_1 m1.1, m1.2.2.1, m1.2.2.2.2.2.1.o, C_base m1.2.2.2.2.2.1, o79 m1.1, c1, g79_4 m1.1, g1, q1, p79_6 m1.1, Option.bind_some]
  have k2 := k1.trans (WF_f m1.1 (k := 6) (Or.inr (Or.inr (Or.inl rfl))) (nI (gp L W P g (gE f 9))))
  have g4 : fI (uV st1 79 6 (.int (nI (gp L W P g (gE f 9))))) 79 6 = nI (gp L W P g (gE f 9)) := f79_6 m1.1 _
  have g5 : fI (uV st1 79 6 (.int (nI (gp L W P g (gE f 9))))) 79 5 = fI st 79 5 := (fI_oth (by decide) _).trans g2
  have g6 : cI (uV st1 79 6 (.int (nI (gp L W P g (gE f 9))))) 87 = cI st 87 := (cI_c (uV_n (by decide) _ _ _)).trans g3
  have g7 : fI (uV st1 79 6 (.int (nI (gp L W P g (gE f 9))))) 79 4 = nI (gE f 9) := (fI_oth (by decide) _).trans g1
  have m2 := m.wf k2
  generalize uV st1 79 6 (.int (nI (gp L W P g (gE f 9)))) = st2 at k2 g4 g5 g6 g7 m2 ⊢
  have q2 : F_X5_percent n st2 (nI (W 0) - (nI (L.r (50 + P.c g 0)) - nI (L.r (50 + P.c g 1)))) = some (nI (gq L W P g)) := by
    rw [nSubZ, nZ, zSub]
    exact C_percent (by omega) (by omega)
  have c2 := C_lead (n := n) m2.1 ⟨a, p, m2.2.1, m2.2.2.2.1, m2.2.2.2.2.1, m2.2.2.2.2.2.2⟩ hJ hg
  simp only [g79_1 m2.1, m2.2.2.1, m2.2.2.2.2.2.1.o, C_base m2.2.2.2.2.2.1, o79 m2.1, c2, q2, p79_7 m2.1, Option.bind_some]
  exact ⟨_, rfl, k2.trans (WF_f m2.1 (k := 7) (Or.inr (Or.inr (Or.inr rfl))) _), (cI_c (uV_n (by decide) _ _ _)).trans g6, (fI_oth (by decide) _).trans g7, (fI_oth (by decide) _).trans g5, (fI_oth (by decide) _).trans g4, f79_7 m2.1 _⟩
end WG

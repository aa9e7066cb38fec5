/-! WHETHER A PLAN GOES; leagues, laws, plans told -/
section GO
variable {st : xS} {n : Nat} {G : Gh} {I : Im} {B : Nat → Int32}
theorem ModB.lg (h : ModB B G) {j : Nat} (hj : j < G.cn 0) : LgM B (510 + 150 * j) (G.L j) := h.2.2.2.2.2.1 j hj
theorem ModB.lw (h : ModB B G) {j : Nat} (hj : j < G.cn 1) : LwM B (960 + 14 * j) (G.W j) := h.2.2.2.2.2.2.1 j hj
theorem ModB.pp (h : ModB B G) {j : Nat} (hj : j < G.cn 2) : PlM B (1002 + 242 * j) (G.P j) := h.2.2.2.2.2.2.2.1 j hj
theorem GhI.lg (h : GhI G) {j : Nat} (hj : j < G.cn 0) : LgI (G.L j) := h.2.2.2.2.2.2.2.1 j hj
theorem GhI.lw (h : GhI G) {j : Nat} (hj : j < G.cn 1) : LwI (G.W j) := h.2.2.2.2.2.2.2.2.1 j hj
theorem GhI.pp (h : GhI G) {j : Nat} (hj : j < G.cn 2) : PlI (G.P j) := h.2.2.2.2.2.2.2.2.2.1 j hj
theorem GhI.nt (h : GhI G) {j : Nat} (hj : j < G.cn 3) : NtI (G.nt j) := h.2.2.2.2.2.2.2.2.2.2.1 j hj
theorem GhI.n0 (h : GhI G) {j : Nat} (hj : j < G.cn 0) : j < 3 := Nat.lt_of_lt_of_le hj h.1
theorem GhI.n1 (h : GhI G) {j : Nat} (hj : j < G.cn 1) : j < 3 := Nat.lt_of_lt_of_le hj h.2.1
theorem GhI.n2 (h : GhI G) {j : Nat} (hj : j < G.cn 2) : j < 3 := Nat.lt_of_lt_of_le hj h.2.2.1
theorem M_games (hS : Sh st) (hM : ModB (cI st 107) G) (hI : GhI G) {k : Nat} (hk : k < G.cn 2) : F_X11_gamesOf n st (some 106) (nI k) = some (nI (G.P k).n) := by
  rw [M_gamesOf hS k (hI.n2 hk), (hM.pp hk).1]
theorem M_game (hS : Sh st) (hM : ModB (cI st 107) G) (hI : GhI G) {k g w : Nat} (hk : k < G.cn 2) (hg : g < (G.P k).n) (hw : w < 5) : F_X11_gameOf n st (some 106) (nI k) (nI g) (nI w) = some (nI ((G.P k).c g w)) := by
  have b := (hI.pp hk).1
  rw [M_gameOf hS k g w (hI.n2 hk) (by omega) (by omega), (hM.pp hk).2.1 g w hg hw]
theorem M_game5 (hS : Sh st) (hM : ModB (cI st 107) G) (hI : GhI G) {k g : Nat} (hk : k < G.cn 2) (hg : g < (G.P k).n) : F_X11_gameOf n st (some 106) (nI k) (nI g) (nI 5) = some (eI ((G.P k).e g)) := by
  have b := (hI.pp hk).1
  rw [M_gameOf hS k g 5 (hI.n2 hk) (by omega) (by omega), (hM.pp hk).2.2 g hg]
/-- reading the model's block -/
theorem M_all (hS : Sh st) {i : Nat} (hi : i < 10250) : aI st (some 107) (nI i) = some (cI st 107 i) := by
  simp (disch := omega) only [a107 hS, ixT, nIc, if_true]
def eOv : Option Nat → Nat → Bool
  | none, _ => false
  | some x, g => decide (g ≤ x)
theorem eI_le {o : Option Nat} {g : Nat} (hg : g < 2147483648) (ho : ∀ x, o = some x → x < 2147483648) : (nI g ≤ eI o) = (eOv o g = true) := by
  cases o with
  | none =>
    refine propext ⟨fun h => ?_, fun h => by cases h⟩
    have h : nI g ≤ zI (-1) := h
    rw [nZ, zLe (by omega) (by omega) (by omega) (by omega)] at h
    omega
  | some x =>
    show (nI g ≤ nI x) = _
    rw [nLe hg (ho x rfl)]
    exact propext ⟨fun h => decide_eq_true h, fun h => of_decide_eq_true h⟩
def gos (L : LgD) (P : PlD) : Nat → Nat
  | 0 => 1
  | i + 1 => if gos L P i = 0 then 0 else if L.s ≤ P.c i 0 then 0 else if L.s ≤ P.c i 1 then 0 else if eOv (P.e i) L.g = true then 0 else 1
theorem gos_le (L : LgD) (P : PlD) (i : Nat) : gos L P i ≤ 1 := by
  cases i with
  | zero => exact Nat.le_refl 1
  | succ i =>
    unfold gos
    split
    · omega
    · split
      · omega
      · split
        · omega
        · split <;> omega
theorem gos_1 {L : LgD} {P : PlD} (i : Nat) : gos L P i = 1 ↔ (∀ g, g < i → P.c g 0 < L.s ∧ P.c g 1 < L.s) ∧ ∀ g, g < i → ∀ x, P.e g = some x → x < L.g := by
  induction i with
  | zero => exact ⟨fun _ => ⟨fun g hg => by omega, fun g hg => by omega⟩, fun _ => rfl⟩
  | succ i ih =>
    have hb := gos_le L P i
    unfold gos
    constructor
    · intro h
      split at h
      · omega
      · rename_i h0
        split at h
        · omega
        · split at h
          · omega
          · split at h
            · omega
            · rename_i h1 h2 h3
              obtain ⟨a1, a2⟩ := ih.mp (by omega)
              refine ⟨fun g hg => ?_, fun g hg x hx => ?_⟩
              · by_cases e : g = i
                · subst e; omega
                · exact a1 g (by omega)
              · by_cases e : g = i
                · subst e
                  rw [hx] at h3
                  exact Nat.lt_of_not_le fun q => h3 (decide_eq_true q)
                · exact a2 g (by omega) x hx
    · rintro ⟨a1, a2⟩
      have h0 := ih.mpr ⟨fun g hg => a1 g (by omega), fun g hg => a2 g (by omega)⟩
      have h1 := a1 i (by omega)
      have h3 : ¬ eOv (P.e i) L.g = true := by
        intro q
        cases he : P.e i with
        | none => rw [he] at q; cases q
        | some x =>
          rw [he] at q
          have := of_decide_eq_true q
          have := a2 i (by omega) x he
          omega
      rw [if_neg (by omega), if_neg (by omega), if_neg (by omega), if_neg h3]
theorem gos_fit {L : LgD} {P : PlD} (hJ : PlI P) : gos L P P.n = 1 ↔ P.ts ≤ L.s ∧ P.tg ≤ L.g := by
  rw [gos_1, hJ.2.2.1 L.s, hJ.2.2.2.1 L.g]
theorem M_goesV (hS : Sh st) (hM : ModB (cI st 107) G) (hI : GhI G) {j k : Nat} (hj : j < G.cn 0) (hk : k < G.cn 2) (hn : 3000 ≤ n) : F_X11_goes n st (some 106) (nI j) (nI k) = some (nI (gos (G.L j) (G.P k) (G.P k).n)) := by
  have b0 := hI.n0 hj
  have b1 := hI.n2 hk
  have hJ := hI.pp hk
  have hL := hI.lg hj
  have c1 := hL.1
  have c2 := hL.2.1
  have c3 := hJ.1
  have f1 := (hM.lg hj).1
  have f2 := (hM.lg hj).2.1
  have hl : F_X11_goes_L32 n n st (some 106) (nI k) (nI (510 + 150 * j)) (nI 1) (nI 0) = some (nI (gos (G.L j) (G.P k) (G.P k).n)) := by
    refine loop_run (fun m (s : Int32 × Int32) => F_X11_goes_L32 n m st (some 106) (nI k) (nI (510 + 150 * j)) s.1 s.2) (fun i => (nI (gos (G.L j) (G.P k) i), nI i)) (G.P k).n _ (fun m i hi => ?_) (fun m => ?_) n (by omega)
    · have hb := gos_le (G.L j) (G.P k) i
      have d := hJ.2.1 i hi
      have d5 : ∀ x, (G.P k).e i = some x → x < 2147483648 := fun x hx => by have := d.2.2.2.2.2.2 x hx; omega
      show F_X11_goes_L32 n (m + 1) st (some 106) (nI k) (nI (510 + 150 * j)) (nI (gos (G.L j) (G.P k) i)) (nI i) = F_X11_goes_L32 n m st (some 106) (nI k) (nI (510 + 150 * j)) (nI (gos (G.L j) (G.P k) (i + 1))) (nI (i + 1))
      rw [F_X11_goes_L32]
      simp (disch := omega) only [l0, l1, l2, l3, l4, l5, l6, l7, l8, l9, l10, l11, l12, l13, l14, l15, l16, l17, l18, l19, l20, l21, l22, l23, l24, l25, l26, l27, l28, l29, l30, l31, l32, l33, l34, l35, l36, l37, l38, l39, l40, l41, l42, l43, l44, l45, l46, l47, l48, l49, l50, l51, l52, l53, l54, l55, l56, l57, l58, l59, l60, l65, l90, l96, l97, l99, l100, l101, l122, l150, l242, l255, l499, l500, l510, l800, l960, l999, l1000, l1002, l1730, l2530, l2562, l9999, l10250, l32768, l1000000, nMul, nAdd, nNegN, nLt, nLe, nEq, nNeg1, nNeg1', nEqM, nEqM', if_true, if_false, if_pos, if_neg, reduceCtorEq, Option.bind_some, rz_bI, rz0, rz1, rzN0, rzN1, o106 hS, M_games hS hM hI hk, M_game hS hM hI hk hi, M_game5 hS hM hI hk hi, g106_0 hS, M_all hS, f1, f2, eI_le (show (G.L j).g < 2147483648 by omega) d5]
      by_cases h1 : gos (G.L j) (G.P k) i = 0
      · simp only [gos, h1, if_true, Option.bind_some]
      · by_cases h2 : (G.L j).s ≤ (G.P k).c i 0
        · simp only [gos, h1, h2, if_true, if_false, Option.bind_some]
        · by_cases h3 : (G.L j).s ≤ (G.P k).c i 1
          · simp only [gos, h1, h2, h3, if_true, if_false, Option.bind_some]
          · by_cases h4 : eOv ((G.P k).e i) (G.L j).g = true
            · simp only [gos, h1, h2, h3, h4, if_true, if_false, Option.bind_some]
            · simp only [gos, h1, h2, h3, h4, if_false, Option.bind_some, Bool.false_eq_true]
    · show F_X11_goes_L32 n (m + 1) st (some 106) (nI k) (nI (510 + 150 * j)) (nI (gos (G.L j) (G.P k) (G.P k).n)) (nI (G.P k).n) = _
      rw [F_X11_goes_L32]
      simp (disch := omega) only [l0, l1, l2, l3, l4, l5, l6, l7, l8, l9, l10, l11, l12, l13, l14, l15, l16, l17, l18, l19, l20, l21, l22, l23, l24, l25, l26, l27, l28, l29, l30, l31, l32, l33, l34, l35, l36, l37, l38, l39, l40, l41, l42, l43, l44, l45, l46, l47, l48, l49, l50, l51, l52, l53, l54, l55, l56, l57, l58, l59, l60, l65, l90, l96, l97, l99, l100, l101, l122, l150, l242, l255, l499, l500, l510, l800, l960, l999, l1000, l1002, l1730, l2530, l2562, l9999, l10250, l32768, l1000000, nMul, nAdd, nNegN, nLt, nLe, nEq, nNeg1, nNeg1', nEqM, nEqM', if_true, if_false, if_pos, if_neg, reduceCtorEq, Option.bind_some, rz_bI, rz0, rz1, rzN0, rzN1, o106 hS, M_games hS hM hI hk]
  have hb := gos_le (G.L j) (G.P k) (G.P k).n
  have hrz : rz (nI (gos (G.L j) (G.P k) (G.P k).n)) = some (nI (gos (G.L j) (G.P k) (G.P k).n)) := by
    rcases Nat.le_one_iff_eq_zero_or_eq_one.mp hb with e | e <;> rw [e] <;> rfl
  have p0 := M_placeOf0 (n := n) (st := st) j
  have i0 := M_isOf_t (n := n) hS hM (w := 0) (by decide) hj (by have := hI.1; omega)
  have i2 := M_isOf_t (n := n) hS hM (w := 2) (by decide) hk (by have := hI.2.2.1; omega)
  simp only [l0] at p0
  simp (disch := omega) only [F_X11_goes, l0, l1, l2, l3, l4, l5, l6, l7, l8, l9, l10, l11, l12, l13, l14, l15, l16, l17, l18, l19, l20, l21, l22, l23, l24, l25, l26, l27, l28, l29, l30, l31, l32, l33, l34, l35, l36, l37, l38, l39, l40, l41, l42, l43, l44, l45, l46, l47, l48, l49, l50, l51, l52, l53, l54, l55, l56, l57, l58, l59, l60, l65, l90, l96, l97, l99, l100, l101, l122, l150, l242, l255, l499, l500, l510, l800, l960, l999, l1000, l1002, l1730, l2530, l2562, l9999, l10250, l32768, l1000000, nMul, nAdd, nNegN, nLt, nLe, nEq, nNeg1, nNeg1', nEqM, nEqM', if_true, if_false, if_pos, if_neg, reduceCtorEq, Option.bind_some, rz_bI, rz0, rz1, rzN0, rzN1, o106 hS, i0, i2, p0, hl, hrz]
theorem M_goesT (hS : Sh st) (hM : ModB (cI st 107) G) (hI : GhI G) {l p : Int32} {j k : Nat} (hg : GoP G l p j k) (hn : 3000 ≤ n) : F_X11_goes n st (some 106) l p = some 1 := by
  obtain ⟨hj, hk, rfl, rfl, c⟩ := hg
  rw [M_goesV hS hM hI hj hk hn, (gos_fit (hI.pp hk)).mpr c]
  rfl
theorem M_goesF (hS : Sh st) (hM : ModB (cI st 107) G) (hI : GhI G) {l p : Int32} (hg : ∀ j k, ¬ GoP G l p j k) (hn : 3000 ≤ n) : F_X11_goes n st (some 106) l p = some 0 := by
  rcases nCut l (G.cn 0) with ⟨j, hj, rfl⟩ | hl
  · have i0 := M_isOf_t (n := n) hS hM (w := 0) (by decide) hj (by have := hI.1; omega)
    rcases nCut p (G.cn 2) with ⟨k, hk, rfl⟩ | hp
    · rw [M_goesV hS hM hI hj hk hn]
      have hb := gos_le (G.L j) (G.P k) (G.P k).n
      have h1 : ¬ gos (G.L j) (G.P k) (G.P k).n = 1 := fun h => by
        have := (gos_fit (hI.pp hk)).mp h
        exact hg j k ⟨hj, hk, rfl, rfl, this.1, this.2⟩
      rw [show gos (G.L j) (G.P k) (G.P k).n = 0 by omega]
      rfl
    · have i2 := M_isOf_f (n := n) hS hM (w := 2) (by decide) (by have := hI.2.2.1; omega) hp
      simp (disch := omega) only [F_X11_goes, l0, l1, l2, l3, l4, l5, l6, l7, l8, l9, l10, l11, l12, l13, l14, l15, l16, l17, l18, l19, l20, l21, l22, l23, l24, l25, l26, l27, l28, l29, l30, l31, l32, l33, l34, l35, l36, l37, l38, l39, l40, l41, l42, l43, l44, l45, l46, l47, l48, l49, l50, l51, l52, l53, l54, l55, l56, l57, l58, l59, l60, l65, l90, l96, l97, l99, l100, l101, l122, l150, l242, l255, l499, l500, l510, l800, l960, l999, l1000, l1002, l1730, l2530, l2562, l9999, l10250, l32768, l1000000, nMul, nAdd, nNegN, nLt, nLe, nEq, nNeg1, nNeg1', nEqM, nEqM', if_true, if_false, if_pos, if_neg, reduceCtorEq, Option.bind_some, rz_bI, rz0, rz1, rzN0, rzN1, o106 hS, i0, i2]
  · have i0 := M_isOf_f (n := n) hS hM (w := 0) (by decide) (by have := hI.1; omega) hl
    simp (disch := omega) only [F_X11_goes, l0, l1, l2, l3, l4, l5, l6, l7, l8, l9, l10, l11, l12, l13, l14, l15, l16, l17, l18, l19, l20, l21, l22, l23, l24, l25, l26, l27, l28, l29, l30, l31, l32, l33, l34, l35, l36, l37, l38, l39, l40, l41, l42, l43, l44, l45, l46, l47, l48, l49, l50, l51, l52, l53, l54, l55, l56, l57, l58, l59, l60, l65, l90, l96, l97, l99, l100, l101, l122, l150, l242, l255, l499, l500, l510, l800, l960, l999, l1000, l1002, l1730, l2530, l2562, l9999, l10250, l32768, l1000000, nMul, nAdd, nNegN, nLt, nLe, nEq, nNeg1, nNeg1', nEqM, nEqM', if_true, if_false, if_pos, if_neg, reduceCtorEq, Option.bind_some, rz_bI, rz0, rz1, rzN0, rzN1, o106 hS, i0]
theorem M_goes_v (hR : Rel st G I) {j k : Nat} (hj : j < G.cn 0) (hk : k < G.cn 2) (hn : 3000 ≤ n) : F_X11_goes n st (some 106) (nI j) (nI k) = some (nI (gos (G.L j) (G.P k) (G.P k).n)) := M_goesV hR.sh hR.mod hR.inv hj hk hn
theorem M_goes_t (hR : Rel st G I) {l p : Int32} {j k : Nat} (hg : GoP G l p j k) (hn : 3000 ≤ n) : F_X11_goes n st (some 106) l p = some 1 := M_goesT hR.sh hR.mod hR.inv hg hn
theorem M_goes_f (hR : Rel st G I) {l p : Int32} (hg : ∀ j k, ¬ GoP G l p j k) (hn : 3000 ≤ n) : F_X11_goes n st (some 106) l p = some 0 := M_goesF hR.sh hR.mod hR.inv hg hn
theorem goCut (G : Gh) (l p : Int32) : (∃ j k, GoP G l p j k) ∨ ∀ j k, ¬ GoP G l p j k := by
  rcases Classical.em (∃ j k, GoP G l p j k) with h | h
  · exact Or.inl h
  · exact Or.inr fun j k q => h ⟨j, k, q⟩
theorem q79 {a : Nat} : a = 79 → QC a := fun h => by unfold QC; omega
theorem E_goes (hR : Rel st G I) (l p : Int32) (hn : 3000 ≤ n) : ∃ v st', F_X10_goes n st (some 64) l p = some (v, st') ∧ Only QC st st' ∧ ∀ st2, Rel st2 G I → F_X11_goes n st2 (some 106) l p = some v := by
  have hS := hR.sh
  unfold F_X10_goes
  rcases goCut G l p with ⟨j, k, hg⟩ | hg
  · obtain ⟨st1, e1, e2, e3⟩ := C_bring_t (n := n) hR hg
    exact ⟨1, st1, by simp only [g64_3 hS, g64_0 hS, o79 hS, Option.bind_some, e1, rz1], e2.mono fun a => q79, fun st2 h2 => M_goes_t h2 hg hn⟩
  · exact ⟨0, st, by simp only [g64_3 hS, g64_0 hS, o79 hS, Option.bind_some, C_bring_f hR hg, rz0], Only.refl hS, fun st2 h2 => M_goes_f h2 hg hn⟩
end GO

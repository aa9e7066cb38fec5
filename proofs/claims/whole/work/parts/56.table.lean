/-! TABLE, POINTS -/
def pt (m : Int) : Int := if m ≤ 0 then (if m = 0 then 1 else 0) else 3
/-- what one game brings a side: points, by how much, scored, played -/
def mt (G : Gh) (w s k : Nat) : Int := if G.nt k 0 = s ∨ G.nt k 1 = s then (if w = 0 then pt (if G.nt k 0 = s then mg G k else -mg G k) else if w = 1 then (if G.nt k 0 = s then mg G k else -mg G k) else if w = 2 then ((G.nt k (if G.nt k 0 = s then 3 else 4) : Nat) : Int) else 1) else 0
def tT (G : Gh) (x y : Int32) (w s : Nat) : Int := yS G x y (mt G w s) (G.cn 3)
abbrev ahd (T : Nat → Nat → Int) (a b : Nat) : Prop := if T 0 a = T 0 b then (if T 1 a = T 1 b then (if T 2 a = T 2 b then a < b else T 2 b < T 2 a) else T 1 b < T 1 a) else T 0 b < T 0 a
theorem ahd_s (T : Nat → Nat → Int) (a : Nat) : ¬ ahd T a a := by
  unfold ahd
  rw [if_pos rfl, if_pos rfl, if_pos rfl]
  exact Nat.lt_irrefl a
def plN (T : Nat → Nat → Int) (s : Nat) : Nat → Nat
  | 0 => 0
  | o + 1 => if T 3 o ≤ 0 then plN T s o else if ahd T o s then plN T s o + 1 else plN T s o
theorem plN_le (T : Nat → Nat → Int) (s o : Nat) : plN T s o ≤ o := by
  induction o with
  | zero => exact Nat.le_refl 0
  | succ o ih => unfold plN; split <;> (try split) <;> omega
def sdF (T : Nat → Nat → Int) (p : Int32) : Nat → Int32
  | 0 => -1
  | m + 1 => if T 3 (7 - m) ≤ 0 then sdF T p m else if nI (plN T (7 - m) 8) = p then nI (7 - m) else sdF T p m
section TA
variable {st st1 : xS} {n : Nat} {G : Gh} {I : Im} {x y : Int32}
theorem C_pointsBy {m : Int} (h1 : -2147483648 ≤ m) (h2 : m < 2147483648) : F_X10_pointsBy n st (zI m) = some (zI (pt m)) := by
  unfold F_X10_pointsBy pt
  simp (disch := omega) only [zLe0, zGe0, zEq0, zEq1, zEqN]
  by_cases h : m ≤ 0
  · by_cases h0 : m = 0
    · simp only [h, h0, if_true, Option.bind_some]; rfl
    · simp only [h, h0, if_true, if_false, Option.bind_some]; rfl
  · simp only [h, if_false]; rfl
theorem mt_b (hI : GhI G) (w s : Nat) {k : Nat} (hk : k < G.cn 3) : -9 ≤ mt G w s k ∧ mt G w s k ≤ 9 := by
  have t := hI.nt hk
  have m := mg_b hI hk
  unfold NtI at t
  unfold mt pt
  by_cases h : G.nt k 0 = s ∨ G.nt k 1 = s
  · rw [if_pos h]
    by_cases h0 : w = 0
    · rw [if_pos h0]; split <;> (try split) <;> omega
    · rw [if_neg h0]
      by_cases h1 : w = 1
      · rw [if_pos h1]; split <;> omega
      · rw [if_neg h1]
        by_cases h2 : w = 2
        · rw [if_pos h2]
          by_cases h3 : G.nt k 0 = s
          · rw [if_pos h3]; omega
          · rw [if_neg h3]; omega
        · rw [if_neg h2]; omega
  · rw [if_neg h]; omega
theorem tT_b (hI : GhI G) (x y : Int32) (w s : Nat) : -720 ≤ tT G x y w s ∧ tT G x y w s ≤ 720 := by
  have h := yS_b (G := G) (x := x) (y := y) (w := mt G w s) (c := 9) (fun i hi => mt_b hI w s hi) (by omega) hI.n3
  unfold tT
  omega
theorem tT_3 (hI : GhI G) (x y : Int32) (s : Nat) : 0 ≤ tT G x y 3 s := (one_b (x := x) (y := y) hI (w := mt G 3 s) (fun k => by
  show 0 ≤ (if _ then _ else (0 : Int)) ∧ (if _ then _ else (0 : Int)) ≤ 1
  by_cases h : G.nt k 0 = s ∨ G.nt k 1 = s
  · rw [if_pos h]; exact (by decide : (0 : Int) ≤ 1 ∧ (1 : Int) ≤ 1)
  · rw [if_neg h]; decide) (Nat.le_refl _)).1
/-- the model: what a side has made -/
theorem M_isBy (hS : Sh st) (hM : ModB (cI st 107) G) (hI : GhI G) {k s : Nat} (hk : k < G.cn 3) (hs : s < 8) : F_X11_isBy n st (some 106) (nI k) (nI s) = some (bI (G.nt k 0 = s ∨ G.nt k 1 = s)) := by
  have t := hI.nt hk
  unfold NtI at t
  have e0 : F_X11_noteAt n st (some 106) (nI k) (0 : Int32) = _ := M_noteAt hS hM hI hk (show 0 < 10 by decide)
  have e1 : F_X11_noteAt n st (some 106) (nI k) (1 : Int32) = _ := M_noteAt hS hM hI hk (show 1 < 10 by decide)
  unfold F_X11_isBy
  simp (disch := omega) only [↓bnd (o106 hS), ↓bnd (e0), nEq]
  by_cases h0 : G.nt k 0 = s
  · simp only [h0, if_true, Option.bind_some, true_or, bI_t, rz1]
  · simp (disch := omega) only [h0, if_false, ↓bnd (o106 hS), ↓bnd (e1), nEq, false_or]
    by_cases h1 : G.nt k 1 = s
    · simp only [h1, if_true, Option.bind_some, bI_t, rz1]
    · rw [bI_f h1]
      simp only [h1, if_false, Option.bind_some, rz0]
theorem M_made (hS : Sh st) (hM : ModB (cI st 107) G) (hI : GhI G) (x y : Int32) {s w : Nat} (hs : s < 8) (hw : w < 4) (hn : 3000 ≤ n) : F_X11_madeOf n st (some 106) x y (nI s) (nI w) = some (zI (tT G x y w s)) := by
  have b := hI.n3
  have hl : F_X11_madeOf_L6 n n st (some 106) x y (nI s) (nI w) (zI 0) (nI 0) = some (zI (yS G x y (mt G w s) (G.cn 3))) := by
    refine loop_run (fun m (q : Int32 × Int32) => F_X11_madeOf_L6 n m st (some 106) x y (nI s) (nI w) q.1 q.2) (fun k => (zI (yS G x y (mt G w s) k), nI k)) (G.cn 3) _ (fun m k hk => ?_) (fun m => ?_) n (by omega)
    · dsimp only
      have t := hI.nt hk
      have m1 := mg_b hI hk
      unfold NtI at t
      have e0 : F_X11_noteAt n st (some 106) (nI k) (0 : Int32) = _ := M_noteAt hS hM hI hk (show 0 < 10 by decide)
      have e3 : F_X11_noteAt n st (some 106) (nI k) (3 : Int32) = some (zI ((G.nt k 3 : Nat) : Int)) := M_noteAt hS hM hI hk (show 3 < 10 by decide)
      have e4 : F_X11_noteAt n st (some 106) (nI k) (4 : Int32) = some (zI ((G.nt k 4 : Nat) : Int)) := M_noteAt hS hM hI hk (show 4 < 10 by decide)
      rw [F_X11_madeOf_L6, yS_s]
      dsimp only
      by_cases h : inY G x y k
      · by_cases hb : G.nt k 0 = s ∨ G.nt k 1 = s
        · have hm : mt G w s k = (if w = 0 then pt (if G.nt k 0 = s then mg G k else -mg G k) else if w = 1 then (if G.nt k 0 = s then mg G k else -mg G k) else if w = 2 then ((G.nt k (if G.nt k 0 = s then 3 else 4) : Nat) : Int) else 1) := by
            unfold mt
            rw [if_pos hb]
          rw [hm]
          generalize yS G x y (mt G w s) k = A
          have q13 : ((if nI (G.nt k 0) = nI s then (isO st (some 106) 11).bind fun q10 => (F_X11_marginOf n st (some 106) (nI k)).bind fun v9 => some v9 else (isO st (some 106) 11).bind fun q12 => (F_X11_marginOf n st (some 106) (nI k)).bind fun v11 => some (-v11)) : Option Int32) = some (zI (if G.nt k 0 = s then mg G k else -mg G k)) := by
            simp (disch := omega) only [nEq]
            by_cases h0 : G.nt k 0 = s
            · simp only [h0, if_true, ↓bnd (o106 hS), ↓bnd (M_mg hS hM hI hk)]
            · simp only [h0, if_false, ↓bnd (o106 hS), ↓bnd (M_mg hS hM hI hk), zNeg]
          have mb : -9 ≤ (if G.nt k 0 = s then mg G k else -mg G k) ∧ (if G.nt k 0 = s then mg G k else -mg G k) ≤ 9 := by split <;> omega
          simp (disch := omega) only [↓Option.bind_some, ↓reduceIte, ↓bnd (g106_0 hS), ↓bnd (M_cnt hS hM), ↓bnd (o106 hS), ↓bnd (M_yr hS hM hI hk), ↓bnd (M_isBy hS hM hI hk hs), ↓bnd (e0), ↓bnd (q13), bI_t h, bI_t hb, if_pos h, i10, nLe_f, nI_1]
          generalize (if G.nt k 0 = s then mg G k else -mg G k) = q at *
          rcases (show w = 0 ∨ w = 1 ∨ w = 2 ∨ w = 3 by omega) with rfl | rfl | rfl | rfl
          · have e : ((if zI q ≤ (0 : Int32) then if zI q = (0 : Int32) then some (1 : Int32) else some (0 : Int32) else some (3 : Int32)) : Option Int32) = some (zI (pt q)) := by
              unfold pt
              simp (disch := omega) only [zLe0, zGe0, zEq0, zEq1, zEqN]
              by_cases h1 : q ≤ 0
              · by_cases h0 : q = 0
                · rw [if_pos h1, if_pos h0, if_pos h1, if_pos h0]; rfl
                · rw [if_pos h1, if_neg h0, if_pos h1, if_neg h0]; rfl
              · rw [if_neg h1, if_neg h1]; rfl
            simp only [nn0_0, nn0_1, nn0_2, nn0_3, nn1_0, nn1_1, nn1_2, nn1_3, nn2_0, nn2_1, nn2_2, nn2_3, nn3_0, nn3_1, nn3_2, nn3_3, nn4_0, nn4_1, nn4_2, nn4_3, nn5_0, nn5_1, nn5_2, nn5_3, mm0_0, mm0_1, mm0_2, mm0_3, mm1_0, mm1_1, mm1_2, mm1_3, mm2_0, mm2_1, mm2_2, mm2_3, mm3_0, mm3_1, mm3_2, mm3_3, mm4_0, mm4_1, mm4_2, mm4_3, mm5_0, mm5_1, mm5_2, mm5_3, if_true, if_false, ↓reduceIte, ↓bnd (e), Option.bind_some, zAdd]
          · simp only [nn0_0, nn0_1, nn0_2, nn0_3, nn1_0, nn1_1, nn1_2, nn1_3, nn2_0, nn2_1, nn2_2, nn2_3, nn3_0, nn3_1, nn3_2, nn3_3, nn4_0, nn4_1, nn4_2, nn4_3, nn5_0, nn5_1, nn5_2, nn5_3, mm0_0, mm0_1, mm0_2, mm0_3, mm1_0, mm1_1, mm1_2, mm1_3, mm2_0, mm2_1, mm2_2, mm2_3, mm3_0, mm3_1, mm3_2, mm3_3, mm4_0, mm4_1, mm4_2, mm4_3, mm5_0, mm5_1, mm5_2, mm5_3, if_true, if_false, ↓reduceIte, Option.bind_some, zAdd]
          · by_cases h0 : G.nt k 0 = s
            · simp (disch := omega) only [nn0_0, nn0_1, nn0_2, nn0_3, nn1_0, nn1_1, nn1_2, nn1_3, nn2_0, nn2_1, nn2_2, nn2_3, nn3_0, nn3_1, nn3_2, nn3_3, nn4_0, nn4_1, nn4_2, nn4_3, nn5_0, nn5_1, nn5_2, nn5_3, mm0_0, mm0_1, mm0_2, mm0_3, mm1_0, mm1_1, mm1_2, mm1_3, mm2_0, mm2_1, mm2_2, mm2_3, mm3_0, mm3_1, mm3_2, mm3_3, mm4_0, mm4_1, mm4_2, mm4_3, mm5_0, mm5_1, mm5_2, mm5_3, if_true, if_false, ↓reduceIte, ↓bnd (o106 hS), ↓bnd (e0), h0, nEq, Option.bind_some, ↓bnd (e3), zAdd]
            · simp (disch := omega) only [nn0_0, nn0_1, nn0_2, nn0_3, nn1_0, nn1_1, nn1_2, nn1_3, nn2_0, nn2_1, nn2_2, nn2_3, nn3_0, nn3_1, nn3_2, nn3_3, nn4_0, nn4_1, nn4_2, nn4_3, nn5_0, nn5_1, nn5_2, nn5_3, mm0_0, mm0_1, mm0_2, mm0_3, mm1_0, mm1_1, mm1_2, mm1_3, mm2_0, mm2_1, mm2_2, mm2_3, mm3_0, mm3_1, mm3_2, mm3_3, mm4_0, mm4_1, mm4_2, mm4_3, mm5_0, mm5_1, mm5_2, mm5_3, if_true, if_false, ↓reduceIte, ↓bnd (o106 hS), ↓bnd (e0), h0, nEq, Option.bind_some, ↓bnd (e4), zAdd]
          · simp only [nn0_0, nn0_1, nn0_2, nn0_3, nn1_0, nn1_1, nn1_2, nn1_3, nn2_0, nn2_1, nn2_2, nn2_3, nn3_0, nn3_1, nn3_2, nn3_3, nn4_0, nn4_1, nn4_2, nn4_3, nn5_0, nn5_1, nn5_2, nn5_3, mm0_0, mm0_1, mm0_2, mm0_3, mm1_0, mm1_1, mm1_2, mm1_3, mm2_0, mm2_1, mm2_2, mm2_3, mm3_0, mm3_1, mm3_2, mm3_3, mm4_0, mm4_1, mm4_2, mm4_3, mm5_0, mm5_1, mm5_2, mm5_3, if_true, if_false, ↓reduceIte, Option.bind_some, z_1]
        · unfold mt
          rw [if_neg hb]
          simp (disch := omega) only [↓Option.bind_some, ↓reduceIte, ↓bnd (g106_0 hS), ↓bnd (M_cnt hS hM), ↓bnd (o106 hS), ↓bnd (M_yr hS hM hI hk), ↓bnd (M_isBy hS hM hI hk hs), bI_T, bI_F, eq_false hb, eq_true h, i10, if_true, nLe_f, nI_1, Int.add_zero]
      · simp (disch := omega) only [↓Option.bind_some, ↓reduceIte, ↓bnd (g106_0 hS), ↓bnd (M_cnt hS hM), ↓bnd (o106 hS), ↓bnd (M_yr hS hM hI hk), bI_F, eq_false h, if_false, nLe_f, nI_1]
    · dsimp only
      rw [F_X11_madeOf_L6]
      dsimp only
      simp (disch := omega) only [↓Option.bind_some, ↓reduceIte, ↓bnd (g106_0 hS), ↓bnd (M_cnt hS hM), nLe_t]
  have hl2 : F_X11_madeOf_L6 n n st (some 106) x y (nI s) (nI w) (0 : Int32) (0 : Int32) = _ := hl
  unfold F_X11_madeOf tT
  simp only [↓bnd (hl2)]
theorem M_ahead (hS : Sh st) (hM : ModB (cI st 107) G) (hI : GhI G) (x y : Int32) {s t : Nat} (hs : s < 8) (ht : t < 8) (hn : 3000 ≤ n) : F_X11_isAhead n st (some 106) x y (nI s) (nI t) = some (bI (ahd (tT G x y) s t)) := by
  have m := fun (w : Nat) (hw : w < 4) (q : Nat) (hq : q < 8) => M_made (n := n) hS hM hI x y hq hw hn
  have m0s : F_X11_madeOf n st (some 106) x y (nI s) (0 : Int32) = _ := m 0 (by decide) s hs
  have m0t : F_X11_madeOf n st (some 106) x y (nI t) (0 : Int32) = _ := m 0 (by decide) t ht
  have m1s : F_X11_madeOf n st (some 106) x y (nI s) (1 : Int32) = _ := m 1 (by decide) s hs
  have m1t : F_X11_madeOf n st (some 106) x y (nI t) (1 : Int32) = _ := m 1 (by decide) t ht
  have m2s : F_X11_madeOf n st (some 106) x y (nI s) (2 : Int32) = _ := m 2 (by decide) s hs
  have m2t : F_X11_madeOf n st (some 106) x y (nI t) (2 : Int32) = _ := m 2 (by decide) t ht
  have b0s := tT_b hI x y 0 s
  have b0t := tT_b hI x y 0 t
  have b1s := tT_b hI x y 1 s
  have b1t := tT_b hI x y 1 t
  have b2s := tT_b hI x y 2 s
  have b2t := tT_b hI x y 2 t
  have gt : ∀ q : Int, -2000 ≤ q → q ≤ 2000 → ((0 : Int32) < zI q) = (0 < q) := fun q h1 h2 => zLt (a := 0) (by decide) (by decide) (by omega) (by omega)
  have fin : ∀ q : Int, -2000 ≤ q → q ≤ 2000 → ∀ c : Prop, [Decidable c] → ((0 < q) ∨ q = 0 ∧ s < t ↔ c) → ((if (0 : Int32) < zI q then some (1 : Int32) else if zI q = (0 : Int32) then if nI t ≤ nI s then some (0 : Int32) else some (1 : Int32) else some (0 : Int32)) : Option Int32) = some (bI c) := by
    intro q h1 h2 c _ hc
    simp (disch := omega) only [gt q h1 h2, zEq0, nLe]
    by_cases h3 : 0 < q
    · rw [if_pos h3, bI_t (hc.mp (Or.inl h3))]
    · rw [if_neg h3]
      by_cases h4 : q = 0
      · rw [if_pos h4]
        by_cases h5 : t ≤ s
        · rw [if_pos h5, bI_f (fun h => by have := hc.mpr h; omega)]
        · rw [if_neg h5, bI_t (hc.mp (Or.inr ⟨h4, by omega⟩))]
      · rw [if_neg h4, bI_f (fun h => by have := hc.mpr h; omega)]
  obtain ⟨k, rfl⟩ : ∃ k, n = k + 4 := ⟨n - 4, by omega⟩
  have st0 : F_X11_isAhead_L6 (k + 4) (k + 4) st (some 106) x y (nI s) (nI t) (0 : Int32) (0 : Int32) = F_X11_isAhead_L6 (k + 4) (k + 3) st (some 106) x y (nI s) (nI t) (zI (tT G x y 0 s - tT G x y 0 t)) (1 : Int32) := by
    rw [F_X11_isAhead_L6]
    dsimp only
    simp only [show ((3 : Int32) ≤ 0) = False by decide, if_false, if_true, ↓bnd (o106 hS), ↓bnd (m0s), ↓bnd (m0t), Option.bind_some, zSub, show (0 : Int32) + 1 = 1 by decide]
  by_cases c0 : tT G x y 0 s = tT G x y 0 t
  · have st1 : F_X11_isAhead_L6 (k + 4) (k + 3) st (some 106) x y (nI s) (nI t) (zI (tT G x y 0 s - tT G x y 0 t)) (1 : Int32) = F_X11_isAhead_L6 (k + 4) (k + 2) st (some 106) x y (nI s) (nI t) (zI (tT G x y 1 s - tT G x y 1 t)) (2 : Int32) := by
      rw [F_X11_isAhead_L6]
      dsimp only
      simp (disch := omega) only [show ((3 : Int32) ≤ 1) = False by decide, if_false, zEq0, show (tT G x y 0 s - tT G x y 0 t = 0) = True from eq_true (by omega), if_true, ↓bnd (o106 hS), ↓bnd (m1s), ↓bnd (m1t), Option.bind_some, zSub, show (1 : Int32) + 1 = 2 by decide]
    by_cases c1 : tT G x y 1 s = tT G x y 1 t
    · have st2 : F_X11_isAhead_L6 (k + 4) (k + 2) st (some 106) x y (nI s) (nI t) (zI (tT G x y 1 s - tT G x y 1 t)) (2 : Int32) = some (zI (tT G x y 2 s - tT G x y 2 t)) := by
        rw [F_X11_isAhead_L6]
        dsimp only
        simp (disch := omega) only [show ((3 : Int32) ≤ 2) = False by decide, if_false, zEq0, show (tT G x y 1 s - tT G x y 1 t = 0) = True from eq_true (by omega), if_true, ↓bnd (o106 hS), ↓bnd (m2s), ↓bnd (m2t), Option.bind_some, zSub, show (2 : Int32) + 1 = 3 by decide]
        rw [F_X11_isAhead_L6]
        dsimp only
        rw [if_pos (by decide)]
      have f := fin (tT G x y 2 s - tT G x y 2 t) (by omega) (by omega) (ahd (tT G x y) s t) (by
        unfold ahd
        rw [if_pos c0, if_pos c1]
        by_cases c2 : tT G x y 2 s = tT G x y 2 t
        · rw [if_pos c2]; omega
        · rw [if_neg c2]; omega)
      unfold F_X11_isAhead
      simp only [st0, st1, st2, Option.bind_some, f, rz_bI]
    · have st2 : F_X11_isAhead_L6 (k + 4) (k + 2) st (some 106) x y (nI s) (nI t) (zI (tT G x y 1 s - tT G x y 1 t)) (2 : Int32) = some (zI (tT G x y 1 s - tT G x y 1 t)) := by
        rw [F_X11_isAhead_L6]
        dsimp only
        simp (disch := omega) only [show ((3 : Int32) ≤ 2) = False by decide, if_false, zEq0, show (tT G x y 1 s - tT G x y 1 t = 0) = False from eq_false (by omega)]
      have f := fin (tT G x y 1 s - tT G x y 1 t) (by omega) (by omega) (ahd (tT G x y) s t) (by
        unfold ahd
        rw [if_pos c0, if_neg c1]; omega)
      unfold F_X11_isAhead
      simp only [st0, st1, st2, Option.bind_some, f, rz_bI]
  · have st1 : F_X11_isAhead_L6 (k + 4) (k + 3) st (some 106) x y (nI s) (nI t) (zI (tT G x y 0 s - tT G x y 0 t)) (1 : Int32) = some (zI (tT G x y 0 s - tT G x y 0 t)) := by
      rw [F_X11_isAhead_L6]
      dsimp only
      simp (disch := omega) only [show ((3 : Int32) ≤ 1) = False by decide, if_false, zEq0, show (tT G x y 0 s - tT G x y 0 t = 0) = False from eq_false (by omega)]
    have f := fin (tT G x y 0 s - tT G x y 0 t) (by omega) (by omega) (ahd (tT G x y) s t) (by
      unfold ahd
      rw [if_neg c0]; omega)
    unfold F_X11_isAhead
    simp only [st0, st1, Option.bind_some, f, rz_bI]
end TA

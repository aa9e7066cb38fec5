/-! WHICH PARTS ARE AWAKE: LIKE, SINGLE -/
def bq (f : Nat → Nat) : Nat → Int32
  | 0 => 0
  | p + 1 => if f p = 0 then bq f p else bq f p ||| ((1 : Int32) <<< (nI p &&& 31))
def bqB (b0 b1 b2 b3 b4 b5 : Bool) : Int32 :=
  let x0 : Int32 := if b0 then 0 else 0 ||| ((1 : Int32) <<< (nI 0 &&& 31))
  let x1 : Int32 := if b1 then x0 else x0 ||| ((1 : Int32) <<< (nI 1 &&& 31))
  let x2 : Int32 := if b2 then x1 else x1 ||| ((1 : Int32) <<< (nI 2 &&& 31))
  let x3 : Int32 := if b3 then x2 else x2 ||| ((1 : Int32) <<< (nI 3 &&& 31))
  let x4 : Int32 := if b4 then x3 else x3 ||| ((1 : Int32) <<< (nI 4 &&& 31))
  if b5 then x4 else x4 ||| ((1 : Int32) <<< (nI 5 &&& 31))
theorem bq_B (f : Nat → Nat) : bq f 6 = bqB (decide (f 0 = 0)) (decide (f 1 = 0)) (decide (f 2 = 0)) (decide (f 3 = 0)) (decide (f 4 = 0)) (decide (f 5 = 0)) := by
  simp only [bq, bqB, decide_eq_true_eq]
theorem bqB_bit : ∀ b0 b1 b2 b3 b4 b5 : Bool, ∀ p : Fin 6, ((bqB b0 b1 b2 b3 b4 b5 >>> (nI p.val &&& 31)) &&& (1 : Int32)) = if (match p.val with | 0 => b0 | 1 => b1 | 2 => b2 | 3 => b3 | 4 => b4 | _ => b5) then 0 else 1 := by decide +kernel
theorem bq_bit (f : Nat → Nat) {p : Nat} (hp : p < 6) : ((bq f 6 >>> (nI p &&& 31)) &&& (1 : Int32)) = if f p = 0 then 0 else 1 := by
  rw [bq_B]
  have h := bqB_bit (decide (f 0 = 0)) (decide (f 1 = 0)) (decide (f 2 = 0)) (decide (f 3 = 0)) (decide (f 4 = 0)) (decide (f 5 = 0)) ⟨p, hp⟩
  match p, hp, h with
  | 0, _, h => simpa only [decide_eq_true_eq] using h
  | 1, _, h => simpa only [decide_eq_true_eq] using h
  | 2, _, h => simpa only [decide_eq_true_eq] using h
  | 3, _, h => simpa only [decide_eq_true_eq] using h
  | 4, _, h => simpa only [decide_eq_true_eq] using h
  | 5, _, h => simpa only [decide_eq_true_eq] using h
def wk (L : LgD) (W : LwD) (P : PlD) (g : Nat) : Int32 := bq (gP L W P g) 6
theorem orZ (x : Int32) : x ||| 0 = x := by simp
theorem upd_u (f : Nat → Int32) (i : Nat) (u v : Int32) : upd (upd f i u) i v = upd f i v := by
  funext q
  unfold upd
  by_cases h : q = i <;> simp [h]
section WK
variable {st st1 : xS} {n : Nat} {G : Gh} {I : Im} {a w p : Nat} {L : LgD} {W : LwD} {P : PlD}
def WQ (st st' : xS) : Prop := Only QC st st' ∧ ∀ k, k < 3 → fR st' 79 k = fR st 79 k
theorem WF.q (h : WF st st1) : WQ st st1 := ⟨wfQ h, h.2⟩
theorem WQ.trans {st2 : xS} (h : WQ st st1) (k : WQ st1 st2) : WQ st st2 := ⟨h.1.trans k.1, fun i hi => (k.2 i hi).trans (h.2 i hi)⟩
theorem MS.wq (h : MS st a w p L W P) (k : WQ st st1) : MS st1 a w p L W P := by
  obtain ⟨h1, h2, h3, h4, h5, h6, h7⟩ := h
  have hS : ∀ a, QC a → a < 116 := fun a q => by unfold QC at q; omega
  exact ⟨k.1.2.2.1, (k.2 0 (by decide)).trans h2, (k.2 1 (by decide)).trans h3, (k.2 2 (by decide)).trans h4, h5.only k.1 hS, h6.only k.1 hS, h7.only k.1 hS⟩
theorem WQ_105 (hS : Sh st) (f : Nat → Int32) : WQ st (wA st 105 f) := ⟨(Only.wA hS 105 _).mono fun x h => by unfold QC; omega, fun k _ => fR_c (wA_n (by decide) _ _) k⟩
theorem C_wakeP (m : MS st a w p L W P) (hI : LgI L) (hV : LwI W) (hJ : PlI P) (hn : 3000 ≤ n) : ∃ st', F_X10_wake n st (some 64) = some st' ∧ WQ st st' ∧ (∀ g, g < P.n → cI st' 105 g = wk L W P g) ∧ cI st' 104 = cI st 104 := by
  have c1 := hJ.1
  have hl : ∃ st', F_X10_wake_L2 n n st (some 64) (0 : Int32) = some st' ∧ WQ st st' ∧ (∀ g, g < P.n → cI st' 105 g = wk L W P g) ∧ cI st' 104 = cI st 104 := by
    refine loop_ex (fun m (s : xS × Int32) => F_X10_wake_L2 n m s.1 (some 64) s.2) (fun g s => WQ st s.1 ∧ (∀ q, q < g → cI s.1 105 q = wk L W P q) ∧ cI s.1 104 = cI st 104 ∧ s.2 = nI g) P.n (fun r => ∃ st', r = some st' ∧ WQ st st' ∧ (∀ g, g < P.n → cI st' 105 g = wk L W P g) ∧ cI st' 104 = cI st 104) ?_ ?_ n (by omega) (st, 0) ⟨(WF.refl m.1).q, fun q hq => by omega, rfl, rfl⟩
    · rintro k g ⟨s, y⟩ hg ⟨h1, h2, h4, h3⟩
      dsimp only at h1 h2 h3 h4 ⊢
      subst h3
      have ms := m.wq h1
      obtain ⟨s2, e2, wf, f87, -⟩ := C_look (n := n) ms hI hV hJ hg hn
      have ms2 := ms.wf wf
      have hb : F_X10_wake_L37 n n s2 (some 64) (nI g) (0 : Int32) (0 : Int32) = some (wk L W P g) := by
        refine loop_run (fun m (s : Int32 × Int32) => F_X10_wake_L37 n m s2 (some 64) (nI g) s.1 s.2) (fun i => (bq (gP L W P g) i, nI i)) 6 _ (fun m i hi => ?_) (fun m => ?_) n (by omega)
        · dsimp only
          have b := gP_le L W P g i
          have ew : F_X5_worthOf n s2 (some 79) (nI i) = some (nI (gP L W P g i)) := by
            unfold F_X5_worthOf
            simp only [↓bnd (g79_3 ms2.1), C_val (c87 ms2.1) hi (by decide), Option.bind_some, f87 i hi]
          rw [F_X10_wake_L37, bq]
          dsimp only
          simp (disch := omega) only [l6, ↓Option.bind_some, ↓reduceIte, ↓bnd (g64_3 ms2.1), ↓bnd (o79 ms2.1), ↓bnd (ew), nLe_f]
          by_cases hc : gP L W P g i = 0
          · simp only [hc, if_true, show (nI 0 ≤ (0 : Int32)) = True from eq_true (by decide), Option.bind_some, nI_1]
          · have : (nI (gP L W P g i) ≤ (0 : Int32)) = False := eq_false (nI_nle (by omega) (by omega))
            simp only [hc, if_false, this, Option.bind_some, nI_1]
        · dsimp only
          rw [F_X10_wake_L37]
          dsimp only
          simp (disch := omega) only [l6, ↓reduceIte, nLe_t]
          rfl
      have s3 : sS 0 s2 (some 105) (nI g) (wk L W P g) = some (wA s2 105 (upd (cI s2 105) g (wk L W P g))) := by
        rw [w105 ms2.1, if_pos (ixT (by omega) (by decide)), nIc (by omega)]
      have wq := (h1.trans wf.q).trans (WQ_105 ms2.1 (upd (cI s2 105) g (wk L W P g)))
      refine ⟨(wA s2 105 (upd (cI s2 105) g (wk L W P g)), nI (g + 1)), ⟨wq, fun q hq => ?_, ((cI_c (wA_n (by decide) _ _)).trans (cI_o wf.1 (by decide))).trans h4, rfl⟩, ?_⟩
      · dsimp only
        rw [k105 ms2.1]
        by_cases hqg : q = g
        · rw [hqg, upd_s]
        · rw [pk_un hqg, cI_o wf.1 (by decide)]
          exact h2 q (by omega)
      · dsimp only
        rw [F_X10_wake_L2]
        dsimp only
        simp (disch := omega) only [l1, ↓Option.bind_some, ↓reduceIte, ↓bnd (g64_3 ms.1), ↓bnd (ms.y2), ↓bnd (ms.pn), ↓bnd (g64_7 ms.1), ↓bnd (n105 ms.1), ↓bnd (o79 ms.1), ↓bnd (e2), ↓bnd (hb), ↓bnd (g64_7 ms2.1), ↓bnd (s3), nLe_f, nAdd]
    · rintro k ⟨s, y⟩ ⟨h1, h2, h4, h3⟩
      dsimp only at h1 h2 h3 h4 ⊢
      subst h3
      have ms := m.wq h1
      refine ⟨s, ?_, h1, h2, h4⟩
      rw [F_X10_wake_L2]
      dsimp only
      simp (disch := omega) only [↓Option.bind_some, ↓reduceIte, ↓bnd (g64_3 ms.1), ↓bnd (ms.y2), ↓bnd (ms.pn), nLe_t]
  obtain ⟨st', h1, h2⟩ := hl
  exact ⟨st', by unfold F_X10_wake; rw [h1]; rfl, h2⟩
theorem C_wake (m : MS st a w p L W P) (hI : LgI L) (hV : LwI W) (hJ : PlI P) (hn : 3000 ≤ n) : ∃ st', F_X10_wake n st (some 64) = some st' ∧ WQ st st' ∧ ∀ g, g < P.n → cI st' 105 g = wk L W P g := by
  obtain ⟨st', h1, h2, h3, -⟩ := C_wakeP m hI hV hJ hn
  exact ⟨st', h1, h2, h3⟩
theorem M_isAwake (hS : Sh st) (hM : ModB (cI st 107) G) (hI : GhI G) {j i k g p : Nat} (hj : j < G.cn 0) (hi : i < G.cn 1) (hk : k < G.cn 2) (hg : g < (G.P k).n) (hp : p < 6) (hn : 3000 ≤ n) : F_X11_isAwake n st (some 106) (nI (510 + 150 * j)) (nI (960 + 14 * i)) (nI k) (nI g) (nI p) = some (if gP (G.L j) (G.W i) (G.P k) g p = 0 then 0 else 1) := by
  have b := gP_le (G.L j) (G.W i) (G.P k) g p
  unfold F_X11_isAwake
  simp only [↓bnd (o106 hS), ↓bnd (M_partOf hS hM hI hj hi hk hg hp hn)]
  by_cases hc : gP (G.L j) (G.W i) (G.P k) g p = 0
  · simp only [hc, if_true, show (nI 0 ≤ (0 : Int32)) = True from eq_true (by decide), Option.bind_some, rz0]
  · have : (nI (gP (G.L j) (G.W i) (G.P k) g p) ≤ (0 : Int32)) = False := eq_false (nI_nle (by omega) (by omega))
    simp only [hc, if_false, this, Option.bind_some, rz1]
theorem M_wakes (hS : Sh st) (hM : ModB (cI st 107) G) (hI : GhI G) {j i k : Nat} (hj : j < G.cn 0) (hi : i < G.cn 1) (hk : k < G.cn 2) (hn : 3000 ≤ n) : ∃ st', F_X11_wakes n st (some 106) (nI j) (nI i) (nI k) = some st' ∧ Only (fun a => a = 115) st st' ∧ ∀ g, g < (G.P k).n → cI st' 115 g = wk (G.L j) (G.W i) (G.P k) g := by
  have c1 := (hI.pp hk).1
  have hl : ∃ st', F_X11_wakes_L3 n n st (some 106) (nI j) (nI i) (nI k) (0 : Int32) = some st' ∧ Only (fun a => a = 115) st st' ∧ ∀ g, g < (G.P k).n → cI st' 115 g = wk (G.L j) (G.W i) (G.P k) g := by
    refine loop_ex (fun m (s : xS × Int32) => F_X11_wakes_L3 n m s.1 (some 106) (nI j) (nI i) (nI k) s.2) (fun g s => Only (fun a => a = 115) st s.1 ∧ (∀ q, q < g → cI s.1 115 q = wk (G.L j) (G.W i) (G.P k) q) ∧ s.2 = nI g) (G.P k).n (fun r => ∃ st', r = some st' ∧ Only (fun a => a = 115) st st' ∧ ∀ g, g < (G.P k).n → cI st' 115 g = wk (G.L j) (G.W i) (G.P k) g) ?_ ?_ n (by omega) (st, 0) ⟨Only.refl hS, fun q hq => by omega, rfl⟩
    · rintro m g ⟨s, y⟩ hg ⟨h1, h2, h3⟩
      dsimp only at h1 h2 h3 ⊢
      subst h3
      have S1 := h1.2.2.1
      have M1 : ModB (cI s 107) G := by rw [cI_o h1 (by decide)]; exact hM
      have s3 : sS 0 s (some 115) (nI g) (0 : Int32) = some (wA s 115 (upd (cI s 115) g 0)) := by
        rw [w115 S1, if_pos (ixT (by omega) (by decide)), nIc (by omega)]
      have hb : F_X11_wakes_L24 n n (wA s 115 (upd (cI s 115) g 0)) (some 106) (nI j) (nI i) (nI k) (nI g) (0 : Int32) = some (wA s 115 (upd (cI s 115) g (wk (G.L j) (G.W i) (G.P k) g))) := by
        refine loop_run (fun m (q : xS × Int32) => F_X11_wakes_L24 n m q.1 (some 106) (nI j) (nI i) (nI k) (nI g) q.2) (fun t => (wA s 115 (upd (cI s 115) g (bq (gP (G.L j) (G.W i) (G.P k) g) t)), nI t)) 6 _ (fun m t ht => ?_) (fun m => ?_) n (by omega)
        · dsimp only
          have S2 : Sh (wA s 115 (upd (cI s 115) g (bq (gP (G.L j) (G.W i) (G.P k) g) t))) := shw_A S1 115 _
          have k2 := k115 S1 (upd (cI s 115) g (bq (gP (G.L j) (G.W i) (G.P k) g) t))
          have M2 : ModB (cI (wA s 115 (upd (cI s 115) g (bq (gP (G.L j) (G.W i) (G.P k) g) t))) 107) G := by rw [cI_c (wA_n (by decide) _ _)]; exact M1
          have p0 : F_X11_placeOf n (wA s 115 (upd (cI s 115) g (bq (gP (G.L j) (G.W i) (G.P k) g) t))) (0 : Int32) (nI j) = _ := M_placeOf0 j
          have p1 : F_X11_placeOf n (wA s 115 (upd (cI s 115) g (bq (gP (G.L j) (G.W i) (G.P k) g) t))) (1 : Int32) (nI i) = _ := M_placeOf1 i
          have r1 : aI (wA s 115 (upd (cI s 115) g (bq (gP (G.L j) (G.W i) (G.P k) g) t))) (some 115) (nI g) = some (bq (gP (G.L j) (G.W i) (G.P k) g) t) := by
            rw [a115 S2, if_pos (ixT (by omega) (by decide)), nIc (by omega), k2, upd_s]
          have r2 : ∀ v, sS 0 (wA s 115 (upd (cI s 115) g (bq (gP (G.L j) (G.W i) (G.P k) g) t))) (some 115) (nI g) v = some (wA s 115 (upd (cI s 115) g v)) := fun v => by
            rw [w115 S2, if_pos (ixT (by omega) (by decide)), nIc (by omega), k2, upd_u, wA_w]
          rw [F_X11_wakes_L24]
          dsimp only
          simp (disch := omega) only [l6, ↓Option.bind_some, ↓reduceIte, ↓bnd (g106_30 S2), ↓bnd (r1), ↓bnd (p0), ↓bnd (p1), ↓bnd (o106 S2), ↓bnd (M_isAwake S2 M2 hI hj hi hk hg ht hn), nLe_f]
          by_cases hc : gP (G.L j) (G.W i) (G.P k) g t = 0
          · simp only [↓Option.bind_some, ↓reduceIte, hc, orZ, ↓bnd (r2 _), bq, nI_1]
          · simp only [↓Option.bind_some, ↓reduceIte, hc, i10, ↓bnd (r2 _), bq, nI_1]
        · dsimp only
          rw [F_X11_wakes_L24]
          dsimp only
          simp (disch := omega) only [l6, ↓reduceIte, nLe_t]
          rfl
      refine ⟨(wA s 115 (upd (cI s 115) g (wk (G.L j) (G.W i) (G.P k) g)), nI (g + 1)), ⟨h1.trans (Only.wA S1 115 _), fun q hq => ?_, rfl⟩, ?_⟩
      · dsimp only
        rw [k115 S1]
        by_cases hqg : q = g
        · rw [hqg, upd_s]
        · rw [pk_un hqg]
          exact h2 q (by omega)
      · dsimp only
        rw [F_X11_wakes_L3]
        dsimp only
        simp (disch := omega) only [l1, ↓Option.bind_some, ↓reduceIte, ↓bnd (o106 S1), ↓bnd (M_games S1 M1 hI hk), ↓bnd (g106_30 S1), ↓bnd (s3), ↓bnd (hb), nLe_f, nAdd]
    · rintro m ⟨s, y⟩ ⟨h1, h2, h3⟩
      dsimp only at h1 h2 h3 ⊢
      subst h3
      have S1 := h1.2.2.1
      have M1 : ModB (cI s 107) G := by rw [cI_o h1 (by decide)]; exact hM
      refine ⟨s, ?_, h1, h2⟩
      rw [F_X11_wakes_L3]
      dsimp only
      simp (disch := omega) only [↓Option.bind_some, ↓reduceIte, ↓bnd (o106 S1), ↓bnd (M_games S1 M1 hI hk), nLe_t]
  obtain ⟨st', h1, h2⟩ := hl
  exact ⟨st', by unfold F_X11_wakes; rw [h1]; rfl, h2⟩
/-- in all of the first games two parts are awake alike -/
def alk (f : Nat → Nat → Nat) (x y : Nat) : Nat → Nat
  | 0 => 1
  | g + 1 => if alk f x y g = 0 then 0 else if (f g x = 0 ↔ f g y = 0) then 1 else 0
theorem alk_1 (f : Nat → Nat → Nat) (x y g : Nat) : (alk f x y g = 1 ↔ ∀ t, t < g → (f t x = 0 ↔ f t y = 0)) ∧ alk f x y g ≤ 1 := by
  induction g with
  | zero => exact ⟨⟨fun _ t ht => by omega, fun _ => rfl⟩, Nat.le_refl 1⟩
  | succ g ih =>
    unfold alk
    by_cases h1 : alk f x y g = 0
    · rw [if_pos h1]
      refine ⟨⟨fun h => by omega, fun h => ?_⟩, by omega⟩
      have := ih.1.mpr fun t ht => h t (by omega)
      omega
    · rw [if_neg h1]
      have h2 := ih.1.mp (by omega)
      by_cases h3 : (f g x = 0 ↔ f g y = 0)
      · rw [if_pos h3]
        refine ⟨⟨fun _ t ht => ?_, fun _ => rfl⟩, Nat.le_refl 1⟩
        by_cases e : t = g
        · rw [e]; exact h3
        · exact h2 t (by omega)
      · rw [if_neg h3]
        exact ⟨⟨fun h => by omega, fun h => absurd (h g (by omega)) h3⟩, by omega⟩
theorem alk_v (f : Nat → Nat → Nat) (x y N v : Nat) (hv : v ≤ 1) (h : v = 1 ↔ ∀ t, t < N → (f t x = 0 ↔ f t y = 0)) : alk f x y N = v := by
  have h1 := alk_1 f x y N
  by_cases c : v = 1
  · rw [c]; exact h1.1.mpr (h.mp c)
  · have : ¬ alk f x y N = 1 := fun q => c (h.mpr (h1.1.mp q))
    omega
/-- the bits of the parts that are like one -/
def lkN (f : Nat → Nat → Nat) (N x : Nat) : Nat → Int32
  | 0 => 0
  | y + 1 => if alk f x y N = 0 then lkN f N x y else lkN f N x y ||| ((1 : Int32) <<< (nI y &&& 31))
theorem eqI01 (x y : Nat) : ((if x = 0 then (0 : Int32) else 1) = (if y = 0 then (0 : Int32) else 1)) = (x = 0 ↔ y = 0) := by
  by_cases h1 : x = 0 <;> by_cases h2 : y = 0 <;> simp [h1, h2]
theorem C_wakeAlike (m : MS st a w p L W P) (hJ : PlI P) (h105 : ∀ g, g < P.n → cI st 105 g = wk L W P g) {x y : Nat} (hx : x < 6) (hy : y < 6) (hn : 3000 ≤ n) : F_X10_wakeAlike n st (some 64) (nI x) (nI y) = some (nI (alk (gP L W P) x y P.n)) := by
  have c1 := hJ.1
  have key : ∀ q g k, g + q = P.n → q < k → ∃ v, v ≤ 1 ∧ F_X10_wakeAlike_L2 n k st (some 64) (nI x) (nI y) (nI g) = some (nI v) ∧ (v = 1 ↔ ∀ t, g ≤ t → t < P.n → (gP L W P t x = 0 ↔ gP L W P t y = 0)) := by
    intro q
    induction q with
    | zero =>
      intro g k h1 h2
      obtain ⟨k, rfl⟩ : ∃ j, k = j + 1 := ⟨k - 1, by omega⟩
      refine ⟨1, Nat.le_refl 1, ?_, fun _ t h3 h4 => by omega, fun _ => rfl⟩
      rw [F_X10_wakeAlike_L2]
      dsimp only
      simp (disch := omega) only [↓Option.bind_some, ↓reduceIte, ↓bnd (g64_3 m.1), ↓bnd (m.y2), ↓bnd (m.pn), ↓bnd (rz1), nLe_t]
      rfl
    | succ q ih =>
      intro g k h1 h2
      obtain ⟨k, rfl⟩ : ∃ j, k = j + 1 := ⟨k - 1, by omega⟩
      have hv : F_X10_valueAt n st (some 105) (nI g) = some (wk L W P g) := by rw [C_val (c105 m.1) (by omega) (by decide), h105 g (by omega)]
      have b1 := bq_bit (gP L W P g) hx
      have b2 := bq_bit (gP L W P g) hy
      rw [F_X10_wakeAlike_L2]
      dsimp only
      simp (disch := omega) only [↓Option.bind_some, ↓reduceIte, ↓bnd (g64_3 m.1), ↓bnd (m.y2), ↓bnd (m.pn), ↓bnd (g64_7 m.1), ↓bnd (hv), ↓bnd (rz0), nLe_f, wk, b1, b2, eqI01, nI_1]
      by_cases hc : (gP L W P g x = 0 ↔ gP L W P g y = 0)
      · obtain ⟨v, v1, v2, v3⟩ := ih (g + 1) k (by omega) (by omega)
        refine ⟨v, v1, ?_, ?_⟩
        · simp only [hc, if_true, v2]
        · rw [v3]
          exact ⟨fun h t h3 h4 => by
            by_cases e : t = g
            · rw [e]; exact hc
            · exact h t (by omega) h4, fun h t h3 h4 => h t (by omega) h4⟩
      · refine ⟨0, by omega, ?_, fun h => by omega, fun h => absurd (h g (Nat.le_refl g) (by omega)) hc⟩
        simp only [hc, if_false]
        rfl
  obtain ⟨v, v1, v2, v3⟩ := key P.n 0 n (by omega) (by omega)
  unfold F_X10_wakeAlike
  rw [alk_v _ x y P.n v v1 (by rw [v3]; exact ⟨fun h t h3 => h t (by omega) h3, fun h t _ h3 => h t h3⟩)]
  exact v2
theorem E_like (hR : Rel st G I) (l w p x : Int32) (hn : 3000 ≤ n) : ∃ v st', F_X10_like n st (some 64) l w p x = some (v, st') ∧ Only QC st st' ∧ ∀ st2, Rel st2 G I → F_X11_like n st2 (some 106) l w p x = some v := by
  have hS := hR.sh
  unfold F_X10_like
  rcases nCut x 6 with ⟨x, hx, rfl⟩ | hx
  · rcases go4Cut G l w p with ⟨j, i, k, hg⟩ | hg
    · obtain ⟨st1, a, w', p', e1, o1, m1⟩ := C_b4 (n := n) hR hg
      have S1 := m1.1
      have hj := hg.1.1
      have hk := hg.1.2.1
      have hi := hg.2.1
      have hJ := hR.inv.pp hk
      have c1 := hJ.1
      obtain ⟨st2, e2, wq, h105⟩ := C_wake (n := n) m1 (hR.inv.lg hj) (hR.inv.lw hi) hJ hn
      have m2 := m1.wq wq
      have hl : F_X10_like_L37 n n st2 (some 64) (nI x) (0 : Int32) (0 : Int32) = some (lkN (gP (G.L j) (G.W i) (G.P k)) (G.P k).n x 6) := by
        refine loop_run (fun m (s : Int32 × Int32) => F_X10_like_L37 n m st2 (some 64) (nI x) s.1 s.2) (fun y => (lkN (gP (G.L j) (G.W i) (G.P k)) (G.P k).n x y, nI y)) 6 _ (fun m y hy => ?_) (fun m => ?_) n (by omega)
        · dsimp only
          have ha := C_wakeAlike (n := n) m2 hJ h105 hx hy hn
          have hb := (alk_1 (gP (G.L j) (G.W i) (G.P k)) x y (G.P k).n).2
          rw [F_X10_like_L37, lkN]
          dsimp only
          simp (disch := omega) only [l6, ↓Option.bind_some, ↓reduceIte, ↓bnd (o64 m2.1), ↓bnd (ha), nLe_f, nI_1]
          by_cases hc : alk (gP (G.L j) (G.W i) (G.P k)) x y (G.P k).n = 0
          · simp only [hc, if_true, show (nI 0 = (0 : Int32)) = True from eq_true rfl, Option.bind_some]
          · have : (nI (alk (gP (G.L j) (G.W i) (G.P k)) x y (G.P k).n) = (0 : Int32)) = False := eq_false (nI_ne0 (by omega) (by omega))
            simp only [hc, if_false, this, Option.bind_some]
        · dsimp only
          rw [F_X10_like_L37]
          dsimp only
          simp (disch := omega) only [l6, ↓reduceIte, nLe_t]
      refine ⟨lkN (gP (G.L j) (G.W i) (G.P k)) (G.P k).n x 6, st2, ?_, o1.trans wq.1, fun st3 r3 => ?_⟩
      · simp only [↓Option.bind_some, ↓reduceIte, ↓bnd (C_isPart_t hx), ↓bnd (g64_3 hS), ↓bnd (g64_0 hS), ↓bnd (o79 hS), ↓bnd (e1), ↓bnd (o64 S1), ↓bnd (e2), ↓bnd (hl), i10]
      · have S3 := r3.sh
        have M := M_isPart_t (n := n) r3 hg hx hn
        obtain ⟨⟨-, -, rfl, rfl, -⟩, -, rfl⟩ := hg
        have p0 : F_X11_placeOf n st3 (0 : Int32) (nI j) = _ := M_placeOf0 j
        have p1 : F_X11_placeOf n st3 (1 : Int32) (nI i) = _ := M_placeOf1 i
        have h47 : ∀ y, y < 6 → ∀ t, F_X11_like_L47 n n st3 (some 106) (nI k) (nI x) (nI (510 + 150 * j)) (nI (960 + 14 * i)) t (nI y) (1 : Int32) (0 : Int32) = some (nI (alk (gP (G.L j) (G.W i) (G.P k)) x y (G.P k).n)) := by
          intro y hy t
          refine loop_run (fun m (s : Int32 × Int32) => F_X11_like_L47 n m st3 (some 106) (nI k) (nI x) (nI (510 + 150 * j)) (nI (960 + 14 * i)) t (nI y) s.1 s.2) (fun g => (nI (alk (gP (G.L j) (G.W i) (G.P k)) x y g), nI g)) (G.P k).n _ (fun m g hg => ?_) (fun m => ?_) n (by omega)
          · dsimp only
            have hb := (alk_1 (gP (G.L j) (G.W i) (G.P k)) x y g).2
            rw [F_X11_like_L47, alk]
            dsimp only
            simp (disch := omega) only [↓Option.bind_some, ↓reduceIte, ↓bnd (o106 S3), ↓bnd (M_games S3 r3.mod r3.inv hk), ↓bnd (M_isAwake S3 r3.mod r3.inv hj hi hk hg hx hn), ↓bnd (M_isAwake S3 r3.mod r3.inv hj hi hk hg hy hn), nLe_f, nI_1, eqI01]
            by_cases hc : alk (gP (G.L j) (G.W i) (G.P k)) x y g = 0
            · simp only [hc, if_true, show (nI 0 = (0 : Int32)) = True from eq_true rfl, Option.bind_some]
              rfl
            · have : (nI (alk (gP (G.L j) (G.W i) (G.P k)) x y g) = (0 : Int32)) = False := eq_false (nI_ne0 (by omega) (by omega))
              by_cases hd : (gP (G.L j) (G.W i) (G.P k) g x = 0 ↔ gP (G.L j) (G.W i) (G.P k) g y = 0)
              · simp only [hc, hd, if_true, if_false, this, Option.bind_some]
                rfl
              · simp only [hc, hd, if_false, this, Option.bind_some]
                rfl
          · dsimp only
            rw [F_X11_like_L47]
            dsimp only
            simp (disch := omega) only [↓Option.bind_some, ↓reduceIte, ↓bnd (o106 S3), ↓bnd (M_games S3 r3.mod r3.inv hk), nLe_t]
        have hm : F_X11_like_L34 n n st3 (some 106) (nI k) (nI x) (nI (510 + 150 * j)) (nI (960 + 14 * i)) (0 : Int32) (0 : Int32) = some (lkN (gP (G.L j) (G.W i) (G.P k)) (G.P k).n x 6) := by
          refine loop_run (fun m (s : Int32 × Int32) => F_X11_like_L34 n m st3 (some 106) (nI k) (nI x) (nI (510 + 150 * j)) (nI (960 + 14 * i)) s.1 s.2) (fun y => (lkN (gP (G.L j) (G.W i) (G.P k)) (G.P k).n x y, nI y)) 6 _ (fun m y hy => ?_) (fun m => ?_) n (by omega)
          · dsimp only
            have hb := (alk_1 (gP (G.L j) (G.W i) (G.P k)) x y (G.P k).n).2
            rw [F_X11_like_L34, lkN]
            dsimp only
            simp (disch := omega) only [l6, ↓Option.bind_some, ↓reduceIte, ↓bnd (h47 y hy _), nLe_f, nI_1]
            by_cases hc : alk (gP (G.L j) (G.W i) (G.P k)) x y (G.P k).n = 0
            · simp only [hc, if_true, show (nI 0 = (0 : Int32)) = True from eq_true rfl, Option.bind_some, orZ]
            · have : (nI (alk (gP (G.L j) (G.W i) (G.P k)) x y (G.P k).n) = (0 : Int32)) = False := eq_false (nI_ne0 (by omega) (by omega))
              simp only [hc, if_false, this, Option.bind_some]
          · dsimp only
            rw [F_X11_like_L34]
            dsimp only
            simp (disch := omega) only [l6, ↓reduceIte, nLe_t]
        unfold F_X11_like
        simp only [↓Option.bind_some, ↓reduceIte, ↓bnd (o106 S3), ↓bnd (M), ↓bnd (p0), ↓bnd (p1), ↓bnd (hm), i10]
    · refine ⟨-1, st, ?_, Only.refl hS, fun st3 r3 => ?_⟩
      · simp only [↓Option.bind_some, ↓reduceIte, ↓bnd (C_isPart_t hx), ↓bnd (g64_3 hS), ↓bnd (g64_0 hS), ↓bnd (o79 hS), ↓bnd (C_bring4_f hR hg), i10]
      · unfold F_X11_like
        simp only [↓Option.bind_some, ↓reduceIte, ↓bnd (o106 r3.sh), ↓bnd (M_isPart_f r3 (Or.inl hg) hn)]
  · refine ⟨-1, st, ?_, Only.refl hS, fun st3 r3 => ?_⟩
    · simp only [↓Option.bind_some, ↓reduceIte, ↓bnd (C_isPart_f hx)]
    · unfold F_X11_like
      simp only [↓Option.bind_some, ↓reduceIte, ↓bnd (o106 r3.sh), ↓bnd (M_isPart_f r3 (Or.inr hx) hn)]
end WK

/-! SINGLE; sums over couples -/
theorem nS_congr {f g : Nat → Nat} {N : Nat} (h : ∀ i, i < N → f i = g i) : nS f N = nS g N := by
  induction N with
  | zero => rfl
  | succ N ih => simp only [nS, ih fun i hi => h i (by omega), h N (by omega)]
theorem nS_add (f g : Nat → Nat) (N : Nat) : nS (fun i => f i + g i) N = nS f N + nS g N := by
  induction N with
  | zero => rfl
  | succ N ih => simp only [nS, ih]; omega
theorem tri_n (F : Nat → Nat → Nat) (N : Nat) : nS (fun i => nS (fun t => F i (i + 1 + t)) (N - 1 - i)) N = nS (fun i => nS (fun j => F j i) i) N := by
  induction N with
  | zero => rfl
  | succ N ih =>
    have e1 : nS (fun i => nS (fun t => F i (i + 1 + t)) (N + 1 - 1 - i)) N = nS (fun i => nS (fun t => F i (i + 1 + t)) (N - 1 - i) + F i N) N := nS_congr fun i hi => by
      rw [show N + 1 - 1 - i = (N - 1 - i) + 1 by omega, nS, show i + 1 + (N - 1 - i) = N by omega]
    have e2 : nS (fun t => F N (N + 1 + t)) (N + 1 - 1 - N) = 0 := by rw [show N + 1 - 1 - N = 0 by omega]; rfl
    rw [nS, e1, e2, nS_add, ih, nS]
    rfl
def iS (f : Nat → Int) : Nat → Int
  | 0 => 0
  | i + 1 => iS f i + f i
theorem iS_congr {f g : Nat → Int} {N : Nat} (h : ∀ i, i < N → f i = g i) : iS f N = iS g N := by
  induction N with
  | zero => rfl
  | succ N ih => simp only [iS, ih fun i hi => h i (by omega), h N (by omega)]
theorem iS_add (f g : Nat → Int) (N : Nat) : iS (fun i => f i + g i) N = iS f N + iS g N := by
  induction N with
  | zero => rfl
  | succ N ih => simp only [iS, ih]; omega
theorem tri_i (F : Nat → Nat → Int) (N : Nat) : iS (fun i => iS (fun t => F i (i + 1 + t)) (N - 1 - i)) N = iS (fun i => iS (fun j => F j i) i) N := by
  induction N with
  | zero => rfl
  | succ N ih =>
    have e1 : iS (fun i => iS (fun t => F i (i + 1 + t)) (N + 1 - 1 - i)) N = iS (fun i => iS (fun t => F i (i + 1 + t)) (N - 1 - i) + F i N) N := iS_congr fun i hi => by
      rw [show N + 1 - 1 - i = (N - 1 - i) + 1 by omega, iS, show i + 1 + (N - 1 - i) = N by omega]
    have e2 : iS (fun t => F N (N + 1 + t)) (N + 1 - 1 - N) = 0 := by rw [show N + 1 - 1 - N = 0 by omega]; rfl
    rw [iS, e1, e2, iS_add, ih, iS, Int.add_zero]
/-- the square of all pairs: the two triangles and the diagonal -/
theorem squ_i (H : Nat → Nat → Int) (N : Nat) : iS (fun i => iS (fun j => H i j) N) N = iS (fun i => iS (fun j => H i j + H j i) i) N + iS (fun i => H i i) N := by
  induction N with
  | zero => rfl
  | succ N ih =>
    have e1 : iS (fun i => iS (fun j => H i j) (N + 1)) N = iS (fun i => iS (fun j => H i j) N + H i N) N := iS_congr fun i hi => rfl
    rw [iS, e1, iS_add, ih]
    simp only [iS, iS_add]
    have e3 : iS (fun j => H N j) N = iS (H N) N := rfl
    have e4 : iS (fun i => H i N) N = iS (fun j => H j N) N := rfl
    rw [e3] at *
    omega
theorem nS_z {f : Nat → Nat} {N : Nat} (h : ∀ i, i < N → f i = 0) : nS f N = 0 := by
  induction N with
  | zero => rfl
  | succ N ih => simp only [nS, ih fun i hi => h i (by omega), h N (by omega)]
theorem iS_z {f : Nat → Int} {N : Nat} (h : ∀ i, i < N → f i = 0) : iS f N = 0 := by
  induction N with
  | zero => rfl
  | succ N ih => simp only [iS, ih fun i hi => h i (by omega), h N (by omega)]; rfl
theorem iS_le {f : Nat → Int} {N : Nat} {c : Int} (h : ∀ i, i < N → -c ≤ f i ∧ f i ≤ c) (hc : 0 ≤ c) : -(c * N) ≤ iS f N ∧ iS f N ≤ c * N := by
  induction N with
  | zero => simp only [iS]; omega
  | succ N ih =>
    have h1 := ih fun i hi => h i (by omega)
    have h2 := h N (by omega)
    simp only [iS]
    have e : c * ((N + 1 : Nat) : Int) = c * N + c := by rw [Int.natCast_add]; simp [Int.mul_add]
    rw [e]
    omega
section SI
variable {st st1 : xS} {n : Nat} {G : Gh} {I : Im} {a w p : Nat} {L : LgD} {W : LwD} {P : PlD}
/-- two games differ just by a part -/
def dif (L : LgD) (W : LwD) (P : PlD) (x i j : Nat) : Nat := if (wk L W P i ^^^ wk L W P j) = ((1 : Int32) <<< (nI x &&& 31)) then 1 else 0
theorem dif_sym (L : LgD) (W : LwD) (P : PlD) (x i j : Nat) : dif L W P x i j = dif L W P x j i := by
  unfold dif
  rw [Int32.xor_comm]
theorem dif_le (L : LgD) (W : LwD) (P : PlD) (x i j : Nat) : dif L W P x i j ≤ 1 := by unfold dif; split <;> omega
theorem C_differ (hS : Sh st) (hJ : PlI P) (h105 : ∀ g, g < P.n → cI st 105 g = wk L W P g) {x i j : Nat} (hi : i < P.n) (hj : j < P.n) : F_X10_differJustBy n st (some 64) (nI x) (nI i) (nI j) = some (nI (dif L W P x i j)) := by
  have c1 := hJ.1
  have v1 : F_X10_valueAt n st (some 105) (nI i) = some (wk L W P i) := by rw [C_val (c105 hS) (by omega) (by decide), h105 i hi]
  have v2 : F_X10_valueAt n st (some 105) (nI j) = some (wk L W P j) := by rw [C_val (c105 hS) (by omega) (by decide), h105 j hj]
  unfold F_X10_differJustBy dif
  simp only [↓bnd (g64_7 hS), ↓bnd v1, ↓bnd v2]
  by_cases h : (wk L W P i ^^^ wk L W P j) = ((1 : Int32) <<< (nI x &&& 31))
  · simp only [h, if_true, Option.bind_some, rz1]
    rfl
  · simp only [h, if_false, Option.bind_some, rz0]
    rfl
theorem E_single (hR : Rel st G I) (l w p x : Int32) (hn : 3000 ≤ n) : ∃ v st', F_X10_single n st (some 64) l w p x = some (v, st') ∧ Only QC st st' ∧ ∀ st2, Rel st2 G I → ∃ st3, F_X11_single n st2 (some 106) l w p x = some (v, st3) ∧ Only QM st2 st3 ∧ fI st3 106 15 = -1 := by
  have hS := hR.sh
  unfold F_X10_single
  rcases nCut x 6 with ⟨x, hx, rfl⟩ | hx
  · rcases go4Cut G l w p with ⟨j, i, k, hg⟩ | hg
    · obtain ⟨st1, a, w', p', e1, o1, m1⟩ := C_b4 (n := n) hR hg
      have S1 := m1.1
      have hj := hg.1.1
      have hk := hg.1.2.1
      have hi := hg.2.1
      have hJ := hR.inv.pp hk
      have c1 := hJ.1
      obtain ⟨st2, e2, wq, h105⟩ := C_wake (n := n) m1 (hR.inv.lg hj) (hR.inv.lw hi) hJ hn
      have m2 := m1.wq wq
      have S2 := m2.1
      generalize hF : dif (G.L j) (G.W i) (G.P k) x = F at *
      have F1 : ∀ a b, F a b ≤ 1 := fun a b => by rw [← hF]; exact dif_le _ _ _ _ _ _
      have h58 : ∀ a, a < (G.P k).n → ∀ t, t ≤ 4000 → F_X10_single_L58 n n st2 (some 64) (nI x) (nI t) (nI a) (nI (a + 1)) = some (nI (t + nS (fun q => F a (a + 1 + q)) ((G.P k).n - 1 - a))) := by
        intro a ha t ht
        refine loop_run (fun m (s : Int32 × Int32) => F_X10_single_L58 n m st2 (some 64) (nI x) s.1 (nI a) s.2) (fun q => (nI (t + nS (fun q => F a (a + 1 + q)) q), nI (a + 1 + q))) ((G.P k).n - 1 - a) _ (fun m q hq => ?_) (fun m => ?_) n (by omega)
        · dsimp only
          have hd := C_differ (n := n) (x := x) S2 hJ h105 ha (show a + 1 + q < (G.P k).n by omega)
          rw [hF] at hd
          have hb := F1 a (a + 1 + q)
          rw [F_X10_single_L58, nS]
          dsimp only
          simp (disch := omega) only [↓Option.bind_some, ↓reduceIte, ↓bnd (g64_3 S2), ↓bnd (m2.y2), ↓bnd (m2.pn), ↓bnd (o64 S2), ↓bnd (hd), nLe_f, nI_1]
          by_cases hc : F a (a + 1 + q) = 0
          · simp only [hc, if_true, show (nI 0 = (0 : Int32)) = True from eq_true rfl, Option.bind_some, Nat.add_zero]
            rfl
          · have h0 : (nI (F a (a + 1 + q)) = (0 : Int32)) = False := eq_false (nI_ne0 (by omega) (by omega))
            have h1 : F a (a + 1 + q) = 1 := by omega
            simp only [h0, if_false, Option.bind_some, nI_1]
            rw [h1]
            rfl
        · dsimp only
          rw [F_X10_single_L58]
          dsimp only
          simp (disch := omega) only [↓Option.bind_some, ↓reduceIte, ↓bnd (g64_3 S2), ↓bnd (m2.y2), ↓bnd (m2.pn), nLe_t]
      have hl : F_X10_single_L37 n n st2 (some 64) (nI x) (0 : Int32) (0 : Int32) = some (nI (nS (fun a => nS (fun q => F a (a + 1 + q)) ((G.P k).n - 1 - a)) (G.P k).n)) := by
        refine loop_run (fun m (s : Int32 × Int32) => F_X10_single_L37 n m st2 (some 64) (nI x) s.1 s.2) (fun a => (nI (nS (fun a => nS (fun q => F a (a + 1 + q)) ((G.P k).n - 1 - a)) a), nI a)) (G.P k).n _ (fun m a ha => ?_) (fun m => ?_) n (by omega)
        · dsimp only
          have hb : nS (fun a => nS (fun q => F a (a + 1 + q)) ((G.P k).n - 1 - a)) a ≤ a * 40 := nS_le (fun a => Nat.le_trans (nS_le (fun q => F1 a (a + 1 + q)) _) (by omega)) a
          rw [F_X10_single_L37, nS]
          dsimp only
          simp (disch := omega) only [↓Option.bind_some, ↓reduceIte, ↓bnd (g64_3 S2), ↓bnd (m2.y2), ↓bnd (m2.pn), nLe_f, nI_1]
          simp only [↓bnd (h58 a ha (nS (fun a => nS (fun q => F a (a + 1 + q)) ((G.P k).n - 1 - a)) a) (by omega))]
        · dsimp only
          rw [F_X10_single_L37]
          dsimp only
          simp (disch := omega) only [↓Option.bind_some, ↓reduceIte, ↓bnd (g64_3 S2), ↓bnd (m2.y2), ↓bnd (m2.pn), nLe_t]
      rw [tri_n] at hl
      refine ⟨nI (nS (fun a => nS (fun b => F b a) a) (G.P k).n), st2, ?_, o1.trans wq.1, fun st3 r3 => ?_⟩
      · simp only [↓Option.bind_some, ↓reduceIte, ↓bnd (C_isPart_t hx), ↓bnd (g64_3 hS), ↓bnd (g64_0 hS), ↓bnd (o79 hS), ↓bnd (e1), ↓bnd (o64 S1), ↓bnd (e2), ↓bnd (hl), i10]
      · have S3 := r3.sh
        have M := M_isPart_t (n := n) r3 hg hx hn
        obtain ⟨⟨-, -, rfl, rfl, -⟩, -, rfl⟩ := hg
        obtain ⟨st4, e4, o4, h115⟩ := M_wakes (n := n) S3 r3.mod r3.inv hj hi hk hn
        have S4 := o4.2.2.1
        have M4 : ModB (cI st4 107) G := by rw [cI_o o4 (by decide)]; exact r3.mod
        have h40 : ∀ a, a < (G.P k).n → ∀ t, F_X11_single_L40 n n st4 (some 106) (nI k) (nI x) (nI t) (nI a) (0 : Int32) = some (nI (t + nS (fun b => F b a) a)) := by
          intro a ha t
          refine loop_run (fun m (s : Int32 × Int32) => F_X11_single_L40 n m st4 (some 106) (nI k) (nI x) s.1 (nI a) s.2) (fun b => (nI (t + nS (fun b => F b a) b), nI b)) a _ (fun m b hb => ?_) (fun m => ?_) n (by omega)
          · dsimp only
            have v1 : aI st4 (some 115) (nI a) = some (wk (G.L j) (G.W i) (G.P k) a) := by rw [a115 S4, if_pos (ixT (by omega) (by decide)), nIc (by omega), h115 a ha]
            have v2 : aI st4 (some 115) (nI b) = some (wk (G.L j) (G.W i) (G.P k) b) := by rw [a115 S4, if_pos (ixT (by omega) (by decide)), nIc (by omega), h115 b (by omega)]
            have hd : (if (wk (G.L j) (G.W i) (G.P k) a ^^^ wk (G.L j) (G.W i) (G.P k) b) = ((1 : Int32) <<< (nI x &&& 31)) then some (1 : Int32) else some (0 : Int32)) = some (nI (F b a)) := by
              rw [← hF, dif_sym]
              unfold dif
              split <;> rfl
            rw [F_X11_single_L40, nS]
            dsimp only
            simp (disch := omega) only [↓Option.bind_some, ↓reduceIte, ↓bnd (g106_30 S4), ↓bnd (v1), ↓bnd (v2), nLe_f, nI_1]
            rw [hd]
            simp only [Option.bind_some, nAdd, Nat.add_assoc]
          · dsimp only
            rw [F_X11_single_L40]
            dsimp only
            simp (disch := omega) only [↓Option.bind_some, ↓reduceIte, nLe_t]
        have hm : F_X11_single_L27 n n st4 (some 106) (nI k) (nI x) (0 : Int32) (0 : Int32) = some (nI (nS (fun a => nS (fun b => F b a) a) (G.P k).n)) := by
          refine loop_run (fun m (s : Int32 × Int32) => F_X11_single_L27 n m st4 (some 106) (nI k) (nI x) s.1 s.2) (fun a => (nI (nS (fun a => nS (fun b => F b a) a) a), nI a)) (G.P k).n _ (fun m a ha => ?_) (fun m => ?_) n (by omega)
          · dsimp only
            rw [F_X11_single_L27, nS]
            dsimp only
            simp (disch := omega) only [↓Option.bind_some, ↓reduceIte, ↓bnd (o106 S4), ↓bnd (M_games S4 M4 r3.inv hk), ↓bnd (h40 a ha _), nLe_f, nI_1]
          · dsimp only
            rw [F_X11_single_L27]
            dsimp only
            simp (disch := omega) only [↓Option.bind_some, ↓reduceIte, ↓bnd (o106 S4), ↓bnd (M_games S4 M4 r3.inv hk), nLe_t]
        refine ⟨st4, ?_, o4.mono fun a h => by unfold QM; omega, (fI_o o4 (by decide) 15).trans r3.2.2.2.2.2.2.1⟩
        unfold F_X11_single
        simp only [↓Option.bind_some, ↓reduceIte, ↓bnd (o106 S3), ↓bnd (M), ↓bnd (e4), ↓bnd (hm), i10]
    · refine ⟨-1, st, ?_, Only.refl hS, fun st3 r3 => ⟨st3, ?_, Only.refl r3.sh, r3.2.2.2.2.2.2.1⟩⟩
      · simp only [↓Option.bind_some, ↓reduceIte, ↓bnd (C_isPart_t hx), ↓bnd (g64_3 hS), ↓bnd (g64_0 hS), ↓bnd (o79 hS), ↓bnd (C_bring4_f hR hg), i10]
      · unfold F_X11_single
        simp only [↓Option.bind_some, ↓reduceIte, ↓bnd (o106 r3.sh), ↓bnd (M_isPart_f r3 (Or.inl hg) hn)]
  · refine ⟨-1, st, ?_, Only.refl hS, fun st3 r3 => ⟨st3, ?_, Only.refl r3.sh, r3.2.2.2.2.2.2.1⟩⟩
    · simp only [↓Option.bind_some, ↓reduceIte, ↓bnd (C_isPart_f hx)]
    · unfold F_X11_single
      simp only [↓Option.bind_some, ↓reduceIte, ↓bnd (o106 r3.sh), ↓bnd (M_isPart_f r3 (Or.inr hx) hn)]
end SI

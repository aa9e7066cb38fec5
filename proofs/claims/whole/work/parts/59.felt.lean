/-! FELT -/
theorem and_xor_d (a b c : Int32) : (a ^^^ b) &&& c = (a &&& c) ^^^ (b &&& c) := by
  apply Int32.toBitVec_inj.1
  rw [Int32.toBitVec_and, Int32.toBitVec_xor, Int32.toBitVec_xor, Int32.toBitVec_and, Int32.toBitVec_and]
  ext i hi
  rw [BitVec.getElem_and, BitVec.getElem_xor, BitVec.getElem_xor, BitVec.getElem_and, BitVec.getElem_and]
  cases a.toBitVec[i] <;> cases b.toBitVec[i] <;> cases c.toBitVec[i] <;> rfl
theorem one_bit : ∀ p : Fin 6, ((((1 : Int32) <<< (nI p.val &&& 31)) >>> (nI p.val &&& 31)) &&& (1 : Int32)) = 1 := by decide +kernel
/-- whether a part is felt in a game -/
abbrev bw (L : LgD) (W : LwD) (P : PlD) (x g : Nat) : Prop := ¬ gP L W P g x = 0
theorem wk_bit (L : LgD) (W : LwD) (P : PlD) {x : Nat} (hx : x < 6) (g : Nat) : ((wk L W P g >>> (nI x &&& 31)) &&& (1 : Int32)) = if bw L W P x g then 1 else 0 := by
  have h := bq_bit (gP L W P g) hx
  unfold wk bw
  rw [h]
  by_cases h : gP L W P g x = 0
  · rw [if_pos h, if_neg (fun q => q h)]
  · rw [if_neg h, if_pos h]
theorem dif_bit {L : LgD} {W : LwD} {P : PlD} {x i j : Nat} (hx : x < 6) (h : dif L W P x i j = 1) : bw L W P x i ↔ ¬ bw L W P x j := by
  have e : (wk L W P i ^^^ wk L W P j) = ((1 : Int32) <<< (nI x &&& 31)) := by
    unfold dif at h
    by_cases c : (wk L W P i ^^^ wk L W P j) = ((1 : Int32) <<< (nI x &&& 31))
    · exact c
    · rw [if_neg c] at h; omega
  have o : ((((1 : Int32) <<< (nI x &&& 31)) >>> (nI x &&& 31)) &&& (1 : Int32)) = 1 := one_bit ⟨x, hx⟩
  rw [← e, Int32.shiftRight_xor, and_xor_d, wk_bit L W P hx, wk_bit L W P hx] at o
  by_cases c1 : bw L W P x i
  · by_cases c2 : bw L W P x j
    · rw [if_pos c1, if_pos c2] at o
      exact absurd o (by decide)
    · exact ⟨fun _ => c2, fun _ => c1⟩
  · by_cases c2 : bw L W P x j
    · exact ⟨fun h => absurd h c1, fun h => absurd c2 h⟩
    · rw [if_neg c1, if_neg c2] at o
      exact absurd o (by decide)
theorem dif_ii (L : LgD) (W : LwD) (P : PlD) {x : Nat} (hx : x < 6) (i : Nat) : dif L W P x i i = 0 := by
  rcases (show dif L W P x i i = 0 ∨ dif L W P x i i = 1 by have := dif_le L W P x i i; omega) with h | h
  · exact h
  · have := dif_bit hx h
    by_cases c : bw L W P x i
    · exact absurd c (this.mp c)
    · exact absurd (this.mpr c) c
/-- counted once, with the game first that feels it -/
def fH (L : LgD) (W : LwD) (P : PlD) (x i j : Nat) : Int := if dif L W P x i j = 1 ∧ bw L W P x i then 1 else 0
def fK (L : LgD) (W : LwD) (P : PlD) (v : Nat → Int) (x i j : Nat) : Int := if dif L W P x i j = 1 ∧ bw L W P x i then v i - v j else 0
/-- in any order -/
def fC (L : LgD) (W : LwD) (P : PlD) (x i j : Nat) : Int := (dif L W P x i j : Int)
def fM (L : LgD) (W : LwD) (P : PlD) (v : Nat → Int) (x i j : Nat) : Int := if dif L W P x i j = 1 then (if bw L W P x i then v i - v j else v j - v i) else 0
theorem fH_2 (L : LgD) (W : LwD) (P : PlD) {x : Nat} (hx : x < 6) (i j : Nat) : fH L W P x i j + fH L W P x j i = fC L W P x j i := by
  unfold fH fC
  rw [dif_sym L W P x i j]
  have hb := dif_le L W P x j i
  by_cases h : dif L W P x j i = 1
  · have := dif_bit hx h
    rw [h]
    by_cases c : bw L W P x i
    · have : ¬ bw L W P x j := fun q => (this.mp q) c
      simp [eq_true c, eq_false this]
    · have : bw L W P x j := this.mpr c
      simp [eq_false c, eq_true this]
  · have h0 : dif L W P x j i = 0 := by omega
    simp [h0]
theorem fK_2 (L : LgD) (W : LwD) (P : PlD) (v : Nat → Int) {x : Nat} (hx : x < 6) (i j : Nat) : fK L W P v x i j + fK L W P v x j i = fM L W P v x j i := by
  unfold fK fM
  rw [dif_sym L W P x i j]
  by_cases h : dif L W P x j i = 1
  · have := dif_bit hx h
    rw [h]
    by_cases c : bw L W P x i
    · have : ¬ bw L W P x j := fun q => (this.mp q) c
      simp [eq_true c, eq_false this]
    · have : bw L W P x j := this.mpr c
      simp [eq_false c, eq_true this]
  · have h0 : ¬ dif L W P x j i = 1 := h
    simp [h0]
theorem fH_s (L : LgD) (W : LwD) (P : PlD) {x : Nat} (hx : x < 6) (N : Nat) : iS (fun i => iS (fun j => fH L W P x i j) N) N = iS (fun i => iS (fun j => fC L W P x j i) i) N := by
  rw [squ_i, iS_z (f := fun i => fH L W P x i i) (fun i _ => by unfold fH; rw [dif_ii L W P hx]; simp), Int.add_zero]
  exact iS_congr fun i _ => iS_congr fun j _ => fH_2 L W P hx i j
theorem fK_s (L : LgD) (W : LwD) (P : PlD) (v : Nat → Int) {x : Nat} (hx : x < 6) (N : Nat) : iS (fun i => iS (fun j => fK L W P v x i j) N) N = iS (fun i => iS (fun j => fM L W P v x j i) i) N := by
  rw [squ_i, iS_z (f := fun i => fK L W P v x i i) (fun i _ => by unfold fK; rw [dif_ii L W P hx]; simp), Int.add_zero]
  exact iS_congr fun i _ => iS_congr fun j _ => fK_2 L W P v hx i j
section FE
variable {st st1 : xS} {n : Nat} {G : Gh} {I : Im} {x y : Int32} {L : LgD} {W : LwD} {P : PlD}
theorem E_felt (hR : Rel st G I) (l w p x y u : Int32) (hn : 3000 ≤ n) : ∃ v st', F_X10_felt n st (some 64) l w p x y u = some (v, st') ∧ Only QC st st' ∧ ∀ st2, Rel st2 G I → ∃ st3, F_X11_felt n st2 (some 106) l w p x y u = some (v, st3) ∧ Only QM st2 st3 ∧ fI st3 106 15 = -1 := by
  have hS := hR.sh
  have b := hR.inv.n3
  have c := pc_le G y y
  unfold F_X10_felt
  rcases nCut x 6 with ⟨x, hx, rfl⟩ | hx
  · rcases go4Cut G l w p with ⟨j, i, k, hg⟩ | hg
    · obtain ⟨st1, a, w', p', e1, o1, m1⟩ := C_b4 (n := n) hR hg
      have hj := hg.1.1
      have hk := hg.1.2.1
      have hi := hg.2.1
      have hJ := hR.inv.pp hk
      have c1 := hJ.1
      have R1 := hR.qc o1
      have S1 := m1.1
      obtain ⟨st2, e2, o2, hp⟩ := C_pick R1 y y hn
      have q2 : WQ st1 st2 := ⟨o2.mono fun a h => by unfold QC; omega, fun k _ => fR_o o2 (by decide) k⟩
      have m2 := m1.wq q2
      have R2 := R1.qc q2.1
      have S2 := R2.sh
      have M := fun st3 (r3 : Rel st3 G I) => M_isPart_t (n := n) (d := x) r3 hg hx hn
      by_cases hc : (G.P k).n ≤ pc G y y
      · obtain ⟨st3, e3, q3, h105, h104⟩ := C_wakeP (n := n) m2 (hR.inv.lg hj) (hR.inv.lw hi) hJ hn
        have m3 := m2.wq q3
        have R3 := R2.qc q3.1
        have S3 := R3.sh
        have hp3 : ∀ i, i < pc G y y → cI st3 104 i = nI (pf G y y i) := by rw [h104]; exact hp
        generalize hL : G.L j = L at *
        generalize hW : G.W i = W at *
        generalize hP : G.P k = P at *
        have h83z : ∀ i, i < P.n → ∀ t v, F_X10_felt_L83 n n st3 (some 64) (nI x) u (zI (t + 0)) (zI (v + 0)) (nI i) (nI (i + 1)) = some (zI (t + iS (fun q => fC L W P x i (i + 1 + q)) (P.n - 1 - i)), zI (v + iS (fun q => fM L W P (fun i => mg G (pf G y y i)) x i (i + 1 + q)) (P.n - 1 - i))) := by
          intro i hi t v
          refine loop_run (fun m (s : Int32 × Int32 × Int32) => F_X10_felt_L83 n m st3 (some 64) (nI x) u s.1 s.2.1 (nI i) s.2.2) (fun q => (zI (t + iS (fun q => fC L W P x i (i + 1 + q)) q), zI (v + iS (fun q => fM L W P (fun i => mg G (pf G y y i)) x i (i + 1 + q)) q), nI (i + 1 + q))) (P.n - 1 - i) _ (fun m q hq => ?_) (fun m => ?_) n (by omega)
          · dsimp only
            have hjq : i + 1 + q < P.n := by omega
            have hd := C_differ (n := n) (x := x) S3 hJ h105 hi hjq
            have hb := dif_le L W P x i (i + 1 + q)
            have hv : F_X10_valueAt n st3 (some 105) (nI i) = some (wk L W P i) := by rw [C_val (c105 S3) (by omega) (by decide), h105 i hi]
            have mi := C_mg (n := n) R3 hp3 (show i < pc G y y by omega)
            have mj := C_mg (n := n) R3 hp3 (show i + 1 + q < pc G y y by omega)
            rw [F_X10_felt_L83, iS, iS]
            dsimp only
            simp (disch := omega) only [↓Option.bind_some, ↓reduceIte, ↓bnd (g64_3 S3), ↓bnd (m3.y2), ↓bnd (m3.pn), ↓bnd (o64 S3), ↓bnd (hd), nLe_f, nI_1]
            by_cases hc : dif L W P x i (i + 1 + q) = 1
            · have e1 : fC L W P x i (i + 1 + q) = 1 := by unfold fC; rw [hc]; rfl
              have e2 : fM L W P (fun i => mg G (pf G y y i)) x i (i + 1 + q) = if bw L W P x i then mg G (pf G y y i) - mg G (pf G y y (i + 1 + q)) else mg G (pf G y y (i + 1 + q)) - mg G (pf G y y i) := by unfold fM; rw [if_pos hc]
              rw [hc, e1, e2]
              simp only [show (nI 1 = (0 : Int32)) = False by decide, if_false, ↓bnd (g64_7 S3), ↓bnd (hv), wk_bit L W P hx]
              by_cases hw : bw L W P x i
              · simp only [if_pos hw, if_true, Option.bind_some, i10, if_false, ↓bnd (o64 S3), ↓bnd (mi), ↓bnd (mj), zSub, z_1, zAdd, Int.add_assoc]
                rfl
              · simp only [if_neg hw, show ((0 : Int32) = 1) = False by decide, if_false, if_true, Option.bind_some, ↓bnd (o64 S3), ↓bnd (mi), ↓bnd (mj), zSub, z_1, zAdd, Int.add_assoc]
                rfl
            · have h0 : dif L W P x i (i + 1 + q) = 0 := by omega
              have e1 : fC L W P x i (i + 1 + q) = 0 := by unfold fC; rw [h0]; rfl
              have e2 : fM L W P (fun i => mg G (pf G y y i)) x i (i + 1 + q) = 0 := by unfold fM; rw [if_neg hc]
              rw [h0, e1, e2]
              simp only [show (nI 0 = (0 : Int32)) = True by decide, if_true, Option.bind_some, Int.add_zero]
              rfl
          · dsimp only
            rw [F_X10_felt_L83]
            dsimp only
            simp (disch := omega) only [↓Option.bind_some, ↓reduceIte, ↓bnd (g64_3 S3), ↓bnd (m3.y2), ↓bnd (m3.pn), nLe_t]
        have h83 := fun i hi t v => by
          have := h83z i hi t v
          rw [Int.add_zero, Int.add_zero] at this
          exact this
        have h62 : F_X10_felt_L62 n n st3 (some 64) (nI x) u (zI 0) (zI 0) (nI 0) = some (zI (iS (fun i => iS (fun q => fC L W P x i (i + 1 + q)) (P.n - 1 - i)) P.n), zI (iS (fun i => iS (fun q => fM L W P (fun i => mg G (pf G y y i)) x i (i + 1 + q)) (P.n - 1 - i)) P.n)) := by
          refine loop_run (fun m (s : Int32 × Int32 × Int32) => F_X10_felt_L62 n m st3 (some 64) (nI x) u s.1 s.2.1 s.2.2) (fun i => (zI (iS (fun i => iS (fun q => fC L W P x i (i + 1 + q)) (P.n - 1 - i)) i), zI (iS (fun i => iS (fun q => fM L W P (fun i => mg G (pf G y y i)) x i (i + 1 + q)) (P.n - 1 - i)) i), nI i)) P.n _ (fun m i hi => ?_) (fun m => ?_) n (by omega)
          · dsimp only
            rw [F_X10_felt_L62]
            dsimp only
            simp (disch := omega) only [↓Option.bind_some, ↓reduceIte, ↓bnd (g64_3 S3), ↓bnd (m3.y2), ↓bnd (m3.pn), nLe_f, nI_1, ↓bnd (h83 i hi _ _)]
            rfl
          · dsimp only
            rw [F_X10_felt_L62]
            dsimp only
            simp (disch := omega) only [↓Option.bind_some, ↓reduceIte, ↓bnd (g64_3 S3), ↓bnd (m3.y2), ↓bnd (m3.pn), nLe_t]
        rw [tri_i, tri_i] at h62
        have h62 : F_X10_felt_L62 n n st3 (some 64) (nI x) u (0 : Int32) (0 : Int32) (0 : Int32) = _ := h62
        have bA := iS_b (f := fun i => iS (fun j => fC L W P x j i) i) (c := 40) (N := P.n) (M := 40) (fun i hi => by
          have := iS_b (f := fun j => fC L W P x j i) (c := 1) (N := i) (M := 40) (fun j _ => by unfold fC; have := dif_le L W P x j i; omega) (by omega) (by omega)
          omega) (by omega) (by omega)
        have bB := iS_b (f := fun i => iS (fun j => fM L W P (fun i => mg G (pf G y y i)) x j i) i) (c := 720) (N := P.n) (M := 40) (fun i hi => by
          have := iS_b (f := fun j => fM L W P (fun i => mg G (pf G y y i)) x j i) (c := 18) (N := i) (M := 40) (fun j hj => by
            have m1 := mg_b hR.inv (pf_lt (show i < pc G y y by omega))
            have m2 := mg_b hR.inv (pf_lt (show j < pc G y y by omega))
            unfold fM
            dsimp only
            split <;> (try split) <;> omega) (by omega) (by omega)
          omega) (by omega) (by omega)
        have sA := fH_s L W P hx P.n
        have sB := fK_s L W P (fun i => mg G (pf G y y i)) hx P.n
        generalize iS (fun i => iS (fun j => fC L W P x j i) i) P.n = A at *
        generalize iS (fun i => iS (fun j => fM L W P (fun i => mg G (pf G y y i)) x j i) i) P.n = B at *
        have qA : (zI A = (0 : Int32)) = (A = 0) := zEq0 (by omega) (by omega)
        refine ⟨if A = 0 then -1000000 else (lZ (shV B A u)).toInt32, st3, ?_, (o1.trans q2.1).trans q3.1, fun st4 r4 => ?_⟩
        · have hc2 : (nI P.n ≤ nI (pc G y y)) = True := nLe_t hc (by omega)
          simp only [↓Option.bind_some, ↓reduceIte, ↓bnd (C_isPart_t hx), ↓bnd (g64_3 hS), ↓bnd (g64_0 hS), ↓bnd (o79 hS), ↓bnd (e1), ↓bnd (o64 S1), ↓bnd (e2), ↓bnd (g64_3 S2), ↓bnd (m2.y2), ↓bnd (m2.pn), ↓bnd (o64 S2), ↓bnd (e3), ↓bnd (h62), i10, hc2, qA]
          by_cases h : A = 0
          · simp only [h, if_true, Option.bind_some]
          · have e := C_share (n := n) (st := st3) (a := B) (b := A) (u := u) (by unfold sm; omega) (by unfold sb; omega) h hn
            simp (disch := omega) only [h, if_false, zI_64, ↓bnd (e), Option.bind_some]
        · obtain ⟨⟨-, -, rfl, rfl, -⟩, -, rfl⟩ := hg
          obtain ⟨s5, f1, f2, f3, f4⟩ := M_orders (n := n) r4 y y hn
          have R5 := f2.rel r4
          have g29 : gI s5 (some 106) 11 29 = some (nI (pc G y y)) := by rw [g106_29 R5.sh, f3]
          have hc2 : (nI P.n ≤ nI (pc G y y)) = True := nLe_t hc (by omega)
          obtain ⟨s6, e6, o6, h115⟩ := M_wakes (n := n) R5.sh R5.mod R5.inv hj hi hk hn
          have S6 := o6.2.2.1
          have M6 : ModB (cI s6 107) G := by rw [cI_o o6 (by decide)]; exact R5.mod
          have k114 : cI s6 114 = cI s5 114 := cI_o o6 (by decide)
          have gm5 : F_X11_gamesOf n s5 (some 106) (nI k) = some (nI P.n) := by rw [M_games R5.sh R5.mod R5.inv hk, hP]
          have gm6 : F_X11_gamesOf n s6 (some 106) (nI k) = some (nI P.n) := by rw [M_games S6 M6 R5.inv hk, hP]
          rw [hL, hW, hP] at h115
          have h69z : ∀ i, i < P.n → ∀ t v, F_X11_felt_L69 n n s6 (some 106) (nI k) (nI x) u (zI (t + 0)) (zI (v + 0)) (nI i) (nI 0) = some (zI (t + iS (fun j => fH L W P x i j) P.n), zI (v + iS (fun j => fK L W P (fun i => mg G (pf G y y i)) x i j) P.n)) := by
            intro i hi t v
            refine loop_run (fun m (s : Int32 × Int32 × Int32) => F_X11_felt_L69 n m s6 (some 106) (nI k) (nI x) u s.1 s.2.1 (nI i) s.2.2) (fun q => (zI (t + iS (fun j => fH L W P x i j) q), zI (v + iS (fun j => fK L W P (fun i => mg G (pf G y y i)) x i j) q), nI q)) P.n _ (fun m q hq => ?_) (fun m => ?_) n (by omega)
            · dsimp only
              have v1 : aI s6 (some 115) (nI i) = some (wk L W P i) := by rw [a115 S6, if_pos (ixT (by omega) (by decide)), nIc (by omega), h115 i hi]
              have v2 : aI s6 (some 115) (nI q) = some (wk L W P q) := by rw [a115 S6, if_pos (ixT (by omega) (by decide)), nIc (by omega), h115 q hq]
              have w1 : aI s6 (some 114) (nI i) = some (nI (pf G y y i)) := by rw [a114 S6, if_pos (ixT (by omega) (by decide)), nIc (by omega), k114, f4 i (by omega)]
              have w2 : aI s6 (some 114) (nI q) = some (nI (pf G y y q)) := by rw [a114 S6, if_pos (ixT (by omega) (by decide)), nIc (by omega), k114, f4 q (by omega)]
              have mi := M_mg (n := n) S6 M6 R5.inv (pf_lt (show i < pc G y y by omega))
              have mq := M_mg (n := n) S6 M6 R5.inv (pf_lt (show q < pc G y y by omega))
              rw [F_X11_felt_L69, iS, iS]
              dsimp only
              simp (disch := omega) only [↓Option.bind_some, ↓reduceIte, ↓bnd (o106 S6), ↓bnd (gm6), ↓bnd (g106_30 S6), ↓bnd (v1), ↓bnd (v2), nLe_f, nI_1, wk_bit L W P hx]
              by_cases hc : (wk L W P i ^^^ wk L W P q) = ((1 : Int32) <<< (nI x &&& 31))
              · have hd : dif L W P x i q = 1 := if_pos hc
                simp only [eq_true hc, if_true]
                by_cases hw : bw L W P x i
                · have e1 : fH L W P x i q = 1 := if_pos ⟨hd, hw⟩
                  have e2 : fK L W P (fun i => mg G (pf G y y i)) x i q = mg G (pf G y y i) - mg G (pf G y y q) := if_pos ⟨hd, hw⟩
                  rw [e1, e2]
                  simp only [if_pos hw, i10, if_false, Option.bind_some, ↓bnd (g106_28 S6), ↓bnd (w1), ↓bnd (w2), ↓bnd (o106 S6), ↓bnd (mi), ↓bnd (mq), zSub, z_1, zAdd, Int.add_assoc]
                · have e1 : fH L W P x i q = 0 := if_neg fun h => hw h.2
                  have e2 : fK L W P (fun i => mg G (pf G y y i)) x i q = 0 := if_neg fun h => hw h.2
                  rw [e1, e2]
                  simp only [if_neg hw, if_true, Option.bind_some, Int.add_zero]
              · have hd : ¬ dif L W P x i q = 1 := by
                  unfold dif
                  rw [if_neg hc]
                  decide
                have e1 : fH L W P x i q = 0 := if_neg fun h => hd h.1
                have e2 : fK L W P (fun i => mg G (pf G y y i)) x i q = 0 := if_neg fun h => hd h.1
                rw [e1, e2]
                simp only [eq_false hc, if_false, Option.bind_some, Int.add_zero]
            · dsimp only
              rw [F_X11_felt_L69]
              dsimp only
              simp (disch := omega) only [↓Option.bind_some, ↓reduceIte, ↓bnd (o106 S6), ↓bnd (gm6), nLe_t]
          have h69 := fun i hi t v => by
            have := h69z i hi t v
            rw [Int.add_zero, Int.add_zero] at this
            exact this
          have h56 : F_X11_felt_L56 n n s6 (some 106) (nI k) (nI x) u (zI 0) (zI 0) (nI 0) = some (zI (iS (fun i => iS (fun j => fH L W P x i j) P.n) P.n), zI (iS (fun i => iS (fun j => fK L W P (fun i => mg G (pf G y y i)) x i j) P.n) P.n)) := by
            refine loop_run (fun m (s : Int32 × Int32 × Int32) => F_X11_felt_L56 n m s6 (some 106) (nI k) (nI x) u s.1 s.2.1 s.2.2) (fun i => (zI (iS (fun i => iS (fun j => fH L W P x i j) P.n) i), zI (iS (fun i => iS (fun j => fK L W P (fun i => mg G (pf G y y i)) x i j) P.n) i), nI i)) P.n _ (fun m i hi => ?_) (fun m => ?_) n (by omega)
            · dsimp only
              have g := h69 i hi
              rw [F_X11_felt_L56]
              dsimp only
              simp (disch := omega) only [↓Option.bind_some, ↓reduceIte, ↓bnd (o106 S6), ↓bnd (gm6), nLe_f, nI_1]
              simp only [l0, g, Option.bind_some]
              rfl
            · dsimp only
              rw [F_X11_felt_L56]
              dsimp only
              simp (disch := omega) only [↓Option.bind_some, ↓reduceIte, ↓bnd (o106 S6), ↓bnd (gm6), nLe_t]
          rw [sA, sB] at h56
          have h56 : F_X11_felt_L56 n n s6 (some 106) (nI k) (nI x) u (0 : Int32) (0 : Int32) (0 : Int32) = _ := h56
          have q6 : Only QM s5 s6 := o6.mono fun a h => by unfold QM; omega
          refine ⟨s6, ?_, f2.qm.trans q6, ((fI_o o6 (by decide) 15).trans f2.2).trans r4.2.2.2.2.2.2.1⟩
          unfold F_X11_felt
          simp only [↓Option.bind_some, ↓reduceIte, ↓bnd (o106 r4.sh), ↓bnd (M st4 r4), ↓bnd (f1), ↓bnd (g29), ↓bnd (o106 R5.sh), ↓bnd (gm5), ↓bnd (e6), ↓bnd (h56), i10, hc2, qA]
          by_cases h : A = 0
          · simp only [h, if_true, Option.bind_some]
          · have e := M_least (n := n) (st := s6) (a := B) (b := A) (u := u) (by unfold sm; omega) (by unfold sb; omega) h hn
            simp (disch := omega) only [h, if_false, zI_64, ↓bnd (e), Option.bind_some]
      · refine ⟨-1000000, st2, ?_, o1.trans q2.1, fun st3 r3 => ?_⟩
        · have hc2 : (nI (G.P k).n ≤ nI (pc G y y)) = False := nLe_f (by omega) (by omega)
          simp only [↓Option.bind_some, ↓reduceIte, ↓bnd (C_isPart_t hx), ↓bnd (g64_3 hS), ↓bnd (g64_0 hS), ↓bnd (o79 hS), ↓bnd (e1), ↓bnd (o64 S1), ↓bnd (e2), ↓bnd (g64_3 S2), ↓bnd (m2.y2), ↓bnd (m2.pn), i10, hc2]
        · obtain ⟨⟨-, -, rfl, rfl, -⟩, -, rfl⟩ := hg
          obtain ⟨s3, f1, f2, f3, f4⟩ := M_orders (n := n) r3 y y hn
          have T3 := f2.rel r3
          have g29 : gI s3 (some 106) 11 29 = some (nI (pc G y y)) := by rw [g106_29 T3.sh, f3]
          have hc2 : (nI (G.P k).n ≤ nI (pc G y y)) = False := nLe_f (by omega) (by omega)
          refine ⟨s3, ?_, f2.qm, f2.2.trans r3.2.2.2.2.2.2.1⟩
          unfold F_X11_felt
          simp only [↓Option.bind_some, ↓reduceIte, ↓bnd (o106 r3.sh), ↓bnd (M st3 r3), ↓bnd (f1), ↓bnd (g29), ↓bnd (o106 T3.sh), ↓bnd (M_games T3.sh T3.mod T3.inv hk), i10, hc2]
    · refine ⟨-1000000, st, ?_, Only.refl hS, fun st3 r3 => ⟨st3, ?_, Only.refl r3.sh, r3.2.2.2.2.2.2.1⟩⟩
      · simp only [↓Option.bind_some, ↓reduceIte, ↓bnd (C_isPart_t hx), ↓bnd (g64_3 hS), ↓bnd (g64_0 hS), ↓bnd (o79 hS), ↓bnd (C_bring4_f hR hg), i10]
      · unfold F_X11_felt
        simp only [↓Option.bind_some, ↓reduceIte, ↓bnd (o106 r3.sh), ↓bnd (M_isPart_f r3 (Or.inl hg) hn)]
  · refine ⟨-1000000, st, ?_, Only.refl hS, fun st3 r3 => ⟨st3, ?_, Only.refl r3.sh, r3.2.2.2.2.2.2.1⟩⟩
    · simp only [↓Option.bind_some, ↓reduceIte, ↓bnd (C_isPart_f hx)]
    · unfold F_X11_felt
      simp only [↓Option.bind_some, ↓reduceIte, ↓bnd (o106 r3.sh), ↓bnd (M_isPart_f r3 (Or.inr hx) hn)]
end FE

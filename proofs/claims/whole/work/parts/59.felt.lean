/-! FELT -/
theorem and_xor_d (a b c : Int32) : (a ^^^ b) &&& c = (a &&& c) ^^^ (b &&& c) := by
  apply Int32.toBitVec_inj.1
  rw [Int32.toBitVec_and, Int32.toBitVec_xor, Int32.toBitVec_xor, Int32.toBitVec_and, Int32.toBitVec_and]
  ext i hi
  rw [BitVec.getElem_and, BitVec.getElem_xor, BitVec.getElem_xor, BitVec.getElem_and, BitVec.getElem_and]
  cases a.toBitVec[i] <;> cases b.toBitVec[i] <;> cases c.toBitVec[i] <;> rfl
theorem one_bit : ∀ p : Fin 6, ((((1 : Int32) <<< (nI p.val &&& 31)) >>> (nI p.val &&& 31)) &&& (1 : Int32)) = 1 := by decide +kernel
/-- whether a part is felt in a game -/
abbrev bw (L : LgD) (W : LwD) (P : PlD) (x g : Nat) : Prop := ¬ gP L W P g x = 0
theorem wk_bit (L : LgD) (W : LwD) (P : PlD) {x : Nat} (hx : x < 6) (g : Nat) : ((wk L W P g >>> (nI x &&& 31)) &&& (1 : Int32)) = if bw L W P x g then 1 else 0 := by
  have h := bq_bit (gP L W P g) hx
  unfold wk bw
  rw [h]
  by_cases h : gP L W P g x = 0
  · rw [if_pos h, if_neg (fun q => q h)]
  · rw [if_neg h, if_pos h]
theorem dif_bit {L : LgD} {W : LwD} {P : PlD} {x i j : Nat} (hx : x < 6) (h : dif L W P x i j = 1) : bw L W P x i ↔ ¬ bw L W P x j := by
  have e : (wk L W P i ^^^ wk L W P j) = ((1 : Int32) <<< (nI x &&& 31)) := by
    unfold dif at h
    by_cases c : (wk L W P i ^^^ wk L W P j) = ((1 : Int32) <<< (nI x &&& 31))
    · exact c
    · rw [if_neg c] at h; omega
  have o : ((((1 : Int32) <<< (nI x &&& 31)) >>> (nI x &&& 31)) &&& (1 : Int32)) = 1 := one_bit ⟨x, hx⟩
  rw [← e, Int32.shiftRight_xor, and_xor_d, wk_bit L W P hx, wk_bit L W P hx] at o
  by_cases c1 : bw L W P x i
  · by_cases c2 : bw L W P x j
    · rw [if_pos c1, if_pos c2] at o
      exact absurd o (by decide)
    · exact ⟨fun _ => c2, fun _ => c1⟩
  · by_cases c2 : bw L W P x j
    · exact ⟨fun h => absurd h c1, fun h => absurd c2 h⟩
    · rw [if_neg c1, if_neg c2] at o
      exact absurd o (by decide)
theorem dif_ii (L : LgD) (W : LwD) (P : PlD) {x : Nat} (hx : x < 6) (i : Nat) : dif L W P x i i = 0 := by
  rcases (show dif L W P x i i = 0 ∨ dif L W P x i i = 1 by have := dif_le L W P x i i; omega) with h | h
  · exact h
  · have := dif_bit hx h
    by_cases c : bw L W P x i
    · exact absurd c (this.mp c)
    · exact absurd (this.mpr c) c
/-- counted once, with the game first that feels it -/
def fH (L : LgD) (W : LwD) (P : PlD) (x i j : Nat) : Int := if dif L W P x i j = 1 ∧ bw L W P x i then 1 else 0
def fK (L : LgD) (W : LwD) (P : PlD) (v : Nat → Int) (x i j : Nat) : Int := if dif L W P x i j = 1 ∧ bw L W P x i then v i - v j else 0
/-- in any order -/
def fC (L : LgD) (W : LwD) (P : PlD) (x i j : Nat) : Int := (dif L W P x i j : Int)
def fM (L : LgD) (W : LwD) (P : PlD) (v : Nat → Int) (x i j : Nat) : Int := if dif L W P x i j = 1 then (if bw L W P x i then v i - v j else v j - v i) else 0
theorem fH_2 (L : LgD) (W : LwD) (P : PlD) {x : Nat} (hx : x < 6) (i j : Nat) : fH L W P x i j + fH L W P x j i = fC L W P x j i := by
  unfold fH fC
  rw [dif_sym L W P x i j]
  have hb := dif_le L W P x j i
  by_cases h : dif L W P x j i = 1
  · have := dif_bit hx h
    rw [h]
    by_cases c : bw L W P x i
    · have : ¬ bw L W P x j := fun q => (this.mp q) c
      simp [eq_true c, eq_false this]
    · have : bw L W P x j := this.mpr c
      simp [eq_true c, eq_false this]
  · have h0 : dif L W P x j i = 0 := by omega
    simp [h0]
theorem fK_2 (L : LgD) (W : LwD) (P : PlD) (v : Nat → Int) {x : Nat} (hx : x < 6) (i j : Nat) : fK L W P v x i j + fK L W P v x j i = fM L W P v x j i := by
  unfold fK fM
  rw [dif_sym L W P x i j]
  by_cases h : dif L W P x j i = 1
  · have := dif_bit hx h
    rw [h]
    by_cases c : bw L W P x i
    · have : ¬ bw L W P x j := fun q => (this.mp q) c
      simp [eq_true c, eq_false this]
    · have : bw L W P x j := this.mpr c
      simp [eq_true c, eq_false this]
  · have h0 : ¬ dif L W P x j i = 1 := h
    simp [h0]
theorem fH_s (L : LgD) (W : LwD) (P : PlD) {x : Nat} (hx : x < 6) (N : Nat) : iS (fun i => iS (fun j => fH L W P x i j) N) N = iS (fun i => iS (fun j => fC L W P x j i) i) N := by
  rw [squ_i, iS_z (f := fun i => fH L W P x i i) (fun i _ => by unfold fH; rw [dif_ii L W P hx]; simp), Int.add_zero]
  exact iS_congr fun i _ => iS_congr fun j _ => fH_2 L W P hx i j
theorem fK_s (L : LgD) (W : LwD) (P : PlD) (v : Nat → Int) {x : Nat} (hx : x < 6) (N : Nat) : iS (fun i => iS (fun j => fK L W P v x i j) N) N = iS (fun i => iS (fun j => fM L W P v x j i) i) N := by
  rw [squ_i, iS_z (f := fun i => fK L W P v x i i) (fun i _ => by unfold fK; rw [dif_ii L W P hx]; simp), Int.add_zero]
  exact iS_congr fun i _ => iS_congr fun j _ => fK_2 L W P v hx i j
section FE
variable {st st1 : xS} {n : Nat} {G : Gh} {I : Im} {x y : Int32} {L : LgD} {W : LwD} {P : PlD}
theorem E_felt (hR : Rel st G I) (l w p x y u : Int32) (hn : 3000 ≤ n) : ∃ v st', F_X10_felt n st (some 64) l w p x y u = some (v, st') ∧ Only QC st st' ∧ ∀ st2, Rel st2 G I → ∃ st3, F_X11_felt n st2 (some 106) l w p x y u = some (v, st3) ∧ Only QM st2 st3 ∧ fI st3 106 15 = -1 := by
  have hS := hR.sh
  have b := hR.inv.n3
  have c := pc_le G y y
  unfold F_X10_felt
  rcases nCut x 6 with ⟨x, hx, rfl⟩ | hx
  · rcases go4Cut G l w p with ⟨j, i, k, hg⟩ | hg
    · obtain ⟨st1, a, w', p', e1, o1, m1⟩ := C_b4 (n := n) hR hg
      have hj := hg.1.1
      have hk := hg.1.2.1
      have hi := hg.2.1
      have hJ := hR.inv.pp hk
      have c1 := hJ.1
      have R1 := hR.qc o1
      have S1 := m1.1
      obtain ⟨st2, e2, o2, hp⟩ := C_pick R1 y y hn
      have q2 : WQ st1 st2 := ⟨o2.mono fun a h => by unfold QC; omega, fun k _ => fR_o o2 (by decide) k⟩
      have m2 := m1.wq q2
      have R2 := R1.qc q2.1
      have S2 := R2.sh
      have M := fun st3 (r3 : Rel st3 G I) => M_isPart_t (n := n) (d := x) r3 hg hx hn
      by_cases hc : (G.P k).n ≤ pc G y y
      · obtain ⟨st3, e3, q3, h105⟩ := C_wake (n := n) m2 (hR.inv.lg hj) (hR.inv.lw hi) hJ hn
        have m3 := m2.wq q3
        have R3 := R2.qc q3.1
        have S3 := R3.sh
        sorry
      · refine ⟨-1000000, st2, ?_, o1.trans q2.1, fun st3 r3 => ?_⟩
        · have hc2 : (nI (G.P k).n ≤ nI (pc G y y)) = False := nLe_f (by omega) (by omega)
          simp only [↓Option.bind_some, ↓reduceIte, ↓bnd (C_isPart_t hx), ↓bnd (g64_3 hS), ↓bnd (g64_0 hS), ↓bnd (o79 hS), ↓bnd (e1), ↓bnd (o64 S1), ↓bnd (e2), ↓bnd (g64_3 S2), ↓bnd (m2.y2), ↓bnd (m2.pn), i10, hc2]
        · obtain ⟨⟨-, -, rfl, rfl, -⟩, -, rfl⟩ := hg
          obtain ⟨s3, f1, f2, f3, f4⟩ := M_orders (n := n) r3 y y hn
          have T3 := f2.rel r3
          have g29 : gI s3 (some 106) 11 29 = some (nI (pc G y y)) := by rw [g106_29 T3.sh, f3]
          have hc2 : (nI (G.P k).n ≤ nI (pc G y y)) = False := nLe_f (by omega) (by omega)
          refine ⟨s3, ?_, f2.qm, f2.2.trans r3.2.2.2.2.2.2.1⟩
          unfold F_X11_felt
          simp only [↓Option.bind_some, ↓reduceIte, ↓bnd (o106 r3.sh), ↓bnd (M st3 r3), ↓bnd (f1), ↓bnd (g29), ↓bnd (o106 T3.sh), ↓bnd (M_games T3.sh T3.mod T3.inv hk), i10, hc2]
    · refine ⟨-1000000, st, ?_, Only.refl hS, fun st3 r3 => ⟨st3, ?_, Only.refl r3.sh, r3.2.2.2.2.2.2.1⟩⟩
      · simp only [↓Option.bind_some, ↓reduceIte, ↓bnd (C_isPart_t hx), ↓bnd (g64_3 hS), ↓bnd (g64_0 hS), ↓bnd (o79 hS), ↓bnd (C_bring4_f hR hg), i10]
      · unfold F_X11_felt
        simp only [↓Option.bind_some, ↓reduceIte, ↓bnd (o106 r3.sh), ↓bnd (M_isPart_f r3 (Or.inl hg) hn)]
  · refine ⟨-1000000, st, ?_, Only.refl hS, fun st3 r3 => ⟨st3, ?_, Only.refl r3.sh, r3.2.2.2.2.2.2.1⟩⟩
    · simp only [↓Option.bind_some, ↓reduceIte, ↓bnd (C_isPart_f hx)]
    · unfold F_X11_felt
      simp only [↓Option.bind_some, ↓reduceIte, ↓bnd (o106 r3.sh), ↓bnd (M_isPart_f r3 (Or.inr hx) hn)]
end FE

/-! WHAT A LEAGUE'S AND A LAW'S LINES TELL: the class -/
def upN (f : Nat → Nat) (i x : Nat) : Nat → Nat := fun j => if j = i then x else f j
theorem upN_I {f : Nat → Int32} {g : Nat → Nat} {N i x : Nat} (h : ∀ j, j < N → f j = nI (g j)) : ∀ j, j < N → upd f i (nI x) j = nI (upN g i x j) := by
  intro j hj
  unfold upN
  by_cases c : j = i
  · rw [if_pos c, c, upd_s]
  · rw [if_neg c, pk_un c]; exact h j hj
theorem fbR_none {le mo : Nat → Int} {cpl : Prop} [Decidable cpl] {v : Nat → Nat} : ∀ r k, fbR le mo cpl v r k = none → ∀ j, k ≤ j → j < k + r → ¬ bdP le mo cpl v j := by
  intro r
  induction r with
  | zero => exact fun k _ j h1 h2 => by omega
  | succ r ih =>
    intro k h j h1 h2
    unfold fbR at h
    by_cases c : bdP le mo cpl v k
    · rw [if_pos c] at h; cases h
    · rw [if_neg c] at h
      by_cases hj : j = k
      · rw [hj]; exact c
      · exact ih (k + 1) h j (by omega) (by omega)
theorem fbR_some {le mo : Nat → Int} {cpl : Prop} [Decidable cpl] {v : Nat → Nat} {i : Nat} : ∀ r k, fbR le mo cpl v r k = some i → k ≤ i ∧ i < k + r := by
  intro r
  induction r with
  | zero => exact fun k h => by cases h
  | succ r ih =>
    intro k h
    unfold fbR at h
    by_cases c : bdP le mo cpl v k
    · rw [if_pos c] at h; injection h with h; omega
    · rw [if_neg c] at h
      have := ih (k + 1) h
      omega
/-- cells below stay -/
def NF (m0 : Nat) (st st' : xS) : Prop := st'.1 = st.1 ∧ st'.2.1 = st.2.1 ∧ Sh st' ∧ ∀ a, a < m0 → st'.2.2 a = st.2.2 a
def LgN (st : xS) (m0 : Nat) (D : LgD) : Prop := st.2.2 m0 = .inr (4, [.ref (m0 + 1), .ref (m0 + 2), .int (nI D.g), .int (nI D.s)]) ∧ ∃ f h : Nat → Int32, st.2.2 (m0 + 1) = .inl (0, 60, .inl f) ∧ st.2.2 (m0 + 2) = .inl (0, 100, .inl h) ∧ (∀ i, i < 60 → f i = nI (D.r i)) ∧ ∀ i, i < 100 → h i = nI (D.d i)
def lgMo (D : LgD) (f k : Nat) : Int := if f = 0 then (if k = 2 then 999 else 99) else if f = 1 then (if k = 0 then (D.g : Int) - 1 else 50) else if k = 2 then 9999 else (D.g : Int) - 1
abbrev lgFull (D : LgD) (f : Nat) : Prop := (f = 0 ∧ 10 ≤ D.g) ∨ (f = 1 ∧ 8 ≤ D.s)
def lgTk (D : LgD) (f : Nat) (v : Nat → Nat) : LgD := if f = 0 then (D.g + 1, D.s, upN (upN (upN D.r (10 + D.g) (v 0)) (20 + D.g) (v 1)) (30 + D.g) (v 2), D.d) else if f = 1 then (D.g, D.s + 1, upN (upN D.r (40 + D.s) (v 0)) (50 + D.s) (v 1), D.d) else (D.g, D.s, D.r, upN (upN D.d (10 * v 0 + v 1) (v 2)) (10 * v 1 + v 0) (v 2))
theorem lgTk_I {D : LgD} (hI : LgI D) {f : Nat} (hf : f < 3) {v : Nat → Nat} (hF : ¬ lgFull D f) (hb : fbR (fun _ => 0) (lgMo D f) (f = 2) v (if f = 1 then 2 else 3) 0 = none) : LgI (lgTk D f v) := by
  obtain ⟨h1, h2, h3, h4, h5, h6, h7, h8, h9⟩ := hI
  have nb := fbR_none _ _ hb
  rcases (show f = 0 ∨ f = 1 ∨ f = 2 by omega) with rfl | rfl | rfl
  · have g10 : D.g < 10 := Nat.lt_of_not_le fun h => hF (Or.inl ⟨rfl, h⟩)
    have b0 := nb 0 (by decide) (by decide)
    have b1 := nb 1 (by decide) (by decide)
    have b2 := nb 2 (by decide) (by decide)
    have v0 : v 0 ≤ 99 := by have : ¬ (99 : Int) < (v 0 : Int) := fun h => b0 (Or.inr (Or.inr h)); omega
    have v1 : v 1 ≤ 99 := by have : ¬ (99 : Int) < (v 1 : Int) := fun h => b1 (Or.inr (Or.inr h)); omega
    have v2 : v 2 ≤ 999 := by have : ¬ (999 : Int) < (v 2 : Int) := fun h => b2 (Or.inr (Or.inr h)); omega
    have o : ∀ i, 40 ≤ i → upN (upN (upN D.r (10 + D.g) (v 0)) (20 + D.g) (v 1)) (30 + D.g) (v 2) i = D.r i := fun i hi => by unfold upN; rw [if_neg (by omega), if_neg (by omega), if_neg (by omega)]
    refine ⟨g10, h2, fun i => ?_, h4, h5, fun i hi => ?_, fun i hi => ?_, fun i hi => ?_, fun i hi => ?_⟩
    · show upN (upN (upN D.r (10 + D.g) (v 0)) (20 + D.g) (v 1)) (30 + D.g) (v 2) i ≤ 999
      have := h3 i
      unfold upN
      split
      · exact v2
      · split
        · omega
        · split <;> omega
    · show upN (upN (upN D.r (10 + D.g) (v 0)) (20 + D.g) (v 1)) (30 + D.g) (v 2) (50 + i) ≤ 50
      rw [o _ (by omega)]; exact h6 i hi
    · show upN (upN (upN D.r (10 + D.g) (v 0)) (20 + D.g) (v 1)) (30 + D.g) (v 2) (40 + i) < 10
      rw [o _ (by omega)]; exact h7 i hi
    · show upN (upN (upN D.r (10 + D.g) (v 0)) (20 + D.g) (v 1)) (30 + D.g) (v 2) (40 + i) < D.g + 1
      rw [o _ (by omega)]; exact Nat.lt_succ_of_lt (h8 i hi)
    · show upN (upN (upN D.r (10 + D.g) (v 0)) (20 + D.g) (v 1)) (30 + D.g) (v 2) (20 + i) ≤ 99
      have := h9 i hi
      unfold upN
      rw [if_neg (by omega)]
      split
      · exact v1
      · rw [if_neg (by omega)]; exact this
  · have s8 : D.s < 8 := Nat.lt_of_not_le fun h => hF (Or.inr ⟨rfl, h⟩)
    have b0 := nb 0 (by decide) (by decide)
    have b1 := nb 1 (by decide) (by decide)
    have v0 : v 0 < D.g := by have : ¬ (D.g : Int) - 1 < (v 0 : Int) := fun h => b0 (Or.inr (Or.inr h)); omega
    have v1 : v 1 ≤ 50 := by have : ¬ (50 : Int) < (v 1 : Int) := fun h => b1 (Or.inr (Or.inr h)); omega
    refine ⟨h1, s8, fun i => ?_, h4, h5, fun i hi => ?_, fun i hi => ?_, fun i hi => ?_, fun i hi => ?_⟩
    · show upN (upN D.r (40 + D.s) (v 0)) (50 + D.s) (v 1) i ≤ 999
      have := h3 i
      unfold upN
      split
      · omega
      · split <;> omega
    · show upN (upN D.r (40 + D.s) (v 0)) (50 + D.s) (v 1) (50 + i) ≤ 50
      have := h6 i hi
      unfold upN
      split
      · exact v1
      · rw [if_neg (by omega)]; exact this
    · show upN (upN D.r (40 + D.s) (v 0)) (50 + D.s) (v 1) (40 + i) < 10
      have := h7 i hi
      unfold upN
      rw [if_neg (by omega)]
      split <;> omega
    · have hi : i < D.s + 1 := hi
      show upN (upN D.r (40 + D.s) (v 0)) (50 + D.s) (v 1) (40 + i) < D.g
      unfold upN
      rw [if_neg (by omega)]
      by_cases c : 40 + i = 40 + D.s
      · rw [if_pos c]; exact v0
      · rw [if_neg c]; exact h8 i (by omega)
    · show upN (upN D.r (40 + D.s) (v 0)) (50 + D.s) (v 1) (20 + i) ≤ 99
      unfold upN
      rw [if_neg (by omega), if_neg (by omega)]
      exact h9 i hi
  · have b0 := nb 0 (by decide) (by decide)
    have b1 := nb 1 (by decide) (by decide)
    have b2 := nb 2 (by decide) (by decide)
    have v0 : v 0 < D.g := by have : ¬ (D.g : Int) - 1 < (v 0 : Int) := fun h => b0 (Or.inr (Or.inr h)); omega
    have v1 : v 1 < D.g := by have : ¬ (D.g : Int) - 1 < (v 1 : Int) := fun h => b1 (Or.inr (Or.inr h)); omega
    have vn : v 1 ≠ v 0 := fun h => b1 (Or.inl ⟨rfl, rfl, h⟩)
    have v2 : v 2 ≤ 9999 := by have : ¬ (9999 : Int) < (v 2 : Int) := fun h => b2 (Or.inr (Or.inr h)); omega
    refine ⟨h1, h2, h3, fun i => ?_, fun a ha => ?_, h6, h7, h8, h9⟩
    · show upN (upN D.d (10 * v 0 + v 1) (v 2)) (10 * v 1 + v 0) (v 2) i ≤ 9999
      have := h4 i
      unfold upN
      split
      · exact v2
      · split
        · exact v2
        · exact this
    · show upN (upN D.d (10 * v 0 + v 1) (v 2)) (10 * v 1 + v 0) (v 2) (10 * a + a) = 0
      unfold upN
      rw [if_neg (by omega), if_neg (by omega)]
      exact h5 a ha
section KN
variable {st st1 st2 s s1 : xS} {n len p i m m0 f : Nat} {D : LgD} {W : LwD} {v : Nat → Nat}
theorem NF.refl (h : Sh st) : NF m0 st st := ⟨rfl, rfl, h, fun _ _ => rfl⟩
theorem NF.trans (h : NF m0 st st1) (k : NF m0 st1 st2) : NF m0 st st2 := ⟨k.1.trans h.1, k.2.1.trans h.2.1, k.2.2.1, fun a ha => (k.2.2.2 a ha).trans (h.2.2.2 a ha)⟩
theorem NF_A (hS : Sh s) (h1 : 116 ≤ m0) {a : Nat} (ha : m0 ≤ a) (f : Nat → Int32) : NF m0 s (wA s a f) := ⟨(wA_1 _ _ _).1, (wA_1 _ _ _).2, shw_A hS a f, fun b hb => wA_n (by omega) _ _⟩
theorem NF_V (hS : Sh s) (h1 : 116 ≤ m0) (k : Nat) (v : Value) : NF m0 s (uV s m0 k v) := ⟨(uV_1 _ _ _ _).1, (uV_1 _ _ _ _).2, hS.same (Nat.le_of_eq (uV_1 _ _ _ _).1.symm) fun b hb => uV_n (by omega) _ _ _, fun b hb => uV_n (by omega) _ _ _⟩
theorem wA_c {a t N : Nat} {g : Nat → Int32} (h : s.2.2 a = .inl (t, N, .inl g)) (f : Nat → Int32) : (wA s a f).2.2 a = .inl (t, N, .inl f) := by
  unfold wA
  rw [h]
  exact xup_s _ _ _
theorem uV_c {a c k : Nat} {fs : List Value} (h : s.2.2 a = .inr (c, fs)) (v : Value) : (uV s a k v).2.2 a = .inr (c, fs.set k v) := by
  unfold uV
  rw [h]
  exact xup_s _ _ _
theorem bI_not (P : Prop) [Decidable P] : bI (¬ P) = if P then 0 else 1 := by
  by_cases h : P
  · rw [if_pos h, bI_f fun q => q h]
  · rw [if_neg h, bI_t h]
theorem C_full4 (h : LgN s m0 D) (hg : D.g ≤ 10) (hs : D.s ≤ 8) (hf : f < 3) : F_X4_isFull n s (some m0) (nI f) = some (bI (lgFull D f)) := by
  have g2 : gI s (some m0) 4 2 = some (nI D.g) := gI_of h.1 rfl
  have g3 : gI s (some m0) 4 3 = some (nI D.s) := gI_of h.1 rfl
  have e1 : (nI D.g < (10 : Int32)) = (D.g < 10) := nLt (b := 10) (by omega) (by decide)
  have e2 : (nI D.s < (8 : Int32)) = (D.s < 8) := nLt (b := 8) (by omega) (by decide)
  unfold F_X4_isFull
  rcases (show f = 0 ∨ f = 1 ∨ f = 2 by omega) with rfl | rfl | rfl
  · rw [if_pos (show nI 0 = (0 : Int32) from rfl)]
    simp only [↓bnd (g2), e1]
    by_cases c : D.g < 10
    · rw [if_pos c, bI_f (fun h => by omega)]; rfl
    · rw [if_neg c, bI_t (Or.inl ⟨rfl, by omega⟩)]; rfl
  · rw [if_neg (show ¬ nI 1 = (0 : Int32) by decide), if_pos (show nI 1 = (1 : Int32) from rfl)]
    simp only [↓bnd (g3), e2]
    by_cases c : D.s < 8
    · rw [if_pos c, bI_f (fun h => by omega)]; rfl
    · rw [if_neg c, bI_t (Or.inr ⟨rfl, by omega⟩)]; rfl
  · rw [if_neg (show ¬ nI 2 = (0 : Int32) by decide), if_neg (show ¬ nI 2 = (1 : Int32) by decide), bI_f (fun h => by omega)]
    rfl
theorem C_most4 (h : LgN s m0 D) (hf : f < 3) {k : Nat} (hk : k < 3) : F_X4_mostOf n s (some m0) (nI f) (nI k) = some (zI (lgMo D f k)) := by
  have g2 : gI s (some m0) 4 2 = some (nI D.g) := gI_of h.1 rfl
  have e : nI D.g - (1 : Int32) = zI ((D.g : Int) - 1) := nSubZ D.g 1
  unfold F_X4_mostOf lgMo
  rcases (show f = 0 ∨ f = 1 ∨ f = 2 by omega) with rfl | rfl | rfl
  · rcases (show k = 0 ∨ k = 1 ∨ k = 2 by omega) with rfl | rfl | rfl <;> rfl
  · rcases (show k = 0 ∨ k = 1 ∨ k = 2 by omega) with rfl | rfl | rfl
    · simp only [nn0_0, nn0_1, nn0_2, nn0_3, nn1_0, nn1_1, nn1_2, nn1_3, nn2_0, nn2_1, nn2_2, nn2_3, nn3_0, nn3_1, nn3_2, nn3_3, nn4_0, nn4_1, nn4_2, nn4_3, nn5_0, nn5_1, nn5_2, nn5_3, mm0_0, mm0_1, mm0_2, mm0_3, mm1_0, mm1_1, mm1_2, mm1_3, mm2_0, mm2_1, mm2_2, mm2_3, mm3_0, mm3_1, mm3_2, mm3_3, mm4_0, mm4_1, mm4_2, mm4_3, mm5_0, mm5_1, mm5_2, mm5_3, if_true, if_false, ↓reduceIte, ↓bnd (g2), e, Option.bind_some]
    · rfl
    · rfl
  · rcases (show k = 0 ∨ k = 1 ∨ k = 2 by omega) with rfl | rfl | rfl
    · simp only [nn0_0, nn0_1, nn0_2, nn0_3, nn1_0, nn1_1, nn1_2, nn1_3, nn2_0, nn2_1, nn2_2, nn2_3, nn3_0, nn3_1, nn3_2, nn3_3, nn4_0, nn4_1, nn4_2, nn4_3, nn5_0, nn5_1, nn5_2, nn5_3, mm0_0, mm0_1, mm0_2, mm0_3, mm1_0, mm1_1, mm1_2, mm1_3, mm2_0, mm2_1, mm2_2, mm2_3, mm3_0, mm3_1, mm3_2, mm3_3, mm4_0, mm4_1, mm4_2, mm4_3, mm5_0, mm5_1, mm5_2, mm5_3, if_true, if_false, ↓reduceIte, ↓bnd (g2), e, Option.bind_some]
    · simp only [nn0_0, nn0_1, nn0_2, nn0_3, nn1_0, nn1_1, nn1_2, nn1_3, nn2_0, nn2_1, nn2_2, nn2_3, nn3_0, nn3_1, nn3_2, nn3_3, nn4_0, nn4_1, nn4_2, nn4_3, nn5_0, nn5_1, nn5_2, nn5_3, mm0_0, mm0_1, mm0_2, mm0_3, mm1_0, mm1_1, mm1_2, mm1_3, mm2_0, mm2_1, mm2_2, mm2_3, mm3_0, mm3_1, mm3_2, mm3_3, mm4_0, mm4_1, mm4_2, mm4_3, mm5_0, mm5_1, mm5_2, mm5_3, if_true, if_false, ↓reduceIte, ↓bnd (g2), e, Option.bind_some]
    · rfl
theorem C_take4 (hS : Sh s) (h : LgN s m0 D) (h116 : 116 ≤ m0) (hg : D.g ≤ 10) (hs : D.s ≤ 8) (hf : f < 3) (hF : ¬ lgFull D f) (hm : f = 2 → v 0 < 10 ∧ v 1 < 10) : ∃ s', F_X4_take n s (some m0) (nI f) (nI (v 0)) (nI (v 1)) (nI (v 2)) = some s' ∧ NF m0 s s' ∧ LgN s' m0 (lgTk D f v) := by
  obtain ⟨c0, F, H, c1, c2, hF1, hH1⟩ := h
  have g0 : gR s (some m0) 4 0 = some (some (m0 + 1)) := gR_of c0 rfl
  have g1 : gR s (some m0) 4 1 = some (some (m0 + 2)) := gR_of c0 rfl
  have g2 : gI s (some m0) 4 2 = some (nI D.g) := gI_of c0 rfl
  have g3 : gI s (some m0) 4 3 = some (nI D.s) := gI_of c0 rfl
  rcases (show f = 0 ∨ f = 1 ∨ f = 2 by omega) with rfl | rfl | rfl
  · have g10 : D.g < 10 := Nat.lt_of_not_le fun h => hF (Or.inl ⟨rfl, h⟩)
    have w1 := C_setAt (n := n) c1 (k := 10 + D.g) (by omega) (by decide) (nI (v 0))
    have n1 := NF_A hS h116 (a := m0 + 1) (by omega) (upd F (10 + D.g) (nI (v 0)))
    have d1 := wA_c c1 (upd F (10 + D.g) (nI (v 0)))
    have o1 : ∀ a, a ≠ m0 + 1 → (wA s (m0 + 1) (upd F (10 + D.g) (nI (v 0)))).2.2 a = s.2.2 a := fun a ha => wA_n ha _ _
    generalize wA s (m0 + 1) (upd F (10 + D.g) (nI (v 0))) = s1 at *
    have c01 := (o1 m0 (by omega)).trans c0
    have w2 := C_setAt (n := n) d1 (k := 20 + D.g) (by omega) (by decide) (nI (v 1))
    have n2 := NF_A n1.2.2.1 h116 (a := m0 + 1) (by omega) (upd (upd F (10 + D.g) (nI (v 0))) (20 + D.g) (nI (v 1)))
    have d2 := wA_c d1 (upd (upd F (10 + D.g) (nI (v 0))) (20 + D.g) (nI (v 1)))
    have o2 : ∀ a, a ≠ m0 + 1 → (wA s1 (m0 + 1) (upd (upd F (10 + D.g) (nI (v 0))) (20 + D.g) (nI (v 1)))).2.2 a = s1.2.2 a := fun a ha => wA_n ha _ _
    generalize wA s1 (m0 + 1) (upd (upd F (10 + D.g) (nI (v 0))) (20 + D.g) (nI (v 1))) = s2 at *
    have c02 := (o2 m0 (by omega)).trans c01
    have w3 := C_setAt (n := n) d2 (k := 30 + D.g) (by omega) (by decide) (nI (v 2))
    have n3 := NF_A n2.2.2.1 h116 (a := m0 + 1) (by omega) (upd (upd (upd F (10 + D.g) (nI (v 0))) (20 + D.g) (nI (v 1))) (30 + D.g) (nI (v 2)))
    have d3 := wA_c d2 (upd (upd (upd F (10 + D.g) (nI (v 0))) (20 + D.g) (nI (v 1))) (30 + D.g) (nI (v 2)))
    have o3 : ∀ a, a ≠ m0 + 1 → (wA s2 (m0 + 1) (upd (upd (upd F (10 + D.g) (nI (v 0))) (20 + D.g) (nI (v 1))) (30 + D.g) (nI (v 2)))).2.2 a = s2.2.2 a := fun a ha => wA_n ha _ _
    generalize wA s2 (m0 + 1) (upd (upd (upd F (10 + D.g) (nI (v 0))) (20 + D.g) (nI (v 1))) (30 + D.g) (nI (v 2))) = s3 at *
    have c03 := (o3 m0 (by omega)).trans c02
    have p4 : pF s3 (some m0) 4 2 (.int (nI (D.g + 1))) = some (uV s3 m0 2 (.int (nI (D.g + 1)))) := pF_of c03 (by show 2 < 4; omega)
    have n4 := NF_V n3.2.2.1 h116 2 (.int (nI (D.g + 1)))
    have d4 := uV_c (k := 2) c03 (.int (nI (D.g + 1)))
    have o4 : ∀ a, a ≠ m0 → (uV s3 m0 2 (.int (nI (D.g + 1)))).2.2 a = s3.2.2 a := fun a ha => uV_n ha _ _ _
    refine ⟨_, ?_, ((n1.trans n2).trans n3).trans n4, d4, _, H, (o4 (m0 + 1) (by omega)).trans d3, ?_, upN_I (upN_I (upN_I hF1)), hH1⟩
    · unfold F_X4_take
      rw [if_pos (show nI 0 = (0 : Int32) from rfl)]
      simp only [↓bnd (g0), ↓bnd (g2), show ∀ x : Nat, (10 : Int32) + nI x = nI (10 + x) from fun x => nAdd 10 x, show ∀ x : Nat, (20 : Int32) + nI x = nI (20 + x) from fun x => nAdd 20 x, show ∀ x : Nat, (30 : Int32) + nI x = nI (30 + x) from fun x => nAdd 30 x, ↓bnd (w1), ↓bnd ((gR_of c01 rfl : gR s1 (some m0) 4 0 = some (some (m0 + 1)))), ↓bnd ((gI_of c01 rfl : gI s1 (some m0) 4 2 = some (nI D.g))), ↓bnd (w2), ↓bnd ((gR_of c02 rfl : gR s2 (some m0) 4 0 = some (some (m0 + 1)))), ↓bnd ((gI_of c02 rfl : gI s2 (some m0) 4 2 = some (nI D.g))), ↓bnd (w3), ↓bnd ((gI_of c03 rfl : gI s3 (some m0) 4 2 = some (nI D.g))), nI_1, ↓bnd (p4), Option.bind_some]
    · rw [o4 _ (by omega), o3 _ (by omega), o2 _ (by omega), o1 _ (by omega)]; exact c2
  · have s8 : D.s < 8 := Nat.lt_of_not_le fun h => hF (Or.inr ⟨rfl, h⟩)
    have w1 := C_setAt (n := n) c1 (k := 40 + D.s) (by omega) (by decide) (nI (v 0))
    have n1 := NF_A hS h116 (a := m0 + 1) (by omega) (upd F (40 + D.s) (nI (v 0)))
    have d1 := wA_c c1 (upd F (40 + D.s) (nI (v 0)))
    have o1 : ∀ a, a ≠ m0 + 1 → (wA s (m0 + 1) (upd F (40 + D.s) (nI (v 0)))).2.2 a = s.2.2 a := fun a ha => wA_n ha _ _
    generalize wA s (m0 + 1) (upd F (40 + D.s) (nI (v 0))) = s1 at *
    have c01 := (o1 m0 (by omega)).trans c0
    have w2 := C_setAt (n := n) d1 (k := 50 + D.s) (by omega) (by decide) (nI (v 1))
    have n2 := NF_A n1.2.2.1 h116 (a := m0 + 1) (by omega) (upd (upd F (40 + D.s) (nI (v 0))) (50 + D.s) (nI (v 1)))
    have d2 := wA_c d1 (upd (upd F (40 + D.s) (nI (v 0))) (50 + D.s) (nI (v 1)))
    have o2 : ∀ a, a ≠ m0 + 1 → (wA s1 (m0 + 1) (upd (upd F (40 + D.s) (nI (v 0))) (50 + D.s) (nI (v 1)))).2.2 a = s1.2.2 a := fun a ha => wA_n ha _ _
    generalize wA s1 (m0 + 1) (upd (upd F (40 + D.s) (nI (v 0))) (50 + D.s) (nI (v 1))) = s2 at *
    have c02 := (o2 m0 (by omega)).trans c01
    have p4 : pF s2 (some m0) 4 3 (.int (nI (D.s + 1))) = some (uV s2 m0 3 (.int (nI (D.s + 1)))) := pF_of c02 (by show 3 < 4; omega)
    have n4 := NF_V n2.2.2.1 h116 3 (.int (nI (D.s + 1)))
    have d4 := uV_c (k := 3) c02 (.int (nI (D.s + 1)))
    have o4 : ∀ a, a ≠ m0 → (uV s2 m0 3 (.int (nI (D.s + 1)))).2.2 a = s2.2.2 a := fun a ha => uV_n ha _ _ _
    refine ⟨_, ?_, (n1.trans n2).trans n4, d4, _, H, (o4 (m0 + 1) (by omega)).trans d2, ?_, upN_I (upN_I hF1), hH1⟩
    · unfold F_X4_take
      rw [if_neg (show ¬ nI 1 = (0 : Int32) by decide), if_pos (show nI 1 = (1 : Int32) from rfl)]
      simp only [↓bnd (g0), ↓bnd (g3), show ∀ x : Nat, (40 : Int32) + nI x = nI (40 + x) from fun x => nAdd 40 x, show ∀ x : Nat, (50 : Int32) + nI x = nI (50 + x) from fun x => nAdd 50 x, ↓bnd (w1), ↓bnd ((gR_of c01 rfl : gR s1 (some m0) 4 0 = some (some (m0 + 1)))), ↓bnd ((gI_of c01 rfl : gI s1 (some m0) 4 3 = some (nI D.s))), ↓bnd (w2), ↓bnd ((gI_of c02 rfl : gI s2 (some m0) 4 3 = some (nI D.s))), nI_1, ↓bnd (p4), Option.bind_some]
    · rw [o4 _ (by omega), o2 _ (by omega), o1 _ (by omega)]; exact c2
  · obtain ⟨v0, v1⟩ := hm rfl
    have w1 := C_setAt (n := n) c2 (k := 10 * v 0 + v 1) (by omega) (by decide) (nI (v 2))
    have n1 := NF_A hS h116 (a := m0 + 2) (by omega) (upd H (10 * v 0 + v 1) (nI (v 2)))
    have d1 := wA_c c2 (upd H (10 * v 0 + v 1) (nI (v 2)))
    have o1 : ∀ a, a ≠ m0 + 2 → (wA s (m0 + 2) (upd H (10 * v 0 + v 1) (nI (v 2)))).2.2 a = s.2.2 a := fun a ha => wA_n ha _ _
    generalize wA s (m0 + 2) (upd H (10 * v 0 + v 1) (nI (v 2))) = s1 at *
    have c01 := (o1 m0 (by omega)).trans c0
    have w2 := C_setAt (n := n) d1 (k := 10 * v 1 + v 0) (by omega) (by decide) (nI (v 2))
    have n2 := NF_A n1.2.2.1 h116 (a := m0 + 2) (by omega) (upd (upd H (10 * v 0 + v 1) (nI (v 2))) (10 * v 1 + v 0) (nI (v 2)))
    have d2 := wA_c d1 (upd (upd H (10 * v 0 + v 1) (nI (v 2))) (10 * v 1 + v 0) (nI (v 2)))
    have o2 : ∀ a, a ≠ m0 + 2 → (wA s1 (m0 + 2) (upd (upd H (10 * v 0 + v 1) (nI (v 2))) (10 * v 1 + v 0) (nI (v 2)))).2.2 a = s1.2.2 a := fun a ha => wA_n ha _ _
    refine ⟨_, ?_, n1.trans n2, (o2 m0 (by omega)).trans c01, F, _, ?_, d2, hF1, upN_I (upN_I hH1)⟩
    · unfold F_X4_take
      rw [if_neg (show ¬ nI 2 = (0 : Int32) by decide), if_neg (show ¬ nI 2 = (1 : Int32) by decide)]
      have e1 : (10 : Int32) * nI (v 0) + nI (v 1) = nI (10 * v 0 + v 1) := by rw [show (10 : Int32) * nI (v 0) = nI (10 * v 0) from nMul 10 _, nAdd]
      have e2 : (10 : Int32) * nI (v 1) + nI (v 0) = nI (10 * v 1 + v 0) := by rw [show (10 : Int32) * nI (v 1) = nI (10 * v 1) from nMul 10 _, nAdd]
      simp only [↓bnd (g1), e1, e2, ↓bnd (w1), ↓bnd ((gR_of c01 rfl : gR s1 (some m0) 4 1 = some (some (m0 + 2)))), ↓bnd (w2), Option.bind_some]
    · rw [o2 _ (by omega), o1 _ (by omega)]; exact c1
end KN

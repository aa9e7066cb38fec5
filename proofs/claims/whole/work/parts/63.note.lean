/-! NOTE -/
def addN (G : Gh) (f : Nat → Nat) : Gh := ((fun w => if w = 3 then G.cn 3 + 1 else G.cn w), G.tl, G.fl, G.pl, G.tp, G.L, G.W, G.P, (fun k => if k = G.cn 3 then f else G.nt k), G.fm, G.fg)
def nv (a0 a1 a2 a3 a4 a5 a6 a7 a8 a9 : Nat) : Nat → Nat
  | 0 => a0
  | 1 => a1
  | 2 => a2
  | 3 => a3
  | 4 => a4
  | 5 => a5
  | 6 => a6
  | 7 => a7
  | 8 => a8
  | _ => a9
section NV
variable (a0 a1 a2 a3 a4 a5 a6 a7 a8 a9 : Nat)
theorem nv0 : nv a0 a1 a2 a3 a4 a5 a6 a7 a8 a9 0 = a0 := rfl
theorem nv1 : nv a0 a1 a2 a3 a4 a5 a6 a7 a8 a9 1 = a1 := rfl
theorem nv2 : nv a0 a1 a2 a3 a4 a5 a6 a7 a8 a9 2 = a2 := rfl
theorem nv3 : nv a0 a1 a2 a3 a4 a5 a6 a7 a8 a9 3 = a3 := rfl
theorem nv4 : nv a0 a1 a2 a3 a4 a5 a6 a7 a8 a9 4 = a4 := rfl
theorem nv5 : nv a0 a1 a2 a3 a4 a5 a6 a7 a8 a9 5 = a5 := rfl
theorem nv6 : nv a0 a1 a2 a3 a4 a5 a6 a7 a8 a9 6 = a6 := rfl
theorem nv7 : nv a0 a1 a2 a3 a4 a5 a6 a7 a8 a9 7 = a7 := rfl
theorem nv8 : nv a0 a1 a2 a3 a4 a5 a6 a7 a8 a9 8 = a8 := rfl
theorem nv9 : nv a0 a1 a2 a3 a4 a5 a6 a7 a8 a9 9 = a9 := rfl
end NV
theorem nv_I {a0 a1 a2 a3 a4 a5 a6 a7 a8 a9 : Nat} (h0 : a0 < 8) (h1 : a1 < 8) (h2 : a0 ≠ a1) (h3 : a2 < 60) (h4 : a3 ≤ 9) (h5 : a4 ≤ 9) (h6 : a5 ≤ 9) (h7 : a6 ≤ 9) (h8 : a7 ≤ 19) (h9 : a8 ≤ 999) (hh : a9 < 8) : NtI (nv a0 a1 a2 a3 a4 a5 a6 a7 a8 a9) := ⟨h0, h1, h2, h3, h4, h5, h6, h7, h8, h9, hh⟩
theorem addN_I {G : Gh} (hI : GhI G) {f : Nat → Nat} (hc : G.cn 3 < 80) (hf : NtI f) : GhI (addN G f) := by
  obtain ⟨h1, h2, h3, h4, h5, h6, h7, h8, h9, h10, h11, h12⟩ := hI
  refine ⟨h1, h2, h3, ?_, h5, h6, h7, h8, h9, h10, fun k hk => ?_, h12⟩
  · show G.cn 3 + 1 ≤ 80
    omega
  · have hk : k < G.cn 3 + 1 := hk
    show NtI (if k = G.cn 3 then f else G.nt k)
    by_cases h : k = G.cn 3
    · rw [if_pos h]; exact hf
    · rw [if_neg h]; exact h11 k (by omega)
section NT
variable {st st1 st2 : xS} {n : Nat} {G G1 : Gh} {I I1 : Im}
theorem TolR.nt (hT : TolR st 65 G) (o : Only (fun a => a = 69 ∨ a = 70) st st1) {f : Nat → Nat} (h69 : cI st1 69 = upd (cI st 69) 3 (nI (G.cn 3 + 1))) (hk : ∀ v, v < 10 → cI st1 70 (10 * G.cn 3 + v) = nI (f v)) (hl : ∀ i, i < 10 * G.cn 3 → cI st1 70 i = cI st 70 i) : TolR st1 65 (addN G f) := by
  have hS : ∀ a, a = 69 ∨ a = 70 → a < 116 := fun a h => by omega
  obtain ⟨h1, h2, h3, h4, h5, h6, h7, h8, h9, h10, h11⟩ := hT
  refine ⟨fun k hk => ?_, fun k hk => ?_, fun k hk => ?_, fun w hw => ?_, fun k w hk2 hw => ?_, ?_, ?_, ?_, ?_, ?_, ?_⟩
  · rw [cR_o o (by omega)]
    refine ⟨fun q => ?_, (h1 k hk).2⟩
    obtain ⟨a, e1, e2⟩ := (h1 k hk).1 q
    exact ⟨a, e1, e2.only o hS⟩
  · rw [cR_o o (by omega)]
    refine ⟨fun q => ?_, (h2 k hk).2⟩
    obtain ⟨a, e1, e2⟩ := (h2 k hk).1 q
    exact ⟨a, e1, e2.only o hS⟩
  · rw [cR_o o (by omega)]
    refine ⟨fun q => ?_, (h3 k hk).2⟩
    obtain ⟨a, e1, e2⟩ := (h3 k hk).1 q
    exact ⟨a, e1, e2.only o hS⟩
  · show cI st1 69 w = nI (if w = 3 then G.cn 3 + 1 else G.cn w)
    rw [h69]
    by_cases h : w = 3
    · rw [h, upd_s, if_pos rfl]
    · rw [pk_un h, if_neg h]; exact h4 w hw
  · have hk2 : k < G.cn 3 + 1 := hk2
    show cI st1 70 (10 * k + w) = nI ((if k = G.cn 3 then f else G.nt k) w)
    by_cases h : k = G.cn 3
    · rw [if_pos h, h]; exact hk w hw
    · rw [if_neg h, hl _ (by omega)]; exact h5 k w (by omega) hw
  · rw [cI_o o (by omega)]; exact h6
  · rw [cI_o o (by omega)]; exact h7
  · rw [cI_o o (by omega)]; exact h8
  · rw [fI_o o (by omega)]; exact h9
  · rw [fI_o o (by omega)]; exact h10
  · rw [fI_o o (by omega)]; exact h11
/-- what isn't of the model's told numbers may change -/
theorem ModB.mono {B B1 : Nat → Int32} (hM : ModB B G) (hI : GhI G) (ho : ∀ q, q < 1730 + 10 * G.cn 3 ∨ 2530 ≤ q ∧ q < 2562 → B1 q = B q) : ModB B1 G := by
  have b0 := hI.1
  have b1 := hI.2.1
  have b2 := hI.2.2.1
  have b3 := hI.2.2.2.1
  obtain ⟨m1, m2, m3, m4, m5, m6, m7, m8, m9, m10⟩ := hM
  have o : ∀ q, q < 1730 → B1 q = B q := fun q hq => ho q (by omega)
  refine ⟨fun w hw => (o w (by omega)).trans (m1 w hw), (o 4 (by omega)).trans m2, (o 5 (by omega)).trans m3, (o 6 (by omega)).trans m4, fun q hq => (o _ (by omega)).trans (m5 q hq), fun k hk => ?_, fun k hk => ?_, fun k hk => ?_, fun k w hk hw => ?_, fun j hj => ?_⟩
  · obtain ⟨g1, g2, g3, g4, g5, g6, g7, g8⟩ := m6 k hk
    exact ⟨(o _ (by omega)).trans g1, (o _ (by omega)).trans g2, fun x hx => (o _ (by omega)).trans (g3 x hx), fun x hx => (o _ (by omega)).trans (g4 x hx), fun x hx => (o _ (by omega)).trans (g5 x hx), fun x hx => (o _ (by omega)).trans (g6 x hx), fun x hx => (o _ (by omega)).trans (g7 x hx), fun x y hx hy => (o _ (by omega)).trans (g8 x y hx hy)⟩
  · obtain ⟨g1, g2, g3⟩ := m7 k hk
    exact ⟨(o _ (by omega)).trans g1, fun x hx => (o _ (by omega)).trans (g2 x hx), fun x hx => (o _ (by omega)).trans (g3 x hx)⟩
  · obtain ⟨g1, g2, g3⟩ := m8 k hk
    have c2 := (hI.pp hk).1
    exact ⟨(o _ (by omega)).trans g1, fun x w hx hw => (o _ (by omega)).trans (g2 x w hx hw), fun x hx => (o _ (by omega)).trans (g3 x hx)⟩
  · exact (ho _ (by omega)).trans (m9 k w hk hw)
  · obtain ⟨d1, d2, d3, d4⟩ := m10 j hj
    exact ⟨(ho _ (by omega)).trans d1, (ho _ (by omega)).trans d2, (ho _ (by omega)).trans d3, (ho _ (by omega)).trans d4⟩
theorem ModB.nt {B B1 : Nat → Int32} (hM : ModB B G) (hI : GhI G) {f : Nat → Nat} (hc : G.cn 3 < 80) (h3 : B1 3 = nI (G.cn 3 + 1)) (hk : ∀ v, v < 10 → B1 (1730 + 10 * G.cn 3 + v) = nI (f v)) (ho : ∀ q, q ≠ 3 → q < 1730 + 10 * G.cn 3 ∨ 1730 + 10 * G.cn 3 + 10 ≤ q → B1 q = B q) : ModB B1 (addN G f) := by
  have b0 := hI.1
  have b1 := hI.2.1
  have b2 := hI.2.2.1
  obtain ⟨m1, m2, m3, m4, m5, m6, m7, m8, m9, m10⟩ := hM
  have o : ∀ q, q < 1730 → q ≠ 3 → B1 q = B q := fun q hq h => ho q h (by omega)
  refine ⟨fun w hw => ?_, (o 4 (by omega) (by omega)).trans m2, (o 5 (by omega) (by omega)).trans m3, (o 6 (by omega) (by omega)).trans m4, fun q hq => (o _ (by omega) (by omega)).trans (m5 q hq), fun k hk => ?_, fun k hk => ?_, fun k hk => ?_, fun k w hk2 hw => ?_, fun j hj => ?_⟩
  · show B1 w = nI (if w = 3 then G.cn 3 + 1 else G.cn w)
    by_cases h : w = 3
    · rw [if_pos h, h]; exact h3
    · rw [if_neg h]; exact (o w (by omega) h).trans (m1 w hw)
  · have hk : k < G.cn 0 := hk
    obtain ⟨g1, g2, g3, g4, g5, g6, g7, g8⟩ := m6 k hk
    exact ⟨(o _ (by omega) (by omega)).trans g1, (o _ (by omega) (by omega)).trans g2, fun x hx => (o _ (by omega) (by omega)).trans (g3 x hx), fun x hx => (o _ (by omega) (by omega)).trans (g4 x hx), fun x hx => (o _ (by omega) (by omega)).trans (g5 x hx), fun x hx => (o _ (by omega) (by omega)).trans (g6 x hx), fun x hx => (o _ (by omega) (by omega)).trans (g7 x hx), fun x y hx hy => (o _ (by omega) (by omega)).trans (g8 x y hx hy)⟩
  · have hk : k < G.cn 1 := hk
    obtain ⟨g1, g2, g3⟩ := m7 k hk
    exact ⟨(o _ (by omega) (by omega)).trans g1, fun x hx => (o _ (by omega) (by omega)).trans (g2 x hx), fun x hx => (o _ (by omega) (by omega)).trans (g3 x hx)⟩
  · have hk : k < G.cn 2 := hk
    obtain ⟨g1, g2, g3⟩ := m8 k hk
    have c2 := (hI.pp hk).1
    exact ⟨(o _ (by omega) (by omega)).trans g1, fun x w hx hw => by
      have hx : x < (G.P k).n := hx
      exact (o _ (by omega) (by omega)).trans (g2 x w hx hw), fun x hx => by
      have hx : x < (G.P k).n := hx
      exact (o _ (by omega) (by omega)).trans (g3 x hx)⟩
  · have hk2 : k < G.cn 3 + 1 := hk2
    show B1 (1730 + 10 * k + w) = nI ((if k = G.cn 3 then f else G.nt k) w)
    by_cases h : k = G.cn 3
    · rw [if_pos h, h]; exact hk w hw
    · rw [if_neg h]; exact (ho _ (by omega) (by omega)).trans (m9 k w (by omega) hw)
  · obtain ⟨d1, d2, d3, d4⟩ := m10 j hj
    exact ⟨(ho _ (by omega) (by omega)).trans d1, (ho _ (by omega) (by omega)).trans d2, (ho _ (by omega) (by omega)).trans d3, (ho _ (by omega) (by omega)).trans d4⟩
/-- a note being written: the class -/
def PC (st0 s : xS) (k w : Nat) (f : Nat → Nat) : Prop := Only (fun a => a = 70) st0 s ∧ (∀ v, v < w → cI s 70 (10 * k + v) = nI (f v)) ∧ ∀ i, i < 10 * k → cI s 70 i = cI st0 70 i
theorem PC.refl (hS : Sh st) (k : Nat) (f : Nat → Nat) : PC st st k 0 f := ⟨Only.refl hS, fun v hv => absurd hv (Nat.not_lt_zero v), fun i _ => rfl⟩
theorem PC.step {s0 s : xS} {k w : Nat} {f : Nat → Nat} (h : PC s0 s k w f) (hk : k < 80) (hw : w < 10) : ∃ s', F_X9_setNote n s (some 65) (nI k) (nI w) (nI (f w)) = some s' ∧ PC s0 s' k (w + 1) f := by
  obtain ⟨o, h1, h2⟩ := h
  have S := o.2.2.1
  have c := C_setAt (n := n) (c70 S) (k := 10 * k + w) (by omega) (by decide) (nI (f w))
  have j := k70 S (upd (cI s 70) (10 * k + w) (nI (f w)))
  refine ⟨_, ?_, o.trans (Only.wA S 70 (upd (cI s 70) (10 * k + w) (nI (f w)))), fun v hv => ?_, fun i hi => ?_⟩
  · unfold F_X9_setNote
    simp only [↓bnd (g65_4 S), l10, nMul, nAdd, ↓bnd (c)]
  · rw [j]
    by_cases hvw : v = w
    · rw [hvw, upd_s]
    · rw [pk_un (by omega)]
      exact h1 v (by omega)
  · rw [j, pk_un (by omega)]
    exact h2 i hi
/-- a note being written: the model -/
def PM (st0 s : xS) (k w : Nat) (f : Nat → Nat) : Prop := Only (fun a => a = 106 ∨ a = 107) st0 s ∧ fI s 106 15 = fI st0 106 15 ∧ (∀ v, v < w → cI s 107 (1730 + 10 * k + v) = nI (f v)) ∧ ∀ i, i < 1730 + 10 * k ∨ 1730 + 10 * k + 10 ≤ i → cI s 107 i = cI st0 107 i
theorem PM.refl (hS : Sh st) (k : Nat) (f : Nat → Nat) : PM st st k 0 f := ⟨Only.refl hS, rfl, fun v hv => absurd hv (Nat.not_lt_zero v), fun i _ => rfl⟩
theorem PM.step {s0 s : xS} {k w : Nat} {f : Nat → Nat} (h : PM s0 s k w f) (hk : k < 80) (hw : w < 10) : ∃ s', F_X11_notes n s (some 106) (nI k) (nI w) (nI (f w)) = some s' ∧ PM s0 s' k (w + 1) f ∧ fI s' 106 16 = fI s 106 16 := by
  obtain ⟨o, h15, h1, h2⟩ := h
  have S := o.2.2.1
  have q : (1730 : Int32) + (10 : Int32) * nI k + nI w = nI (1730 + 10 * k + w) := by simp only [l0, l1, l2, l3, l4, l5, l6, l7, l8, l9, l10, l11, l12, l13, l14, l15, l16, l17, l18, l19, l20, l21, l22, l23, l24, l25, l26, l27, l28, l29, l30, l31, l32, l33, l34, l35, l36, l37, l38, l39, l40, l41, l42, l43, l44, l45, l46, l47, l48, l49, l50, l51, l52, l53, l54, l55, l56, l57, l58, l59, l60, l65, l90, l96, l97, l99, l100, l101, l122, l150, l242, l255, l499, l500, l510, l800, l960, l999, l1000, l1002, l1730, l2530, l2562, l9999, l10250, l32768, l1000000, nMul, nAdd, nNegN]
  have c : sS 0 s (some 107) (nI (1730 + 10 * k + w)) (nI (f w)) = some (wA s 107 (upd (cI s 107) (1730 + 10 * k + w) (nI (f w)))) := by rw [w107 S, if_pos (ixT (by omega) (by decide)), nIc (by omega)]
  have j := k107 S (upd (cI s 107) (1730 + 10 * k + w) (nI (f w)))
  have i6 : ∀ x, fI (wA s 107 (upd (cI s 107) (1730 + 10 * k + w) (nI (f w)))) 106 x = fI s 106 x := fun x => fI_c (wA_n (by decide) _ _) x
  refine ⟨_, ?_, ⟨o.trans ((Only.wA S 107 (upd (cI s 107) (1730 + 10 * k + w) (nI (f w)))).mono fun a h => Or.inr h), (i6 15).trans h15, fun v hv => ?_, fun i hi => ?_⟩, i6 16⟩
  · unfold F_X11_notes
    simp only [↓bnd (g106_0 S), q, ↓bnd (c)]
  · rw [j]
    by_cases hvw : v = w
    · rw [hvw, upd_s]
    · rw [pk_un (by omega)]
      exact h1 v (by omega)
  · rw [j, pk_un (by omega)]
    exact h2 i hi
theorem C_newNote (hR : Rel st G I) (hc : G.cn 3 < 80) : ∃ st', F_X9_newNote n st (some 65) = some (nI (G.cn 3), st') ∧ Only (fun a => a = 69) st st' ∧ cI st' 69 = upd (cI st 69) 3 (nI (G.cn 3 + 1)) := by
  have hS := hR.sh
  have hm : F_X9_howMany n st (some 65) (3 : Int32) = some (nI (G.cn 3)) := C_howMany hS hR.tol (by decide)
  have c : F_X10_setAt n st (some 69) (3 : Int32) (nI (G.cn 3 + 1)) = _ := C_setAt (c69 hS) (show 3 < 4 by decide) (by decide) _
  refine ⟨_, ?_, Only.wA hS 69 (upd (cI st 69) 3 (nI (G.cn 3 + 1))), k69 hS _⟩
  unfold F_X9_newNote
  simp only [↓bnd (o65 hS), ↓bnd (hm), ↓bnd (g65_3 hS), nI_1, ↓bnd (c)]
/-- what is within -/
theorem ofIn {x : Int32} {b : Nat} (hb : b + 1 < 2147483648) (h : 0 ≤ x ∧ x ≤ nI b) : ∃ j, j ≤ b ∧ x = nI j := by
  rcases nCut x (b + 1) with ⟨j, hj, e⟩ | hx
  · exact ⟨j, by omega, e⟩
  · exact absurd h (in_f2 hb hx)
theorem C_isIn (v a b : Int32) : F_X10_within n st v a b = some (bI (a ≤ v ∧ v ≤ b)) := M_isIn (n := n) (st := st) v a b
theorem C_isSide (v : Int32) : F_X10_isSide n st v = some (bI (0 ≤ v ∧ v ≤ 7)) := by unfold F_X10_isSide; simp only [↓bnd (C_isIn v 0 7), rz_bI, Option.bind_some]
theorem C_isJudge (v : Int32) : F_X10_isJudge n st v = some (bI (0 ≤ v ∧ v ≤ 7)) := by unfold F_X10_isJudge; simp only [↓bnd (C_isIn v 0 7), rz_bI, Option.bind_some]
theorem C_isYear (v : Int32) : F_X10_isYear n st v = some (bI (0 ≤ v ∧ v ≤ 59)) := by unfold F_X10_isYear; simp only [↓bnd (C_isIn v 0 59), rz_bI, Option.bind_some]
theorem nd_c (A P : Prop) [Decidable A] [Decidable P] {x : Option Int32} (h : x = some (bI P)) : (if bI A = (0 : Int32) then some (0 : Int32) else x) = some (bI (A ∧ P)) := by
  by_cases hA : A
  · rw [bI_t hA, if_neg (by decide), h]
    by_cases hP : P
    · rw [bI_t hP, bI_t ⟨hA, hP⟩]
    · rw [bI_f hP, bI_f fun q => hP q.2]
  · rw [bI_f hA, if_pos rfl, bI_f fun q => hA q.1]
theorem nd_e (a b : Int32) (P : Prop) [Decidable P] {x : Option Int32} (h : x = some (bI P)) : (if a = b then some (0 : Int32) else x) = some (bI (¬ a = b ∧ P)) := by
  by_cases hA : a = b
  · rw [if_pos hA, bI_f fun q => q.1 hA]
  · rw [if_neg hA, h]
    by_cases hP : P
    · rw [bI_t hP, bI_t ⟨hA, hP⟩]
    · rw [bI_f hP, bI_f fun q => hP q.2]
theorem nd_t : (some (1 : Int32)) = some (bI True) := rfl
/-- all that a note must be -/
def okN (a b y g c m l j : Int32) : Prop := ((0 ≤ a ∧ a ≤ 7) ∧ (0 ≤ b ∧ b ≤ 7) ∧ ¬ a = b ∧ True) ∧ ((0 ≤ g ∧ g ≤ 99) ∧ (0 ≤ c ∧ c ≤ 99) ∧ True) ∧ ((0 ≤ m ∧ m ≤ 19) ∧ (0 ≤ l ∧ l ≤ 999) ∧ (0 ≤ j ∧ j ≤ 7) ∧ True) ∧ (0 ≤ y ∧ y ≤ 59)
theorem M_good (a b y g c m l j : Int32) : ((F_X11_isIn n st a (0 : Int32) (7 : Int32)).bind fun v1 =>
  ((if v1 = (0 : Int32) then some (0 : Int32) else (F_X11_isIn n st b (0 : Int32) (7 : Int32)).bind fun v2 => if v2 = (0 : Int32) then some (0 : Int32) else if a = b then some (0 : Int32) else
          (F_X11_isIn n st y (0 : Int32) (59 : Int32)).bind fun v3 => if v3 = (0 : Int32) then some (0 : Int32) else
            (F_X11_isIn n st g (0 : Int32) (99 : Int32)).bind fun v4 => if v4 = (0 : Int32) then some (0 : Int32) else
              (F_X11_isIn n st c (0 : Int32) (99 : Int32)).bind fun v5 => if v5 = (0 : Int32) then some (0 : Int32) else
                (F_X11_isIn n st m (0 : Int32) (19 : Int32)).bind fun v6 => if v6 = (0 : Int32) then some (0 : Int32) else
                  (F_X11_isIn n st l (0 : Int32) (999 : Int32)).bind fun v7 => if v7 = (0 : Int32) then some (0 : Int32) else
                    (F_X11_isIn n st j (0 : Int32) (7 : Int32)).bind fun v8 => if v8 = (0 : Int32) then some (0 : Int32) else some (1 : Int32)) : Option (Int32))) = some (bI ((0 ≤ a ∧ a ≤ 7) ∧ (0 ≤ b ∧ b ≤ 7) ∧ ¬ a = b ∧ (0 ≤ y ∧ y ≤ 59) ∧ (0 ≤ g ∧ g ≤ 99) ∧ (0 ≤ c ∧ c ≤ 99) ∧ (0 ≤ m ∧ m ≤ 19) ∧ (0 ≤ l ∧ l ≤ 999) ∧ (0 ≤ j ∧ j ≤ 7) ∧ True)) := by
  simp only [M_isIn, Option.bind_some]
  exact nd_c _ _ (nd_c _ _ (nd_e _ _ _ (nd_c _ _ (nd_c _ _ (nd_c _ _ (nd_c _ _ (nd_c _ _ (nd_c _ _ nd_t))))))))
theorem E_note (hR : Rel st G I) (a b y g c m l j : Int32) : Chg (fun st => F_X10_note n st (some 64) a b y g c m l j) (fun st => F_X11_note n st (some 106) a b y g c m l j) st G I 0 0 := by
  have hS := hR.sh
  have b3 := hR.inv.n3
  have hm : F_X9_howMany n st (some 65) (3 : Int32) = some (nI (G.cn 3)) := C_howMany hS hR.tol (by decide)
  have q1 : ((if bI (0 ≤ a ∧ a ≤ 7) = (0 : Int32) then some (0 : Int32) else if bI (0 ≤ b ∧ b ≤ 7) = (0 : Int32) then some (0 : Int32) else if a = b then some (0 : Int32) else some (1 : Int32)) : Option Int32) = _ := nd_c _ _ (nd_c _ _ (nd_e _ _ _ nd_t))
  have q2 : ((if bI (0 ≤ g ∧ g ≤ 99) = (0 : Int32) then some (0 : Int32) else if bI (0 ≤ c ∧ c ≤ 99) = (0 : Int32) then some (0 : Int32) else some (1 : Int32)) : Option Int32) = _ := nd_c _ _ (nd_c _ _ nd_t)
  have q3 : ((if bI (0 ≤ m ∧ m ≤ 19) = (0 : Int32) then some (0 : Int32) else if bI (0 ≤ l ∧ l ≤ 999) = (0 : Int32) then some (0 : Int32) else if bI (0 ≤ j ∧ j ≤ 7) = (0 : Int32) then some (0 : Int32) else some (1 : Int32)) : Option Int32) = _ := nd_c _ _ (nd_c _ _ (nd_c _ _ nd_t))
  by_cases hc : G.cn 3 < 80 ∧ okN a b y g c m l j
  · obtain ⟨hc, ⟨ha, hb, hab, -⟩, ⟨hg, hcc, -⟩, ⟨hm1, hl, hj, -⟩, hy⟩ := hc
    have p1 : (0 ≤ a ∧ a ≤ 7) ∧ (0 ≤ b ∧ b ≤ 7) ∧ ¬ a = b ∧ True := ⟨ha, hb, hab, trivial⟩
    have p2 : (0 ≤ g ∧ g ≤ 99) ∧ (0 ≤ c ∧ c ≤ 99) ∧ True := ⟨hg, hcc, trivial⟩
    have p3 : (0 ≤ m ∧ m ≤ 19) ∧ (0 ≤ l ∧ l ≤ 999) ∧ (0 ≤ j ∧ j ≤ 7) ∧ True := ⟨hm1, hl, hj, trivial⟩
    have pg : (0 ≤ a ∧ a ≤ 7) ∧ (0 ≤ b ∧ b ≤ 7) ∧ ¬ a = b ∧ (0 ≤ y ∧ y ≤ 59) ∧ (0 ≤ g ∧ g ≤ 99) ∧ (0 ≤ c ∧ c ≤ 99) ∧ (0 ≤ m ∧ m ≤ 19) ∧ (0 ≤ l ∧ l ≤ 999) ∧ (0 ≤ j ∧ j ≤ 7) ∧ True := ⟨ha, hb, hab, hy, hg, hcc, hm1, hl, hj, trivial⟩
    rw [bI_t p1] at q1
    rw [bI_t p2] at q2
    rw [bI_t p3] at q3
    have q4 : F_X10_isYear n st y = some 1 := by rw [C_isYear, bI_t hy]
    obtain ⟨a, ha, rfl⟩ := ofIn (b := 7) (by decide) ha
    obtain ⟨b, hb, rfl⟩ := ofIn (b := 7) (by decide) hb
    obtain ⟨g, hg, rfl⟩ := ofIn (b := 99) (by decide) hg
    obtain ⟨c, hcc, rfl⟩ := ofIn (b := 99) (by decide) hcc
    obtain ⟨m, hm1, rfl⟩ := ofIn (b := 19) (by decide) hm1
    obtain ⟨l, hl, rfl⟩ := ofIn (b := 999) (by decide) hl
    obtain ⟨j, hj, rfl⟩ := ofIn (b := 7) (by decide) hj
    obtain ⟨y, hy, rfl⟩ := ofIn (b := 59) (by decide) hy
    have hab : a ≠ b := fun h => hab (by rw [h])
    have hf : NtI (nv a b y (g / 10) (g % 10) (c / 10) (c % 10) m l j) := by
      show a < 8 ∧ b < 8 ∧ a ≠ b ∧ y < 60 ∧ g / 10 ≤ 9 ∧ g % 10 ≤ 9 ∧ c / 10 ≤ 9 ∧ c % 10 ≤ 9 ∧ m ≤ 19 ∧ l ≤ 999 ∧ j < 8
      omega
    have d1 : dI (nI g) (10 : Int32) = some (nI (g / 10)) := dI_n (d := 10) (by omega) (by decide) (by decide)
    have d2 : dR (nI g) (10 : Int32) = some (nI (g % 10)) := dR_n (d := 10) (by omega) (by decide) (by decide)
    have d3 : dI (nI c) (10 : Int32) = some (nI (c / 10)) := dI_n (d := 10) (by omega) (by decide) (by decide)
    have d4 : dR (nI c) (10 : Int32) = some (nI (c % 10)) := dR_n (d := 10) (by omega) (by decide) (by decide)
    obtain ⟨s0, e0, o0, k0⟩ := C_newNote (n := n) hR hc
    have P0 := PC.refl o0.2.2.1 (G.cn 3) (nv a b y (g / 10) (g % 10) (c / 10) (c % 10) m l j)
    obtain ⟨s1, t0, P1⟩ := PC.step (n := n) P0 hc (show 0 < 10 by decide)
    have t0 : F_X9_setNote n s0 (some 65) (nI (G.cn 3)) (0 : Int32) (nI a) = some s1 := t0
    obtain ⟨s2, t1, P2⟩ := PC.step (n := n) P1 hc (show 1 < 10 by decide)
    have t1 : F_X9_setNote n s1 (some 65) (nI (G.cn 3)) (1 : Int32) (nI b) = some s2 := t1
    obtain ⟨s3, t2, P3⟩ := PC.step (n := n) P2 hc (show 2 < 10 by decide)
    have t2 : F_X9_setNote n s2 (some 65) (nI (G.cn 3)) (2 : Int32) (nI y) = some s3 := t2
    obtain ⟨s4, t3, P4⟩ := PC.step (n := n) P3 hc (show 3 < 10 by decide)
    have t3 : F_X9_setNote n s3 (some 65) (nI (G.cn 3)) (3 : Int32) (nI (g / 10)) = some s4 := t3
    obtain ⟨s5, t4, P5⟩ := PC.step (n := n) P4 hc (show 4 < 10 by decide)
    have t4 : F_X9_setNote n s4 (some 65) (nI (G.cn 3)) (4 : Int32) (nI (g % 10)) = some s5 := t4
    obtain ⟨s6, t5, P6⟩ := PC.step (n := n) P5 hc (show 5 < 10 by decide)
    have t5 : F_X9_setNote n s5 (some 65) (nI (G.cn 3)) (5 : Int32) (nI (c / 10)) = some s6 := t5
    obtain ⟨s7, t6, P7⟩ := PC.step (n := n) P6 hc (show 6 < 10 by decide)
    have t6 : F_X9_setNote n s6 (some 65) (nI (G.cn 3)) (6 : Int32) (nI (c % 10)) = some s7 := t6
    obtain ⟨s8, t7, P8⟩ := PC.step (n := n) P7 hc (show 7 < 10 by decide)
    have t7 : F_X9_setNote n s7 (some 65) (nI (G.cn 3)) (7 : Int32) (nI m) = some s8 := t7
    obtain ⟨s9, t8, P9⟩ := PC.step (n := n) P8 hc (show 8 < 10 by decide)
    have t8 : F_X9_setNote n s8 (some 65) (nI (G.cn 3)) (8 : Int32) (nI l) = some s9 := t8
    obtain ⟨s10, t9, P10⟩ := PC.step (n := n) P9 hc (show 9 < 10 by decide)
    have t9 : F_X9_setNote n s9 (some 65) (nI (G.cn 3)) (9 : Int32) (nI j) = some s10 := t9
    have oo : Only (fun a => a = 69 ∨ a = 70) st s10 := (o0.mono fun a h => Or.inl h).trans (P10.1.mono fun a h => Or.inr h)
    have k70 : cI s0 70 = cI st 70 := cI_o o0 (by decide)
    have gI := addN_I hR.inv hc hf
    refine ⟨nI (G.cn 3), s10, addN G (nv a b y (g / 10) (g % 10) (c / 10) (c % 10) m l j), I, ?_, hR.cls.base (oo.mono fun a h => by omega) gI (hR.tol.nt oo ?_ P10.2.1 ?_), KF.of oo (by omega), Nat.le_of_eq oo.1.symm, Nat.le_of_eq oo.1, Nat.le_of_eq oo.2.1, fun st2 r2 => ?_⟩
    · unfold F_X10_note
      have hc2 : (nI (G.cn 3) < (80 : Int32)) = True := nLt_t (b := 80) hc (by decide)
      simp only [C_isSide, C_isIn, C_isJudge, Option.bind_some, q1, q2, q3, q4, i10, if_false]
      simp only [↓reduceIte, ↓bnd (g64_0 hS), ↓bnd (o65 hS), ↓bnd (hm), hc2, ↓bnd (e0), ↓bnd (g64_0 o0.2.2.1), ↓bnd (o65 o0.2.2.1), ↓bnd (t0), ↓bnd (g64_0 P1.1.2.2.1), ↓bnd (o65 P1.1.2.2.1), ↓bnd (t1), ↓bnd (g64_0 P2.1.2.2.1), ↓bnd (o65 P2.1.2.2.1), ↓bnd (t2), ↓bnd (g64_0 P3.1.2.2.1), ↓bnd (o65 P3.1.2.2.1), ↓bnd (t3), ↓bnd (g64_0 P4.1.2.2.1), ↓bnd (o65 P4.1.2.2.1), ↓bnd (t4), ↓bnd (g64_0 P5.1.2.2.1), ↓bnd (o65 P5.1.2.2.1), ↓bnd (t5), ↓bnd (g64_0 P6.1.2.2.1), ↓bnd (o65 P6.1.2.2.1), ↓bnd (t6), ↓bnd (g64_0 P7.1.2.2.1), ↓bnd (o65 P7.1.2.2.1), ↓bnd (t7), ↓bnd (g64_0 P8.1.2.2.1), ↓bnd (o65 P8.1.2.2.1), ↓bnd (t8), ↓bnd (g64_0 P9.1.2.2.1), ↓bnd (o65 P9.1.2.2.1), ↓bnd (t9), ↓bnd (d1), ↓bnd (d2), ↓bnd (d3), ↓bnd (d4)]
    · rw [cI_o P10.1 (by decide)]; exact k0
    · intro i hi
      rw [P10.2.2 i hi, k70]
    · have S2 := r2.1
      have M2 := r2.mod
      have ct : aI st2 (some 107) (3 : Int32) = some (nI (G.cn 3)) := M_cnt S2 M2
      have R0 := PM.refl S2 (G.cn 3) (nv a b y (g / 10) (g % 10) (c / 10) (c % 10) m l j)
      obtain ⟨z1, x0, R1, -⟩ := PM.step (n := n) R0 hc (show 0 < 10 by decide)
      have x0 : F_X11_notes n st2 (some 106) (nI (G.cn 3)) (0 : Int32) (nI a) = some z1 := x0
      obtain ⟨z2, x1, R2, -⟩ := PM.step (n := n) R1 hc (show 1 < 10 by decide)
      have x1 : F_X11_notes n z1 (some 106) (nI (G.cn 3)) (1 : Int32) (nI b) = some z2 := x1
      obtain ⟨z3, x2, R3, -⟩ := PM.step (n := n) R2 hc (show 2 < 10 by decide)
      have x2 : F_X11_notes n z2 (some 106) (nI (G.cn 3)) (2 : Int32) (nI y) = some z3 := x2
      obtain ⟨z4, x3, R4, -⟩ := PM.step (n := n) R3 hc (show 3 < 10 by decide)
      have x3 : F_X11_notes n z3 (some 106) (nI (G.cn 3)) (3 : Int32) (nI (g / 10)) = some z4 := x3
      obtain ⟨z5, x4, R5, -⟩ := PM.step (n := n) R4 hc (show 4 < 10 by decide)
      have x4 : F_X11_notes n z4 (some 106) (nI (G.cn 3)) (4 : Int32) (nI (g % 10)) = some z5 := x4
      obtain ⟨z6, x5, R6, -⟩ := PM.step (n := n) R5 hc (show 5 < 10 by decide)
      have x5 : F_X11_notes n z5 (some 106) (nI (G.cn 3)) (5 : Int32) (nI (c / 10)) = some z6 := x5
      obtain ⟨z7, x6, R7, -⟩ := PM.step (n := n) R6 hc (show 6 < 10 by decide)
      have x6 : F_X11_notes n z6 (some 106) (nI (G.cn 3)) (6 : Int32) (nI (c % 10)) = some z7 := x6
      obtain ⟨z8, x7, R8, -⟩ := PM.step (n := n) R7 hc (show 7 < 10 by decide)
      have x7 : F_X11_notes n z7 (some 106) (nI (G.cn 3)) (7 : Int32) (nI m) = some z8 := x7
      obtain ⟨z9, x8, R9, -⟩ := PM.step (n := n) R8 hc (show 8 < 10 by decide)
      have x8 : F_X11_notes n z8 (some 106) (nI (G.cn 3)) (8 : Int32) (nI l) = some z9 := x8
      obtain ⟨z10, x9, R10, -⟩ := PM.step (n := n) R9 hc (show 9 < 10 by decide)
      have x9 : F_X11_notes n z9 (some 106) (nI (G.cn 3)) (9 : Int32) (nI j) = some z10 := x9
      have S10 := R10.1.2.2.1
      have ct2 : aI z10 (some 107) (3 : Int32) = some (nI (G.cn 3)) := by
        have : aI z10 (some 107) (3 : Int32) = some (cI z10 107 3) := M_all S10 (show 3 < 10250 by decide)
        rw [this, R10.2.2.2 3 (by omega), M2.1 3 (by decide)]
      have w3 : sS 0 z10 (some 107) (3 : Int32) (nI (G.cn 3 + 1)) = some (wA z10 107 (upd (cI z10 107) 3 (nI (G.cn 3 + 1)))) := by
        have : sS 0 z10 (some 107) (nI 3) (nI (G.cn 3 + 1)) = _ := w107 S10 _ _
        rw [if_pos (ixT (by decide) (by decide)), nIc (by decide)] at this
        exact this
      have o3 := Only.wA S10 107 (upd (cI z10 107) 3 (nI (G.cn 3 + 1)))
      have k3 := k107 S10 (upd (cI z10 107) 3 (nI (G.cn 3 + 1)))
      have f3 : fI (wA z10 107 (upd (cI z10 107) 3 (nI (G.cn 3 + 1)))) 106 15 = fI z10 106 15 := fI_c (wA_n (by decide) _ _) 15
      generalize wA z10 107 (upd (cI z10 107) 3 (nI (G.cn 3 + 1))) = z11 at *
      have o := R10.1.trans (o3.mono fun a h => Or.inr h)
      have q : Only QN st2 z11 := o.mono fun a h => by unfold QN; omega
      refine ⟨z11, ?_, r2.base q gI (M2.nt hR.inv hc ?_ ?_ ?_) ((f3.trans R10.2.1).trans r2.2.2.2.2.1) (cI_o o (by decide)) ?_, q⟩
      · show F_X11_note n st2 (some 106) (nI a) (nI b) (nI y) (nI g) (nI c) (nI m) (nI l) (nI j) = _
        unfold F_X11_note
        have hg := M_good (n := n) (st := st2) (nI a) (nI b) (nI y) (nI g) (nI c) (nI m) (nI l) (nI j)
        rw [bI_t pg] at hg
        have hc2 : (nI (G.cn 3) = (80 : Int32)) = False := nEq_f (b := 80) (by omega) (by omega) (by decide)
        rw [← Option.bind_assoc, hg]
        simp only [↓Option.bind_some, ↓reduceIte, i10, ↓bnd (g106_0 S2), ↓bnd (ct), hc2, ↓bnd (o106 S2), ↓bnd (x0), ↓bnd (o106 R1.1.2.2.1), ↓bnd (x1), ↓bnd (o106 R2.1.2.2.1), ↓bnd (x2), ↓bnd (o106 R3.1.2.2.1), ↓bnd (x3), ↓bnd (o106 R4.1.2.2.1), ↓bnd (x4), ↓bnd (o106 R5.1.2.2.1), ↓bnd (x5), ↓bnd (o106 R6.1.2.2.1), ↓bnd (x6), ↓bnd (o106 R7.1.2.2.1), ↓bnd (x7), ↓bnd (o106 R8.1.2.2.1), ↓bnd (x8), ↓bnd (o106 R9.1.2.2.1), ↓bnd (x9), ↓bnd (d1), ↓bnd (d2), ↓bnd (d3), ↓bnd (d4), ↓bnd (g106_0 S10), ↓bnd (ct2), nI_1, ↓bnd (w3)]
      · rw [k3, upd_s]
      · intro v hv
        rw [k3, pk_un (by omega)]
        exact R10.2.2.1 v hv
      · intro q h3 hq
        rw [k3, pk_un h3]
        exact R10.2.2.2 q hq
      · intro i hi
        rw [k3, pk_un (by omega)]
        exact R10.2.2.2 i (by omega)
  · refine Chg.none hR (v := -1) ?_ fun st2 r2 => ?_
    · unfold F_X10_note
      simp only [C_isSide, C_isIn, C_isJudge, C_isYear, Option.bind_some, q1, q2, q3]
      by_cases p1 : (0 ≤ a ∧ a ≤ 7) ∧ (0 ≤ b ∧ b ≤ 7) ∧ ¬ a = b ∧ True
      · rw [bI_t p1, if_neg (by decide)]
        by_cases p2 : (0 ≤ g ∧ g ≤ 99) ∧ (0 ≤ c ∧ c ≤ 99) ∧ True
        · rw [bI_t p2, if_neg (by decide)]
          by_cases p3 : (0 ≤ m ∧ m ≤ 19) ∧ (0 ≤ l ∧ l ≤ 999) ∧ (0 ≤ j ∧ j ≤ 7) ∧ True
          · rw [bI_t p3, if_neg (by decide)]
            by_cases p4 : 0 ≤ y ∧ y ≤ 59
            · rw [bI_t p4, if_neg (by decide)]
              have h80 : (nI (G.cn 3) < (80 : Int32)) = False := nLt_f (b := 80) (Nat.le_of_not_lt fun h => hc ⟨h, p1, p2, p3, p4⟩) (by omega)
              simp only [↓reduceIte, ↓bnd (g64_0 hS), ↓bnd (o65 hS), ↓bnd (hm), h80]
            · rw [bI_f p4, if_pos rfl]
          · rw [bI_f p3, if_pos rfl]
        · rw [bI_f p2, if_pos rfl]
      · rw [bI_f p1, if_pos rfl]
    · have S2 := r2.1
      have ct : aI st2 (some 107) (3 : Int32) = some (nI (G.cn 3)) := M_cnt S2 r2.mod
      unfold F_X11_note
      rw [← Option.bind_assoc, M_good, Option.bind_some]
      by_cases pg : (0 ≤ a ∧ a ≤ 7) ∧ (0 ≤ b ∧ b ≤ 7) ∧ ¬ a = b ∧ (0 ≤ y ∧ y ≤ 59) ∧ (0 ≤ g ∧ g ≤ 99) ∧ (0 ≤ c ∧ c ≤ 99) ∧ (0 ≤ m ∧ m ≤ 19) ∧ (0 ≤ l ∧ l ≤ 999) ∧ (0 ≤ j ∧ j ≤ 7) ∧ True
      · rw [bI_t pg, if_neg (by decide)]
        obtain ⟨h1, h2, h3, h4, h5, h6, h7, h8, h9, h10⟩ := pg
        have h80 : G.cn 3 = 80 := by
          rcases Nat.lt_or_ge (G.cn 3) 80 with h | h
          · exact absurd ⟨h, ⟨h1, h2, h3, trivial⟩, ⟨h5, h6, trivial⟩, ⟨h7, h8, h9, trivial⟩, h4⟩ hc
          · omega
        have e80 : (nI (G.cn 3) = (80 : Int32)) = True := by rw [h80]; exact eq_true rfl
        simp only [↓reduceIte, ↓bnd (g106_0 S2), ↓bnd (ct), e80]
      · rw [bI_f pg, if_pos rfl]
end NT

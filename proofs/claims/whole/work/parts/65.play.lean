/-! PLAY: the two -/
/-- a game played: its note, and how the numbers go on -/
def pnA (L : LgD) (W : LwD) (P : PlD) (g : Nat) (x : Int32) : Nat × Int32 := sh3 (gp L W P g (gE (gP L W P g) 9)) x 3
def pnB (L : LgD) (W : LwD) (P : PlD) (g : Nat) (x : Int32) : Nat × Int32 := sh3 (gq L W P g) (pnA L W P g x).2 3
def pn (L : LgD) (W : LwD) (P : PlD) (yr g : Nat) (x : Int32) : (Nat → Nat) × Int32 :=
  (nv (P.c g 0) (P.c g 1) yr (pnA L W P g x).1 (pnB L W P g x).1 (uv (rnd (pnB L W P g x).2) % 4) (uv (rnd (rnd (pnB L W P g x).2)) % 4 + (if gP L W P g 4 = 0 then 0 else 1)) (1 + uv (rnd (rnd (rnd (pnB L W P g x).2))) % 3 + (if P.c g 4 = 1 ∧ (pnB L W P g x).1 = (pnA L W P g x).1 + 1 then 2 else 0)) (gN L P g) (P.c g 4), rnd (rnd (rnd (pnB L W P g x).2)))
def pyN (G : Gh) (L : LgD) (W : LwD) (P : PlD) (yr : Nat) (x : Int32) : Nat → Gh × Int32
  | 0 => (G, x)
  | g + 1 => (addN (pyN G L W P yr x g).1 (pn L W P yr g (pyN G L W P yr x g).2).1, (pn L W P yr g (pyN G L W P yr x g).2).2)
section PY
variable {st st1 st2 : xS} {n d : Nat} {G G1 : Gh} {I I1 : Im} {x y : Int32} {a w p : Nat} {L : LgD} {W : LwD} {P : PlD}
theorem pn_I (hI : LgI L) (hJ : PlI P) {g yr : Nat} (hg : g < P.n) (hy : yr ≤ 59) (x : Int32) : NtI (pn L W P yr g x).1 := by
  have c := hJ.2.1 g hg
  have hA := sh3_le (gp L W P g (gE (gP L W P g) 9)) x 3
  have hB := sh3_le (gq L W P g) (pnA L W P g x).2 3
  have h1 := Nat.mod_lt (uv (rnd (pnB L W P g x).2)) (show 0 < 4 by decide)
  have h2 := Nat.mod_lt (uv (rnd (rnd (pnB L W P g x).2))) (show 0 < 4 by decide)
  have h3 := Nat.mod_lt (uv (rnd (rnd (rnd (pnB L W P g x).2)))) (show 0 < 3 by decide)
  have h4 := gN_le (L := L) (P := P) (g := g) hI
  have h5 : (if gP L W P g 4 = 0 then 0 else 1) ≤ 1 := by split <;> omega
  have h6 : (if P.c g 4 = 1 ∧ (pnB L W P g x).1 = (pnA L W P g x).1 + 1 then 2 else 0) ≤ 2 := by split <;> omega
  have hA : (pnA L W P g x).1 ≤ 3 := hA
  have hB : (pnB L W P g x).1 ≤ 3 := hB
  unfold pn
  dsimp only
  generalize uv (rnd (pnB L W P g x).2) = u1 at *
  generalize uv (rnd (rnd (pnB L W P g x).2)) = u2 at *
  generalize uv (rnd (rnd (rnd (pnB L W P g x).2))) = u3 at *
  exact nv_I c.1 c.2.1 c.2.2.1 (by omega) (by omega) (by omega) (by omega) (by omega) (by omega) h4 (by omega)
theorem pyN_k (G : Gh) (L : LgD) (W : LwD) (P : PlD) (yr : Nat) (x : Int32) (g : Nat) : (pyN G L W P yr x g).1.cn 3 = G.cn 3 + g ∧ (∀ v, v < 3 → (pyN G L W P yr x g).1.cn v = G.cn v) ∧ (pyN G L W P yr x g).1.L = G.L ∧ (pyN G L W P yr x g).1.W = G.W ∧ (pyN G L W P yr x g).1.P = G.P := by
  induction g with
  | zero => exact ⟨rfl, fun _ _ => rfl, rfl, rfl, rfl⟩
  | succ g ih =>
    obtain ⟨h1, h2, h3, h4, h5⟩ := ih
    refine ⟨?_, fun v hv => ?_, h3, h4, h5⟩
    · show (if 3 = 3 then (pyN G L W P yr x g).1.cn 3 + 1 else (pyN G L W P yr x g).1.cn 3) = _
      rw [if_pos rfl, h1]
      rfl
    · show (if v = 3 then (pyN G L W P yr x g).1.cn 3 + 1 else (pyN G L W P yr x g).1.cn v) = _
      rw [if_neg (by omega), h2 v hv]
theorem MS.on {S : Nat → Prop} (h : MS st a w p L W P) (o : Only S st st1) (hS : ∀ a, S a → a < 116 ∧ a ≠ 79) : MS st1 a w p L W P := by
  obtain ⟨h1, h2, h3, h4, h5, h6, h7⟩ := h
  have e : ∀ i, fR st1 79 i = fR st 79 i := fun i => fR_o o (fun q => (hS 79 q).2 rfl) i
  have hS2 : ∀ a, S a → a < 116 := fun a q => (hS a q).1
  exact ⟨o.2.2.1, (e 0).trans h2, (e 1).trans h3, (e 2).trans h4, h5.only o hS2, h6.only o hS2, h7.only o hS2⟩
theorem DR.on {S : Nat → Prop} (h : DR st d x) (o : Only S st st1) (hS : ∀ a, S a → a < 116) : DR st1 d x := ⟨h.1, by rw [o.2.2.2 d fun q => by have := hS d q; have := h.1; omega]; exact h.2⟩
theorem C_newNoteT (hS : Sh st) (hT : TolR st 65 G) (hc : G.cn 3 < 80) : ∃ st', F_X9_newNote n st (some 65) = some (nI (G.cn 3), st') ∧ Only (fun a => a = 69) st st' ∧ cI st' 69 = upd (cI st 69) 3 (nI (G.cn 3 + 1)) := by
  have hm : F_X9_howMany n st (some 65) (3 : Int32) = some (nI (G.cn 3)) := C_howMany hS hT (by decide)
  have c : F_X10_setAt n st (some 69) (3 : Int32) (nI (G.cn 3 + 1)) = _ := C_setAt (c69 hS) (show 3 < 4 by decide) (by decide) _
  refine ⟨_, ?_, Only.wA hS 69 (upd (cI st 69) 3 (nI (G.cn 3 + 1))), k69 hS _⟩
  unfold F_X9_newNote
  simp only [↓bnd (o65 hS), ↓bnd (hm), ↓bnd (g65_3 hS), nI_1, ↓bnd (c)]
theorem q16N (v : Nat) (hv : v < 2147483648) : ((if nI v ≤ (0 : Int32) then some (0 : Int32) else some (1 : Int32)) : Option Int32) = some (nI (if v = 0 then 0 else 1)) := by
  have e : (nI v ≤ (0 : Int32)) = (v ≤ 0) := nLe (b := 0) hv (by decide)
  simp only [e]
  by_cases h : v = 0
  · rw [if_pos (by omega), if_pos h]; rfl
  · rw [if_neg (by omega), if_neg h]; rfl
theorem q24N {c A B : Nat} (hc : c < 2147483648) (hA : A ≤ 3) (hB : B ≤ 3) : ((if nI c = (1 : Int32) then if nI A - nI B = (-1 : Int32) then some (2 : Int32) else some (0 : Int32) else some (0 : Int32)) : Option Int32) = some (nI (if c = 1 ∧ B = A + 1 then 2 else 0)) := by
  have e1 : (nI c = (1 : Int32)) = (c = 1) := nEq (b := 1) hc (by decide)
  have e2 : (nI A - nI B = (-1 : Int32)) = (B = A + 1) := by
    rw [nSubZ, zEqN (by omega) (by omega)]
    exact propext (by omega)
  simp only [e1, e2]
  by_cases h1 : c = 1
  · by_cases h2 : B = A + 1
    · rw [if_pos h1, if_pos h2, if_pos ⟨h1, h2⟩]; rfl
    · rw [if_pos h1, if_neg h2, if_neg fun h => h2 h.2]; rfl
  · rw [if_neg h1, if_neg fun h => h1 h.1]; rfl
theorem q24M {c A B : Nat} (hc : c < 2147483648) (hA : A ≤ 3) (hB : B ≤ 3) : ((if nI c = (1 : Int32) then if nI A = nI B - (1 : Int32) then some (2 : Int32) else some (0 : Int32) else some (0 : Int32)) : Option Int32) = some (nI (if c = 1 ∧ B = A + 1 then 2 else 0)) := by
  have e1 : (nI c = (1 : Int32)) = (c = 1) := nEq (b := 1) hc (by decide)
  have e2 : (nI A = nI B - (1 : Int32)) = (B = A + 1) := by
    rw [show nI B - (1 : Int32) = zI ((B : Int) - 1) from nSubZ B 1, nZ, zEq (by omega) (by omega) (by omega) (by omega)]
    exact propext (by omega)
  simp only [e1, e2]
  by_cases h1 : c = 1
  · by_cases h2 : B = A + 1
    · rw [if_pos h1, if_pos h2, if_pos ⟨h1, h2⟩]; rfl
    · rw [if_pos h1, if_neg h2, if_neg fun h => h2 h.2]; rfl
  · rw [if_neg h1, if_neg fun h => h1 h.1]; rfl
/-- one game: the class -/
theorem C_one (hK : RelK st G I) (m : MS st a w p L W P) (hD : DR st d x) (hI : LgI L) (hV : LwI W) (hJ : PlI P) (hc : G.cn 3 < 80) {g yr : Nat} (hg : g < P.n) (hy : yr ≤ 59) (hn : 3000 ≤ n) : ∃ s1 s', F_X5_weigh n st (some 79) (nI g) = some s1 ∧ F_X10_playOne n s1 (some 64) (nI g) (nI yr) (some d) = some s' ∧ Sh s1 ∧ RelK s' (addN G (pn L W P yr g x).1) I ∧ MS s' a w p L W P ∧ DR s' d (pn L W P yr g x).2 ∧ KF st s' ∧ s'.1 = st.1 ∧ s'.2.1 = st.2.1 := by
  have dd := hJ.2.1 g hg
  have c1 := hJ.1
  have gn := pn_I (W := W) hI hJ hg hy x
  obtain ⟨s1, e1, wf, f87, -, f5, f6, f7⟩ := C_weigh (n := n) m hI hV hJ hg hn
  have m1 := m.wf wf
  have K1 := hK.only wf.1 (by omega)
  have D1 := hD.on wf.1 (by omega)
  have F1 : KF st s1 := KF.of wf.1 (by omega)
  have S1 := m1.1
  unfold pn at gn ⊢
  have hpa : sh3 (gp L W P g (gE (gP L W P g) 9)) x 3 = pnA L W P g x := rfl
  have hpb : sh3 (gq L W P g) (pnA L W P g x).2 3 = pnB L W P g x := rfl
  obtain ⟨s2, e2, d2, D2⟩ := C_sh3 (n := n) (p := gp L W P g (gE (gP L W P g) 9)) S1 D1 (gp_le _ _ _ _ _) hn
  rw [hpa] at e2 D2
  have hAl : (pnA L W P g x).1 ≤ 3 := sh3_le _ _ _
  generalize pnA L W P g x = A at *
  obtain ⟨s3, e3, d3, D3⟩ := C_sh3 (n := n) (p := gq L W P g) d2.1.2.1 D2 (hu_le _) hn
  rw [hpb] at e3 D3
  have hBl : (pnB L W P g x).1 ≤ 3 := by rw [← hpb]; exact sh3_le _ _ _
  generalize pnB L W P g x = B at *
  obtain ⟨s4, e4, d4, D4⟩ := C_below (n := n) (m := 4) d3.1.2.1 D3 (by decide) (by decide)
  obtain ⟨s5, e5, d5, D5⟩ := C_below (n := n) (m := 4) d4.1.2.1 D4 (by decide) (by decide)
  obtain ⟨s6, e6, d6, D6⟩ := C_below (n := n) (m := 3) d5.1.2.1 D5 (by decide) (by decide)
  generalize rnd B.2 = x1 at *
  generalize rnd x1 = x2 at *
  generalize rnd x2 = x3 at *
  have e4 : F_X0_below n s3 (some d) (4 : Int32) = _ := e4
  have e5 : F_X0_below n s4 (some d) (4 : Int32) = _ := e5
  have e6 : F_X0_below n s5 (some d) (3 : Int32) = _ := e6
  have t15 := ((d2.trans d3).trans d4).trans d5
  have t16 := t15.trans d6
  have S2 := d2.1.2.1
  have S3 := d3.1.2.1
  have S4 := d4.1.2.1
  have S5 := d5.1.2.1
  have S6 := d6.1.2.1
  have m5 := m1.kd t15.1
  have m6 := m1.kd t16.1
  have K6 := K1.kd t16.1
  have hdn : d ≠ 79 := by have := hD.1; omega
  have c79 : ∀ s, DT s1 s d → s.2.2 79 = s1.2.2 79 := fun s t => t.2.2.2 79 (Ne.symm hdn)
  have g6 : gI s1 (some 79) 5 6 = some (nI (gp L W P g (gE (gP L W P g) 9))) := by rw [g79_6 S1, f6]
  have g7 : gI s2 (some 79) 5 7 = some (nI (gq L W P g)) := by rw [g79_7 S2, fI_c (c79 s2 d2), f7]
  have v4 : F_X10_valueAt n s5 (some 87) (nI 4) = some (nI (gP L W P g 4)) := by rw [C_val (c87 S5) (by decide) (by decide), cI_c (t15.1.2.2.1 87 (by decide)), f87 4 (by decide)]
  have w4 : F_X5_worthOf n s5 (some 79) (4 : Int32) = some (nI (gP L W P g 4)) := by
    have v4 : F_X10_valueAt n s5 (some 87) (4 : Int32) = _ := v4
    unfold F_X5_worthOf
    simp only [↓bnd (g79_3 S5), ↓bnd (v4)]
  have bP := gP_le L W P g 4
  have h16 := q16N (gP L W P g 4) (by omega)
  have h24 := q24N (c := P.c g 4) (by omega) hAl hBl
  generalize hc4 : (if gP L W P g 4 = 0 then 0 else 1) = c4 at *
  generalize hc2 : (if P.c g 4 = 1 ∧ B.1 = A.1 + 1 then 2 else 0) = c2 at *
  have r4 : F_X6_of n s5 (some p) (nI g) (4 : Int32) = some (nI (P.c g 4)) := m5.r4 hJ hg
  obtain ⟨s7, e7, o7, k7⟩ := C_newNoteT (n := n) S6 K6.2.2.2.2.1 hc
  have S7 := o7.2.2.1
  have m7 := m6.on o7 (by omega)
  have P0 := PC.refl S7 (G.cn 3) (nv (P.c g 0) (P.c g 1) yr A.1 B.1 (uv x1 % 4) (uv x2 % 4 + c4) (1 + uv x3 % 3 + c2) (gN L P g) (P.c g 4))
  obtain ⟨z1, t0, P1⟩ := PC.step (n := n) P0 hc (show 0 < 10 by decide)
  rw [nv0, ← l0] at t0
  have Z1 := P1.1.2.2.1
  obtain ⟨z2, t1, P2⟩ := PC.step (n := n) P1 hc (show 1 < 10 by decide)
  rw [nv1, ← l1] at t1
  have Z2 := P2.1.2.2.1
  obtain ⟨z3, t2, P3⟩ := PC.step (n := n) P2 hc (show 2 < 10 by decide)
  rw [nv2, ← l2] at t2
  have Z3 := P3.1.2.2.1
  obtain ⟨z4, t3, P4⟩ := PC.step (n := n) P3 hc (show 3 < 10 by decide)
  rw [nv3, ← l3] at t3
  have Z4 := P4.1.2.2.1
  obtain ⟨z5, t4, P5⟩ := PC.step (n := n) P4 hc (show 4 < 10 by decide)
  rw [nv4, ← l4] at t4
  have Z5 := P5.1.2.2.1
  obtain ⟨z6, t5, P6⟩ := PC.step (n := n) P5 hc (show 5 < 10 by decide)
  rw [nv5, ← l5] at t5
  have Z6 := P6.1.2.2.1
  obtain ⟨z7, t6, P7⟩ := PC.step (n := n) P6 hc (show 6 < 10 by decide)
  rw [nv6, ← l6] at t6
  have Z7 := P7.1.2.2.1
  obtain ⟨z8, t7, P8⟩ := PC.step (n := n) P7 hc (show 7 < 10 by decide)
  rw [nv7, ← l7] at t7
  have Z8 := P8.1.2.2.1
  obtain ⟨z9, t8, P9⟩ := PC.step (n := n) P8 hc (show 8 < 10 by decide)
  rw [nv8, ← l8] at t8
  have Z9 := P9.1.2.2.1
  obtain ⟨z10, t9, P10⟩ := PC.step (n := n) P9 hc (show 9 < 10 by decide)
  rw [nv9, ← l9] at t9
  have Z10 := P10.1.2.2.1
  have m71 := m7.on P1.1 (by omega)
  have m70 := m7.on P10.1 (by omega)
  have r0 : F_X6_of n s7 (some p) (nI g) (0 : Int32) = some (nI (P.c g 0)) := m7.r0 hJ hg
  have r1 : F_X6_of n z1 (some p) (nI g) (1 : Int32) = some (nI (P.c g 1)) := m71.r1 hJ hg
  have g5 : gI z8 (some 79) 5 5 = some (nI (gN L P g)) := by rw [g79_5 Z8, fI_o P8.1 (by decide), fI_o o7 (by decide), fI_c (c79 s6 t16), f5]
  have oo : Only (fun a => a = 69 ∨ a = 70) s6 z10 := (o7.mono fun a h => Or.inl h).trans (P10.1.mono fun a h => Or.inr h)
  have gI := addN_I K6.2.1 hc gn
  refine ⟨s1, z10, e1, ?_, S1, ?_, m70, D6.on oo (by omega), (F1.trans t16.1.kf).trans (KF.of oo (by omega)), oo.1.trans (t16.2.1.trans wf.1.1), oo.2.1.trans (t16.2.2.1.trans wf.1.2.1)⟩
  · unfold F_X10_playOne
    simp only [↓bnd (g64_3 S1), ↓bnd (g6), ↓bnd (isO_of D1.2), ↓bnd (e2), ↓bnd (g64_3 S2), ↓bnd (g7), ↓bnd (isO_of D2.2), ↓bnd (e3), ↓bnd (isO_of D3.2), ↓bnd (e4), ↓bnd (isO_of D4.2), ↓bnd (e5), ↓bnd (g64_3 S5), ↓bnd (o79 S5), ↓bnd (w4), ↓bnd (h16), nAdd, ↓Option.bind_some, ↓bnd (m5.y2), ↓bnd (m5.po), ↓bnd (r4), ↓bnd (isO_of D5.2), ↓bnd (e6), ↓bnd (h24), show ∀ u v : Nat, (1 : Int32) + nI u + nI v = nI (1 + u + v) from fun u v => by rw [show (1 : Int32) + nI u = nI (1 + u) from nAdd 1 u, nAdd], ↓bnd (g64_0 S6), ↓bnd (o65 S6), ↓bnd (e7), ↓bnd (g64_0 S7), ↓bnd (g64_3 S7), ↓bnd (m7.y2), ↓bnd (m7.po), ↓bnd (r0), ↓bnd (o65 S7), ↓bnd (t0), ↓bnd (g64_0 Z1), ↓bnd (g64_3 Z1), ↓bnd (m71.y2), ↓bnd (m71.po), ↓bnd (r1), ↓bnd (o65 Z1), ↓bnd (t1), ↓bnd (g64_0 Z2), ↓bnd (o65 Z2), ↓bnd (t2), ↓bnd (g64_0 Z3), ↓bnd (o65 Z3), ↓bnd (t3), ↓bnd (g64_0 Z4), ↓bnd (o65 Z4), ↓bnd (t4), ↓bnd (g64_0 Z5), ↓bnd (o65 Z5), ↓bnd (t5), ↓bnd (g64_0 Z6), ↓bnd (o65 Z6), ↓bnd (t6), ↓bnd (g64_0 Z7), ↓bnd (o65 Z7), ↓bnd (t7), ↓bnd (g64_0 Z8), ↓bnd (g64_3 Z8), ↓bnd (g5), ↓bnd (o65 Z8), ↓bnd (t8), ↓bnd (g64_0 Z9), ↓bnd (o65 Z9), ↓bnd (t9)]
  · refine K6.base (oo.mono fun a h => by omega) gI (K6.2.2.2.2.1.nt oo ?_ P10.2.1 ?_)
    · rw [cI_o P10.1 (by decide)]; exact k7
    · intro i hi
      rw [P10.2.2 i hi, cI_o o7 (by decide)]
end PY

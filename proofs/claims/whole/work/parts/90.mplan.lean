/-! A PLAN'S LINE IS READ: the model -/
def PlQ (s : xS) (X : PlX) (k i : Nat) : Prop := ∃ g y, cI s 109 0 = nI g ∧ fI s 106 10 = nI y ∧ g ≤ i ∧ y ≤ 999 ∧ (k = 0 → g = X.d.n ∧ y = X.y ∧ PlM (cI s 109) 0 X.d ∧ fI s 106 11 = nI X.c ∧ fI s 106 12 = nI X.s ∧ fI s 106 13 = eI X.e)
section L4
variable {st st1 st2 s s1 : xS} {n len p k e i : Nat} {tp : Nat → Nat} {w : Int32} {z : Option Nat}
theorem M_pt (h : MQz s tp len p k w z) {j : Nat} (hj : j = 10 ∨ j = 11 ∨ j = 12 ∨ j = 13) (v : Int32) : ∃ s', pF s (some 106) 11 j (.int v) = some s' ∧ MH s s' ∧ MQz s' tp len p k w z ∧ cI s' 109 = cI s 109 ∧ fI s' 106 j = v ∧ ∀ i, i ≠ j → fI s' 106 i = fI s 106 i := by
  have S := h.sh
  have A : Sh (uV s 106 j (.int v)) ∧ pF s (some 106) 11 j (.int v) = some (uV s 106 j (.int v)) ∧ fI (uV s 106 j (.int v)) 106 j = v := by
    rcases hj with rfl | rfl | rfl | rfl
    · exact ⟨s106_10 S v, p106_10 S v, f106_10 S v⟩
    · exact ⟨s106_11 S v, p106_11 S v, f106_11 S v⟩
    · exact ⟨s106_12 S v, p106_12 S v, f106_12 S v⟩
    · exact ⟨s106_13 S v, p106_13 S v, f106_13 S v⟩
  obtain ⟨S1, e, f⟩ := A
  have o : Only (fun a => a = 106) s (uV s 106 j (.int v)) := Only.uV S1
  have oth : ∀ i, i ≠ j → fI (uV s 106 j (.int v)) 106 i = fI s 106 i := fun i hi => fI_oth hi _
  exact ⟨_, e, ⟨o.mono fun a h => Or.inl h, fun q _ _ => by rw [cI_o o (by decide)], oth 15 (by omega)⟩, h.fr S1 (fun i hi => oth i (by omega)) (cI_o o (by decide)), cI_o o (by decide), f, oth⟩
theorem M_110 (S : Sh s) {j : Nat} (hj : j < 6) (v : Int32) : ∃ s', sS 0 s (some 110) (nI j) v = some s' ∧ Only (fun a => a = 110) s s' ∧ cI s' 110 = upd (cI s 110) j v := by
  refine ⟨wA s 110 (upd (cI s 110) j v), ?_, Only.wA S 110 _, k110 S _⟩
  rw [w110 S, if_pos (ixT hj (by decide)), nIc (by omega)]
theorem M_plans (S : Sh s) (a b : Int32) : ∃ s', F_X11_plans n s (some 106) a b = some (some 110, s') ∧ Only (fun x => x = 110) s s' ∧ cI s' 110 0 = a ∧ cI s' 110 1 = b ∧ cI s' 110 2 = fI s 106 10 ∧ cI s' 110 3 = fI s 106 11 ∧ cI s' 110 4 = fI s 106 12 ∧ cI s' 110 5 = fI s 106 13 := by
  obtain ⟨s1, e1, o1, c1⟩ := M_110 S (j := 0) (by decide) a
  have S1 := o1.2.2.1
  obtain ⟨s2, e2, o2, c2⟩ := M_110 S1 (j := 1) (by decide) b
  have S2 := o2.2.2.1
  obtain ⟨s3, e3, o3, c3⟩ := M_110 S2 (j := 2) (by decide) (fI s2 106 10)
  have S3 := o3.2.2.1
  obtain ⟨s4, e4, o4, c4⟩ := M_110 S3 (j := 3) (by decide) (fI s3 106 11)
  have S4 := o4.2.2.1
  obtain ⟨s5, e5, o5, c5⟩ := M_110 S4 (j := 4) (by decide) (fI s4 106 12)
  have S5 := o5.2.2.1
  obtain ⟨s6, e6, o6, c6⟩ := M_110 S5 (j := 5) (by decide) (fI s5 106 13)
  have S6 := o6.2.2.1
  have e1 : sS 0 s (some 110) (0 : Int32) a = some s1 := e1
  have e2 : sS 0 s1 (some 110) (1 : Int32) b = some s2 := e2
  have e3 : sS 0 s2 (some 110) (2 : Int32) (fI s2 106 10) = some s3 := e3
  have e4 : sS 0 s3 (some 110) (3 : Int32) (fI s3 106 11) = some s4 := e4
  have e5 : sS 0 s4 (some 110) (4 : Int32) (fI s4 106 12) = some s5 := e5
  have e6 : sS 0 s5 (some 110) (5 : Int32) (fI s5 106 13) = some s6 := e6
  have f2 : ∀ k, fI s2 106 k = fI s 106 k := fun k => (fI_c (o2.2.2.2 106 (by decide)) k).trans (fI_c (o1.2.2.2 106 (by decide)) k)
  have f3 : ∀ k, fI s3 106 k = fI s 106 k := fun k => (fI_c (o3.2.2.2 106 (by decide)) k).trans (f2 k)
  have f4 : ∀ k, fI s4 106 k = fI s 106 k := fun k => (fI_c (o4.2.2.2 106 (by decide)) k).trans (f3 k)
  have f5 : ∀ k, fI s5 106 k = fI s 106 k := fun k => (fI_c (o5.2.2.2 106 (by decide)) k).trans (f4 k)
  refine ⟨s6, ?_, ((((o1.trans o2).trans o3).trans o4).trans o5).trans o6, ?_, ?_, ?_, ?_, ?_, ?_⟩
  · unfold F_X11_plans
    simp only [↓bnd (g106_14 S), ↓bnd (e1), ↓bnd (g106_14 S1), ↓bnd (e2), ↓bnd (g106_14 S2), ↓bnd (g106_10 S2), ↓bnd (e3), ↓bnd (g106_14 S3), ↓bnd (g106_11 S3), ↓bnd (e4), ↓bnd (g106_14 S4), ↓bnd (g106_12 S4), ↓bnd (e5), ↓bnd (g106_14 S5), ↓bnd (g106_13 S5), ↓bnd (e6), ↓bnd (g106_14 S6)]
  · rw [c6, pk_un (by decide), c5, pk_un (by decide), c4, pk_un (by decide), c3, pk_un (by decide), c2, pk_un (by decide), c1, upd_s]
  · rw [c6, pk_un (by decide), c5, pk_un (by decide), c4, pk_un (by decide), c3, pk_un (by decide), c2, upd_s]
  · rw [c6, pk_un (by decide), c5, pk_un (by decide), c4, pk_un (by decide), c3, upd_s, f2]
  · rw [c6, pk_un (by decide), c5, pk_un (by decide), c4, upd_s, f3]
  · rw [c6, pk_un (by decide), c5, upd_s, f4]
  · rw [c6, upd_s, f5]
theorem aI110 (hS : Sh s) {i : Nat} (hi : i < 6) : aI s (some 110) (nI i) = some (cI s 110 i) := by rw [a110 hS, if_pos (ixT hi (by decide)), nIc (by omega)]
theorem M_copy (S : Sh s) {g : Nat} (c0 : cI s 109 0 = nI g) (hg : g ≤ 1000) (hn : 3000 ≤ n) : ∃ s', F_X11_planLine_L172 n n s (some 106) (some 110) (0 : Int32) = some s' ∧ Only (fun a => a = 109) s s' ∧ cI s' 109 0 = nI g ∧ (g < 40 → ∀ j, cI s' 109 j = if 1 + 6 * g ≤ j ∧ j < 1 + 6 * g + 6 then cI s 110 (j - (1 + 6 * g)) else cI s 109 j) := by
  have l40 : ((40 : Int32) ≤ nI g) = (40 ≤ g) := nLe (a := 40) (by decide) (by omega)
  by_cases c : 40 ≤ g
  · refine ⟨s, ?_, Only.refl S, c0, fun h => absurd h (by omega)⟩
    obtain ⟨m, rfl⟩ : ∃ m, n = m + 1 := ⟨n - 1, by omega⟩
    have r0 : aI s (some 109) (0 : Int32) = some (nI g) := by
      have : aI s (some 109) (0 : Int32) = some (cI s 109 0) := aI109 S (by decide)
      rw [this, c0]
    rw [F_X11_planLine_L172]
    dsimp only
    simp only [show ((6 : Int32) ≤ 0) = False by decide, if_false, ↓bnd (g106_9 S), ↓bnd (r0), l40, eq_true c, if_true]
  · have hl : ∃ s', F_X11_planLine_L172 n n s (some 106) (some 110) (nI 0) = some s' ∧ Only (fun a => a = 109) s s' ∧ ∀ j, cI s' 109 j = if 1 + 6 * g ≤ j ∧ j < 1 + 6 * g + 6 then cI s 110 (j - (1 + 6 * g)) else cI s 109 j := by
      refine loop_ex (fun m (t : xS × Int32) => F_X11_planLine_L172 n m t.1 (some 106) (some 110) t.2) (fun i t => Only (fun a => a = 109) s t.1 ∧ (∀ j, cI t.1 109 j = if 1 + 6 * g ≤ j ∧ j < 1 + 6 * g + i then cI s 110 (j - (1 + 6 * g)) else cI s 109 j) ∧ t.2 = nI i) 6 (fun r => ∃ s', r = some s' ∧ Only (fun a => a = 109) s s' ∧ ∀ j, cI s' 109 j = if 1 + 6 * g ≤ j ∧ j < 1 + 6 * g + 6 then cI s 110 (j - (1 + 6 * g)) else cI s 109 j) ?_ ?_ n (by omega) (s, nI 0) ⟨Only.refl S, fun j => by rw [if_neg (by omega)], rfl⟩
      · rintro m i ⟨t, x⟩ hi ⟨o, hc, h6⟩
        dsimp only at o hc h6 ⊢
        subst h6
        have St := o.2.2.1
        have l6 : ((6 : Int32) ≤ nI i) = (6 ≤ i) := nLe (a := 6) (by decide) (by omega)
        have r0 : aI t (some 109) (0 : Int32) = some (nI g) := by
          have : aI t (some 109) (0 : Int32) = some (cI t 109 0) := aI109 St (by decide)
          rw [this, hc, if_neg (by omega), c0]
        have r1 := aI110 St hi
        have ix : ((1 : Int32) + ((6 : Int32) * nI g)) + nI i = nI (1 + 6 * g + i) := by rw [show (6 : Int32) * nI g = nI (6 * g) from nMul 6 g, show (1 : Int32) + nI (6 * g) = nI (1 + 6 * g) from nAdd 1 _, nAdd]
        have w1 := w109n St (i := 1 + 6 * g + i) (by omega) (cI t 110 i)
        have oo := Only.wA St 109 (upd (cI t 109) (1 + 6 * g + i) (cI t 110 i))
        have kk := k109 St (upd (cI t 109) (1 + 6 * g + i) (cI t 110 i))
        generalize wA t 109 (upd (cI t 109) (1 + 6 * g + i) (cI t 110 i)) = t1 at *
        refine ⟨(t1, nI (i + 1)), ⟨o.trans oo, fun j => ?_, rfl⟩, ?_⟩
        · dsimp only
          rw [kk]
          by_cases cj : j = 1 + 6 * g + i
          · rw [cj, upd_s, if_pos (by omega), cI_o o (by decide), show 1 + 6 * g + i - (1 + 6 * g) = i by omega]
          · rw [pk_un cj, hc]
            by_cases cr : 1 + 6 * g ≤ j ∧ j < 1 + 6 * g + i
            · rw [if_pos cr, if_pos (by omega)]
            · rw [if_neg cr, if_neg (by omega)]
        · dsimp only
          rw [F_X11_planLine_L172]
          dsimp only
          simp only [l6, eq_false (show ¬ 6 ≤ i by omega), if_false, ↓bnd (g106_9 St), ↓bnd (r0), l40, eq_false c, ↓bnd (r1), ix, ↓bnd (w1), nI_1, Option.bind_some]
      · rintro m ⟨t, x⟩ ⟨o, hc, h6⟩
        dsimp only at o hc h6 ⊢
        subst h6
        refine ⟨t, ?_, o, hc⟩
        rw [F_X11_planLine_L172]
        dsimp only
        exact if_pos (by decide)
    obtain ⟨s', e, o, hc⟩ := hl
    refine ⟨s', e, o, ?_, fun _ => hc⟩
    rw [hc, if_neg (by omega), c0]
theorem pkk_nx (h : frm tp len 2 p = e) : nxt tp len 2 p = npn tp len (nX tp len p) (mnO e + 1) := by unfold nxt; rw [h]
theorem M_plLine22 {D : PlX} (h : MQo s tp len p k w) (hk : k ≤ 3) (hi : i ≤ 500) (hI : PlXI D) (hQ : PlQ s D k i) (hd : kD tp len p = 1) (hw : wC tp len p = 22) (hn : 3000 ≤ n) : ∃ s', F_X11_planLine n s (some 106) = some s' ∧ MH s s' ∧ MQz s' tp len (nxt tp len 2 p) (chkP plCk tp len 2 p D k w).2.1 (chkP plCk tp len 2 p D k w).2.2 (synE tp len 2 p) ∧ (synE tp len 2 p = none → PlQ s' (chkP plCk tp len 2 p D k w).1 (chkP plCk tp len 2 p D k w).2.1 (i + 1)) := by
  have S := h.1.1
  obtain ⟨t5, t4, t6, t7⟩ := MQ_t h
  obtain ⟨g, y, c0, fy, gi, y9, hM⟩ := hQ
  obtain ⟨s1, e1, g1, q1⟩ := M_takes_t (n := n) h (a := 21) (b := 27) hd (by omega) (by omega) (by decide) hn
  rw [hw] at e1
  have e1 : F_X11_takes n s (some 106) (21 : Int32) (27 : Int32) = some ((22 : Int32), s1) := e1
  have S1 := q1.1.1
  have d1 : cI s1 109 = cI s 109 := cI_o g1.1 (by decide)
  have hg0 : gFo 2 (wC tp len p) = some 21 := by rw [hw]; rfl
  obtain ⟨sy, fr⟩ := M_line0 hd hg0
  have nx := pkk_nx fr
  obtain ⟨s2, e2, m2, q2, d2, x2, o2⟩ := M_pt (z := none) q1 (j := 11) (by decide) (1 : Int32)
  have S2 := q2.sh
  obtain ⟨s8, e8, g8, q8⟩ := M_end (n := n) q2 hn
  have d8 : cI s8 109 = cI s 109 := (cI_o g8.1 (by decide)).trans (d2.trans d1)
  have F : ∀ j, j ≠ 11 → 8 < j → fI s8 106 j = fI s 106 j := fun j h1 h2 => (g8.i (Or.inr h2)).trans ((o2 j h1).trans (g1.i (Or.inr h2)))
  have F2 : fI s8 106 11 = (1 : Int32) := (g8.i (by decide)).trans x2
  refine ⟨s8, ?_, (g1.mh.trans m2).trans g8.mh, ?_⟩
  · unfold F_X11_planLine
    simp only [↓bnd (t4), ↓bnd (o106 S), ↓bnd (e1), Option.bind_some, show ((22 : Int32) = (21 : Int32)) = False by decide, show ((22 : Int32) = (22 : Int32)) = True by decide, show ((22 : Int32) = (23 : Int32)) = False by decide, show ((22 : Int32) = (24 : Int32)) = False by decide, show ((22 : Int32) = (25 : Int32)) = False by decide, show ((22 : Int32) = (26 : Int32)) = False by decide, show ((22 : Int32) = (27 : Int32)) = False by decide, if_true, if_false, ↓bnd (e2), ↓bnd (o106 S2), ↓bnd (e8)]
  · have hz : enZ tp len (nX tp len p) none = synE tp len 2 p := by
      rw [sy, ← chZ_n]
      rfl
    rw [hz] at q8
    have ch := chk_g (ck := plCk) (full := plFull D 21) (fu := False) (le := plLe D 21) (mo := plMo 21) (cpl := (21 : Nat) = 26) (D := D) (D' := plTk D 21 (lnV tp len (nX tp len p) (mnO 21))) (k := k) (w := w) fr rfl (fun _ => ⟨fun q => q.elim, fun q => absurd q.1 (by decide)⟩)
    have u1 : fuK False k = k := rfl
    have u2 : fuW False k (nI (qB tp len p)) w = w := rfl
    have v1 : cK (plLe D 21) (plMo 21) ((21 : Nat) = 26) (lnV tp len (nX tp len p) (mnO 21)) (mnO 21) 0 k = k := rfl
    have v2 : cWd (plLe D 21) (plMo 21) ((21 : Nat) = 26) (lnV tp len (nX tp len p) (mnO 21)) (fun j => qB tp len (npn tp len (nX tp len p) j)) (mnO 21) 0 k w = w := rfl
    rw [u1, u2, v1, v2] at ch
    rw [ch, nx]
    cases hs : synE tp len 2 p with
    | some e => rw [hs] at q8; exact ⟨q8, fun q => by cases q⟩
    | none =>
      rw [hs] at q8
      refine ⟨q8, fun _ => ⟨g, y, by rw [d8]; exact c0, (F 10 (by decide) (by decide)).trans fy, by omega, y9, fun hK => ?_⟩⟩
      have hK : k = 0 := hK
      obtain ⟨gD, yD, M, f11, f12, f13⟩ := hM hK
      rw [if_pos hK]
      exact ⟨gD, yD, by rw [d8]; exact M, F2, (F 12 (by decide) (by decide)).trans f12, (F 13 (by decide) (by decide)).trans f13⟩
theorem M_plLine23 {D : PlX} (h : MQo s tp len p k w) (hk : k ≤ 3) (hi : i ≤ 500) (hI : PlXI D) (hQ : PlQ s D k i) (hd : kD tp len p = 1) (hw : wC tp len p = 23) (hn : 3000 ≤ n) : ∃ s', F_X11_planLine n s (some 106) = some s' ∧ MH s s' ∧ MQz s' tp len (nxt tp len 2 p) (chkP plCk tp len 2 p D k w).2.1 (chkP plCk tp len 2 p D k w).2.2 (synE tp len 2 p) ∧ (synE tp len 2 p = none → PlQ s' (chkP plCk tp len 2 p D k w).1 (chkP plCk tp len 2 p D k w).2.1 (i + 1)) := by
  have S := h.1.1
  obtain ⟨t5, t4, t6, t7⟩ := MQ_t h
  obtain ⟨g, y, c0, fy, gi, y9, hM⟩ := hQ
  obtain ⟨s1, e1, g1, q1⟩ := M_takes_t (n := n) h (a := 21) (b := 27) hd (by omega) (by omega) (by decide) hn
  rw [hw] at e1
  have e1 : F_X11_takes n s (some 106) (21 : Int32) (27 : Int32) = some ((23 : Int32), s1) := e1
  have S1 := q1.1.1
  have d1 : cI s1 109 = cI s 109 := cI_o g1.1 (by decide)
  have hg0 : gFo 2 (wC tp len p) = some 22 := by rw [hw]; rfl
  obtain ⟨sy, fr⟩ := M_line0 hd hg0
  have nx := pkk_nx fr
  obtain ⟨s2, e2, m2, q2, d2, x2, o2⟩ := M_pt (z := none) q1 (j := 11) (by decide) (0 : Int32)
  have S2 := q2.sh
  obtain ⟨s8, e8, g8, q8⟩ := M_end (n := n) q2 hn
  have d8 : cI s8 109 = cI s 109 := (cI_o g8.1 (by decide)).trans (d2.trans d1)
  have F : ∀ j, j ≠ 11 → 8 < j → fI s8 106 j = fI s 106 j := fun j h1 h2 => (g8.i (Or.inr h2)).trans ((o2 j h1).trans (g1.i (Or.inr h2)))
  have F2 : fI s8 106 11 = (0 : Int32) := (g8.i (by decide)).trans x2
  refine ⟨s8, ?_, (g1.mh.trans m2).trans g8.mh, ?_⟩
  · unfold F_X11_planLine
    simp only [↓bnd (t4), ↓bnd (o106 S), ↓bnd (e1), Option.bind_some, show ((23 : Int32) = (21 : Int32)) = False by decide, show ((23 : Int32) = (22 : Int32)) = False by decide, show ((23 : Int32) = (23 : Int32)) = True by decide, show ((23 : Int32) = (24 : Int32)) = False by decide, show ((23 : Int32) = (25 : Int32)) = False by decide, show ((23 : Int32) = (26 : Int32)) = False by decide, show ((23 : Int32) = (27 : Int32)) = False by decide, if_true, if_false, ↓bnd (e2), ↓bnd (o106 S2), ↓bnd (e8)]
  · have hz : enZ tp len (nX tp len p) none = synE tp len 2 p := by
      rw [sy, ← chZ_n]
      rfl
    rw [hz] at q8
    have ch := chk_g (ck := plCk) (full := plFull D 22) (fu := False) (le := plLe D 22) (mo := plMo 22) (cpl := (22 : Nat) = 26) (D := D) (D' := plTk D 22 (lnV tp len (nX tp len p) (mnO 22))) (k := k) (w := w) fr rfl (fun _ => ⟨fun q => q.elim, fun q => absurd q.1 (by decide)⟩)
    have u1 : fuK False k = k := rfl
    have u2 : fuW False k (nI (qB tp len p)) w = w := rfl
    have v1 : cK (plLe D 22) (plMo 22) ((22 : Nat) = 26) (lnV tp len (nX tp len p) (mnO 22)) (mnO 22) 0 k = k := rfl
    have v2 : cWd (plLe D 22) (plMo 22) ((22 : Nat) = 26) (lnV tp len (nX tp len p) (mnO 22)) (fun j => qB tp len (npn tp len (nX tp len p) j)) (mnO 22) 0 k w = w := rfl
    rw [u1, u2, v1, v2] at ch
    rw [ch, nx]
    cases hs : synE tp len 2 p with
    | some e => rw [hs] at q8; exact ⟨q8, fun q => by cases q⟩
    | none =>
      rw [hs] at q8
      refine ⟨q8, fun _ => ⟨g, y, by rw [d8]; exact c0, (F 10 (by decide) (by decide)).trans fy, by omega, y9, fun hK => ?_⟩⟩
      have hK : k = 0 := hK
      obtain ⟨gD, yD, M, f11, f12, f13⟩ := hM hK
      rw [if_pos hK]
      exact ⟨gD, yD, by rw [d8]; exact M, F2, (F 12 (by decide) (by decide)).trans f12, (F 13 (by decide) (by decide)).trans f13⟩
theorem M_plLine24 {D : PlX} (h : MQo s tp len p k w) (hk : k ≤ 3) (hi : i ≤ 500) (hI : PlXI D) (hQ : PlQ s D k i) (hd : kD tp len p = 1) (hw : wC tp len p = 24) (hn : 3000 ≤ n) : ∃ s', F_X11_planLine n s (some 106) = some s' ∧ MH s s' ∧ MQz s' tp len (nxt tp len 2 p) (chkP plCk tp len 2 p D k w).2.1 (chkP plCk tp len 2 p D k w).2.2 (synE tp len 2 p) ∧ (synE tp len 2 p = none → PlQ s' (chkP plCk tp len 2 p D k w).1 (chkP plCk tp len 2 p D k w).2.1 (i + 1)) := by
  have S := h.1.1
  obtain ⟨t5, t4, t6, t7⟩ := MQ_t h
  obtain ⟨g, y, c0, fy, gi, y9, hM⟩ := hQ
  obtain ⟨s1, e1, g1, q1⟩ := M_takes_t (n := n) h (a := 21) (b := 27) hd (by omega) (by omega) (by decide) hn
  rw [hw] at e1
  have e1 : F_X11_takes n s (some 106) (21 : Int32) (27 : Int32) = some ((24 : Int32), s1) := e1
  have S1 := q1.1.1
  have d1 : cI s1 109 = cI s 109 := cI_o g1.1 (by decide)
  have hg0 : gFo 2 (wC tp len p) = some 23 := by rw [hw]; rfl
  obtain ⟨sy, fr⟩ := M_line0 hd hg0
  have nx := pkk_nx fr
  obtain ⟨s2, e2, m2, q2, d2, x2, o2⟩ := M_pt (z := none) q1 (j := 12) (by decide) (1 : Int32)
  have S2 := q2.sh
  obtain ⟨s8, e8, g8, q8⟩ := M_end (n := n) q2 hn
  have d8 : cI s8 109 = cI s 109 := (cI_o g8.1 (by decide)).trans (d2.trans d1)
  have F : ∀ j, j ≠ 12 → 8 < j → fI s8 106 j = fI s 106 j := fun j h1 h2 => (g8.i (Or.inr h2)).trans ((o2 j h1).trans (g1.i (Or.inr h2)))
  have F2 : fI s8 106 12 = (1 : Int32) := (g8.i (by decide)).trans x2
  refine ⟨s8, ?_, (g1.mh.trans m2).trans g8.mh, ?_⟩
  · unfold F_X11_planLine
    simp only [↓bnd (t4), ↓bnd (o106 S), ↓bnd (e1), Option.bind_some, show ((24 : Int32) = (21 : Int32)) = False by decide, show ((24 : Int32) = (22 : Int32)) = False by decide, show ((24 : Int32) = (23 : Int32)) = False by decide, show ((24 : Int32) = (24 : Int32)) = True by decide, show ((24 : Int32) = (25 : Int32)) = False by decide, show ((24 : Int32) = (26 : Int32)) = False by decide, show ((24 : Int32) = (27 : Int32)) = False by decide, if_true, if_false, ↓bnd (e2), ↓bnd (o106 S2), ↓bnd (e8)]
  · have hz : enZ tp len (nX tp len p) none = synE tp len 2 p := by
      rw [sy, ← chZ_n]
      rfl
    rw [hz] at q8
    have ch := chk_g (ck := plCk) (full := plFull D 23) (fu := False) (le := plLe D 23) (mo := plMo 23) (cpl := (23 : Nat) = 26) (D := D) (D' := plTk D 23 (lnV tp len (nX tp len p) (mnO 23))) (k := k) (w := w) fr rfl (fun _ => ⟨fun q => q.elim, fun q => absurd q.1 (by decide)⟩)
    have u1 : fuK False k = k := rfl
    have u2 : fuW False k (nI (qB tp len p)) w = w := rfl
    have v1 : cK (plLe D 23) (plMo 23) ((23 : Nat) = 26) (lnV tp len (nX tp len p) (mnO 23)) (mnO 23) 0 k = k := rfl
    have v2 : cWd (plLe D 23) (plMo 23) ((23 : Nat) = 26) (lnV tp len (nX tp len p) (mnO 23)) (fun j => qB tp len (npn tp len (nX tp len p) j)) (mnO 23) 0 k w = w := rfl
    rw [u1, u2, v1, v2] at ch
    rw [ch, nx]
    cases hs : synE tp len 2 p with
    | some e => rw [hs] at q8; exact ⟨q8, fun q => by cases q⟩
    | none =>
      rw [hs] at q8
      refine ⟨q8, fun _ => ⟨g, y, by rw [d8]; exact c0, (F 10 (by decide) (by decide)).trans fy, by omega, y9, fun hK => ?_⟩⟩
      have hK : k = 0 := hK
      obtain ⟨gD, yD, M, f11, f12, f13⟩ := hM hK
      rw [if_pos hK]
      exact ⟨gD, yD, by rw [d8]; exact M, (F 11 (by decide) (by decide)).trans f11, F2, (F 13 (by decide) (by decide)).trans f13⟩
theorem M_plLine25 {D : PlX} (h : MQo s tp len p k w) (hk : k ≤ 3) (hi : i ≤ 500) (hI : PlXI D) (hQ : PlQ s D k i) (hd : kD tp len p = 1) (hw : wC tp len p = 25) (hn : 3000 ≤ n) : ∃ s', F_X11_planLine n s (some 106) = some s' ∧ MH s s' ∧ MQz s' tp len (nxt tp len 2 p) (chkP plCk tp len 2 p D k w).2.1 (chkP plCk tp len 2 p D k w).2.2 (synE tp len 2 p) ∧ (synE tp len 2 p = none → PlQ s' (chkP plCk tp len 2 p D k w).1 (chkP plCk tp len 2 p D k w).2.1 (i + 1)) := by
  have S := h.1.1
  obtain ⟨t5, t4, t6, t7⟩ := MQ_t h
  obtain ⟨g, y, c0, fy, gi, y9, hM⟩ := hQ
  obtain ⟨s1, e1, g1, q1⟩ := M_takes_t (n := n) h (a := 21) (b := 27) hd (by omega) (by omega) (by decide) hn
  rw [hw] at e1
  have e1 : F_X11_takes n s (some 106) (21 : Int32) (27 : Int32) = some ((25 : Int32), s1) := e1
  have S1 := q1.1.1
  have d1 : cI s1 109 = cI s 109 := cI_o g1.1 (by decide)
  have hg0 : gFo 2 (wC tp len p) = some 24 := by rw [hw]; rfl
  obtain ⟨sy, fr⟩ := M_line0 hd hg0
  have nx := pkk_nx fr
  obtain ⟨s2, e2, m2, q2, d2, x2, o2⟩ := M_pt (z := none) q1 (j := 12) (by decide) (0 : Int32)
  have S2 := q2.sh
  obtain ⟨s8, e8, g8, q8⟩ := M_end (n := n) q2 hn
  have d8 : cI s8 109 = cI s 109 := (cI_o g8.1 (by decide)).trans (d2.trans d1)
  have F : ∀ j, j ≠ 12 → 8 < j → fI s8 106 j = fI s 106 j := fun j h1 h2 => (g8.i (Or.inr h2)).trans ((o2 j h1).trans (g1.i (Or.inr h2)))
  have F2 : fI s8 106 12 = (0 : Int32) := (g8.i (by decide)).trans x2
  refine ⟨s8, ?_, (g1.mh.trans m2).trans g8.mh, ?_⟩
  · unfold F_X11_planLine
    simp only [↓bnd (t4), ↓bnd (o106 S), ↓bnd (e1), Option.bind_some, show ((25 : Int32) = (21 : Int32)) = False by decide, show ((25 : Int32) = (22 : Int32)) = False by decide, show ((25 : Int32) = (23 : Int32)) = False by decide, show ((25 : Int32) = (24 : Int32)) = False by decide, show ((25 : Int32) = (25 : Int32)) = True by decide, show ((25 : Int32) = (26 : Int32)) = False by decide, show ((25 : Int32) = (27 : Int32)) = False by decide, if_true, if_false, ↓bnd (e2), ↓bnd (o106 S2), ↓bnd (e8)]
  · have hz : enZ tp len (nX tp len p) none = synE tp len 2 p := by
      rw [sy, ← chZ_n]
      rfl
    rw [hz] at q8
    have ch := chk_g (ck := plCk) (full := plFull D 24) (fu := False) (le := plLe D 24) (mo := plMo 24) (cpl := (24 : Nat) = 26) (D := D) (D' := plTk D 24 (lnV tp len (nX tp len p) (mnO 24))) (k := k) (w := w) fr rfl (fun _ => ⟨fun q => q.elim, fun q => absurd q.1 (by decide)⟩)
    have u1 : fuK False k = k := rfl
    have u2 : fuW False k (nI (qB tp len p)) w = w := rfl
    have v1 : cK (plLe D 24) (plMo 24) ((24 : Nat) = 26) (lnV tp len (nX tp len p) (mnO 24)) (mnO 24) 0 k = k := rfl
    have v2 : cWd (plLe D 24) (plMo 24) ((24 : Nat) = 26) (lnV tp len (nX tp len p) (mnO 24)) (fun j => qB tp len (npn tp len (nX tp len p) j)) (mnO 24) 0 k w = w := rfl
    rw [u1, u2, v1, v2] at ch
    rw [ch, nx]
    cases hs : synE tp len 2 p with
    | some e => rw [hs] at q8; exact ⟨q8, fun q => by cases q⟩
    | none =>
      rw [hs] at q8
      refine ⟨q8, fun _ => ⟨g, y, by rw [d8]; exact c0, (F 10 (by decide) (by decide)).trans fy, by omega, y9, fun hK => ?_⟩⟩
      have hK : k = 0 := hK
      obtain ⟨gD, yD, M, f11, f12, f13⟩ := hM hK
      rw [if_pos hK]
      exact ⟨gD, yD, by rw [d8]; exact M, (F 11 (by decide) (by decide)).trans f11, F2, (F 13 (by decide) (by decide)).trans f13⟩
theorem M_plLine21 {D : PlX} (h : MQo s tp len p k w) (hk : k ≤ 3) (hi : i ≤ 500) (hI : PlXI D) (hQ : PlQ s D k i) (hd : kD tp len p = 1) (hw : wC tp len p = 21) (hn : 3000 ≤ n) : ∃ s', F_X11_planLine n s (some 106) = some s' ∧ MH s s' ∧ MQz s' tp len (nxt tp len 2 p) (chkP plCk tp len 2 p D k w).2.1 (chkP plCk tp len 2 p D k w).2.2 (synE tp len 2 p) ∧ (synE tp len 2 p = none → PlQ s' (chkP plCk tp len 2 p D k w).1 (chkP plCk tp len 2 p D k w).2.1 (i + 1)) := by
  have S := h.1.1
  obtain ⟨t5, t4, t6, t7⟩ := MQ_t h
  obtain ⟨g, y, c0, fy, gi, y9, hM⟩ := hQ
  obtain ⟨s1, e1, g1, q1⟩ := M_takes_t (n := n) h (a := 21) (b := 27) hd (by omega) (by omega) (by decide) hn
  rw [hw] at e1
  have e1 : F_X11_takes n s (some 106) (21 : Int32) (27 : Int32) = some ((21 : Int32), s1) := e1
  have S1 := q1.1.1
  have d1 : cI s1 109 = cI s 109 := cI_o g1.1 (by decide)
  have hg0 : gFo 2 (wC tp len p) = some 20 := by rw [hw]; rfl
  obtain ⟨sy, fr⟩ := M_line0 hd hg0
  have nx := pkk_nx fr
  have r10 : gI s1 (some 106) 11 10 = some (nI y) := by rw [g106_10 S1, g1.i (by decide), fy]
  obtain ⟨s3, e3, g3, q3⟩ := M_num (n := n) (z := none) (lo := (y : Int)) (hi := 999) q1 hk ⟨by omega, by omega⟩ (by decide) hn
  have e3 : F_X11_numbered n s1 (some 106) (nI y) (999 : Int32) = _ := e3
  generalize hR0 : nmR tp len (y : Int) 999 (nX tp len p) none = R0 at *
  have S3 := q3.sh
  have d3 : cI s3 109 = cI s 109 := (cI_o g3.1 (by decide)).trans d1
  have R : ∃ y', y' ≤ 999 ∧ ((if (0 : Int32) ≤ R0 then some R0 else (gI s3 (some 106) 11 10).bind fun v7 => some v7) : Option Int32) = some (nI y') ∧ (kD tp len (nX tp len p) = 2 → nmIn tp len (y : Int) 999 (nX tp len p) → y' = vN tp len (nX tp len p)) := by
    by_cases c : kD tp len (nX tp len p) = 2 ∧ nmIn tp len (y : Int) 999 (nX tp len p)
    · have l := c.2.2
      refine ⟨vN tp len (nX tp len p), by omega, ?_, fun _ _ => rfl⟩
      rw [← hR0, nmR_in c.1 c.2, if_pos (nI_pos' (by omega))]
    · refine ⟨y, y9, ?_, fun a b => absurd ⟨a, b⟩ c⟩
      rw [← hR0, nmR_out c, if_neg (by decide), g106_10 S3, g3.i (by decide), g1.i (by decide), fy]
      rfl
  obtain ⟨y', y9', eR, vR⟩ := R
  obtain ⟨s4, e4, m4, q4, d4, x4, o4⟩ := M_pt q3 (j := 10) (by decide) (nI y')
  have S4 := q4.sh
  obtain ⟨s8, e8, g8, q8⟩ := M_end (n := n) q4 hn
  have d8 : cI s8 109 = cI s 109 := (cI_o g8.1 (by decide)).trans (d4.trans d3)
  have F : ∀ j, j ≠ 10 → 8 < j → fI s8 106 j = fI s 106 j := fun j h1 h2 => (g8.i (Or.inr h2)).trans ((o4 j h1).trans ((g3.i (Or.inr h2)).trans (g1.i (Or.inr h2))))
  have F2 : fI s8 106 10 = nI y' := (g8.i (by decide)).trans x4
  refine ⟨s8, ?_, ((g1.mh.trans g3.mh).trans m4).trans g8.mh, ?_⟩
  · unfold F_X11_planLine
    simp only [↓bnd (t4), ↓bnd (o106 S), ↓bnd (e1), Option.bind_some, show ((21 : Int32) = (21 : Int32)) = True by decide, show ((21 : Int32) = (22 : Int32)) = False by decide, show ((21 : Int32) = (23 : Int32)) = False by decide, show ((21 : Int32) = (24 : Int32)) = False by decide, show ((21 : Int32) = (25 : Int32)) = False by decide, show ((21 : Int32) = (26 : Int32)) = False by decide, show ((21 : Int32) = (27 : Int32)) = False by decide, if_true, if_false, ↓bnd (r10), ↓bnd (o106 S1), ↓bnd (e3), ↓bnd (eR), ↓bnd (e4), ↓bnd (o106 S4), ↓bnd (e8)]
  · have hz : enZ tp len (nX tp len (nX tp len p)) (nmZ tp len (nX tp len p) none) = synE tp len 2 p := by
      rw [sy, ← chZ_n]
      rfl
    rw [hz] at q8
    cases hs : synE tp len 2 p with
    | some e => rw [hs] at q8; exact ⟨q8, fun q => by cases q⟩
    | none =>
      rw [hs] at q8
      have hl := hs
      rw [sy] at hl
      obtain ⟨kd, -⟩ := lnE_n _ _ hl
      have kd0 : kD tp len (nX tp len p) = 2 := kd 0 (by decide) (by decide)
      by_cases k0 : k = 0
      · subst k0
        obtain ⟨gD, yD, M, f11, f12, f13⟩ := hM rfl
        subst yD
        have ch := chk_g (ck := plCk) (full := plFull D 20) (fu := False) (le := plLe D 20) (mo := plMo 20) (cpl := (20 : Nat) = 26) (D := D) (D' := plTk D 20 (lnV tp len (nX tp len p) (mnO 20))) (k := 0) (w := w) fr rfl (fun _ => ⟨fun q => q.elim, fun q => absurd q.1 (by decide)⟩)
        have u1 : fuK False 0 = 0 := rfl
        have u2 : fuW False 0 (nI (qB tp len p)) w = w := rfl
        rw [u1, u2] at ch
        have b0 : bdP (plLe D 20) (plMo 20) ((20 : Nat) = 26) (lnV tp len (nX tp len p) (mnO 20)) 0 ↔ ¬ nmIn tp len (D.y : Int) 999 (nX tp len p) := bd_in (by decide) rfl
        rw [nm_bK b0, nm_bW b0] at q8
        rw [ch, nx]
        refine ⟨q8, fun _ => ⟨g, y', by rw [d8]; exact c0, F2, by omega, y9', fun hK => ?_⟩⟩
        have hK : cK (plLe D 20) (plMo 20) ((20 : Nat) = 26) (lnV tp len (nX tp len p) (mnO 20)) (mnO 20) 0 0 = 0 := hK
        obtain ⟨-, a2⟩ := cK_0 hK
        have nb := fbR_none _ _ a2
        have n0 : nmIn tp len (D.y : Int) 999 (nX tp len p) := Classical.byContradiction fun q => nb 0 (by decide) (by decide) (b0.mpr q)
        rw [if_pos hK]
        exact ⟨gD, vR kd0 n0, by rw [d8]; exact M, (F 11 (by decide) (by decide)).trans f11, (F 12 (by decide) (by decide)).trans f12, (F 13 (by decide) (by decide)).trans f13⟩
      · rw [(nmK_s (w := w) k0).1, (nmK_s (w := w) k0).2] at q8
        rw [chkP_s k0, nx]
        exact ⟨q8, fun _ => ⟨g, y', by rw [d8]; exact c0, F2, by omega, y9', fun hK => absurd hK k0⟩⟩
theorem M_plLine26 {D : PlX} (h : MQo s tp len p k w) (hk : k ≤ 3) (hi : i ≤ 500) (hI : PlXI D) (hQ : PlQ s D k i) (hd : kD tp len p = 1) (hw : wC tp len p = 26) (hn : 3000 ≤ n) : ∃ s', F_X11_planLine n s (some 106) = some s' ∧ MH s s' ∧ MQz s' tp len (nxt tp len 2 p) (chkP plCk tp len 2 p D k w).2.1 (chkP plCk tp len 2 p D k w).2.2 (synE tp len 2 p) ∧ (synE tp len 2 p = none → PlQ s' (chkP plCk tp len 2 p D k w).1 (chkP plCk tp len 2 p D k w).2.1 (i + 1)) := by
  have S := h.1.1
  obtain ⟨t5, t4, t6, t7⟩ := MQ_t h
  obtain ⟨g, y, c0, fy, gi, y9, hM⟩ := hQ
  obtain ⟨s1, e1, g1, q1⟩ := M_takes_t (n := n) h (a := 21) (b := 27) hd (by omega) (by omega) (by decide) hn
  rw [hw] at e1
  have e1 : F_X11_takes n s (some 106) (21 : Int32) (27 : Int32) = some ((26 : Int32), s1) := e1
  have S1 := q1.1.1
  have d1 : cI s1 109 = cI s 109 := cI_o g1.1 (by decide)
  have hg0 : gFo 2 (wC tp len p) = some 25 := by rw [hw]; rfl
  obtain ⟨sy, fr⟩ := M_line0 hd hg0
  have nx := pkk_nx fr
  obtain ⟨s3, e3, g3, q3⟩ := M_num (n := n) (z := none) (lo := 0) (hi := 9) q1 hk (by decide) (by decide) hn
  have e3 : F_X11_numbered n s1 (some 106) (0 : Int32) (9 : Int32) = _ := e3
  generalize hR0 : nmR tp len 0 9 (nX tp len p) none = R0 at *
  have S3 := q3.sh
  have d3 : cI s3 109 = cI s 109 := (cI_o g3.1 (by decide)).trans d1
  obtain ⟨s4, e4, m4, q4, d4, x4, o4⟩ := M_pt q3 (j := 13) (by decide) R0
  have S4 := q4.sh
  obtain ⟨s8, e8, g8, q8⟩ := M_end (n := n) q4 hn
  have d8 : cI s8 109 = cI s 109 := (cI_o g8.1 (by decide)).trans (d4.trans d3)
  have F : ∀ j, j ≠ 13 → 8 < j → fI s8 106 j = fI s 106 j := fun j h1 h2 => (g8.i (Or.inr h2)).trans ((o4 j h1).trans ((g3.i (Or.inr h2)).trans (g1.i (Or.inr h2))))
  have F2 : fI s8 106 13 = R0 := (g8.i (by decide)).trans x4
  refine ⟨s8, ?_, ((g1.mh.trans g3.mh).trans m4).trans g8.mh, ?_⟩
  · unfold F_X11_planLine
    simp only [↓bnd (t4), ↓bnd (o106 S), ↓bnd (e1), Option.bind_some, show ((26 : Int32) = (21 : Int32)) = False by decide, show ((26 : Int32) = (22 : Int32)) = False by decide, show ((26 : Int32) = (23 : Int32)) = False by decide, show ((26 : Int32) = (24 : Int32)) = False by decide, show ((26 : Int32) = (25 : Int32)) = False by decide, show ((26 : Int32) = (26 : Int32)) = True by decide, show ((26 : Int32) = (27 : Int32)) = False by decide, if_true, if_false, ↓bnd (o106 S1), ↓bnd (e3), ↓bnd (e4), ↓bnd (o106 S4), ↓bnd (e8)]
  · have hz : enZ tp len (nX tp len (nX tp len p)) (nmZ tp len (nX tp len p) none) = synE tp len 2 p := by
      rw [sy, ← chZ_n]
      rfl
    rw [hz] at q8
    cases hs : synE tp len 2 p with
    | some e => rw [hs] at q8; exact ⟨q8, fun q => by cases q⟩
    | none =>
      rw [hs] at q8
      have hl := hs
      rw [sy] at hl
      obtain ⟨kd, -⟩ := lnE_n _ _ hl
      have kd0 : kD tp len (nX tp len p) = 2 := kd 0 (by decide) (by decide)
      have ch := chk_g (ck := plCk) (full := plFull D 25) (fu := False) (le := plLe D 25) (mo := plMo 25) (cpl := (25 : Nat) = 26) (D := D) (D' := plTk D 25 (lnV tp len (nX tp len p) (mnO 25))) (k := k) (w := w) fr rfl (fun _ => ⟨fun q => q.elim, fun q => absurd q.1 (by decide)⟩)
      have u1 : fuK False k = k := rfl
      have u2 : fuW False k (nI (qB tp len p)) w = w := rfl
      rw [u1, u2] at ch
      have b0 : bdP (plLe D 25) (plMo 25) ((25 : Nat) = 26) (lnV tp len (nX tp len p) (mnO 25)) 0 ↔ ¬ nmIn tp len 0 9 (nX tp len p) := bd_in (by decide) rfl
      rw [nm_bK b0, nm_bW b0] at q8
      rw [ch, nx]
      refine ⟨q8, fun _ => ⟨g, y, by rw [d8]; exact c0, (F 10 (by decide) (by decide)).trans fy, by omega, y9, fun hK => ?_⟩⟩
      have hK : cK (plLe D 25) (plMo 25) ((25 : Nat) = 26) (lnV tp len (nX tp len p) (mnO 25)) (mnO 25) 0 k = 0 := hK
      obtain ⟨k0, a2⟩ := cK_0 hK
      have nb := fbR_none _ _ a2
      have n0 : nmIn tp len 0 9 (nX tp len p) := Classical.byContradiction fun q => nb 0 (by decide) (by decide) (b0.mpr q)
      rw [nmR_in kd0 n0] at hR0
      obtain ⟨gD, yD, M, f11, f12, f13⟩ := hM k0
      rw [if_pos hK]
      exact ⟨gD, yD, by rw [d8]; exact M, (F 11 (by decide) (by decide)).trans f11, (F 12 (by decide) (by decide)).trans f12, F2.trans hR0.symm⟩
theorem M_plLine27 {D : PlX} (h : MQo s tp len p k w) (hk : k ≤ 3) (hi : i ≤ 500) (hI : PlXI D) (hQ : PlQ s D k i) (hd : kD tp len p = 1) (hw : wC tp len p = 27) (hn : 3000 ≤ n) : ∃ s', F_X11_planLine n s (some 106) = some s' ∧ MH s s' ∧ MQz s' tp len (nxt tp len 2 p) (chkP plCk tp len 2 p D k w).2.1 (chkP plCk tp len 2 p D k w).2.2 (synE tp len 2 p) ∧ (synE tp len 2 p = none → PlQ s' (chkP plCk tp len 2 p D k w).1 (chkP plCk tp len 2 p D k w).2.1 (i + 1)) := by
  have S := h.1.1
  obtain ⟨t5, t4, t6, t7⟩ := MQ_t h
  obtain ⟨g, y, c0, fy, gi, y9, hM⟩ := hQ
  obtain ⟨s1, e1, g1, q1⟩ := M_takes_t (n := n) h (a := 21) (b := 27) hd (by omega) (by omega) (by decide) hn
  rw [hw] at e1
  have e1 : F_X11_takes n s (some 106) (21 : Int32) (27 : Int32) = some ((27 : Int32), s1) := e1
  have S1 := q1.1.1
  have d1 : cI s1 109 = cI s 109 := cI_o g1.1 (by decide)
  have hg0 : gFo 2 (wC tp len p) = some 26 := by rw [hw]; rfl
  obtain ⟨sy, fr⟩ := M_line0 hd hg0
  have nx := pkk_nx fr
  have r1 : aI s1 (some 109) (0 : Int32) = some (nI g) := by
    have : aI s1 (some 109) (0 : Int32) = some (cI s1 109 0) := aI109 S1 (by decide)
    rw [this, d1, c0]
  obtain ⟨s2, e2, g2, q2⟩ := M_full (n := n) (g := g) (lim := 40) q1 hk h.2.2.2.2.2.2 h.2.2.1 (by omega) (by omega) (by decide)
  have e2 : ((if nI g < (40 : Int32) then some s1 else (isO s1 (some 106) 11).bind fun q14 => (F_X11_also n s1 (some 106) (3 : Int32) (nI (qB tp len p))).bind fun s13 => some s13) : Option xS) = some s2 := e2
  have k1 := fuK_le (full := 40 ≤ g) hk
  generalize hK1 : fuK (40 ≤ g) k = K1 at *
  generalize hW1 : fuW (40 ≤ g) k (nI (qB tp len p)) w = W1 at *
  have S2 := q2.1.1
  obtain ⟨s3, e3, g3, q3⟩ := M_num (n := n) (z := none) (lo := 0) (hi := 7) q2 k1 (by decide) (by decide) hn
  have e3 : F_X11_numbered n s2 (some 106) (0 : Int32) (7 : Int32) = _ := e3
  have S3 := q3.sh
  generalize hR0 : nmR tp len 0 7 (nX tp len p) none = R0 at *
  obtain ⟨s4, e4, g4, q4⟩ := M_ano (n := n) (lo := 0) (hi := 7) q3 (nmK_le k1) R0 (by decide) (by decide) hn
  have e4 : F_X11_another n s3 (some 106) (0 : Int32) (7 : Int32) R0 = _ := e4
  have S4 := q4.sh
  generalize hR1 : nmR tp len 0 7 (nX tp len (nX tp len p)) (nmZ tp len (nX tp len p) none) = R1 at *
  have G4 := ((g1.trans g2).trans g3).trans g4
  have d4 : cI s4 109 = cI s 109 := cI_o G4.1 (by decide)
  obtain ⟨s5, e5, o5, p0, p1, p2, p3, p4, p5⟩ := M_plans (n := n) S4 R0 R1
  have S5 := o5.2.2.1
  have m5 : MH s4 s5 := ⟨o5.mono fun a h => Or.inr (Or.inr (Or.inr h)), fun q _ _ => by rw [cI_o o5 (by decide)], fI_c (o5.2.2.2 106 (by decide)) 15⟩
  have q5 := q4.fr S5 (fun k _ => fI_c (o5.2.2.2 106 (by decide)) k) (cI_o o5 (by decide))
  have d5 : cI s5 109 = cI s 109 := (cI_o o5 (by decide)).trans d4
  obtain ⟨s6, e6, o6, z6, c6⟩ := M_copy (n := n) S5 (g := g) (by rw [d5]; exact c0) (by omega) hn
  have S6 := o6.2.2.1
  have m6 : MH s5 s6 := ⟨o6.mono fun a h => Or.inr (Or.inr (Or.inl h)), fun q _ _ => by rw [cI_o o6 (by decide)], fI_c (o6.2.2.2 106 (by decide)) 15⟩
  have q6 := q5.fr S6 (fun k _ => fI_c (o6.2.2.2 106 (by decide)) k) (cI_o o6 (by decide))
  have r6 : aI s6 (some 109) (0 : Int32) = some (nI g) := by
    have : aI s6 (some 109) (0 : Int32) = some (cI s6 109 0) := aI109 S6 (by decide)
    rw [this, z6]
  have w7 : sS 0 s6 (some 109) (0 : Int32) (nI (g + 1)) = _ := w109n S6 (i := 0) (by decide) (nI (g + 1))
  have m7 := MH_9 S6 (x := 109) (Or.inl rfl) (upd (cI s6 109) 0 (nI (g + 1)))
  have f7 := k109 S6 (upd (cI s6 109) 0 (nI (g + 1)))
  have h7 : ∀ k, fI (wA s6 109 (upd (cI s6 109) 0 (nI (g + 1)))) 106 k = fI s6 106 k := fun k => fI_c (wA_n (by decide) _ _) k
  have q7 := q6.w9 S6 (Or.inl rfl) (upd (cI s6 109) 0 (nI (g + 1)))
  generalize wA s6 109 (upd (cI s6 109) 0 (nI (g + 1))) = s7 at *
  have S7 := q7.sh
  obtain ⟨s9, e9, m9, q9, d9, x9, o9⟩ := M_pt q7 (j := 13) (by decide) (-1 : Int32)
  have S9 := q9.sh
  obtain ⟨s8, e8, g8, q8⟩ := M_end (n := n) q9 hn
  have d8 : cI s8 109 = upd (cI s6 109) 0 (nI (g + 1)) := (cI_o g8.1 (by decide)).trans (d9.trans f7)
  have F : ∀ j, j ≠ 13 → 8 < j → fI s8 106 j = fI s4 106 j := fun j h1 h2 => (g8.i (Or.inr h2)).trans ((o9 j h1).trans ((h7 j).trans ((fI_c (o6.2.2.2 106 (by decide)) j).trans (fI_c (o5.2.2.2 106 (by decide)) j))))
  have F4 : ∀ j, 8 < j → fI s4 106 j = fI s 106 j := fun j hj => G4.i (Or.inr hj)
  have F2 : fI s8 106 13 = (-1 : Int32) := (g8.i (by decide)).trans x9
  refine ⟨s8, ?_, ((((G4.mh.trans m5).trans m6).trans m7).trans m9).trans g8.mh, ?_⟩
  · unfold F_X11_planLine
    simp only [↓bnd (t4), ↓bnd (o106 S), ↓bnd (e1), Option.bind_some, show ((27 : Int32) = (21 : Int32)) = False by decide, show ((27 : Int32) = (22 : Int32)) = False by decide, show ((27 : Int32) = (23 : Int32)) = False by decide, show ((27 : Int32) = (24 : Int32)) = False by decide, show ((27 : Int32) = (25 : Int32)) = False by decide, show ((27 : Int32) = (26 : Int32)) = False by decide, show ((27 : Int32) = (27 : Int32)) = True by decide, if_true, if_false, ↓bnd (g106_9 S1), ↓bnd (r1), ↓bnd (e2), ↓bnd (o106 S2), ↓bnd (e3), ↓bnd (o106 S3), ↓bnd (e4), ↓bnd (o106 S4), ↓bnd (e5), ↓bnd (e6), ↓bnd (g106_9 S6), ↓bnd (r6), nI_1, ↓bnd (w7), ↓bnd (e9), ↓bnd (o106 S9), ↓bnd (e8)]
  · have hz : enZ tp len (nX tp len (nX tp len (nX tp len p))) (nmZ tp len (nX tp len (nX tp len p)) (nmZ tp len (nX tp len p) none)) = synE tp len 2 p := by
      rw [sy, ← chZ_n]
      rfl
    rw [hz] at q8
    cases hs : synE tp len 2 p with
    | some e => rw [hs] at q8; exact ⟨q8, fun q => by cases q⟩
    | none =>
      rw [hs] at q8
      have hl := hs
      rw [sy] at hl
      obtain ⟨kd, -⟩ := lnE_n _ _ hl
      have kd0 : kD tp len (nX tp len p) = 2 := kd 0 (by decide) (by decide)
      have kd1 : kD tp len (nX tp len (nX tp len p)) = 2 := kd 1 (by decide) (by decide)
      have y0 : cI s8 109 0 = nI (g + 1) := by rw [d8, upd_s]
      have y10 : fI s8 106 10 = nI y := (F 10 (by decide) (by decide)).trans ((F4 10 (by decide)).trans fy)
      have ch := chk_g (ck := plCk) (full := plFull D 26) (fu := 40 ≤ g) (le := plLe D 26) (mo := plMo 26) (cpl := (26 : Nat) = 26) (D := D) (D' := plTk D 26 (lnV tp len (nX tp len p) (mnO 26))) (k := k) (w := w) fr rfl (fun k0 => ⟨fun q => ⟨rfl, by have := (hM k0).1; omega⟩, fun q => by have := (hM k0).1; have := q.2; omega⟩)
      rw [hK1, hW1] at ch
      by_cases k0 : K1 = 0
      · subst k0
        obtain ⟨k00, nf⟩ := fuK_0 hK1
        obtain ⟨gD, yD, M, f11, f12, f13⟩ := hM k00
        have g40 : g < 40 := by omega
        have b0 : bdP (plLe D 26) (plMo 26) ((26 : Nat) = 26) (lnV tp len (nX tp len p) (mnO 26)) 0 ↔ ¬ nmIn tp len 0 7 (nX tp len p) := bd_in (by decide) rfl
        by_cases n0 : nmIn tp len 0 7 (nX tp len p)
        · rw [nmR_in kd0 n0] at hR0
          have dw0 := digitsW kd0
          have dw1 := digitsW kd1
          have b1 : bdP (plLe D 26) (plMo 26) ((26 : Nat) = 26) (lnV tp len (nX tp len p) (mnO 26)) 1 ↔ ¬ (nmIn tp len 0 7 (nX tp len (nX tp len p)) ∧ ¬ nI (vN tp len (nX tp len (nX tp len p))) = R0) := by
            have e01 : lnV tp len (nX tp len p) (mnO 26) 1 = vN tp len (nX tp len (nX tp len p)) := rfl
            have e00 : lnV tp len (nX tp len p) (mnO 26) 0 = vN tp len (nX tp len p) := rfl
            have m1 : plMo 26 1 = 7 := rfl
            have l1 : plLe D 26 1 = 0 := rfl
            unfold bdP nmIn
            rw [e01, e00, m1, l1, ← hR0, nEq (by omega) (by omega)]
            constructor
            · rintro (⟨-, -, q⟩ | q | q) ⟨x, y⟩
              · exact y q
              · omega
              · omega
            · intro q
              by_cases c : vN tp len (nX tp len (nX tp len p)) = vN tp len (nX tp len p)
              · exact Or.inl ⟨rfl, rfl, c⟩
              · by_cases c2 : (vN tp len (nX tp len (nX tp len p)) : Int) < 0
                · exact Or.inr (Or.inl c2)
                · exact Or.inr (Or.inr (Classical.byContradiction fun c3 => q ⟨⟨by omega, by omega⟩, c⟩))
          rw [an_bK b1, an_bW b1, nm_bK b0, nm_bW b0] at q8
          rw [ch, nx]
          refine ⟨q8, fun _ => ⟨g + 1, y, y0, y10, by omega, y9, fun hK => ?_⟩⟩
          have hK : cK (plLe D 26) (plMo 26) ((26 : Nat) = 26) (lnV tp len (nX tp len p) (mnO 26)) (mnO 26) 0 0 = 0 := hK
          obtain ⟨-, a2⟩ := cK_0 hK
          have nb := fbR_none _ _ a2
          have n1 : nmIn tp len 0 7 (nX tp len (nX tp len p)) ∧ ¬ nI (vN tp len (nX tp len (nX tp len p))) = R0 := Classical.byContradiction fun q => nb 1 (by decide) (by decide) (b1.mpr q)
          rw [nmZ_i kd0] at hR1
          rw [nmR_in kd1 n1.1] at hR1
          rw [if_pos hK]
          have B : ∀ j, j ≠ 0 → cI s8 109 j = if 1 + 6 * g ≤ j ∧ j < 1 + 6 * g + 6 then cI s5 110 (j - (1 + 6 * g)) else cI s 109 j := fun j hj => by rw [d8, pk_un hj, c6 g40, d5]
          obtain ⟨M1, M2, M3⟩ := M
          have f4 : ∀ j, 8 < j → fI s4 106 j = fI s 106 j := F4
          refine ⟨by rw [gD]; rfl, yD, ⟨by rw [y0, gD]; rfl, fun a b ha hb => ?_, fun a ha => ?_⟩, (F 11 (by decide) (by decide)).trans ((F4 11 (by decide)).trans f11), (F 12 (by decide) (by decide)).trans ((F4 12 (by decide)).trans f12), F2⟩
          · have ha : a < D.d.n + 1 := ha
            show cI s8 109 (0 + 1 + 6 * a + b) = nI (if a = D.d.n then (if b = 0 then vN tp len (nX tp len p) else if b = 1 then vN tp len (nX tp len (nX tp len p)) else if b = 2 then D.y else if b = 3 then D.c else D.s) else D.d.c a b)
            rw [B _ (by omega)]
            by_cases c : a = D.d.n
            · rw [if_pos (by omega), if_pos c, show 0 + 1 + 6 * a + b - (1 + 6 * g) = b by omega]
              rcases (show b = 0 ∨ b = 1 ∨ b = 2 ∨ b = 3 ∨ b = 4 by omega) with rfl | rfl | rfl | rfl | rfl
              · rw [p0, ← hR0]; rfl
              · rw [p1, ← hR1]; rfl
              · rw [p2, F4 10 (by decide), fy, yD]; rfl
              · rw [p3, F4 11 (by decide), f11]; rfl
              · rw [p4, F4 12 (by decide), f12]; rfl
            · rw [if_neg (by omega), if_neg c]
              exact M2 a b (by omega) hb
          · have ha : a < D.d.n + 1 := ha
            show cI s8 109 (0 + 1 + 6 * a + 5) = eI (if a = D.d.n then D.e else D.d.e a)
            rw [B _ (by omega)]
            by_cases c : a = D.d.n
            · rw [if_pos (by omega), if_pos c, show 0 + 1 + 6 * a + 5 - (1 + 6 * g) = 5 by omega, p5, F4 13 (by decide), f13]
            · rw [if_neg (by omega), if_neg c]
              exact M3 a (by omega)
        · have fb : fbR (plLe D 26) (plMo 26) ((26 : Nat) = 26) (lnV tp len (nX tp len p) (mnO 26)) (mnO 26) 0 = some 0 := if_pos (b0.mpr n0)
          have cs := cK_f (q := fun j => qB tp len (npn tp len (nX tp len p) j)) (w := W1) _ _ fb
          have v1 : nmK tp len 0 7 (nX tp len p) 0 = 2 := by unfold nmK; rw [if_pos rfl, if_neg n0]
          have v2 : nmW tp len 0 7 (nX tp len p) 0 W1 = nI (qB tp len (nX tp len p)) := by unfold nmW; rw [if_pos rfl, if_neg n0]
          rw [v1, v2, (anK_s (w := nI (qB tp len (nX tp len p))) (show 2 ≠ 0 by decide)).1, (anK_s (w := nI (qB tp len (nX tp len p))) (show 2 ≠ 0 by decide)).2] at q8
          rw [ch, nx, cs.1, cs.2]
          exact ⟨q8, fun _ => ⟨g + 1, y, y0, y10, by omega, y9, fun hK => absurd hK (show ¬ (2 : Nat) = 0 by decide)⟩⟩
      · rw [(nmK_s (w := W1) k0).1, (nmK_s (w := W1) k0).2, (anK_s (w := W1) k0).1, (anK_s (w := W1) k0).2] at q8
        have cs := cK_s (le := plLe D 26) (mo := plMo 26) (cpl := (26 : Nat) = 26) (v := lnV tp len (nX tp len p) (mnO 26)) (q := fun j => qB tp len (npn tp len (nX tp len p) j)) (w := W1) (mnO 26) 0 K1 k0
        rw [ch, nx, cs.1, cs.2]
        exact ⟨q8, fun _ => ⟨g + 1, y, y0, y10, by omega, y9, fun hK => absurd hK k0⟩⟩
theorem LnH_pl (hn : 3000 ≤ n) : LnH n 2 F_X11_planLine PlQ PlXI plCk := by
  intro s tp len p k w D i h hk hi hI hQ
  by_cases hd : kD tp len p = 1 ∧ 21 ≤ wC tp len p ∧ wC tp len p ≤ 27
  · rcases (show wC tp len p = 21 ∨ wC tp len p = 22 ∨ wC tp len p = 23 ∨ wC tp len p = 24 ∨ wC tp len p = 25 ∨ wC tp len p = 26 ∨ wC tp len p = 27 by omega) with hw | hw | hw | hw | hw | hw | hw
    · exact M_plLine21 h hk hi hI hQ hd.1 hw hn
    · exact M_plLine22 h hk hi hI hQ hd.1 hw hn
    · exact M_plLine23 h hk hi hI hQ hd.1 hw hn
    · exact M_plLine24 h hk hi hI hQ hd.1 hw hn
    · exact M_plLine25 h hk hi hI hQ hd.1 hw hn
    · exact M_plLine26 h hk hi hI hQ hd.1 hw hn
    · exact M_plLine27 h hk hi hI hQ hd.1 hw hn
  · have S := h.1.1
    obtain ⟨t5, t4, t6, t7⟩ := MQ_t h
    obtain ⟨s1, e1, g1, q1⟩ := M_takes_f (n := n) h (a := 21) (b := 27) hd (by decide) (by decide)
    have e1 : F_X11_takes n s (some 106) (21 : Int32) (27 : Int32) = some ((-1 : Int32), s1) := e1
    obtain ⟨s', e', m', q'⟩ := M_line1 (n := n) (so := 2) (KQ := PlQ) (ck := plCk) (D := D) (k := k) (w := w) (i := i) S g1 q1 (fun q => by
      obtain ⟨q1, f, hf⟩ := q
      unfold gFo at hf
      rw [if_neg (show ¬ (2 : Nat) = 0 by decide), if_neg (show ¬ (2 : Nat) = 1 by decide), if_neg (fun x => hd ⟨q1, x⟩)] at hf
      cases hf)
    refine ⟨s', ?_, m', q'⟩
    unfold F_X11_planLine
    simp only [↓bnd (t4), ↓bnd (o106 S), ↓bnd (e1), Option.bind_some, show ((-1 : Int32) = (21 : Int32)) = False by decide, show ((-1 : Int32) = (22 : Int32)) = False by decide, show ((-1 : Int32) = (23 : Int32)) = False by decide, show ((-1 : Int32) = (24 : Int32)) = False by decide, show ((-1 : Int32) = (25 : Int32)) = False by decide, show ((-1 : Int32) = (26 : Int32)) = False by decide, show ((-1 : Int32) = (27 : Int32)) = False by decide, if_true, if_false, ↓bnd (o106 q1.1.1), ↓bnd (e')]
end L4

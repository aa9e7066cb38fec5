/-! A LAW'S LINE IS READ: the model -/
def LwQ (s : xS) (D : LwD) (k _ : Nat) : Prop := k = 0 → LwM (cI s 109) 0 D
section L3
variable {st st1 st2 s s1 : xS} {n len p k e i : Nat} {tp : Nat → Nat} {w : Int32} {z : Option Nat}
theorem lnV_0 {m : Nat} (h : 0 < m) : lnV tp len p m 0 = vN tp len p := if_pos h
theorem lnV_1 {m : Nat} (h : 1 < m) : lnV tp len p m 1 = vN tp len (nX tp len p) := if_pos h
theorem M_wr (h : MQz s tp len p k w z) {j : Nat} (hj : j < 242) (v : Int32) : ∃ s', sS 0 s (some 109) (nI j) v = some s' ∧ MH s s' ∧ MQz s' tp len p k w z ∧ cI s' 109 = upd (cI s 109) j v := ⟨_, w109n h.sh hj v, MH_9 h.sh (Or.inl rfl) _, h.w9 h.sh (Or.inl rfl) _, k109 h.sh _⟩
theorem M_lwLine0 {D : LwD} (h : MQo s tp len p k w) (hk : k ≤ 3) (hI : LwI D) (hQ : LwQ s D k i) (hd : kD tp len p = 1) (hw : wC tp len p = 11) (hn : 3000 ≤ n) : ∃ s', F_X11_lawLine n s (some 106) = some s' ∧ MH s s' ∧ MQz s' tp len (nxt tp len 1 p) (chkP lwCk tp len 1 p D k w).2.1 (chkP lwCk tp len 1 p D k w).2.2 (synE tp len 1 p) ∧ (synE tp len 1 p = none → LwQ s' (chkP lwCk tp len 1 p D k w).1 (chkP lwCk tp len 1 p D k w).2.1 (i + 1)) := by
  have S := h.1.1
  obtain ⟨s1, e1, g1, q1⟩ := M_takes_t (n := n) h (a := 11) (b := 17) hd (by omega) (by omega) (by decide) hn
  rw [hw] at e1
  have e1 : F_X11_takes n s (some 106) (11 : Int32) (17 : Int32) = some ((11 : Int32), s1) := e1
  have S1 := q1.1.1
  obtain ⟨s3, e3, g3, q3⟩ := M_num (n := n) (z := none) (lo := 0) (hi := 100) q1 hk (by decide) (by decide) hn
  have e3 : F_X11_numbered n s1 (some 106) (0 : Int32) (100 : Int32) = _ := e3
  have d3 : cI s3 109 = cI s 109 := (cI_o g3.1 (by decide)).trans (cI_o g1.1 (by decide))
  generalize hR0 : nmR tp len 0 100 (nX tp len p) none = R0 at *
  obtain ⟨s4, e4, m4, q4, f4⟩ := M_wr q3 (j := 0) (by decide) R0
  have e4 : sS 0 s3 (some 109) (0 : Int32) R0 = some s4 := e4
  have S4 := q4.sh
  obtain ⟨s8, e8, g8, q8⟩ := M_end (n := n) q4 hn
  have d8 : cI s8 109 = cI s4 109 := cI_o g8.1 (by decide)
  have hg0 : gFo 1 (wC tp len p) = some 10 := by rw [hw]; rfl
  obtain ⟨sy, fr⟩ := M_line0 hd hg0
  refine ⟨s8, ?_, ((g1.mh.trans g3.mh).trans m4).trans g8.mh, ?_⟩
  · unfold F_X11_lawLine
    simp only [↓bnd (o106 S), ↓bnd (e1), Option.bind_some, show ((11 : Int32) = (11 : Int32)) = True by decide, if_true, ↓bnd (g106_9 S1), ↓bnd (o106 S1), ↓bnd (e3), ↓bnd (e4), ↓bnd (o106 S4), ↓bnd (e8)]
  · have hz : enZ tp len (nX tp len (nX tp len p)) (nmZ tp len (nX tp len p) none) = synE tp len 1 p := by
      rw [sy, ← chZ_n]
      rfl
    rw [hz] at q8
    cases hs : synE tp len 1 p with
    | some e => rw [hs] at q8; exact ⟨q8, fun q => by cases q⟩
    | none =>
      rw [hs] at q8
      have hl := hs
      rw [sy] at hl
      obtain ⟨kd, -⟩ := lnE_n _ _ hl
      have kd0 : kD tp len (nX tp len p) = 2 := kd 0 (by decide) (by decide)
      have nx : nxt tp len 1 p = npn tp len (nX tp len p) (mnO 10 + 1) := by unfold nxt; rw [fr]
      have ch := chk_g (ck := lwCk) (full := False) (fu := False) (le := lwLe) (mo := lwMo 10) (cpl := False) (D := D) (D' := lwTk D 10 (lnV tp len (nX tp len p) (mnO 10))) (k := k) (w := w) fr rfl (fun _ => Iff.rfl)
      have u1 : fuK False k = k := rfl
      have u2 : fuW False k (nI (qB tp len p)) w = w := rfl
      rw [u1, u2] at ch
      have b0 : bdP lwLe (lwMo 10) False (lnV tp len (nX tp len p) (mnO 10)) 0 ↔ ¬ nmIn tp len 0 100 (nX tp len p) := bd_in (fun q => q.2) rfl
      rw [nm_bK b0, nm_bW b0] at q8
      rw [ch, nx]
      refine ⟨q8, fun _ hK => ?_⟩
      have hK : cK lwLe (lwMo 10) False (lnV tp len (nX tp len p) (mnO 10)) (mnO 10) 0 k = 0 := hK
      obtain ⟨k0, a2⟩ := cK_0 hK
      have nb := fbR_none _ _ a2
      have n0 : nmIn tp len 0 100 (nX tp len p) := Classical.byContradiction fun q => nb 0 (by decide) (by decide) (b0.mpr q)
      rw [nmR_in kd0 n0] at hR0
      rw [if_pos hK]
      obtain ⟨M1, M2, M3⟩ := hQ k0
      rw [d8, f4, d3, ← hR0]
      refine ⟨?_, fun x hx => ?_, fun x hx => ?_⟩
      · show upd (cI s 109) 0 (nI (vN tp len (nX tp len p))) 0 = nI (upN D 0 (lnV tp len (nX tp len p) (mnO 10) 0) 0)
        rw [upd_s]; rfl
      · exact ul (ur (M2 x hx) (by omega)) (by omega)
      · exact ul (ur (M3 x hx) (by omega)) (by omega)
theorem M_lwLine1 {D : LwD} (h : MQo s tp len p k w) (hk : k ≤ 3) (hI : LwI D) (hQ : LwQ s D k i) (hd : kD tp len p = 1) (hw : wC tp len p = 12) (hn : 3000 ≤ n) : ∃ s', F_X11_lawLine n s (some 106) = some s' ∧ MH s s' ∧ MQz s' tp len (nxt tp len 1 p) (chkP lwCk tp len 1 p D k w).2.1 (chkP lwCk tp len 1 p D k w).2.2 (synE tp len 1 p) ∧ (synE tp len 1 p = none → LwQ s' (chkP lwCk tp len 1 p D k w).1 (chkP lwCk tp len 1 p D k w).2.1 (i + 1)) := by
  have S := h.1.1
  obtain ⟨s1, e1, g1, q1⟩ := M_takes_t (n := n) h (a := 11) (b := 17) hd (by omega) (by omega) (by decide) hn
  rw [hw] at e1
  have e1 : F_X11_takes n s (some 106) (11 : Int32) (17 : Int32) = some ((12 : Int32), s1) := e1
  have S1 := q1.1.1
  obtain ⟨s3, e3, g3, q3⟩ := M_num (n := n) (z := none) (lo := 0) (hi := 50) q1 hk (by decide) (by decide) hn
  have e3 : F_X11_numbered n s1 (some 106) (0 : Int32) (50 : Int32) = _ := e3
  have d3 : cI s3 109 = cI s 109 := (cI_o g3.1 (by decide)).trans (cI_o g1.1 (by decide))
  generalize hR0 : nmR tp len 0 50 (nX tp len p) none = R0 at *
  obtain ⟨s4, e4, m4, q4, f4⟩ := M_wr q3 (j := 1) (by decide) R0
  have e4 : sS 0 s3 (some 109) (1 : Int32) R0 = some s4 := e4
  have S4 := q4.sh
  obtain ⟨s8, e8, g8, q8⟩ := M_end (n := n) q4 hn
  have d8 : cI s8 109 = cI s4 109 := cI_o g8.1 (by decide)
  have hg0 : gFo 1 (wC tp len p) = some 11 := by rw [hw]; rfl
  obtain ⟨sy, fr⟩ := M_line0 hd hg0
  refine ⟨s8, ?_, ((g1.mh.trans g3.mh).trans m4).trans g8.mh, ?_⟩
  · unfold F_X11_lawLine
    simp only [↓bnd (o106 S), ↓bnd (e1), Option.bind_some, show ((12 : Int32) = (11 : Int32)) = False by decide, show ((12 : Int32) ≤ (11 : Int32)) = False by decide, if_false, show ((12 : Int32) - (12 : Int32)) = 0 by decide, ↓bnd (g106_9 S1), ↓bnd (o106 S1), ↓bnd (e3), show ((1 : Int32) + 0) = 1 by decide, ↓bnd (e4), show ((0 : Int32) ≤ 0) = True by decide, if_true, ↓bnd (o106 S4), ↓bnd (e8)]
  · have hz : enZ tp len (nX tp len (nX tp len p)) (nmZ tp len (nX tp len p) none) = synE tp len 1 p := by
      rw [sy, ← chZ_n]
      rfl
    rw [hz] at q8
    cases hs : synE tp len 1 p with
    | some e => rw [hs] at q8; exact ⟨q8, fun q => by cases q⟩
    | none =>
      rw [hs] at q8
      have hl := hs
      rw [sy] at hl
      obtain ⟨kd, -⟩ := lnE_n _ _ hl
      have kd0 : kD tp len (nX tp len p) = 2 := kd 0 (by decide) (by decide)
      have nx : nxt tp len 1 p = npn tp len (nX tp len p) (mnO 11 + 1) := by unfold nxt; rw [fr]
      have ch := chk_g (ck := lwCk) (full := False) (fu := False) (le := lwLe) (mo := lwMo 11) (cpl := False) (D := D) (D' := lwTk D 11 (lnV tp len (nX tp len p) (mnO 11))) (k := k) (w := w) fr rfl (fun _ => Iff.rfl)
      have u1 : fuK False k = k := rfl
      have u2 : fuW False k (nI (qB tp len p)) w = w := rfl
      rw [u1, u2] at ch
      have b0 : bdP lwLe (lwMo 11) False (lnV tp len (nX tp len p) (mnO 11)) 0 ↔ ¬ nmIn tp len 0 50 (nX tp len p) := bd_in (fun q => q.2) rfl
      rw [nm_bK b0, nm_bW b0] at q8
      rw [ch, nx]
      refine ⟨q8, fun _ hK => ?_⟩
      have hK : cK lwLe (lwMo 11) False (lnV tp len (nX tp len p) (mnO 11)) (mnO 11) 0 k = 0 := hK
      obtain ⟨k0, a2⟩ := cK_0 hK
      have nb := fbR_none _ _ a2
      have n0 : nmIn tp len 0 50 (nX tp len p) := Classical.byContradiction fun q => nb 0 (by decide) (by decide) (b0.mpr q)
      rw [nmR_in kd0 n0] at hR0
      rw [if_pos hK]
      obtain ⟨M1, M2, M3⟩ := hQ k0
      rw [d8, f4, d3, ← hR0]
      refine ⟨?_, fun x hx => ?_, fun x hx => ?_⟩
      · show upd (cI s 109) 1 (nI (vN tp len (nX tp len p))) 0 = nI (upN D 10 (lnV tp len (nX tp len p) (mnO 11) 0) 0)
        exact ul (ur M1 (by decide)) (by decide)
      · exact uu (M2 x hx) (by omega)
      · exact ul (ur (M3 x hx) (by omega)) (by omega)
theorem M_lwLine2 {D : LwD} (h : MQo s tp len p k w) (hk : k ≤ 3) (hI : LwI D) (hQ : LwQ s D k i) (hd : kD tp len p = 1) (h1 : 13 ≤ wC tp len p) (h2 : wC tp len p ≤ 17) (hn : 3000 ≤ n) : ∃ s', F_X11_lawLine n s (some 106) = some s' ∧ MH s s' ∧ MQz s' tp len (nxt tp len 1 p) (chkP lwCk tp len 1 p D k w).2.1 (chkP lwCk tp len 1 p D k w).2.2 (synE tp len 1 p) ∧ (synE tp len 1 p = none → LwQ s' (chkP lwCk tp len 1 p D k w).1 (chkP lwCk tp len 1 p D k w).2.1 (i + 1)) := by
  have S := h.1.1
  obtain ⟨f, hf⟩ : ∃ f, wC tp len p = f + 1 := ⟨wC tp len p - 1, by omega⟩
  obtain ⟨s1, e1, g1, q1⟩ := M_takes_t (n := n) h (a := 11) (b := 17) hd (by omega) (by omega) (by decide) hn
  rw [hf] at e1
  have e1 : F_X11_takes n s (some 106) (11 : Int32) (17 : Int32) = some (nI (f + 1), s1) := e1
  have S1 := q1.1.1
  obtain ⟨s3, e3, g3, q3⟩ := M_num (n := n) (z := none) (lo := 0) (hi := 50) q1 hk (by decide) (by decide) hn
  have e3 : F_X11_numbered n s1 (some 106) (0 : Int32) (50 : Int32) = _ := e3
  have d3 : cI s3 109 = cI s 109 := (cI_o g3.1 (by decide)).trans (cI_o g1.1 (by decide))
  generalize hR0 : nmR tp len 0 50 (nX tp len p) none = R0 at *
  obtain ⟨s4, e4, m4, q4, f4⟩ := M_wr q3 (j := 1 + (f - 11)) (by omega) R0
  have S4 := q4.sh
  have mp : F_X11_mostPer n s4 (nI (f - 11)) = some (zI (lwMo f 1)) := by
    rcases (show f = 12 ∨ f = 13 ∨ f = 14 ∨ f = 15 ∨ f = 16 by omega) with rfl | rfl | rfl | rfl | rfl <;> rfl
  have mb : -10000 ≤ lwMo f 1 ∧ lwMo f 1 ≤ 10000 := by unfold lwMo; rw [if_neg (by decide)]; (repeat (first | omega | split))
  obtain ⟨s5, e5, g5, q5⟩ := M_num (n := n) (lo := 1) (hi := lwMo f 1) q4 (nmK_le hk) (by decide) mb hn
  have e5 : F_X11_numbered n s4 (some 106) (1 : Int32) (zI (lwMo f 1)) = _ := e5
  have d5 : cI s5 109 = cI s4 109 := cI_o g5.1 (by decide)
  generalize hR1 : nmR tp len 1 (lwMo f 1) (nX tp len (nX tp len p)) (nmZ tp len (nX tp len p) none) = R1 at *
  obtain ⟨s6, e6, m6, q6, f6⟩ := M_wr q5 (j := 7 + (f - 11)) (by omega) R1
  have S6 := q6.sh
  obtain ⟨s8, e8, g8, q8⟩ := M_end (n := n) q6 hn
  have d8 : cI s8 109 = cI s6 109 := cI_o g8.1 (by decide)
  have hg0 : gFo 1 (wC tp len p) = some f := by
    unfold gFo
    rw [if_neg (show ¬ (1 : Nat) = 0 by decide), if_pos (show (1 : Nat) = 1 from rfl), if_pos (by omega), hf]
    rfl
  obtain ⟨sy, fr⟩ := M_line0 hd hg0
  have mn : mnO f = 2 := by rcases (show f = 12 ∨ f = 13 ∨ f = 14 ∨ f = 15 ∨ f = 16 by omega) with rfl | rfl | rfl | rfl | rfl <;> rfl
  refine ⟨s8, ?_, (((g1.mh.trans g3.mh).trans (m4.trans g5.mh)).trans m6).trans g8.mh, ?_⟩
  · have c11 : (nI (f + 1) = (11 : Int32)) = False := by
      have : (nI (f + 1) = nI 11) = (f + 1 = 11) := nEq (by omega) (by decide)
      exact this.trans (eq_false (by omega))
    have l11 : (nI (f + 1) ≤ (11 : Int32)) = False := by
      have : (nI (f + 1) ≤ nI 11) = (f + 1 ≤ 11) := nLe (by omega) (by decide)
      exact this.trans (eq_false (by omega))
    have s12 : nI (f + 1) - (12 : Int32) = nI (f - 11) := by
      rw [show nI (f + 1) - (12 : Int32) = nI (f + 1 - 12) from nSub (b := 12) (by omega)]
      congr 1
    have l0 : (nI (f - 11) ≤ (0 : Int32)) = False := by
      have : (nI (f - 11) ≤ nI 0) = (f - 11 ≤ 0) := nLe (by omega) (by decide)
      exact this.trans (eq_false (by omega))
    have a1 : (1 : Int32) + nI (f - 11) = nI (1 + (f - 11)) := nAdd 1 _
    have a7 : (7 : Int32) + nI (f - 11) = nI (7 + (f - 11)) := nAdd 7 _
    unfold F_X11_lawLine
    simp only [↓bnd (o106 S), ↓bnd (e1), Option.bind_some, c11, if_false, l11, s12, ↓bnd (g106_9 S1), ↓bnd (o106 S1), ↓bnd (e3), a1, ↓bnd (e4), l0, if_false, ↓bnd (g106_9 S4), ↓bnd (mp), ↓bnd (o106 S4), ↓bnd (e5), a7, ↓bnd (e6), ↓bnd (o106 S6), ↓bnd (e8)]
  · have hz : enZ tp len (nX tp len (nX tp len (nX tp len p))) (nmZ tp len (nX tp len (nX tp len p)) (nmZ tp len (nX tp len p) none)) = synE tp len 1 p := by
      rw [sy, ← chZ_n, mn]
      rfl
    rw [hz] at q8
    cases hs : synE tp len 1 p with
    | some e => rw [hs] at q8; exact ⟨q8, fun q => by cases q⟩
    | none =>
      rw [hs] at q8
      have hl := hs
      rw [sy] at hl
      obtain ⟨kd, -⟩ := lnE_n _ _ hl
      rw [mn] at kd
      have kd0 : kD tp len (nX tp len p) = 2 := kd 0 (by decide) (by decide)
      have kd1 : kD tp len (nX tp len (nX tp len p)) = 2 := kd 1 (by decide) (by decide)
      have nx : nxt tp len 1 p = npn tp len (nX tp len p) (2 + 1) := by unfold nxt; rw [fr, mn]
      have ch := chk_g (ck := lwCk) (full := False) (fu := False) (le := lwLe) (mo := lwMo f) (cpl := False) (D := D) (D' := lwTk D f (lnV tp len (nX tp len p) (mnO f))) (k := k) (w := w) fr rfl (fun _ => Iff.rfl)
      have u1 : fuK False k = k := rfl
      have u2 : fuW False k (nI (qB tp len p)) w = w := rfl
      rw [u1, u2, mn] at ch
      have m0 : lwMo f 0 = 50 := by unfold lwMo; rw [if_pos rfl, if_neg (by omega)]
      have b0 : bdP lwLe (lwMo f) False (lnV tp len (nX tp len p) 2) 0 ↔ ¬ nmIn tp len 0 50 (nX tp len p) := by
        have := bd_in (tp := tp) (len := len) (p := nX tp len p) (le := lwLe) (mo := lwMo f) (cpl := False) (v := lnV tp len (nX tp len p) 2) (j := 0) (fun q => q.2) rfl
        rw [m0] at this
        exact this
      have b1 : bdP lwLe (lwMo f) False (lnV tp len (nX tp len p) 2) 1 ↔ ¬ nmIn tp len 1 (lwMo f 1) (nX tp len (nX tp len p)) := bd_in (fun q => q.2) rfl
      rw [nm_bK b1, nm_bW b1, nm_bK b0, nm_bW b0] at q8
      rw [ch, nx]
      refine ⟨q8, fun _ hK => ?_⟩
      have hK : cK lwLe (lwMo f) False (lnV tp len (nX tp len p) 2) 2 0 k = 0 := hK
      obtain ⟨k0, a2⟩ := cK_0 hK
      have nb := fbR_none _ _ a2
      have n0 : nmIn tp len 0 50 (nX tp len p) := Classical.byContradiction fun q => nb 0 (by decide) (by decide) (b0.mpr q)
      have n1 : nmIn tp len 1 (lwMo f 1) (nX tp len (nX tp len p)) := Classical.byContradiction fun q => nb 1 (by decide) (by decide) (b1.mpr q)
      rw [nmZ_i kd0] at hR1
      rw [nmR_in kd0 n0] at hR0
      rw [nmR_in kd1 n1] at hR1
      have lt : lwTk D f (lnV tp len (nX tp len p) 2) = upN (upN D (f - 1) (vN tp len (nX tp len p))) (f + 9) (vN tp len (nX tp len (nX tp len p))) := by unfold lwTk; rw [if_neg (by omega), if_neg (by omega)]; rfl
      rw [if_pos hK, lt]
      obtain ⟨M1, M2, M3⟩ := hQ k0
      rw [d8, f6, d5, f4, d3, ← hR0, ← hR1]
      refine ⟨?_, fun x hx => ?_, fun x hx => ?_⟩
      · show upd (upd (cI s 109) (1 + (f - 11)) (nI (vN tp len (nX tp len p)))) (7 + (f - 11)) (nI (vN tp len (nX tp len (nX tp len p)))) 0 = nI (upN (upN D (f - 1) (vN tp len (nX tp len p))) (f + 9) (vN tp len (nX tp len (nX tp len p))) 0)
        exact ul (ul (ur (ur M1 (show 0 ≠ f - 1 by omega)) (show 0 ≠ f + 9 by omega)) (by omega)) (by omega)
      · exact uu (uu (M2 x hx) (by omega)) (by omega)
      · exact uu (uu (M3 x hx) (by omega)) (by omega)
theorem LnH_lw (hn : 3000 ≤ n) : LnH n 1 F_X11_lawLine LwQ LwI lwCk := by
  intro s tp len p k w D i h hk hi hI hQ
  by_cases hd : kD tp len p = 1 ∧ 11 ≤ wC tp len p ∧ wC tp len p ≤ 17
  · by_cases w1 : wC tp len p = 11
    · exact M_lwLine0 h hk hI hQ hd.1 w1 hn
    · by_cases w2 : wC tp len p = 12
      · exact M_lwLine1 h hk hI hQ hd.1 w2 hn
      · exact M_lwLine2 h hk hI hQ hd.1 (by omega) (by omega) hn
  · have S := h.1.1
    obtain ⟨s1, e1, g1, q1⟩ := M_takes_f (n := n) h (a := 11) (b := 17) hd (by decide) (by decide)
    have e1 : F_X11_takes n s (some 106) (11 : Int32) (17 : Int32) = some ((-1 : Int32), s1) := e1
    obtain ⟨s', e', m', q'⟩ := M_line1 (n := n) (so := 1) (KQ := LwQ) (ck := lwCk) (D := D) (k := k) (w := w) (i := i) S g1 q1 (fun q => by
      obtain ⟨q1, f, hf⟩ := q
      unfold gFo at hf
      rw [if_neg (show ¬ (1 : Nat) = 0 by decide), if_pos (show (1 : Nat) = 1 from rfl), if_neg (fun x => hd ⟨q1, x⟩)] at hf
      cases hf)
    refine ⟨s', ?_, m', q'⟩
    unfold F_X11_lawLine
    simp only [↓bnd (o106 S), ↓bnd (e1), Option.bind_some, show ((-1 : Int32) = (11 : Int32)) = False by decide, show ((-1 : Int32) ≤ (11 : Int32)) = True by decide, if_false, if_true, ↓bnd (o106 q1.1.1), ↓bnd (e')]
end L3

/-! A SIDE'S LINE, MILES: the model -/
section L2
variable {st st1 st2 s s1 : xS} {n len p k e i : Nat} {tp : Nat → Nat} {w : Int32} {z : Option Nat}
theorem nmK_s {lo hi : Int} (h : k ≠ 0) : nmK tp len lo hi p k = k ∧ nmW tp len lo hi p k w = w := by
  unfold nmK nmW
  rw [if_neg h, if_neg h]
  exact ⟨rfl, rfl⟩
theorem anK_s {lo hi : Int} {a : Int32} (h : k ≠ 0) : anK tp len lo hi a p k = k ∧ anW tp len lo hi a p k w = w := by
  unfold anK anW
  rw [if_neg h, if_neg h]
  exact ⟨rfl, rfl⟩
theorem fuK_s {full : Prop} [Decidable full] {a : Int32} (h : k ≠ 0) : fuK full k = k ∧ fuW full k a w = w := by
  unfold fuK fuW
  rw [if_neg h, if_neg h]
  constructor <;> split <;> rfl
theorem chkP_s {α : Type} {ck : α → Nat → (Nat → Nat) → Nat × Nat × α} {so : Nat} {D : α} (h : k ≠ 0) : chkP ck tp len so p D k w = (D, k, w) := by
  unfold chkP
  rw [if_neg h]
theorem M_lgLine1 {D : LgD} (h : MQo s tp len p k w) (hk : k ≤ 3) (hi : i ≤ 500) (hI : LgI D) (hQ : LgQ s D k i) (hd : kD tp len p = 1) (hw : wC tp len p = 2) (hn : 3000 ≤ n) : ∃ s', F_X11_leagueLine n s (some 106) = some s' ∧ MH s s' ∧ MQz s' tp len (nxt tp len 0 p) (chkP lgCk tp len 0 p D k w).2.1 (chkP lgCk tp len 0 p D k w).2.2 (synE tp len 0 p) ∧ (synE tp len 0 p = none → LgQ s' (chkP lgCk tp len 0 p D k w).1 (chkP lgCk tp len 0 p D k w).2.1 (i + 1)) := by
  have S := h.1.1
  obtain ⟨g, t, c0, c1, gi, ti, hM⟩ := hQ
  obtain ⟨t5, t4, t6, t7⟩ := MQ_t h
  have t7 := t7 hd
  rw [hw] at t7
  have km := (kM_i tp len p).2.2.2.1.mpr ⟨hd, by omega⟩
  rw [km] at t5
  obtain ⟨s1, e1, g1, q1⟩ := M_takes_t (n := n) h (a := 1) (b := 2) hd (by omega) (by omega) (by decide) hn
  rw [hw] at e1
  have e1 : F_X11_takes n s (some 106) (1 : Int32) (2 : Int32) = some ((2 : Int32), s1) := e1
  have S1 := q1.1.1
  have d1 : cI s1 109 = cI s 109 := cI_o g1.1 (by decide)
  have r1 : aI s1 (some 109) (1 : Int32) = some (nI t) := by
    have : aI s1 (some 109) (1 : Int32) = some (cI s1 109 1) := aI109 S1 (by decide)
    rw [this, d1, c1]
  obtain ⟨s2, e2, g2, q2⟩ := M_full (n := n) (g := t) (lim := 8) q1 hk h.2.2.2.2.2.2 h.2.2.1 (by omega) (by omega) (by decide)
  have e2 : ((if nI t < (8 : Int32) then some s1 else (isO s1 (some 106) 11).bind fun q14 => (F_X11_also n s1 (some 106) (3 : Int32) (nI (qB tp len p))).bind fun s13 => some s13) : Option xS) = some s2 := e2
  have k1 := fuK_le (full := 8 ≤ t) hk
  generalize hK1 : fuK (8 ≤ t) k = K1 at *
  generalize hW1 : fuW (8 ≤ t) k (nI (qB tp len p)) w = W1 at *
  have S2 := q2.1.1
  have d2 : cI s2 109 = cI s 109 := (cI_o g2.1 (by decide)).trans d1
  have r2 : aI s2 (some 109) (0 : Int32) = some (nI g) := by
    have : aI s2 (some 109) (0 : Int32) = some (cI s2 109 0) := aI109 S2 (by decide)
    rw [this, d2, c0]
  have gm : nI g - (1 : Int32) = zI ((g : Int) - 1) := nSubZ g 1
  obtain ⟨s3, e3, g3, q3⟩ := M_num (n := n) (z := none) (lo := 0) (hi := (g : Int) - 1) q2 k1 (by decide) (by omega) hn
  have e3 : F_X11_numbered n s2 (some 106) (0 : Int32) (zI ((g : Int) - 1)) = _ := e3
  have S3 := q3.sh
  obtain ⟨s5, e5, g5, q5⟩ := M_num (n := n) (lo := 0) (hi := 50) q3 (nmK_le k1) (by decide) (by decide) hn
  have e5 : F_X11_numbered n s3 (some 106) (0 : Int32) (50 : Int32) = _ := e5
  have S5 := q5.sh
  have G5 := ((g1.trans g2).trans g3).trans g5
  have d5 : cI s5 109 = cI s 109 := cI_o G5.1 (by decide)
  have r5 : aI s5 (some 109) (1 : Int32) = some (nI t) := by
    have : aI s5 (some 109) (1 : Int32) = some (cI s5 109 1) := aI109 S5 (by decide)
    rw [this, d5, c1]
  generalize hR0 : nmR tp len 0 ((g : Int) - 1) (nX tp len p) none = R0 at *
  generalize hR1 : nmR tp len 0 50 (nX tp len (nX tp len p)) (nmZ tp len (nX tp len p) none) = R1 at *
  have l8 : ((8 : Int32) ≤ nI t) = (8 ≤ t) := nLe (a := 8) (by decide) (by omega)
  have wr : ∃ s6, ((if (8 : Int32) ≤ nI t then some s5 else (gR s5 (some 106) 11 9).bind fun v24 => (gR s5 (some 106) 11 9).bind fun v25 => (aI s5 v25 (1 : Int32)).bind fun v26 => (sS 0 s5 v24 ((32 : Int32) + v26) R0).bind fun s27 => (gR s27 (some 106) 11 9).bind fun v28 => (gR s27 (some 106) 11 9).bind fun v29 => (aI s27 v29 (1 : Int32)).bind fun v30 => (sS 0 s27 v28 ((40 : Int32) + v30) R1).bind fun s31 => some s31) : Option xS) = some s6 ∧ MH s5 s6 ∧ (∀ P K W Z, MQz s5 tp len P K W Z → MQz s6 tp len P K W Z) ∧ cI s6 109 0 = nI g ∧ cI s6 109 1 = nI t ∧ (t < 8 → cI s6 109 = upd (upd (cI s 109) (32 + t) R0) (40 + t) R1) := by
    by_cases c : 8 ≤ t
    · exact ⟨s5, by rw [if_pos (by rw [l8]; exact c)], MH.refl S5, fun _ _ _ _ q => q, by rw [d5]; exact c0, by rw [d5]; exact c1, fun q => by omega⟩
    · have w1 := w109n S5 (i := 32 + t) (by omega) R0
      have m1 := MH_9 S5 (x := 109) (Or.inl rfl) (upd (cI s5 109) (32 + t) R0)
      have f1 := k109 S5 (upd (cI s5 109) (32 + t) R0)
      have z1 : ∀ P K W Z, MQz s5 tp len P K W Z → MQz (wA s5 109 (upd (cI s5 109) (32 + t) R0)) tp len P K W Z := fun P K W Z q => q.w9 S5 (Or.inl rfl) _
      generalize wA s5 109 (upd (cI s5 109) (32 + t) R0) = a1 at *
      have A1 := m1.1.2.2.1
      have x1 : aI a1 (some 109) (1 : Int32) = some (nI t) := by
        have : aI a1 (some 109) (1 : Int32) = some (cI a1 109 1) := aI109 A1 (by decide)
        rw [this, f1, pk_un (by omega), d5, c1]
      have w2 := w109n A1 (i := 40 + t) (by omega) R1
      have m2 := MH_9 A1 (x := 109) (Or.inl rfl) (upd (cI a1 109) (40 + t) R1)
      have f2 := k109 A1 (upd (cI a1 109) (40 + t) R1)
      have z2 : ∀ P K W Z, MQz a1 tp len P K W Z → MQz (wA a1 109 (upd (cI a1 109) (40 + t) R1)) tp len P K W Z := fun P K W Z q => q.w9 A1 (Or.inl rfl) _
      generalize wA a1 109 (upd (cI a1 109) (40 + t) R1) = a2 at *
      refine ⟨a2, ?_, m1.trans m2, fun P K W Z q => z2 _ _ _ _ (z1 _ _ _ _ q), ?_, ?_, fun _ => by rw [f2, f1, d5]⟩
      · have i1 : (32 : Int32) + nI t = nI (32 + t) := nAdd 32 t
        have i2 : (40 : Int32) + nI t = nI (40 + t) := nAdd 40 t
        simp only [l8, eq_false c, if_false, ↓bnd (g106_9 S5), ↓bnd (r5), i1, i2, ↓bnd (w1), ↓bnd (g106_9 A1), ↓bnd (x1), ↓bnd (w2)]
      · rw [f2, pk_un (by omega), f1, pk_un (by omega), d5, c0]
      · rw [f2, pk_un (by omega), f1, pk_un (by omega), d5, c1]
  obtain ⟨s6, e6, m6, z6, y0, y1, y2⟩ := wr
  have q6 := z6 _ _ _ _ q5
  have S6 := q6.sh
  have r6 : aI s6 (some 109) (1 : Int32) = some (nI t) := by
    have : aI s6 (some 109) (1 : Int32) = some (cI s6 109 1) := aI109 S6 (by decide)
    rw [this, y1]
  have w7 : sS 0 s6 (some 109) (1 : Int32) (nI (t + 1)) = _ := w109n S6 (i := 1) (by decide) (nI (t + 1))
  have m7 := MH_9 S6 (x := 109) (Or.inl rfl) (upd (cI s6 109) 1 (nI (t + 1)))
  have f7 := k109 S6 (upd (cI s6 109) 1 (nI (t + 1)))
  have q7 := q6.w9 S6 (Or.inl rfl) (upd (cI s6 109) 1 (nI (t + 1)))
  generalize wA s6 109 (upd (cI s6 109) 1 (nI (t + 1))) = s7 at *
  have S7 := q7.sh
  obtain ⟨s8, e8, g8, q8⟩ := M_end (n := n) q7 hn
  have d8 : cI s8 109 = cI s7 109 := cI_o g8.1 (by decide)
  have hg0 : gFo 0 (wC tp len p) = some 1 := by rw [hw]; rfl
  obtain ⟨sy, fr⟩ := M_line0 hd hg0
  refine ⟨s8, ?_, ((G5.mh.trans m6).trans m7).trans g8.mh, ?_⟩
  · unfold F_X11_leagueLine
    simp only [↓bnd (t4), ↓bnd (t5), show (nI 3 = (3 : Int32)) = True by decide, if_true, ↓bnd (t7), show (nI 2 = (13 : Int32)) = False by decide, if_false, ↓bnd (o106 S), ↓bnd (e1), Option.bind_some, show ((2 : Int32) = (1 : Int32)) = False by decide, ↓bnd (g106_9 S1), ↓bnd (r1), ↓bnd (e2), ↓bnd (g106_9 S2), ↓bnd (r2), ↓bnd (o106 S2), gm, ↓bnd (e3), ↓bnd (o106 S3), ↓bnd (e5), ↓bnd (g106_9 S5), ↓bnd (r5), ↓bnd (e6), ↓bnd (g106_9 S6), ↓bnd (r6), nI_1, ↓bnd (w7), ↓bnd (o106 S7), ↓bnd (e8)]
  · have hz : enZ tp len (nX tp len (nX tp len (nX tp len p))) (nmZ tp len (nX tp len (nX tp len p)) (nmZ tp len (nX tp len p) none)) = synE tp len 0 p := by
      rw [sy, ← chZ_n]
      rfl
    rw [hz] at q8
    cases hs : synE tp len 0 p with
    | some e => rw [hs] at q8; exact ⟨q8, fun q => by cases q⟩
    | none =>
      rw [hs] at q8
      have hl := hs
      rw [sy] at hl
      obtain ⟨kd, -⟩ := lnE_n _ _ hl
      have kd0 : kD tp len (nX tp len p) = 2 := kd 0 (by decide) (by decide)
      have kd1 : kD tp len (nX tp len (nX tp len p)) = 2 := kd 1 (by decide) (by decide)
      have nx : nxt tp len 0 p = npn tp len (nX tp len p) (mnO 1 + 1) := by unfold nxt; rw [fr]
      by_cases k0 : k = 0
      · obtain ⟨gD, tD, M⟩ := hM k0
        have ch := chk_g (ck := lgCk) (full := lgFull D 1) (fu := 8 ≤ t) (le := fun _ => 0) (mo := lgMo D 1) (cpl := (1 : Nat) = 2) (D := D) (D' := lgTk D 1 (lnV tp len (nX tp len p) (mnO 1))) (k := k) (w := w) fr rfl (fun k0 => by rw [tD]; exact ⟨fun q => Or.inr ⟨rfl, q⟩, fun q => by rcases q with ⟨q, -⟩ | ⟨-, q⟩; omega; exact q⟩)
        rw [hK1, hW1] at ch
        rw [gD] at hR0 q8
        have b0 : bdP (fun _ => 0) (lgMo D 1) ((1 : Nat) = 2) (lnV tp len (nX tp len p) (mnO 1)) 0 ↔ ¬ nmIn tp len 0 ((D.g : Int) - 1) (nX tp len p) := bd_in (by decide) rfl
        have b1 : bdP (fun _ => 0) (lgMo D 1) ((1 : Nat) = 2) (lnV tp len (nX tp len p) (mnO 1)) 1 ↔ ¬ nmIn tp len 0 50 (nX tp len (nX tp len p)) := bd_in (by decide) rfl
        rw [nm_bK b1, nm_bW b1, nm_bK b0, nm_bW b0] at q8
        rw [ch, nx]
        refine ⟨q8, fun _ => ⟨g, t + 1, ?_, ?_, by omega, by omega, fun hK => ?_⟩⟩
        · rw [d8, f7, pk_un (by decide), y0]
        · rw [d8, f7, upd_s]
        · have hK : cK (fun _ => 0) (lgMo D 1) ((1 : Nat) = 2) (lnV tp len (nX tp len p) (mnO 1)) (mnO 1) 0 K1 = 0 := hK
          obtain ⟨a1, a2⟩ := cK_0 hK
          rw [← hK1] at a1
          obtain ⟨-, nf⟩ := fuK_0 a1
          have t8 : t < 8 := by omega
          have nb := fbR_none _ _ a2
          have n0 : nmIn tp len 0 ((D.g : Int) - 1) (nX tp len p) := Classical.byContradiction fun q => nb 0 (by decide) (by decide) (b0.mpr q)
          have n1 : nmIn tp len 0 50 (nX tp len (nX tp len p)) := Classical.byContradiction fun q => nb 1 (by decide) (by decide) (b1.mpr q)
          rw [nmZ_i kd0] at hR1
          rw [nmR_in kd0 n0] at hR0
          rw [nmR_in kd1 n1] at hR1
          rw [if_pos hK]
          refine ⟨gD, by rw [tD]; rfl, ?_⟩
          rw [d8, f7, y2 t8, ← hR0, ← hR1, tD]
          rw [tD] at t8
          obtain ⟨M1, M2, M3, M4, M5, M6, M7, M8⟩ := M
          refine ⟨ul (ul (ul M1 (by omega)) (by omega)) (by omega), upd_s _ _ _, fun x hx => ?_, fun x hx => ?_, fun x hx => ?_, fun x hx => ?_, fun x hx => ?_, fun x y hx hy => ?_⟩
          · exact ul (uu (uu (M3 x hx) (by omega)) (by omega)) (by omega)
          · exact ul (uu (uu (M4 x hx) (by omega)) (by omega)) (by omega)
          · exact ul (uu (uu (M5 x hx) (by omega)) (by omega)) (by omega)
          · exact ul (uu (uu (M6 x hx) (by omega)) (by omega)) (by omega)
          · exact ul (uu (uu (M7 x hx) (by omega)) (by omega)) (by omega)
          · exact ul (ul (ul (M8 x y hx hy) (by omega)) (by omega)) (by omega)
      · have f1 := fuK_s (full := 8 ≤ t) (a := nI (qB tp len p)) (w := w) k0
        rw [hK1, hW1] at f1
        rw [f1.1, f1.2, (nmK_s (w := w) k0).1, (nmK_s (w := w) k0).2, (nmK_s (w := w) k0).1, (nmK_s (w := w) k0).2] at q8
        rw [chkP_s k0, nx]
        refine ⟨q8, fun _ => ⟨g, t + 1, ?_, ?_, by omega, by omega, fun hK => absurd hK k0⟩⟩
        · rw [d8, f7, pk_un (by decide), y0]
        · rw [d8, f7, upd_s]
theorem M_lgLine2 {D : LgD} (h : MQo s tp len p k w) (hk : k ≤ 3) (hi : i ≤ 500) (hI : LgI D) (hQ : LgQ s D k i) (hd : kD tp len p = 1) (hw : wC tp len p = 13) (hn : 3000 ≤ n) : ∃ s', F_X11_leagueLine n s (some 106) = some s' ∧ MH s s' ∧ MQz s' tp len (nxt tp len 0 p) (chkP lgCk tp len 0 p D k w).2.1 (chkP lgCk tp len 0 p D k w).2.2 (synE tp len 0 p) ∧ (synE tp len 0 p = none → LgQ s' (chkP lgCk tp len 0 p D k w).1 (chkP lgCk tp len 0 p D k w).2.1 (i + 1)) := by
  have S := h.1.1
  obtain ⟨g, t, c0, c1, gi, ti, hM⟩ := hQ
  obtain ⟨t5, t4, t6, t7⟩ := MQ_t h
  have t7 := t7 hd
  rw [hw] at t7
  have km := (kM_i tp len p).2.2.2.1.mpr ⟨hd, by omega⟩
  rw [km] at t5
  obtain ⟨s1, e1, g1, q1⟩ := M_takes_t (n := n) h (a := 13) (b := 13) hd (by omega) (by omega) (by decide) hn
  rw [hw] at e1
  have e1 : F_X11_takes n s (some 106) (13 : Int32) (13 : Int32) = some ((13 : Int32), s1) := e1
  have S1 := q1.1.1
  have gm : nI g - (1 : Int32) = zI ((g : Int) - 1) := nSubZ g 1
  have rd : ∀ s', cI s' 109 = cI s 109 → Sh s' → aI s' (some 109) (0 : Int32) = some (nI g) := fun s' d S' => by
    have : aI s' (some 109) (0 : Int32) = some (cI s' 109 0) := aI109 S' (by decide)
    rw [this, d, c0]
  have d1 : cI s1 109 = cI s 109 := cI_o g1.1 (by decide)
  obtain ⟨s3, e3, g3, q3⟩ := M_num (n := n) (z := none) (lo := 0) (hi := (g : Int) - 1) q1 hk (by decide) (by omega) hn
  have e3 : F_X11_numbered n s1 (some 106) (0 : Int32) (zI ((g : Int) - 1)) = _ := e3
  have S3 := q3.sh
  have d3 : cI s3 109 = cI s 109 := (cI_o g3.1 (by decide)).trans d1
  generalize hR0 : nmR tp len 0 ((g : Int) - 1) (nX tp len p) none = R0 at *
  obtain ⟨s4, e4, g4, q4⟩ := M_ano (n := n) (lo := 0) (hi := (g : Int) - 1) q3 (nmK_le hk) R0 (by decide) (by omega) hn
  have e4 : F_X11_another n s3 (some 106) (0 : Int32) (zI ((g : Int) - 1)) R0 = _ := e4
  have S4 := q4.sh
  obtain ⟨s5, e5, g5, q5⟩ := M_num (n := n) (lo := 0) (hi := 9999) q4 (anK_le (nmK_le hk)) (by decide) (by decide) hn
  have e5 : F_X11_numbered n s4 (some 106) (0 : Int32) (9999 : Int32) = _ := e5
  have S5 := q5.sh
  have G5 := ((g1.trans g3).trans g4).trans g5
  have d5 : cI s5 109 = cI s 109 := cI_o G5.1 (by decide)
  generalize hR1 : nmR tp len 0 ((g : Int) - 1) (nX tp len (nX tp len p)) (nmZ tp len (nX tp len p) none) = R1 at *
  generalize hR2 : nmR tp len 0 9999 (nX tp len (nX tp len (nX tp len p))) (nmZ tp len (nX tp len (nX tp len p)) (nmZ tp len (nX tp len p) none)) = R2 at *
  have wr : ∃ s6, ((F_X11_isIn n s5 R0 (0 : Int32) (9 : Int32)).bind fun v75 => if v75 = (0 : Int32) then some s5 else (F_X11_isIn n s5 R1 (0 : Int32) (9 : Int32)).bind fun v76 => if v76 = (0 : Int32) then some s5 else (gR s5 (some 106) 11 9).bind fun v77 => (sS 0 s5 v77 (((50 : Int32) + ((10 : Int32) * R0)) + R1) R2).bind fun s78 => (gR s78 (some 106) 11 9).bind fun v79 => (sS 0 s78 v79 (((50 : Int32) + ((10 : Int32) * R1)) + R0) R2).bind fun s80 => some s80) = some s6 ∧ MH s5 s6 ∧ (∀ P K W Z, MQz s5 tp len P K W Z → MQz s6 tp len P K W Z) ∧ cI s6 109 0 = nI g ∧ cI s6 109 1 = nI t ∧ (∀ a b, a < 10 → b < 10 → R0 = nI a → R1 = nI b → cI s6 109 = upd (upd (cI s 109) (50 + 10 * a + b) R2) (50 + 10 * b + a) R2) := by
    rcases nCut R0 10 with ⟨a, ha, ra⟩ | ha
    · have x1 : F_X11_isIn n s5 R0 (0 : Int32) (9 : Int32) = some 1 := by rw [ra]; exact M_in_t (j := a) (b := 9) (by omega) (by decide)
      rcases nCut R1 10 with ⟨b, hb, rb⟩ | hb
      · have x2 : F_X11_isIn n s5 R1 (0 : Int32) (9 : Int32) = some 1 := by rw [rb]; exact M_in_t (j := b) (b := 9) (by omega) (by decide)
        have i1 : ((50 : Int32) + ((10 : Int32) * R0)) + R1 = nI (50 + 10 * a + b) := by
          rw [ra, rb, show (10 : Int32) * nI a = nI (10 * a) from nMul 10 a, show (50 : Int32) + nI (10 * a) = nI (50 + 10 * a) from nAdd 50 _, nAdd]
        have i2 : ((50 : Int32) + ((10 : Int32) * R1)) + R0 = nI (50 + 10 * b + a) := by
          rw [ra, rb, show (10 : Int32) * nI b = nI (10 * b) from nMul 10 b, show (50 : Int32) + nI (10 * b) = nI (50 + 10 * b) from nAdd 50 _, nAdd]
        have w1 := w109n S5 (i := 50 + 10 * a + b) (by omega) R2
        have m1 := MH_9 S5 (x := 109) (Or.inl rfl) (upd (cI s5 109) (50 + 10 * a + b) R2)
        have f1 := k109 S5 (upd (cI s5 109) (50 + 10 * a + b) R2)
        have z1 : ∀ P K W Z, MQz s5 tp len P K W Z → MQz (wA s5 109 (upd (cI s5 109) (50 + 10 * a + b) R2)) tp len P K W Z := fun P K W Z q => q.w9 S5 (Or.inl rfl) _
        generalize wA s5 109 (upd (cI s5 109) (50 + 10 * a + b) R2) = a1 at *
        have A1 := m1.1.2.2.1
        have w2 := w109n A1 (i := 50 + 10 * b + a) (by omega) R2
        have m2 := MH_9 A1 (x := 109) (Or.inl rfl) (upd (cI a1 109) (50 + 10 * b + a) R2)
        have f2 := k109 A1 (upd (cI a1 109) (50 + 10 * b + a) R2)
        have z2 : ∀ P K W Z, MQz a1 tp len P K W Z → MQz (wA a1 109 (upd (cI a1 109) (50 + 10 * b + a) R2)) tp len P K W Z := fun P K W Z q => q.w9 A1 (Or.inl rfl) _
        generalize wA a1 109 (upd (cI a1 109) (50 + 10 * b + a) R2) = a2 at *
        refine ⟨a2, ?_, m1.trans m2, fun P K W Z q => z2 _ _ _ _ (z1 _ _ _ _ q), ?_, ?_, fun a' b' ha' hb' ra' rb' => ?_⟩
        · simp only [↓bnd (x1), ↓bnd (x2), one0, if_false, i1, i2, ↓bnd (g106_9 S5), ↓bnd (w1), ↓bnd (g106_9 A1), ↓bnd (w2)]
        · rw [f2, pk_un (by omega), f1, pk_un (by omega), d5, c0]
        · rw [f2, pk_un (by omega), f1, pk_un (by omega), d5, c1]
        · have ea : a = a' := by have := ra.symm.trans ra'; rw [nEq (by omega) (by omega)] at this; exact this
          have eb : b = b' := by have := rb.symm.trans rb'; rw [nEq (by omega) (by omega)] at this; exact this
          rw [f2, f1, d5, ea, eb]
      · have x2 : F_X11_isIn n s5 R1 (0 : Int32) (9 : Int32) = some 0 := M_in_f (b := 9) hb (by decide)
        refine ⟨s5, ?_, MH.refl S5, fun _ _ _ _ q => q, by rw [d5]; exact c0, by rw [d5]; exact c1, fun a' b' ha' hb' ra' rb' => absurd rb' (hb b' hb')⟩
        simp only [↓bnd (x1), ↓bnd (x2), one0, if_false, if_true]
    · have x1 : F_X11_isIn n s5 R0 (0 : Int32) (9 : Int32) = some 0 := M_in_f (b := 9) ha (by decide)
      refine ⟨s5, ?_, MH.refl S5, fun _ _ _ _ q => q, by rw [d5]; exact c0, by rw [d5]; exact c1, fun a' b' ha' hb' ra' rb' => absurd ra' (ha a' ha')⟩
      simp only [↓bnd (x1), if_true]
  obtain ⟨s6, e6, m6, z6, y0, y1, y2⟩ := wr
  have q6 := z6 _ _ _ _ q5
  have S6 := q6.sh
  obtain ⟨s8, e8, g8, q8⟩ := M_end (n := n) q6 hn
  have d8 : cI s8 109 = cI s6 109 := cI_o g8.1 (by decide)
  have hg0 : gFo 0 (wC tp len p) = some 2 := by rw [hw]; rfl
  obtain ⟨sy, fr⟩ := M_line0 hd hg0
  refine ⟨s8, ?_, (G5.mh.trans m6).trans g8.mh, ?_⟩
  · unfold F_X11_leagueLine
    simp only [↓bnd (t4), ↓bnd (t5), show (nI 3 = (3 : Int32)) = True by decide, if_true, ↓bnd (t7), show (nI 13 = (13 : Int32)) = True by decide, ↓bnd (o106 S), ↓bnd (e1), Option.bind_some, show ((13 : Int32) = (1 : Int32)) = False by decide, show ((13 : Int32) = (2 : Int32)) = False by decide, if_false, ↓bnd (g106_9 S1), ↓bnd (rd s1 d1 S1), ↓bnd (o106 S1), gm, ↓bnd (e3), ↓bnd (g106_9 S3), ↓bnd (rd s3 d3 S3), ↓bnd (o106 S3), gm, ↓bnd (e4), ↓bnd (o106 S4), ↓bnd (e5), e6, ↓bnd (o106 S6), ↓bnd (e8)]
  · have hz : enZ tp len (nX tp len (nX tp len (nX tp len (nX tp len p)))) (nmZ tp len (nX tp len (nX tp len (nX tp len p))) (nmZ tp len (nX tp len (nX tp len p)) (nmZ tp len (nX tp len p) none))) = synE tp len 0 p := by
      rw [sy, ← chZ_n]
      rfl
    rw [hz] at q8
    cases hs : synE tp len 0 p with
    | some e => rw [hs] at q8; exact ⟨q8, fun q => by cases q⟩
    | none =>
      rw [hs] at q8
      have hl := hs
      rw [sy] at hl
      obtain ⟨kd, -⟩ := lnE_n _ _ hl
      have kd0 : kD tp len (nX tp len p) = 2 := kd 0 (by decide) (by decide)
      have kd1 : kD tp len (nX tp len (nX tp len p)) = 2 := kd 1 (by decide) (by decide)
      have kd2 : kD tp len (nX tp len (nX tp len (nX tp len p))) = 2 := kd 2 (by decide) (by decide)
      have nx : nxt tp len 0 p = npn tp len (nX tp len p) (mnO 2 + 1) := by unfold nxt; rw [fr]
      have z0 : cI s8 109 0 = nI g := by rw [d8]; exact y0
      have z1 : cI s8 109 1 = nI t := by rw [d8]; exact y1
      by_cases k0 : k = 0
      · subst k0
        obtain ⟨gD, tD, M⟩ := hM rfl
        have g10 := hI.1
        have ch := chk_g (ck := lgCk) (full := lgFull D 2) (fu := False) (le := fun _ => 0) (mo := lgMo D 2) (cpl := (2 : Nat) = 2) (D := D) (D' := lgTk D 2 (lnV tp len (nX tp len p) (mnO 2))) (k := 0) (w := w) fr rfl (fun _ => ⟨fun q => q.elim, fun q => by rcases q with ⟨q, -⟩ | ⟨q, -⟩ <;> omega⟩)
        have u1 : fuK False 0 = 0 := rfl
        have u2 : fuW False 0 (nI (qB tp len p)) w = w := rfl
        rw [u1, u2] at ch
        rw [gD] at hR0 hR1 q8
        have b0 : bdP (fun _ => 0) (lgMo D 2) ((2 : Nat) = 2) (lnV tp len (nX tp len p) (mnO 2)) 0 ↔ ¬ nmIn tp len 0 ((D.g : Int) - 1) (nX tp len p) := bd_in (by decide) rfl
        have b2 : bdP (fun _ => 0) (lgMo D 2) ((2 : Nat) = 2) (lnV tp len (nX tp len p) (mnO 2)) 2 ↔ ¬ nmIn tp len 0 9999 (nX tp len (nX tp len (nX tp len p))) := bd_in (by decide) rfl
        by_cases n0 : nmIn tp len 0 ((D.g : Int) - 1) (nX tp len p)
        · rw [nmR_in kd0 n0] at hR0
          have dw0 := digitsW kd0
          have dw1 := digitsW kd1
          have b1 : bdP (fun _ => 0) (lgMo D 2) ((2 : Nat) = 2) (lnV tp len (nX tp len p) (mnO 2)) 1 ↔ ¬ (nmIn tp len 0 ((D.g : Int) - 1) (nX tp len (nX tp len p)) ∧ ¬ nI (vN tp len (nX tp len (nX tp len p))) = R0) := by
            have e01 : lnV tp len (nX tp len p) (mnO 2) 1 = vN tp len (nX tp len (nX tp len p)) := rfl
            have e00 : lnV tp len (nX tp len p) (mnO 2) 0 = vN tp len (nX tp len p) := rfl
            have m1 : lgMo D 2 1 = (D.g : Int) - 1 := rfl
            unfold bdP nmIn
            rw [e01, e00, m1, ← hR0, nEq (by omega) (by omega)]
            show ((1 : Nat) = 1 ∧ (2 : Nat) = 2 ∧ vN tp len (nX tp len (nX tp len p)) = vN tp len (nX tp len p)) ∨ (vN tp len (nX tp len (nX tp len p)) : Int) < 0 ∨ (D.g : Int) - 1 < (vN tp len (nX tp len (nX tp len p)) : Int) ↔ _
            constructor
            · rintro (⟨-, -, q⟩ | q | q) ⟨x, y⟩
              · exact y q
              · omega
              · omega
            · intro q
              by_cases c : vN tp len (nX tp len (nX tp len p)) = vN tp len (nX tp len p)
              · exact Or.inl ⟨rfl, rfl, c⟩
              · by_cases c2 : (vN tp len (nX tp len (nX tp len p)) : Int) < 0
                · exact Or.inr (Or.inl c2)
                · exact Or.inr (Or.inr (Classical.byContradiction fun c3 => q ⟨⟨by omega, by omega⟩, c⟩))
          rw [nm_bK b2, nm_bW b2, an_bK b1, an_bW b1, nm_bK b0, nm_bW b0] at q8
          rw [ch, nx]
          refine ⟨q8, fun _ => ⟨g, t, z0, z1, by omega, by omega, fun hK => ?_⟩⟩
          have hK : cK (fun _ => 0) (lgMo D 2) ((2 : Nat) = 2) (lnV tp len (nX tp len p) (mnO 2)) (mnO 2) 0 0 = 0 := hK
          obtain ⟨-, a2⟩ := cK_0 hK
          have nb := fbR_none _ _ a2
          have n1 : nmIn tp len 0 ((D.g : Int) - 1) (nX tp len (nX tp len p)) ∧ ¬ nI (vN tp len (nX tp len (nX tp len p))) = R0 := Classical.byContradiction fun q => nb 1 (by decide) (by decide) (b1.mpr q)
          have n2 : nmIn tp len 0 9999 (nX tp len (nX tp len (nX tp len p))) := Classical.byContradiction fun q => nb 2 (by decide) (by decide) (b2.mpr q)
          rw [nmZ_i kd0] at hR1 hR2
          rw [nmZ_i kd1] at hR2
          rw [nmR_in kd1 n1.1] at hR1
          rw [nmR_in kd2 n2] at hR2
          have l0 := n0.2
          have l1 := n1.1.2
          rw [if_pos hK]
          refine ⟨gD, tD, ?_⟩
          rw [d8, y2 _ _ (by omega) (by omega) hR0.symm hR1.symm, ← hR2]
          obtain ⟨M1, M2, M3, M4, M5, M6, M7, M8⟩ := M
          refine ⟨ul (ul M1 (by omega)) (by omega), ul (ul M2 (by omega)) (by omega), fun x hx => ?_, fun x hx => ?_, fun x hx => ?_, fun x hx => ?_, fun x hx => ?_, fun x y hx hy => ?_⟩
          · exact ul (ul (M3 x hx) (by omega)) (by omega)
          · exact ul (ul (M4 x hx) (by omega)) (by omega)
          · exact ul (ul (M5 x hx) (by omega)) (by omega)
          · exact ul (ul (M6 x hx) (by omega)) (by omega)
          · exact ul (ul (M7 x hx) (by omega)) (by omega)
          · exact uu (uu (M8 x y hx hy) (by show _ ↔ 10 * x + y = 10 * vN tp len (nX tp len p) + vN tp len (nX tp len (nX tp len p)); omega)) (by show _ ↔ 10 * x + y = 10 * vN tp len (nX tp len (nX tp len p)) + vN tp len (nX tp len p); omega)
        · have fb : fbR (fun _ => 0) (lgMo D 2) ((2 : Nat) = 2) (lnV tp len (nX tp len p) (mnO 2)) (mnO 2) 0 = some 0 := if_pos (b0.mpr n0)
          have cs := cK_f (q := fun j => qB tp len (npn tp len (nX tp len p) j)) (w := w) _ _ fb
          have v1 : nmK tp len 0 ((D.g : Int) - 1) (nX tp len p) 0 = 2 := by unfold nmK; rw [if_pos rfl, if_neg n0]
          have v2 : nmW tp len 0 ((D.g : Int) - 1) (nX tp len p) 0 w = nI (qB tp len (nX tp len p)) := by unfold nmW; rw [if_pos rfl, if_neg n0]
          rw [v1, v2, (anK_s (w := nI (qB tp len (nX tp len p))) (show 2 ≠ 0 by decide)).1, (anK_s (w := nI (qB tp len (nX tp len p))) (show 2 ≠ 0 by decide)).2, (nmK_s (w := nI (qB tp len (nX tp len p))) (show 2 ≠ 0 by decide)).1, (nmK_s (w := nI (qB tp len (nX tp len p))) (show 2 ≠ 0 by decide)).2] at q8
          rw [ch, nx, cs.1, cs.2]
          exact ⟨q8, fun _ => ⟨g, t, z0, z1, by omega, by omega, fun hK => absurd hK (show ¬ (2 : Nat) = 0 by decide)⟩⟩
      · rw [(nmK_s (w := w) k0).1, (nmK_s (w := w) k0).2, (anK_s (w := w) k0).1, (anK_s (w := w) k0).2, (nmK_s (w := w) k0).1, (nmK_s (w := w) k0).2] at q8
        rw [chkP_s k0, nx]
        exact ⟨q8, fun _ => ⟨g, t, z0, z1, by omega, by omega, fun hK => absurd hK k0⟩⟩
theorem LnH_lg (hn : 3000 ≤ n) : LnH n 0 F_X11_leagueLine LgQ LgI lgCk := by
  intro s tp len p k w D i h hk hi hI hQ
  by_cases hd : kD tp len p = 1
  · by_cases w1 : wC tp len p = 1
    · exact M_lgLine0 h hk hi hI hQ hd w1 hn
    · by_cases w2 : wC tp len p = 2
      · exact M_lgLine1 h hk hi hI hQ hd w2 hn
      · by_cases w13 : wC tp len p = 13
        · exact M_lgLine2 h hk hi hI hQ hd w13 hn
        · have S := h.1.1
          obtain ⟨t5, t4, t6, t7⟩ := MQ_t h
          have wl : wC tp len p ≤ 99 := by
            unfold wC
            split
            · exact wO_le _
            · exact Nat.le_refl _
          obtain ⟨s1, e1, g1, q1⟩ := M_takes_f (n := n) h (a := 1) (b := 2) (fun q => by omega) (by decide) (by decide)
          have e1 : F_X11_takes n s (some 106) (1 : Int32) (2 : Int32) = some ((-1 : Int32), s1) := e1
          have ng : gFo 0 (wC tp len p) = none := by
            unfold gFo
            rw [if_pos rfl, if_neg w1, if_neg w2, if_neg w13]
          obtain ⟨s', e', m', q'⟩ := M_line1 (n := n) (so := 0) (KQ := LgQ) (ck := lgCk) (D := D) (k := k) (w := w) (i := i) S g1 q1 (fun q => by obtain ⟨-, f, hf⟩ := q; rw [ng] at hf; cases hf)
          refine ⟨s', ?_, m', q'⟩
          have e13 : (nI (wC tp len p) = (13 : Int32)) = False := by
            have : (nI (wC tp len p) = nI 13) = (wC tp len p = 13) := nEq (by omega) (by decide)
            exact this.trans (eq_false w13)
          have e3 : (nI (kM tp len p) = (3 : Int32)) = (kM tp len p = 3) := nEq (b := 3) (by have := (kM_i tp len p).2.2.2.2; omega) (by decide)
          unfold F_X11_leagueLine
          by_cases c3 : kM tp len p = 3
          · simp only [↓bnd (t4), ↓bnd (t5), e3.trans (eq_true c3), if_true, ↓bnd (t7 hd), e13, if_false, ↓bnd (o106 S), ↓bnd (e1), Option.bind_some, show ((-1 : Int32) = (1 : Int32)) = False by decide, show ((-1 : Int32) = (2 : Int32)) = False by decide, show ((-1 : Int32) = (13 : Int32)) = False by decide, ↓bnd (o106 q1.1.1), ↓bnd (e')]
          · simp only [↓bnd (t4), ↓bnd (t5), e3.trans (eq_false c3), if_false, ↓bnd (o106 S), ↓bnd (e1), Option.bind_some, show ((-1 : Int32) = (1 : Int32)) = False by decide, show ((-1 : Int32) = (2 : Int32)) = False by decide, show ((-1 : Int32) = (13 : Int32)) = False by decide, ↓bnd (o106 q1.1.1), ↓bnd (e')]
  · have S := h.1.1
    obtain ⟨t5, t4, t6, t7⟩ := MQ_t h
    obtain ⟨s1, e1, g1, q1⟩ := M_takes_f (n := n) h (a := 1) (b := 2) (fun q => hd q.1) (by decide) (by decide)
    have e1 : F_X11_takes n s (some 106) (1 : Int32) (2 : Int32) = some ((-1 : Int32), s1) := e1
    obtain ⟨s', e', m', q'⟩ := M_line1 (n := n) (so := 0) (KQ := LgQ) (ck := lgCk) (D := D) (k := k) (w := w) (i := i) S g1 q1 (fun q => hd q.1)
    refine ⟨s', ?_, m', q'⟩
    have c3 : ¬ kM tp len p = 3 := fun q => hd ((kM_i tp len p).2.2.2.1.mp q).1
    have e3 : (nI (kM tp len p) = (3 : Int32)) = (kM tp len p = 3) := nEq (b := 3) (by have := (kM_i tp len p).2.2.2.2; omega) (by decide)
    unfold F_X11_leagueLine
    simp only [↓bnd (t4), ↓bnd (t5), e3.trans (eq_false c3), if_false, ↓bnd (o106 S), ↓bnd (e1), Option.bind_some, show ((-1 : Int32) = (1 : Int32)) = False by decide, show ((-1 : Int32) = (2 : Int32)) = False by decide, show ((-1 : Int32) = (13 : Int32)) = False by decide, ↓bnd (o106 q1.1.1), ↓bnd (e')]
end L2

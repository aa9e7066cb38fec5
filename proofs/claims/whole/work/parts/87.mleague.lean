/-! A LEAGUE'S LINE IS READ: the model -/
def gCk {α : Type} (full : Prop) [Decidable full] (le mo : Nat → Int) (cpl : Prop) [Decidable cpl] (v : Nat → Nat) (m : Nat) (D D' : α) : Nat × Nat × α := if full then (3, 0, D) else match fbR le mo cpl v m 0 with
  | some k => (2, k, D)
  | none => (0, 0, D')
/-- whether no further one can be -/
def fuK (full : Prop) [Decidable full] (k : Nat) : Nat := if full then (if k = 0 then 3 else k) else k
def fuW (full : Prop) [Decidable full] (k : Nat) (a w : Int32) : Int32 := if full then (if k = 0 then a else w) else w
theorem cK_0 {le mo : Nat → Int} {cpl : Prop} [Decidable cpl] {v : Nat → Nat} {r i k : Nat} (h : cK le mo cpl v r i k = 0) : k = 0 ∧ fbR le mo cpl v r i = none := by
  by_cases c : k = 0
  · subst c
    refine ⟨rfl, ?_⟩
    cases hb : fbR le mo cpl v r i with
    | none => rfl
    | some j => rw [(cK_f (q := fun _ => 0) (w := 0) r i hb).1] at h; omega
  · rw [(cK_s (q := fun _ => 0) (w := 0) r i k c).1] at h
    exact absurd h c
theorem fuK_0 {full : Prop} [Decidable full] {k : Nat} (h : fuK full k = 0) : k = 0 ∧ ¬ full := by
  unfold fuK at h
  by_cases c : full
  · rw [if_pos c] at h
    by_cases k0 : k = 0
    · rw [if_pos k0] at h; omega
    · rw [if_neg k0] at h; exact absurd h k0
  · rw [if_neg c] at h
    exact ⟨h, c⟩
theorem chk_g {α : Type} {ck : α → Nat → (Nat → Nat) → Nat × Nat × α} {full fu : Prop} [Decidable full] [Decidable fu] {le mo : Nat → Int} {cpl : Prop} [Decidable cpl] {D D' : α} {tp : Nat → Nat} {len so p f k : Nat} {w : Int32} (hf : frm tp len so p = f) (hck : ck D f (lnV tp len (nX tp len p) (mnO f)) = gCk full le mo cpl (lnV tp len (nX tp len p) (mnO f)) (mnO f) D D') (hfu : k = 0 → (fu ↔ full)) :
    chkP ck tp len so p D k w = (if cK le mo cpl (lnV tp len (nX tp len p) (mnO f)) (mnO f) 0 (fuK fu k) = 0 then D' else D, cK le mo cpl (lnV tp len (nX tp len p) (mnO f)) (mnO f) 0 (fuK fu k), cWd le mo cpl (lnV tp len (nX tp len p) (mnO f)) (fun j => qB tp len (npn tp len (nX tp len p) j)) (mnO f) 0 (fuK fu k) (fuW fu k (nI (qB tp len p)) w)) := by
  unfold chkP
  rw [hf, hck]
  generalize lnV tp len (nX tp len p) (mnO f) = v
  by_cases k0 : k = 0
  · subst k0
    rw [if_pos rfl]
    unfold gCk fuK fuW
    by_cases c : full
    · have cs := cK_s (le := le) (mo := mo) (cpl := cpl) (v := v) (q := fun j => qB tp len (npn tp len (nX tp len p) j)) (w := nI (qB tp len p)) (mnO f) 0 3 (by decide)
      have z1 : (if (0 : Nat) = 0 then (3 : Nat) else 0) = 3 := rfl
      have z2 : (if (0 : Nat) = 0 then nI (qB tp len p) else w) = nI (qB tp len p) := rfl
      rw [if_pos c, if_pos ((hfu rfl).mpr c), if_pos ((hfu rfl).mpr c), z1, z2, cs.1, cs.2]
      rfl
    · rw [if_neg c, if_neg fun q => c ((hfu rfl).mp q), if_neg fun q => c ((hfu rfl).mp q)]
      cases hb : fbR le mo cpl v (mnO f) 0 with
      | some j =>
        have cs := cK_f (q := fun j => qB tp len (npn tp len (nX tp len p) j)) (w := w) (mnO f) 0 hb
        rw [cs.1, cs.2]
        rfl
      | none =>
        have cs := cK_n (q := fun j => qB tp len (npn tp len (nX tp len p) j)) (w := w) (mnO f) 0 hb
        rw [cs.1, cs.2]
        rfl
  · rw [if_neg k0]
    have e1 : fuK fu k = k := by unfold fuK; split <;> simp [k0]
    have e2 : fuW fu k (nI (qB tp len p)) w = w := by unfold fuW; split <;> simp [k0]
    have cs := cK_s (le := le) (mo := mo) (cpl := cpl) (v := v) (q := fun j => qB tp len (npn tp len (nX tp len p) j)) (w := w) (mnO f) 0 k k0
    rw [e1, e2, cs.1, cs.2, if_neg k0]
/-- a line of a kind, the model -/
def LnH {α : Type} (n so : Nat) (F : Nat → xS → Option Nat → Option xS) (KQ : xS → α → Nat → Nat → Prop) (Iv : α → Prop) (ck : α → Nat → (Nat → Nat) → Nat × Nat × α) : Prop := ∀ (s : xS) (tp : Nat → Nat) (len p k : Nat) (w : Int32) (D : α) (i : Nat), MQo s tp len p k w → k ≤ 3 → i ≤ 500 → Iv D → KQ s D k i →
  ∃ s', F n s (some 106) = some s' ∧ MH s s' ∧ MQz s' tp len (nxt tp len so p) (chkP ck tp len so p D k w).2.1 (chkP ck tp len so p D k w).2.2 (synE tp len so p) ∧ (synE tp len so p = none → KQ s' (chkP ck tp len so p D k w).1 (chkP ck tp len so p D k w).2.1 (i + 1))
def LgQ (s : xS) (D : LgD) (k i : Nat) : Prop := ∃ g t, cI s 109 0 = nI g ∧ cI s 109 1 = nI t ∧ g ≤ i ∧ t ≤ i ∧ (k = 0 → g = D.g ∧ t = D.s ∧ LgM (cI s 109) 0 D)
section LQ
variable {st st1 st2 s s1 : xS} {n len p k e i : Nat} {tp : Nat → Nat} {w : Int32} {z : Option Nat}
theorem M_full (h : MQo s tp len (nX tp len p) k w) (hk : k ≤ 3) (hq : HK tp len p k w) (hp : p ≤ len) (hd : kD tp len p ≠ 0) {g lim : Nat} (hg : g ≤ 1000) (hl : lim ≤ 1000) : ∃ s2, ((if nI g < nI lim then some s else (isO s (some 106) 11).bind fun q14 => (F_X11_also n s (some 106) (3 : Int32) (nI (qB tp len p))).bind fun s13 => some s13) : Option xS) = some s2 ∧ MG s s2 ∧ MQo s2 tp len (nX tp len p) (fuK (lim ≤ g) k) (fuW (lim ≤ g) k (nI (qB tp len p)) w) := by
  have lt : (nI g < nI lim) = (g < lim) := nLt (by omega) (by omega)
  have S := h.1.1
  unfold fuK fuW
  by_cases c : lim ≤ g
  · obtain ⟨s2, e2, g2, q2⟩ := M_also_o (n := n) (kd := 3) h hk hq (qq_lt hp hd)
    have e2 : F_X11_also n s (some 106) (3 : Int32) (nI (qB tp len p)) = some s2 := e2
    rw [if_pos c, if_pos c]
    exact ⟨s2, by simp only [lt, eq_false (show ¬ g < lim by omega), if_false, ↓bnd (o106 S), ↓bnd (e2)], g2, q2⟩
  · rw [if_neg c, if_neg c]
    exact ⟨s, by simp only [lt, eq_true (show g < lim by omega), if_true], MG.refl S, h⟩
theorem fuK_le {full : Prop} [Decidable full] (hk : k ≤ 3) : fuK full k ≤ 3 := by
  unfold fuK
  split
  · split <;> omega
  · exact hk
theorem M_line0 {so : Nat} (h : kD tp len p = 1) {f : Nat} (hg : gFo so (wC tp len p) = some f) : synE tp len so p = lnE tp len (nX tp len p) (mnO f) 0 ∧ frm tp len so p = f := by
  unfold synE frm
  rw [if_pos h, hg]
  exact ⟨rfl, rfl⟩
/-- no line of the sort -/
theorem M_line1 {α : Type} {so : Nat} {KQ : xS → α → Nat → Nat → Prop} {ck : α → Nat → (Nat → Nat) → Nat × Nat × α} {D : α} (S : Sh s) (g : MG s s1) (h : MQw s1 tp len (qB tp len p)) (hn : ¬ (kD tp len p = 1 ∧ ∃ f, gFo so (wC tp len p) = some f)) : ∃ s', F_X11_endsLine n s1 (some 106) = some s' ∧ MH s s' ∧ MQz s' tp len (nxt tp len so p) (chkP ck tp len so p D k w).2.1 (chkP ck tp len so p D k w).2.2 (synE tp len so p) ∧ (synE tp len so p = none → KQ s' (chkP ck tp len so p D k w).1 (chkP ck tp len so p D k w).2.1 (i + 1)) := by
  have sy : synE tp len so p = some (qB tp len p) := by
    unfold synE
    by_cases c : kD tp len p = 1
    · rw [if_pos c]
      cases hg : gFo so (wC tp len p) with
      | none => rfl
      | some f => exact absurd ⟨c, f, hg⟩ hn
    · rw [if_neg c]
  rw [sy]
  refine ⟨s1, ?_, g.mh, h, fun q => by cases q⟩
  unfold F_X11_endsLine
  simp only [↓bnd (g106_8 h.1.1), h.2.1, one0, if_false, ↓bnd (o106 h.1.1), ↓bnd (M_ends_w (n := n) h), Option.bind_some]
theorem M_lgLine0 {D : LgD} (h : MQo s tp len p k w) (hk : k ≤ 3) (hi : i ≤ 500) (hI : LgI D) (hQ : LgQ s D k i) (hd : kD tp len p = 1) (hw : wC tp len p = 1) (hn : 3000 ≤ n) : ∃ s', F_X11_leagueLine n s (some 106) = some s' ∧ MH s s' ∧ MQz s' tp len (nxt tp len 0 p) (chkP lgCk tp len 0 p D k w).2.1 (chkP lgCk tp len 0 p D k w).2.2 (synE tp len 0 p) ∧ (synE tp len 0 p = none → LgQ s' (chkP lgCk tp len 0 p D k w).1 (chkP lgCk tp len 0 p D k w).2.1 (i + 1)) := by
  have S := h.1.1
  obtain ⟨g, t, c0, c1, gi, ti, hM⟩ := hQ
  obtain ⟨t5, t4, t6, t7⟩ := MQ_t h
  have t7 := t7 hd
  rw [hw] at t7
  have km := (kM_i tp len p).2.2.2.1.mpr ⟨hd, by omega⟩
  rw [km] at t5
  obtain ⟨s1, e1, g1, q1⟩ := M_takes_t (n := n) h (a := 1) (b := 2) hd (by omega) (by omega) (by decide) hn
  rw [hw] at e1
  have e1 : F_X11_takes n s (some 106) (1 : Int32) (2 : Int32) = some ((1 : Int32), s1) := e1
  have S1 := q1.1.1
  have d1 : cI s1 109 = cI s 109 := cI_o g1.1 (by decide)
  have r1 : aI s1 (some 109) (0 : Int32) = some (nI g) := by
    have : aI s1 (some 109) (0 : Int32) = some (cI s1 109 0) := aI109 S1 (by decide)
    rw [this, d1, c0]
  obtain ⟨s2, e2, g2, q2⟩ := M_full (n := n) (g := g) (lim := 10) q1 hk h.2.2.2.2.2.2 h.2.2.1 (by omega) (by omega) (by decide)
  have e2 : ((if nI g < (10 : Int32) then some s1 else (isO s1 (some 106) 11).bind fun q14 => (F_X11_also n s1 (some 106) (3 : Int32) (nI (qB tp len p))).bind fun s13 => some s13) : Option xS) = some s2 := e2
  have k1 := fuK_le (full := 10 ≤ g) hk
  generalize hK1 : fuK (10 ≤ g) k = K1 at *
  generalize hW1 : fuW (10 ≤ g) k (nI (qB tp len p)) w = W1 at *
  have S2 := q2.1.1
  obtain ⟨s3, e3, g3, q3⟩ := M_num (n := n) (z := none) (lo := 0) (hi := 99) q2 k1 (by decide) (by decide) hn
  have e3 : F_X11_numbered n s2 (some 106) (0 : Int32) (99 : Int32) = _ := e3
  have S3 := q3.sh
  obtain ⟨s4, e4, g4, q4⟩ := M_num (n := n) (lo := 0) (hi := 99) q3 (nmK_le k1) (by decide) (by decide) hn
  have e4 : F_X11_numbered n s3 (some 106) (0 : Int32) (99 : Int32) = _ := e4
  have S4 := q4.sh
  obtain ⟨s5, e5, g5, q5⟩ := M_num (n := n) (lo := 0) (hi := 999) q4 (nmK_le (nmK_le k1)) (by decide) (by decide) hn
  have e5 : F_X11_numbered n s4 (some 106) (0 : Int32) (999 : Int32) = _ := e5
  have S5 := q5.sh
  have G5 := (((g1.trans g2).trans g3).trans g4).trans g5
  have d5 : cI s5 109 = cI s 109 := cI_o G5.1 (by decide)
  have r5 : aI s5 (some 109) (0 : Int32) = some (nI g) := by
    have : aI s5 (some 109) (0 : Int32) = some (cI s5 109 0) := aI109 S5 (by decide)
    rw [this, d5, c0]
  generalize hR0 : nmR tp len 0 99 (nX tp len p) none = R0 at *
  generalize hR1 : nmR tp len 0 99 (nX tp len (nX tp len p)) (nmZ tp len (nX tp len p) none) = R1 at *
  generalize hR2 : nmR tp len 0 999 (nX tp len (nX tp len (nX tp len p))) (nmZ tp len (nX tp len (nX tp len p)) (nmZ tp len (nX tp len p) none)) = R2 at *
  have l10 : ((10 : Int32) ≤ nI g) = (10 ≤ g) := nLe (a := 10) (by decide) (by omega)
  have wr : ∃ s6, ((if (10 : Int32) ≤ nI g then some s5 else (gR s5 (some 106) 11 9).bind fun v24 => (gR s5 (some 106) 11 9).bind fun v25 => (aI s5 v25 (0 : Int32)).bind fun v26 => (sS 0 s5 v24 ((2 : Int32) + v26) R0).bind fun s27 => (gR s27 (some 106) 11 9).bind fun v28 => (gR s27 (some 106) 11 9).bind fun v29 => (aI s27 v29 (0 : Int32)).bind fun v30 => (sS 0 s27 v28 ((12 : Int32) + v30) R1).bind fun s31 => (gR s31 (some 106) 11 9).bind fun v32 => (gR s31 (some 106) 11 9).bind fun v33 => (aI s31 v33 (0 : Int32)).bind fun v34 => (sS 0 s31 v32 ((22 : Int32) + v34) R2).bind fun s35 => some s35) : Option xS) = some s6 ∧ MH s5 s6 ∧ (∀ P K W Z, MQz s5 tp len P K W Z → MQz s6 tp len P K W Z) ∧ cI s6 109 0 = nI g ∧ cI s6 109 1 = nI t ∧ (g < 10 → cI s6 109 = upd (upd (upd (cI s 109) (2 + g) R0) (12 + g) R1) (22 + g) R2) := by
    by_cases c : 10 ≤ g
    · exact ⟨s5, by rw [if_pos (by rw [l10]; exact c)], MH.refl S5, fun _ _ _ _ q => q, by rw [d5]; exact c0, by rw [d5]; exact c1, fun q => by omega⟩
    · have w1 := w109n S5 (i := 2 + g) (by omega) R0
      have m1 := MH_9 S5 (x := 109) (Or.inl rfl) (upd (cI s5 109) (2 + g) R0)
      have f1 := k109 S5 (upd (cI s5 109) (2 + g) R0)
      have z1 : ∀ P K W Z, MQz s5 tp len P K W Z → MQz (wA s5 109 (upd (cI s5 109) (2 + g) R0)) tp len P K W Z := fun P K W Z q => q.w9 S5 (Or.inl rfl) _
      generalize wA s5 109 (upd (cI s5 109) (2 + g) R0) = a1 at *
      have A1 := m1.1.2.2.1
      have x1 : aI a1 (some 109) (0 : Int32) = some (nI g) := by
        have : aI a1 (some 109) (0 : Int32) = some (cI a1 109 0) := aI109 A1 (by decide)
        rw [this, f1, pk_un (by omega), d5, c0]
      have w2 := w109n A1 (i := 12 + g) (by omega) R1
      have m2 := MH_9 A1 (x := 109) (Or.inl rfl) (upd (cI a1 109) (12 + g) R1)
      have f2 := k109 A1 (upd (cI a1 109) (12 + g) R1)
      have z2 : ∀ P K W Z, MQz a1 tp len P K W Z → MQz (wA a1 109 (upd (cI a1 109) (12 + g) R1)) tp len P K W Z := fun P K W Z q => q.w9 A1 (Or.inl rfl) _
      generalize wA a1 109 (upd (cI a1 109) (12 + g) R1) = a2 at *
      have A2 := m2.1.2.2.1
      have x2 : aI a2 (some 109) (0 : Int32) = some (nI g) := by
        have : aI a2 (some 109) (0 : Int32) = some (cI a2 109 0) := aI109 A2 (by decide)
        rw [this, f2, pk_un (by omega), f1, pk_un (by omega), d5, c0]
      have w3 := w109n A2 (i := 22 + g) (by omega) R2
      have m3 := MH_9 A2 (x := 109) (Or.inl rfl) (upd (cI a2 109) (22 + g) R2)
      have f3 := k109 A2 (upd (cI a2 109) (22 + g) R2)
      have z3 : ∀ P K W Z, MQz a2 tp len P K W Z → MQz (wA a2 109 (upd (cI a2 109) (22 + g) R2)) tp len P K W Z := fun P K W Z q => q.w9 A2 (Or.inl rfl) _
      generalize wA a2 109 (upd (cI a2 109) (22 + g) R2) = a3 at *
      refine ⟨a3, ?_, (m1.trans m2).trans m3, fun P K W Z q => z3 _ _ _ _ (z2 _ _ _ _ (z1 _ _ _ _ q)), ?_, ?_, fun _ => by rw [f3, f2, f1, d5]⟩
      · have i1 : (2 : Int32) + nI g = nI (2 + g) := nAdd 2 g
        have i2 : (12 : Int32) + nI g = nI (12 + g) := nAdd 12 g
        have i3 : (22 : Int32) + nI g = nI (22 + g) := nAdd 22 g
        simp only [l10, eq_false c, if_false, ↓bnd (g106_9 S5), ↓bnd (r5), i1, i2, i3, ↓bnd (w1), ↓bnd (g106_9 A1), ↓bnd (x1), ↓bnd (w2), ↓bnd (g106_9 A2), ↓bnd (x2), ↓bnd (w3)]
      · rw [f3, pk_un (by omega), f2, pk_un (by omega), f1, pk_un (by omega), d5, c0]
      · rw [f3, pk_un (by omega), f2, pk_un (by omega), f1, pk_un (by omega), d5, c1]
  obtain ⟨s6, e6, m6, z6, y0, y1, y2⟩ := wr
  have q6 := z6 _ _ _ _ q5
  have S6 := q6.sh
  have r6 : aI s6 (some 109) (0 : Int32) = some (nI g) := by
    have : aI s6 (some 109) (0 : Int32) = some (cI s6 109 0) := aI109 S6 (by decide)
    rw [this, y0]
  have w7 : sS 0 s6 (some 109) (0 : Int32) (nI (g + 1)) = _ := w109n S6 (i := 0) (by decide) (nI (g + 1))
  have m7 := MH_9 S6 (x := 109) (Or.inl rfl) (upd (cI s6 109) 0 (nI (g + 1)))
  have f7 := k109 S6 (upd (cI s6 109) 0 (nI (g + 1)))
  have q7 := q6.w9 S6 (Or.inl rfl) (upd (cI s6 109) 0 (nI (g + 1)))
  generalize wA s6 109 (upd (cI s6 109) 0 (nI (g + 1))) = s7 at *
  have S7 := q7.sh
  obtain ⟨s8, e8, g8, q8⟩ := M_end (n := n) q7 hn
  have d8 : cI s8 109 = cI s7 109 := cI_o g8.1 (by decide)
  have hg0 : gFo 0 (wC tp len p) = some 0 := by rw [hw]; rfl
  obtain ⟨sy, fr⟩ := M_line0 hd hg0
  refine ⟨s8, ?_, ((G5.mh.trans m6).trans m7).trans g8.mh, ?_⟩
  · unfold F_X11_leagueLine
    simp only [↓bnd (t4), ↓bnd (t5), show (nI 3 = (3 : Int32)) = True by decide, if_true, ↓bnd (t7), show (nI 1 = (13 : Int32)) = False by decide, if_false, ↓bnd (o106 S), ↓bnd (e1), Option.bind_some, ↓bnd (g106_9 S1), ↓bnd (r1), ↓bnd (e2), ↓bnd (o106 S2), ↓bnd (e3), ↓bnd (o106 S3), ↓bnd (e4), ↓bnd (o106 S4), ↓bnd (e5), ↓bnd (g106_9 S5), ↓bnd (r5), ↓bnd (e6), ↓bnd (g106_9 S6), ↓bnd (r6), nI_1, ↓bnd (w7), ↓bnd (o106 S7), ↓bnd (e8)]
  · have hz : enZ tp len (nX tp len (nX tp len (nX tp len (nX tp len p)))) (nmZ tp len (nX tp len (nX tp len (nX tp len p))) (nmZ tp len (nX tp len (nX tp len p)) (nmZ tp len (nX tp len p) none))) = synE tp len 0 p := by
      rw [sy, ← chZ_n]
      rfl
    rw [hz] at q8
    cases hs : synE tp len 0 p with
    | some e => rw [hs] at q8; exact ⟨q8, fun q => by cases q⟩
    | none =>
      rw [hs] at q8
      have hl := hs
      rw [sy] at hl
      obtain ⟨kd, -⟩ := lnE_n _ _ hl
      have kd0 : kD tp len (nX tp len p) = 2 := kd 0 (by decide) (by decide)
      have kd1 : kD tp len (nX tp len (nX tp len p)) = 2 := kd 1 (by decide) (by decide)
      have kd2 : kD tp len (nX tp len (nX tp len (nX tp len p))) = 2 := kd 2 (by decide) (by decide)
      have ch := chk_g (ck := lgCk) (full := lgFull D 0) (fu := 10 ≤ g) (le := fun _ => 0) (mo := lgMo D 0) (cpl := (0 : Nat) = 2) (D := D) (D' := lgTk D 0 (lnV tp len (nX tp len p) (mnO 0))) (k := k) (w := w) fr rfl (fun k0 => by rw [(hM k0).1]; exact ⟨fun q => Or.inl ⟨rfl, q⟩, fun q => by rcases q with ⟨-, q⟩ | ⟨q, -⟩; exact q; omega⟩)
      rw [hK1, hW1] at ch
      have b0 : bdP (fun _ => 0) (lgMo D 0) ((0 : Nat) = 2) (lnV tp len (nX tp len p) (mnO 0)) 0 ↔ ¬ nmIn tp len 0 99 (nX tp len p) := bd_in (by decide) rfl
      have b1 : bdP (fun _ => 0) (lgMo D 0) ((0 : Nat) = 2) (lnV tp len (nX tp len p) (mnO 0)) 1 ↔ ¬ nmIn tp len 0 99 (nX tp len (nX tp len p)) := bd_in (by decide) rfl
      have b2 : bdP (fun _ => 0) (lgMo D 0) ((0 : Nat) = 2) (lnV tp len (nX tp len p) (mnO 0)) 2 ↔ ¬ nmIn tp len 0 999 (nX tp len (nX tp len (nX tp len p))) := bd_in (by decide) rfl
      have nx : nxt tp len 0 p = npn tp len (nX tp len p) (mnO 0 + 1) := by unfold nxt; rw [fr]
      rw [nm_bK b2, nm_bW b2, nm_bK b1, nm_bW b1, nm_bK b0, nm_bW b0] at q8
      rw [ch, nx]
      refine ⟨q8, fun _ => ⟨g + 1, t, ?_, ?_, by omega, by omega, fun hK => ?_⟩⟩
      · rw [d8, f7, upd_s]
      · rw [d8, f7, pk_un (by decide), y1]
      · have hK : cK (fun _ => 0) (lgMo D 0) ((0 : Nat) = 2) (lnV tp len (nX tp len p) (mnO 0)) (mnO 0) 0 K1 = 0 := hK
        obtain ⟨a1, a2⟩ := cK_0 hK
        rw [← hK1] at a1
        obtain ⟨k0, nf⟩ := fuK_0 a1
        obtain ⟨gD, tD, M⟩ := hM k0
        have g10 : g < 10 := by omega
        have nb := fbR_none _ _ a2
        have n0 : nmIn tp len 0 99 (nX tp len p) := Classical.byContradiction fun q => nb 0 (by decide) (by decide) (b0.mpr q)
        have n1 : nmIn tp len 0 99 (nX tp len (nX tp len p)) := Classical.byContradiction fun q => nb 1 (by decide) (by decide) (b1.mpr q)
        have n2 : nmIn tp len 0 999 (nX tp len (nX tp len (nX tp len p))) := Classical.byContradiction fun q => nb 2 (by decide) (by decide) (b2.mpr q)
        rw [nmZ_i kd0] at hR1 hR2
        rw [nmZ_i kd1] at hR2
        rw [nmR_in kd0 n0] at hR0
        rw [nmR_in kd1 n1] at hR1
        rw [nmR_in kd2 n2] at hR2
        have s8 : D.s ≤ 8 := hI.2.1
        rw [if_pos hK]
        refine ⟨by rw [gD]; rfl, tD, ?_⟩
        rw [d8, f7, y2 g10, ← hR0, ← hR1, ← hR2, gD]
        rw [gD] at g10
        obtain ⟨M1, M2, M3, M4, M5, M6, M7, M8⟩ := M
        refine ⟨upd_s _ _ _, ul (ul (ul (ul M2 (by omega)) (by omega)) (by omega)) (by omega), fun x hx => ?_, fun x hx => ?_, fun x hx => ?_, fun x hx => ?_, fun x hx => ?_, fun x y hx hy => ?_⟩
        · exact ul (uu (uu (uu (M3 x hx) (by omega)) (by omega)) (by omega)) (by omega)
        · exact ul (uu (uu (uu (M4 x hx) (by omega)) (by omega)) (by omega)) (by omega)
        · exact ul (uu (uu (uu (M5 x hx) (by omega)) (by omega)) (by omega)) (by omega)
        · exact ul (uu (uu (uu (M6 x hx) (by omega)) (by omega)) (by omega)) (by omega)
        · exact ul (uu (uu (uu (M7 x hx) (by omega)) (by omega)) (by omega)) (by omega)
        · exact ul (ul (ul (ul (M8 x y hx hy) (by omega)) (by omega)) (by omega)) (by omega)
end LQ

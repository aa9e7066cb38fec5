/-! A TEXT IS READ: the model -/
def TxH (n so : Nat) (F : Nat → xS → Option Nat → Option xS) : Prop := ∀ (s : xS) (m : Nat) (a2 : Int32), Sh s → fI s 106 8 = 0 → ¬ fI s 106 5 = 0 → F_X11_text_L76 n (m + 1) s (some 106) (nI so) a2 = (F n s (some 106)).bind fun s' => F_X11_text_L76 n m s' (some 106) (nI so) a2
def CkI {α : Type} (so : Nat) (Iv : α → Prop) (ck : α → Nat → (Nat → Nat) → Nat × Nat × α) : Prop := ∀ D f c v, Iv D → gFo so c = some f → Iv (ck D f v).2.2
theorem CkI_lg : CkI 0 LgI lgCk := by
  intro D f c v hI hg
  have f3 : f < 3 := by have := gFo_r (by decide) hg; omega
  unfold lgCk
  by_cases hF : lgFull D f
  · rw [if_pos hF]; exact hI
  · rw [if_neg hF]
    cases hb : fbR (fun _ => 0) (lgMo D f) (f = 2) v (mnO f) 0 with
    | some k => exact hI
    | none =>
      have hm : mnO f = if f = 1 then 2 else 3 := by
        rcases (show f = 0 ∨ f = 1 ∨ f = 2 by omega) with rfl | rfl | rfl <;> rfl
      exact lgTk_I hI f3 hF (by rw [← hm]; exact hb)
theorem CkI_lw : CkI 1 LwI lwCk := by
  intro D f c v hI hg
  have f3 : 10 ≤ f ∧ f ≤ 16 := by have := gFo_r (by decide) hg; omega
  unfold lwCk
  cases hb : fbR lwLe (lwMo f) False v (mnO f) 0 with
  | some k => exact hI
  | none =>
    have hm : mnO f = lwMany f := by
      rcases (show f = 10 ∨ f = 11 ∨ f = 12 ∨ f = 13 ∨ f = 14 ∨ f = 15 ∨ f = 16 by omega) with rfl | rfl | rfl | rfl | rfl | rfl | rfl <;> rfl
    exact lwTk_I hI f3.1 f3.2 (by rw [← hm]; exact hb)
theorem CkI_pl : CkI 2 PlXI plCk := by
  intro D f c v hI hg
  have f3 : 20 ≤ f ∧ f ≤ 26 := by have := gFo_r (by decide) hg; omega
  unfold plCk
  by_cases hF : plFull D f
  · rw [if_pos hF]; exact hI
  · rw [if_neg hF]
    cases hb : fbR (plLe D f) (plMo f) (f = 26) v (mnO f) 0 with
    | some k => exact hI
    | none =>
      have hm : mnO f = plMany f := by
        rcases (show f = 20 ∨ f = 21 ∨ f = 22 ∨ f = 23 ∨ f = 24 ∨ f = 25 ∨ f = 26 by omega) with rfl | rfl | rfl | rfl | rfl | rfl | rfl <;> rfl
      exact plTk_I hI f3.1 f3.2 hF (by rw [← hm]; exact hb)
def pO (so k : Nat) : Nat := if so = 0 then 510 + 150 * k else if so = 1 then 960 + 14 * k else 1002 + 242 * k
def zO (so : Nat) : Nat := if so = 0 then 150 else if so = 1 then 14 else 242
section L5
variable {st st1 st2 s s1 : xS} {n len p k e i so : Nat} {tp : Nat → Nat} {w : Int32} {z : Option Nat}
theorem chkP_I {α : Type} {Iv : α → Prop} {ck : α → Nat → (Nat → Nat) → Nat × Nat × α} (hc : CkI so Iv ck) (hs : so < 3) {D : α} (hI : Iv D) (sy : synE tp len so p = none) : Iv (chkP ck tp len so p D k w).1 := by
  obtain ⟨-, f, hg, fr, -⟩ := syn_n hs sy
  unfold chkP
  by_cases c : k = 0
  · rw [if_pos c, fr]; exact hc D f _ _ hI hg
  · rw [if_neg c]; exact hI
theorem TxH_lg : TxH n 0 F_X11_leagueLine := by
  intro s m a2 S h8 h5
  have g8 : gI s (some 106) 11 8 = some 0 := by rw [g106_8 S, h8]
  rw [F_X11_text_L76]
  dsimp only
  simp only [↓bnd (g8), ↓bnd (g106_5 S), h5, if_true, if_false, show (nI 0 = (0 : Int32)) = True by decide, ↓bnd (o106 S)]
theorem TxH_lw : TxH n 1 F_X11_lawLine := by
  intro s m a2 S h8 h5
  have g8 : gI s (some 106) 11 8 = some 0 := by rw [g106_8 S, h8]
  rw [F_X11_text_L76]
  dsimp only
  simp only [↓bnd (g8), ↓bnd (g106_5 S), h5, if_true, if_false, show (nI 1 = (0 : Int32)) = False by decide, show (nI 1 = (1 : Int32)) = True by decide, ↓bnd (o106 S)]
theorem TxH_pl : TxH n 2 F_X11_planLine := by
  intro s m a2 S h8 h5
  have g8 : gI s (some 106) 11 8 = some 0 := by rw [g106_8 S, h8]
  rw [F_X11_text_L76]
  dsimp only
  simp only [↓bnd (g8), ↓bnd (g106_5 S), h5, if_true, if_false, show (nI 2 = (0 : Int32)) = False by decide, show (nI 2 = (1 : Int32)) = False by decide, ↓bnd (o106 S)]
theorem M_rd {α : Type} {KQ : xS → α → Nat → Nat → Prop} {Iv : α → Prop} {ck : α → Nat → (Nat → Nat) → Nat × Nat × α} {F : Nat → xS → Option Nat → Option xS} {a2 : Int32} (hL : LnH n so F KQ Iv ck) (hT : TxH n so F) (ho : CkO ck) (hc : CkI so Iv ck) (hs : so < 3) : ∀ f p (D : α) k w s i, len < p + f → i ≤ p → p ≤ len → MQo s tp len p k w → k ≤ 3 → Iv D → KQ s D k i → ∀ g, f + 1 ≤ g →
    ∃ s', F_X11_text_L76 n g s (some 106) (nI so) a2 = some s' ∧ MH s s' ∧ cI s' 107 5 = nI (rdT ck tp len so f p D k w).2.1 ∧ cI s' 107 6 = (rdT ck tp len so f p D k w).2.2 ∧ ((rdT ck tp len so f p D k w).2.1 = 0 → ∃ i', KQ s' (rdT ck tp len so f p D k w).1 0 i') := by
  intro f
  induction f with
  | zero => exact fun p D k w s i hf hi hp => by omega
  | succ f ih =>
    intro p D k w s i hf hi hp h hk3 hI hQ g hg
    obtain ⟨g, rfl⟩ : ∃ j, g = j + 1 := ⟨g - 1, by omega⟩
    have b5 := h.1.2.2.1
    have S := h.1.1
    have x8 := h.2.1
    obtain ⟨t5, -, -, -⟩ := MQ_t h
    have km := kM_i tp len p
    have e0 : (nI (kM tp len p) = (0 : Int32)) = (kM tp len p = 0) := nEq (b := 0) (by omega) (by decide)
    rw [rdT]
    by_cases c0 : kD tp len p = 0
    · rw [if_pos c0]
      refine ⟨s, ?_, MH.refl S, h.2.2.2.2.1, h.2.2.2.2.2.1, fun hk => ⟨i, ?_⟩⟩
      · have g8 : gI s (some 106) 11 8 = some 0 := by rw [g106_8 S, x8]
        rw [F_X11_text_L76]
        dsimp only
        simp only [↓bnd (g8), ↓bnd (t5), if_true, e0.trans (eq_true (km.2.2.1.mpr c0))]
      · have hk : k = 0 := hk
        subst hk
        exact hQ
    · rw [if_neg c0]
      have n5 : ¬ fI s 106 5 = 0 := by
        have : some (fI s 106 5) = some (nI (kM tp len p)) := by rw [← g106_5 S, t5]
        injection this with this
        rw [this, e0]
        exact fun q => c0 (km.2.2.1.mp q)
      rw [hT s g a2 S x8 n5]
      obtain ⟨s1, e1, m1, q1, kq⟩ := hL s tp len p k w D i h hk3 (by omega) hI hQ
      simp only [↓bnd (e1)]
      cases sy : synE tp len so p with
      | some e =>
        rw [sy] at q1
        have q1 : MQw s1 tp len e := q1
        refine ⟨s1, ?_, m1, q1.2.2.1, q1.2.2.2, fun hk => absurd hk (show ¬ (1 : Nat) = 0 by decide)⟩
        obtain ⟨g, rfl⟩ : ∃ j, g = j + 1 := ⟨g - 1, by omega⟩
        have g8 : gI s1 (some 106) 11 8 = some 1 := by rw [g106_8 q1.1.1, q1.2.1]
        rw [F_X11_text_L76]
        dsimp only
        simp only [↓bnd (g8), one0, if_false]
      | none =>
        rw [sy] at q1
        have q1 : MQo s1 tp len (nxt tp len so p) (chkP ck tp len so p D k w).2.1 (chkP ck tp len so p D k w).2.2 := q1
        have nx := nxt_le (tp := tp) (so := so) hp c0
        obtain ⟨s2, e2, m2, y5, y6, kq2⟩ := ih (nxt tp len so p) _ _ _ s1 (i + 1) (by omega) (by omega) nx.2 q1 (chkP_le ho hk3) (chkP_I hc hs hI sy) (kq sy) g (by omega)
        exact ⟨s2, e2, m1.trans m2, y5, y6, kq2⟩
theorem M_zero (S : Sh s) (hn : 3000 ≤ n) (a1 : Int32) : ∃ s', F_X11_begins_L12 n n s (some 106) a1 (0 : Int32) = some s' ∧ Only (fun a => a = 109) s s' ∧ ∀ j, j < 242 → cI s' 109 j = 0 := by
  have hl : ∃ s', F_X11_begins_L12 n n s (some 106) a1 (nI 0) = some s' ∧ Only (fun a => a = 109) s s' ∧ ∀ j, j < 242 → cI s' 109 j = 0 := by
    refine loop_ex (fun m (t : xS × Int32) => F_X11_begins_L12 n m t.1 (some 106) a1 t.2) (fun i t => Only (fun a => a = 109) s t.1 ∧ (∀ j, j < i → cI t.1 109 j = 0) ∧ t.2 = nI i) 242 (fun r => ∃ s', r = some s' ∧ Only (fun a => a = 109) s s' ∧ ∀ j, j < 242 → cI s' 109 j = 0) ?_ ?_ n (by omega) (s, nI 0) ⟨Only.refl S, fun j hj => absurd hj (Nat.not_lt_zero j), rfl⟩
    · rintro m i ⟨t, x⟩ hi ⟨o, hc, h6⟩
      dsimp only at o hc h6 ⊢
      subst h6
      have St := o.2.2.1
      have l6 : ((242 : Int32) ≤ nI i) = (242 ≤ i) := nLe (a := 242) (by decide) (by omega)
      have w1 := w109n St hi 0
      have oo := Only.wA St 109 (upd (cI t 109) i 0)
      have kk := k109 St (upd (cI t 109) i 0)
      generalize wA t 109 (upd (cI t 109) i 0) = t1 at *
      refine ⟨(t1, nI (i + 1)), ⟨o.trans oo, fun j hj => ?_, rfl⟩, ?_⟩
      · dsimp only
        rw [kk]
        by_cases cj : j = i
        · rw [cj, upd_s]
        · rw [pk_un cj]; exact hc j (by omega)
      · dsimp only
        rw [F_X11_begins_L12]
        dsimp only
        simp only [l6, eq_false (show ¬ 242 ≤ i by omega), if_false, ↓bnd (g106_9 St), ↓bnd (w1), nI_1, Option.bind_some]
    · rintro m ⟨t, x⟩ ⟨o, hc, h6⟩
      dsimp only at o hc h6 ⊢
      subst h6
      refine ⟨t, ?_, o, hc⟩
      rw [F_X11_begins_L12]
      dsimp only
      exact if_pos (by decide)
  exact hl
theorem M_ones (S : Sh s) (hn : 3000 ≤ n) : ∃ s', F_X11_begins_L47 n n s (some 106) (1 : Int32) = some s' ∧ Only (fun a => a = 109) s s' ∧ ∀ j, cI s' 109 j = if 8 ≤ j ∧ j < 13 then 1 else cI s 109 j := by
  have hl : ∃ s', F_X11_begins_L47 n n s (some 106) (nI (0 + 1)) = some s' ∧ Only (fun a => a = 109) s s' ∧ ∀ j, cI s' 109 j = if 8 ≤ j ∧ j < 8 + 5 then 1 else cI s 109 j := by
    refine loop_ex (fun m (t : xS × Int32) => F_X11_begins_L47 n m t.1 (some 106) t.2) (fun i t => Only (fun a => a = 109) s t.1 ∧ (∀ j, cI t.1 109 j = if 8 ≤ j ∧ j < 8 + i then 1 else cI s 109 j) ∧ t.2 = nI (i + 1)) 5 (fun r => ∃ s', r = some s' ∧ Only (fun a => a = 109) s s' ∧ ∀ j, cI s' 109 j = if 8 ≤ j ∧ j < 8 + 5 then 1 else cI s 109 j) ?_ ?_ n (by omega) (s, nI (0 + 1)) ⟨Only.refl S, fun j => by rw [if_neg (by omega)], rfl⟩
    · rintro m i ⟨t, x⟩ hi ⟨o, hc, h6⟩
      dsimp only at o hc h6 ⊢
      subst h6
      have St := o.2.2.1
      have l6 : ((6 : Int32) ≤ nI (i + 1)) = (6 ≤ i + 1) := nLe (a := 6) (by decide) (by omega)
      have ix : (7 : Int32) + nI (i + 1) = nI (7 + (i + 1)) := nAdd 7 _
      have w1 := w109n St (i := 7 + (i + 1)) (by omega) 1
      have oo := Only.wA St 109 (upd (cI t 109) (7 + (i + 1)) 1)
      have kk := k109 St (upd (cI t 109) (7 + (i + 1)) 1)
      generalize wA t 109 (upd (cI t 109) (7 + (i + 1)) 1) = t1 at *
      refine ⟨(t1, nI (i + 1 + 1)), ⟨o.trans oo, fun j => ?_, rfl⟩, ?_⟩
      · dsimp only
        rw [kk]
        by_cases cj : j = 7 + (i + 1)
        · rw [cj, upd_s, if_pos (by omega)]
        · rw [pk_un cj, hc]
          by_cases cr : 8 ≤ j ∧ j < 8 + i
          · rw [if_pos cr, if_pos (by omega)]
          · rw [if_neg cr, if_neg (by omega)]
      · dsimp only
        rw [F_X11_begins_L47]
        dsimp only
        simp only [l6, eq_false (show ¬ 6 ≤ i + 1 by omega), if_false, ↓bnd (g106_9 St), ix, ↓bnd (w1), nI_1, Option.bind_some]
    · rintro m ⟨t, x⟩ ⟨o, hc, h6⟩
      dsimp only at o hc h6 ⊢
      subst h6
      refine ⟨t, ?_, o, hc⟩
      rw [F_X11_begins_L47]
      dsimp only
      exact if_pos (by decide)
  exact hl
theorem M_pf (S : Sh s) {j : Nat} (hj : j = 2 ∨ j = 3 ∨ j = 8 ∨ j = 10 ∨ j = 11 ∨ j = 12 ∨ j = 13) (v : Int32) : ∃ s', pF s (some 106) 11 j (.int v) = some s' ∧ Only (fun a => a = 106) s s' ∧ fI s' 106 j = v ∧ ∀ i, i ≠ j → fI s' 106 i = fI s 106 i := by
  have A : Sh (uV s 106 j (.int v)) ∧ pF s (some 106) 11 j (.int v) = some (uV s 106 j (.int v)) ∧ fI (uV s 106 j (.int v)) 106 j = v := by
    rcases hj with rfl | rfl | rfl | rfl | rfl | rfl | rfl
    · exact ⟨s106_2 S v, p106_2 S v, f106_2 S v⟩
    · exact ⟨s106_3 S v, p106_3 S v, f106_3 S v⟩
    · exact ⟨s106_8 S v, p106_8 S v, f106_8 S v⟩
    · exact ⟨s106_10 S v, p106_10 S v, f106_10 S v⟩
    · exact ⟨s106_11 S v, p106_11 S v, f106_11 S v⟩
    · exact ⟨s106_12 S v, p106_12 S v, f106_12 S v⟩
    · exact ⟨s106_13 S v, p106_13 S v, f106_13 S v⟩
  obtain ⟨S1, e, f⟩ := A
  exact ⟨_, e, Only.uV S1, f, fun i hi => fI_oth hi _⟩
theorem M_begins (h : RN s tp len) (h5 : cI s 107 5 = 0) (h6 : cI s 107 6 = -1) (hs : so < 3) (hn : 3000 ≤ n) : ∃ s', F_X11_begins n s (some 106) (nI so) = some s' ∧ MH s s' ∧ MQo s' tp len 0 0 (-1) ∧ (so = 0 → LgQ s' lg0 0 0) ∧ (so = 1 → LwQ s' lw0 0 0) ∧ (so = 2 → PlQ s' pl0 0 0) := by
  have S := h.1
  obtain ⟨s1, e1, o1, x1, y1⟩ := M_pf S (j := 3) (by decide) 0
  have S1 := o1.2.2.1
  obtain ⟨s2, e2, o2, x2, y2⟩ := M_pf S1 (j := 8) (by decide) 0
  have S2 := o2.2.2.1
  obtain ⟨s3, e3, o3, z3⟩ := M_zero (n := n) S2 hn (nI so)
  have S3 := o3.2.2.1
  have f3 : ∀ k, fI s3 106 k = fI s2 106 k := fun k => fI_c (o3.2.2.2 106 (by decide)) k
  have L : ∃ s4, ((if nI so = (1 : Int32) then (gR s3 (some 106) 11 9).bind fun v8 => (sS 0 s3 v8 (0 : Int32) (30 : Int32)).bind fun s9 => (F_X11_begins_L47 n n s9 (some 106) (1 : Int32)).bind fun q13 => some q13 else some s3) : Option xS) = some s4 ∧ Only (fun a => a = 109) s3 s4 ∧ (so ≠ 1 → ∀ j, j < 242 → cI s4 109 j = 0) ∧ (so = 1 → ∀ j, j < 242 → cI s4 109 j = if j = 0 then 30 else if 8 ≤ j ∧ j < 13 then 1 else 0) := by
    have e1 : (nI so = (1 : Int32)) = (so = 1) := nEq (b := 1) (by omega) (by decide)
    by_cases c : so = 1
    · have w : sS 0 s3 (some 109) (0 : Int32) (30 : Int32) = _ := w109n S3 (i := 0) (by decide) 30
      have oo := Only.wA S3 109 (upd (cI s3 109) 0 30)
      have kk := k109 S3 (upd (cI s3 109) 0 30)
      generalize wA s3 109 (upd (cI s3 109) 0 30) = t at *
      obtain ⟨s4, e4, o4, z4⟩ := M_ones (n := n) oo.2.2.1 hn
      refine ⟨s4, ?_, oo.trans o4, fun q => absurd c q, fun _ j hj => ?_⟩
      · simp only [e1, eq_true c, if_true, ↓bnd (g106_9 S3), ↓bnd (w), ↓bnd (e4)]
      · rw [z4, kk]
        by_cases j0 : j = 0
        · rw [if_neg (by omega), j0, upd_s, if_pos rfl]
        · rw [if_neg j0, pk_un j0]
          by_cases j8 : 8 ≤ j ∧ j < 13
          · rw [if_pos j8, if_pos j8]
          · rw [if_neg j8, if_neg j8]; exact z3 j hj
    · exact ⟨s3, by rw [if_neg (by rw [e1]; exact c)], Only.refl S3, fun _ => z3, fun q => absurd q c⟩
  obtain ⟨s4, e4, o4, z4, z4'⟩ := L
  have S4 := o4.2.2.1
  have f4 : ∀ k, fI s4 106 k = fI s3 106 k := fun k => fI_c (o4.2.2.2 106 (by decide)) k
  obtain ⟨s5, e5, o5, x5, y5⟩ := M_pf S4 (j := 10) (by decide) 0
  have S5 := o5.2.2.1
  obtain ⟨s6, e6, o6, x6, y6⟩ := M_pf S5 (j := 11) (by decide) 1
  have S6 := o6.2.2.1
  obtain ⟨s7, e7, o7, x7, y7⟩ := M_pf S6 (j := 12) (by decide) 0
  have S7 := o7.2.2.1
  obtain ⟨s8, e8, o8, x8, y8⟩ := M_pf S7 (j := 13) (by decide) (-1)
  have S8 := o8.2.2.1
  have T : ∀ a, a = 106 ∨ a = 109 → a = 106 ∨ a = 107 ∨ a = 109 ∨ a = 110 := fun a h => by omega
  have oA : Only (fun a => a = 106 ∨ a = 109) s s8 := (((((((o1.mono fun a h => Or.inl h).trans (o2.mono fun a h => Or.inl h)).trans (o3.mono fun a h => Or.inr h)).trans (o4.mono fun a h => Or.inr h)).trans (o5.mono fun a h => Or.inl h)).trans (o6.mono fun a h => Or.inl h)).trans (o7.mono fun a h => Or.inl h)).trans (o8.mono fun a h => Or.inl h)
  have F8 : ∀ k, k ≠ 10 → k ≠ 11 → k ≠ 12 → k ≠ 13 → fI s8 106 k = fI s2 106 k := fun k h1 h2 h3 h4 => by rw [y8 k h4, y7 k h3, y6 k h2, y5 k h1, f4, f3]
  have R8 : RN s8 tp len := ⟨S8, by rw [F8 2 (by decide) (by decide) (by decide) (by decide), y2 2 (by decide), y1 2 (by decide)]; exact h.2.1, h.2.2.1, h.2.2.2.1, by rw [cI_o oA (by decide)]; exact h.2.2.2.2⟩
  obtain ⟨s9, v, w', e9, f9, t9, a9, b9⟩ := M_advance (n := n) (p := 0) R8 (Nat.zero_le _) (b := fI s8 106 4) (c := fI s8 106 5) (d := fI s8 106 6) (e := fI s8 106 7) ⟨by rw [F8 3 (by decide) (by decide) (by decide) (by decide), y2 3 (by decide), x1]; rfl, rfl, rfl, rfl, rfl⟩ hn
  have c9 : cI s9 109 = cI s4 109 := by rw [cI_o f9.1 (by decide), cI_o o8 (by decide), cI_o o7 (by decide), cI_o o6 (by decide), cI_o o5 (by decide)]
  have oB : Only (fun a => a = 106 ∨ a = 109) s s9 := oA.trans (f9.1.mono fun a h => Or.inl h)
  refine ⟨s9, ?_, ⟨oB.mono T, fun q _ _ => by rw [cI_o oB (by decide)], ?_⟩, ⟨R8.mf f9, ?_, Nat.zero_le _, ⟨v, w', t9, a9, b9⟩, by rw [cI_o oB (by decide), h5]; rfl, by rw [cI_o oB (by decide)]; exact h6, fun q => absurd rfl q⟩, fun hs => ?_, fun hs => ?_, fun hs => ?_⟩
  · unfold F_X11_begins
    simp only [↓bnd (e1), rz0, ↓bnd (e2), ↓bnd (e3), ↓bnd (e4), ↓bnd (e5), ↓bnd (e6), ↓bnd (e7), ↓bnd (e8), ↓bnd (o106 S8), ↓bnd (e9), Option.bind_some]
  · rw [f9.i (by decide), F8 15 (by decide) (by decide) (by decide) (by decide), y2 15 (by decide), y1 15 (by decide)]
  · rw [f9.i (by decide), F8 8 (by decide) (by decide) (by decide) (by decide), x2]
  · have Z : ∀ j, j < 242 → cI s9 109 j = nI 0 := fun j hj => by rw [c9]; exact z4 (by omega) j hj
    exact ⟨0, 0, Z 0 (by decide), Z 1 (by decide), Nat.le_refl 0, Nat.le_refl 0, fun _ => ⟨rfl, rfl, Z 0 (by decide), Z 1 (by decide), fun x hx => Z _ (by omega), fun x hx => Z _ (by omega), fun x hx => Z _ (by omega), fun x hx => Z _ (by omega), fun x hx => Z _ (by omega), fun x y hx hy => Z _ (by omega)⟩⟩
  · have Z : ∀ j, j < 242 → cI s9 109 j = if j = 0 then 30 else if 8 ≤ j ∧ j < 13 then 1 else 0 := fun j hj => by rw [c9]; exact z4' hs j hj
    intro _
    refine ⟨(Z 0 (by decide)).trans rfl, fun x hx => ?_, fun x hx => ?_⟩
    · rw [Z _ (by omega), if_neg (by omega), if_neg (by omega)]
      unfold lw0
      rw [if_neg (by omega), if_neg (by omega)]
      rfl
    · rw [Z _ (by omega), if_neg (by omega)]
      unfold lw0
      rw [if_neg (show ¬ 20 + x = 0 by omega)]
      by_cases c : 1 ≤ x
      · rw [if_pos (show 8 ≤ 0 + 7 + x ∧ 0 + 7 + x < 13 by omega), if_pos (show 21 ≤ 20 + x ∧ 20 + x < 26 by omega)]; rfl
      · rw [if_neg (show ¬ (8 ≤ 0 + 7 + x ∧ 0 + 7 + x < 13) by omega), if_neg (show ¬ (21 ≤ 20 + x ∧ 20 + x < 26) by omega)]; rfl
  · have Z : ∀ j, j < 242 → cI s9 109 j = nI 0 := fun j hj => by rw [c9]; exact z4 (by omega) j hj
    have g10 : fI s9 106 10 = 0 := by rw [f9.i (by decide), y8 10 (by decide), y7 10 (by decide), y6 10 (by decide), x5]
    have g11 : fI s9 106 11 = 1 := by rw [f9.i (by decide), y8 11 (by decide), y7 11 (by decide), x6]
    have g12 : fI s9 106 12 = 0 := by rw [f9.i (by decide), y8 12 (by decide), x7]
    have g13 : fI s9 106 13 = -1 := by rw [f9.i (by decide), x8]
    exact ⟨0, 0, Z 0 (by decide), g10, Nat.le_refl 0, Nat.zero_le _, fun _ => ⟨rfl, rfl, ⟨Z 0 (by decide), fun g w hg => absurd hg (Nat.not_lt_zero g), fun g hg => absurd hg (Nat.not_lt_zero g)⟩, g11, g12, g13⟩⟩
theorem M_pO (hs : so < 3) : F_X11_placeOf n st (nI so) (nI k) = some (nI (pO so k)) := by
  unfold F_X11_placeOf pO
  rcases (show so = 0 ∨ so = 1 ∨ so = 2 by omega) with rfl | rfl | rfl
  · rw [if_pos (show nI 0 = (0 : Int32) from rfl), if_pos rfl, Option.bind_some, show (150 : Int32) * nI k = nI (150 * k) from nMul 150 k, show (510 : Int32) + nI (150 * k) = nI (510 + 150 * k) from nAdd 510 _]
  · rw [if_neg (show ¬ nI 1 = (0 : Int32) by decide), if_pos (show nI 1 = (1 : Int32) from rfl), if_neg (show ¬ (1 : Nat) = 0 by decide), if_pos rfl, Option.bind_some, show (14 : Int32) * nI k = nI (14 * k) from nMul 14 k, show (960 : Int32) + nI (14 * k) = nI (960 + 14 * k) from nAdd 960 _]
  · rw [if_neg (show ¬ nI 2 = (0 : Int32) by decide), if_neg (show ¬ nI 2 = (1 : Int32) by decide), if_neg (show ¬ (2 : Nat) = 0 by decide), if_neg (show ¬ (2 : Nat) = 1 by decide), Option.bind_some, show (242 : Int32) * nI k = nI (242 * k) from nMul 242 k, show (1002 : Int32) + nI (242 * k) = nI (1002 + 242 * k) from nAdd 1002 _]
theorem M_zO (hs : so < 3) : F_X11_sizeOf n st (nI so) = some (nI (zO so)) := by
  rcases (show so = 0 ∨ so = 1 ∨ so = 2 by omega) with rfl | rfl | rfl <;> rfl
theorem M_cp (S : Sh s) (hs : so < 3) (hk : k < 3) (hn : 3000 ≤ n) : ∃ s', F_X11_text_L165 n n s (some 106) (nI so) (nI k) (0 : Int32) = some s' ∧ Only (fun a => a = 107) s s' ∧ ∀ j, cI s' 107 j = if pO so k ≤ j ∧ j < pO so k + zO so then cI s 109 (j - pO so k) else cI s 107 j := by
  have z2 : zO so ≤ 242 := by unfold zO; split <;> (try split) <;> omega
  have p2 : pO so k ≤ 1500 := by unfold pO; split <;> (try split) <;> omega
  have hl : ∃ s', F_X11_text_L165 n n s (some 106) (nI so) (nI k) (nI 0) = some s' ∧ Only (fun a => a = 107) s s' ∧ ∀ j, cI s' 107 j = if pO so k ≤ j ∧ j < pO so k + zO so then cI s 109 (j - pO so k) else cI s 107 j := by
    refine loop_ex (fun m (t : xS × Int32) => F_X11_text_L165 n m t.1 (some 106) (nI so) (nI k) t.2) (fun i t => Only (fun a => a = 107) s t.1 ∧ (∀ j, cI t.1 107 j = if pO so k ≤ j ∧ j < pO so k + i then cI s 109 (j - pO so k) else cI s 107 j) ∧ t.2 = nI i) (zO so) (fun r => ∃ s', r = some s' ∧ Only (fun a => a = 107) s s' ∧ ∀ j, cI s' 107 j = if pO so k ≤ j ∧ j < pO so k + zO so then cI s 109 (j - pO so k) else cI s 107 j) ?_ ?_ n (by omega) (s, nI 0) ⟨Only.refl S, fun j => by rw [if_neg (by omega)], rfl⟩
    · rintro m i ⟨t, x⟩ hi ⟨o, hc, h6⟩
      dsimp only at o hc h6 ⊢
      subst h6
      have St := o.2.2.1
      have l6 : (nI (zO so) ≤ nI i) = (zO so ≤ i) := nLe (by omega) (by omega)
      have r1 := aI109 St (i := i) (by omega)
      have w1 := w107n St (i := pO so k + i) (by omega) (cI t 109 i)
      have oo := Only.wA St 107 (upd (cI t 107) (pO so k + i) (cI t 109 i))
      have kk := k107 St (upd (cI t 107) (pO so k + i) (cI t 109 i))
      generalize wA t 107 (upd (cI t 107) (pO so k + i) (cI t 109 i)) = t1 at *
      refine ⟨(t1, nI (i + 1)), ⟨o.trans oo, fun j => ?_, rfl⟩, ?_⟩
      · dsimp only
        rw [kk]
        by_cases cj : j = pO so k + i
        · rw [cj, upd_s, if_pos (by omega), cI_o o (by decide), show pO so k + i - pO so k = i by omega]
        · rw [pk_un cj, hc]
          by_cases cr : pO so k ≤ j ∧ j < pO so k + i
          · rw [if_pos cr, if_pos (by omega)]
          · rw [if_neg cr, if_neg (by omega)]
      · dsimp only
        rw [F_X11_text_L165]
        dsimp only
        simp only [↓bnd (M_zO (n := n) (st := t) hs), l6, eq_false (show ¬ zO so ≤ i by omega), if_false, ↓bnd (g106_0 St), ↓bnd (M_pO (n := n) (st := t) (k := k) hs), ↓bnd (g106_9 St), ↓bnd (r1), nAdd, ↓bnd (w1), nI_1, Option.bind_some]
    · rintro m ⟨t, x⟩ ⟨o, hc, h6⟩
      dsimp only at o hc h6 ⊢
      subst h6
      refine ⟨t, ?_, o, hc⟩
      rw [F_X11_text_L165]
      dsimp only
      simp only [↓bnd (M_zO (n := n) (st := t) hs)]
      exact if_pos (Int32.le_refl _)
  exact hl
end L5

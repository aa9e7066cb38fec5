/-! A TEXT IS READ: the model's numbers -/
def HK (tp : Nat → Nat) (len p k : Nat) (w : Int32) : Prop := k ≠ 0 → ∃ w', w = nI w' ∧ w' < qB tp len p
theorem qn_lt {tp : Nat → Nat} {len p : Nat} (h : kD tp len p ≠ 0) : qB tp len p < nX tp len p := by
  unfold kD at h
  by_cases c0 : qB tp len p < len
  · unfold nX
    rw [if_pos c0]
    by_cases l : ltB (tp (qB tp len p)) = true
    · have s := (sc_le (P := ltB) (tp := tp) (len := len) _ (qB tp len p + 1) rfl).1
      rw [if_pos l, scA_t c0 l]
      omega
    · rw [if_neg l]
      by_cases g : dgB (tp (qB tp len p)) = true
      · have s := (sc_le (P := dgB) (tp := tp) (len := len) _ (qB tp len p + 1) rfl).1
        rw [if_pos g, scA_t c0 g]
        omega
      · rw [if_neg g]
        omega
  · rw [if_neg c0] at h; exact absurd rfl h
theorem qq_lt {tp : Nat → Nat} {len p : Nat} (hp : p ≤ len) (h : kD tp len p ≠ 0) : qB tp len p < qB tp len (nX tp len p) := by
  have a := qn_lt h
  have b := (qB_le (tp := tp) (nX_le (tp := tp) hp).2.1).1
  omega
theorem HK.nx {tp : Nat → Nat} {len p k : Nat} {w : Int32} (h : HK tp len p k w) (hp : p ≤ len) : HK tp len (nX tp len p) k w := by
  intro hk
  obtain ⟨w', e, l⟩ := h hk
  have a := nX_le (tp := tp) hp
  have b := (qB_le (tp := tp) a.2.1).1
  exact ⟨w', e, by omega⟩
/-- the model reads on: only its marks and the FAULT change -/
def MG (s s' : xS) : Prop := Only (fun a => a = 106 ∨ a = 107) s s' ∧ (∀ q, q ≠ 5 → q ≠ 6 → cI s' 107 q = cI s 107 q) ∧ ∀ k, k < 3 ∨ 8 < k → fV s' 106 k = fV s 106 k
def MQo (s : xS) (tp : Nat → Nat) (len p k : Nat) (w : Int32) : Prop := RN s tp len ∧ fI s 106 8 = 0 ∧ p ≤ len ∧ (∃ v x, MT s (nI (nX tp len p)) (nI (qB tp len p)) (nI (kM tp len p)) v x ∧ (kD tp len p = 2 → v = nI (vN tp len p)) ∧ (kD tp len p = 1 → x = nI (wC tp len p))) ∧ cI s 107 5 = nI k ∧ cI s 107 6 = w ∧ HK tp len p k w
def MQw (s : xS) (tp : Nat → Nat) (len e : Nat) : Prop := RN s tp len ∧ fI s 106 8 = 1 ∧ cI s 107 5 = 1 ∧ cI s 107 6 = nI e
def MQz (s : xS) (tp : Nat → Nat) (len p k : Nat) (w : Int32) : Option Nat → Prop
  | none => MQo s tp len p k w
  | some e => MQw s tp len e
abbrev nmIn (tp : Nat → Nat) (len : Nat) (lo hi : Int) (p : Nat) : Prop := lo ≤ (vN tp len p : Int) ∧ (vN tp len p : Int) ≤ hi
def nmR (tp : Nat → Nat) (len : Nat) (lo hi : Int) (p : Nat) : Option Nat → Int32
  | none => if kD tp len p = 2 then (if nmIn tp len lo hi p then nI (vN tp len p) else -1) else -1
  | some _ => -1
def nmZ (tp : Nat → Nat) (len p : Nat) : Option Nat → Option Nat
  | none => if kD tp len p = 2 then none else some (qB tp len p)
  | some e => some e
def nmK (tp : Nat → Nat) (len : Nat) (lo hi : Int) (p k : Nat) : Nat := if k = 0 then (if nmIn tp len lo hi p then 0 else 2) else k
def nmW (tp : Nat → Nat) (len : Nat) (lo hi : Int) (p k : Nat) (w : Int32) : Int32 := if k = 0 then (if nmIn tp len lo hi p then w else nI (qB tp len p)) else w
def enZ (tp : Nat → Nat) (len p : Nat) : Option Nat → Option Nat
  | none => if kD tp len p = 3 then none else some (qB tp len p)
  | some e => some e
def chZ (tp : Nat → Nat) (len p : Nat) : Nat → Nat → Option Nat → Option Nat
  | 0, i, z => enZ tp len (npn tp len p i) z
  | r + 1, i, z => chZ tp len p r (i + 1) (nmZ tp len (npn tp len p i) z)
theorem chZ_s {tp : Nat → Nat} {len p e : Nat} : ∀ r i, chZ tp len p r i (some e) = some e := by
  intro r
  induction r with
  | zero => exact fun i => rfl
  | succ r ih => exact fun i => ih (i + 1)
theorem chZ_n {tp : Nat → Nat} {len p : Nat} : ∀ r i, chZ tp len p r i none = lnE tp len p r i := by
  intro r
  induction r with
  | zero => exact fun i => rfl
  | succ r ih =>
    intro i
    rw [chZ, lnE]
    unfold nmZ
    by_cases c : kD tp len (npn tp len p i) = 2
    · rw [if_pos c, if_pos c, ih]
    · rw [if_neg c, if_neg c, chZ_s]
section MR
variable {st st1 st2 s s1 : xS} {n len p k e : Nat} {tp : Nat → Nat} {w : Int32} {z : Option Nat}
theorem MG.refl (h : Sh st) : MG st st := ⟨Only.refl h, fun _ _ _ => rfl, fun _ _ => rfl⟩
theorem MG.trans (h : MG st st1) (k : MG st1 st2) : MG st st2 := ⟨h.1.trans k.1, fun q h1 h2 => (k.2.1 q h1 h2).trans (h.2.1 q h1 h2), fun i hi => (k.2.2 i hi).trans (h.2.2 i hi)⟩
theorem MG.i (h : MG st st1) {k : Nat} (hk : k < 3 ∨ 8 < k) : fI st1 106 k = fI st 106 k := by unfold fI; rw [h.2.2 k hk]
theorem MF.mg (h : MF st st1) : MG st st1 := ⟨h.1.mono fun a h => Or.inl h, fun q _ _ => by rw [cI_o h.1 (by decide)], fun k hk => h.2 k (by omega)⟩
theorem RN.mg (h : RN st tp len) (k : MG st st1) : RN st1 tp len := by
  obtain ⟨h1, h2, h3, h4, h5⟩ := h
  exact ⟨k.1.2.2.1, (k.i (by omega)).trans h2, h3, h4, fun i hi => (k.2.1 _ (by omega) (by omega)).trans (h5 i hi)⟩
theorem aI107 (hS : Sh s) {i : Nat} (hi : i < 10250) : aI s (some 107) (nI i) = some (cI s 107 i) := M_all hS hi
theorem w107n (hS : Sh s) {i : Nat} (hi : i < 10250) (v : Int32) : sS 0 s (some 107) (nI i) v = some (wA s 107 (upd (cI s 107) i v)) := by rw [w107 hS, if_pos (ixT hi (by decide)), nIc (by omega)]
theorem MG_107 (hS : Sh s) {i : Nat} (hi : i = 5 ∨ i = 6) (v : Int32) : MG s (wA s 107 (upd (cI s 107) i v)) ∧ cI (wA s 107 (upd (cI s 107) i v)) 107 = upd (cI s 107) i v ∧ ∀ k, fI (wA s 107 (upd (cI s 107) i v)) 106 k = fI s 106 k := by
  have c : ∀ k, fV (wA s 107 (upd (cI s 107) i v)) 106 k = fV s 106 k := fun k => by unfold fV; rw [wA_n (by decide)]
  refine ⟨⟨(Only.wA hS 107 _).mono fun a h => Or.inr h, fun q h1 h2 => ?_, fun k _ => c k⟩, k107 hS _, fun k => by unfold fI; rw [c k]⟩
  rw [k107 hS, pk_un (by omega)]
/-- two marks set -/
theorem M_mark (hS : Sh s) (a b : Int32) : ∃ s', ((gR s (some 106) 11 0).bind fun v2 => (sS 0 s v2 (5 : Int32) a).bind fun s5 => (gR s5 (some 106) 11 0).bind fun v6 => (sS 0 s5 v6 (6 : Int32) b).bind fun s7 => some s7) = some s' ∧ MG s s' ∧ cI s' 107 5 = a ∧ cI s' 107 6 = b ∧ ∀ k, fI s' 106 k = fI s 106 k := by
  have w5 : sS 0 s (some 107) (5 : Int32) a = _ := w107n hS (i := 5) (by decide) a
  obtain ⟨g1, k1, f1⟩ := MG_107 hS (i := 5) (Or.inl rfl) a
  generalize wA s 107 (upd (cI s 107) 5 a) = s1 at *
  have S1 := g1.1.2.2.1
  have w6 : sS 0 s1 (some 107) (6 : Int32) b = _ := w107n S1 (i := 6) (by decide) b
  obtain ⟨g2, k2, f2⟩ := MG_107 S1 (i := 6) (Or.inr rfl) b
  refine ⟨_, by simp only [↓bnd (g106_0 hS), ↓bnd (w5), ↓bnd (g106_0 S1), ↓bnd (w6)], g1.trans g2, ?_, ?_, fun k => (f2 k).trans (f1 k)⟩
  · rw [k2, pk_un (by decide), k1, upd_s]
  · rw [k2, upd_s]
theorem M_ends_w (h : MQw s tp len e) : F_X11_ends n s (some 106) = some s := by
  unfold F_X11_ends
  simp only [↓bnd (g106_8 h.1.1), h.2.1, one0, if_false]
theorem M_ends_o (h : MQo s tp len p k w) : ∃ s', F_X11_ends n s (some 106) = some s' ∧ MG s s' ∧ MQw s' tp len (qB tp len p) := by
  obtain ⟨h1, h2, h3, ⟨v, x, t, -⟩, -⟩ := h
  have S := h1.1
  have p8 := p106_8 S 1
  have S1 := s106_8 S 1
  have f8 := f106_8 S 1
  have m1 : MG s (uV s 106 8 (.int 1)) := ⟨(Only.uV S1).mono fun a h => Or.inl h, fun q _ _ => by rw [cI_c (uV_n (by decide) _ _ _)], fun k hk => fV_o (show k ≠ 8 by omega) _⟩
  have f4 : fI (uV s 106 8 (.int 1)) 106 4 = fI s 106 4 := fI_oth (by decide) _
  generalize uV s 106 8 (.int 1) = s1 at *
  have w5 : sS 0 s1 (some 107) (5 : Int32) (1 : Int32) = _ := w107n S1 (i := 5) (by decide) 1
  obtain ⟨g2, k2, f2⟩ := MG_107 S1 (i := 5) (Or.inl rfl) 1
  generalize wA s1 107 (upd (cI s1 107) 5 1) = s2 at *
  have S2 := g2.1.2.2.1
  have g4 : gI s2 (some 106) 11 4 = some (nI (qB tp len p)) := by rw [g106_4 S2, f2, f4, t.2.1]
  have w6 : sS 0 s2 (some 107) (6 : Int32) (nI (qB tp len p)) = _ := w107n S2 (i := 6) (by decide) _
  obtain ⟨g3, k3, f3⟩ := MG_107 S2 (i := 6) (Or.inr rfl) (nI (qB tp len p))
  have G := (m1.trans g2).trans g3
  refine ⟨_, ?_, G, h1.mg G, ((f3 8).trans (f2 8)).trans f8, ?_, ?_⟩
  · unfold F_X11_ends
    simp only [↓bnd (g106_8 S), h2, zero0, if_true, rz1, ↓bnd (p8), ↓bnd (g106_0 S1), ↓bnd (w5), ↓bnd (g106_0 S2), ↓bnd (g4), ↓bnd (w6), Option.bind_some]
  · rw [k3, pk_un (by decide), k2, upd_s]
  · rw [k3, upd_s]
theorem M_also_w (h : MQw s tp len e) (a b : Int32) : F_X11_also n s (some 106) a b = some s := by
  unfold F_X11_also
  simp only [↓bnd (g106_8 h.1.1), h.2.1, one0, if_false]
/-- a FAULT at a place behind the first one's is none -/
theorem M_also_o (h : MQo s tp len p k w) (hk : k ≤ 3) {kd at' : Nat} (h1 : k ≠ 0 → ∃ w', w = nI w' ∧ w' < at') (h2 : at' < qB tp len p) : ∃ s', F_X11_also n s (some 106) (nI kd) (nI at') = some s' ∧ MG s s' ∧ MQo s' tp len p (if k = 0 then kd else k) (if k = 0 then nI at' else w) := by
  obtain ⟨r, x8, pl, ⟨v, x, t, tv, tx⟩, x5, x6, hk'⟩ := h
  have S := r.1
  have ql := (qB_le (tp := tp) pl).2
  have b5 := r.2.2.1
  have r5 : aI s (some 107) (5 : Int32) = some (nI k) := by
    have : aI s (some 107) (5 : Int32) = some (cI s 107 5) := aI107 S (by decide)
    rw [this, x5]
  have q0 : (nI k = (0 : Int32)) = (k = 0) := nEq (b := 0) (by omega) (by decide)
  unfold F_X11_also
  simp only [↓bnd (g106_8 S), x8, zero0, if_true, ↓bnd (g106_0 S), ↓bnd (r5), q0]
  by_cases c : k = 0
  · rw [if_pos c, if_pos c, if_pos c]
    obtain ⟨s', e', g', y5, y6, f'⟩ := M_mark S (nI kd) (nI at')
    have e' := e'
    simp only [↓bnd (g106_0 S)] at e'
    refine ⟨s', ?_, g', r.mg g', (f' 8).trans x8, pl, ⟨v, x, ⟨(f' 3).trans t.1, (f' 4).trans t.2.1, (f' 5).trans t.2.2.1, (f' 6).trans t.2.2.2.1, (f' 7).trans t.2.2.2.2⟩, tv, tx⟩, y5, y6, fun _ => ⟨at', rfl, h2⟩⟩
    exact e'
  · rw [if_neg c, if_neg c, if_neg c]
    obtain ⟨w', e1, e2⟩ := h1 c
    have r6 : aI s (some 107) (6 : Int32) = some (nI w') := by
      have : aI s (some 107) (6 : Int32) = some (cI s 107 6) := aI107 S (by decide)
      rw [this, x6, e1]
    refine ⟨s, ?_, MG.refl S, r, x8, pl, ⟨v, x, t, tv, tx⟩, x5, x6, hk'⟩
    have lt : (nI w' < nI at') = True := nLt_t e2 (by omega)
    simp only [↓bnd (r6), lt, if_true]
theorem MQ_t (h : MQo s tp len p k w) : gI s (some 106) 11 5 = some (nI (kM tp len p)) ∧ gI s (some 106) 11 4 = some (nI (qB tp len p)) ∧ (kD tp len p = 2 → gI s (some 106) 11 6 = some (nI (vN tp len p))) ∧ (kD tp len p = 1 → gI s (some 106) 11 7 = some (nI (wC tp len p))) := by
  obtain ⟨r, x8, pl, ⟨v, x, t, tv, tx⟩, -⟩ := h
  exact ⟨by rw [g106_5 r.1, t.2.2.1], by rw [g106_4 r.1, t.2.1], fun hk => by rw [g106_6 r.1, t.2.2.2.1, tv hk], fun hk => by rw [g106_7 r.1, t.2.2.2.2, tx hk]⟩
theorem M_adv (h : MQo s tp len p k w) (hn : 3000 ≤ n) : ∃ s', F_X11_advance n s (some 106) = some s' ∧ MG s s' ∧ MQo s' tp len (nX tp len p) k w := by
  obtain ⟨r, x8, pl, ⟨v, x, t, tv, tx⟩, x5, x6, hk⟩ := h
  obtain ⟨s', v', w', e', f', t', a', b'⟩ := M_advance (n := n) r (nX_le (tp := tp) pl).2.1 t hn
  refine ⟨s', e', f'.mg, r.mf f', (f'.i (by omega)).trans x8, (nX_le (tp := tp) pl).2.1, ⟨v', w', t', a', b'⟩, ?_, ?_, hk.nx pl⟩
  · rw [cI_o f'.1 (by decide)]; exact x5
  · rw [cI_o f'.1 (by decide)]; exact x6
theorem kM_i (tp : Nat → Nat) (len p : Nat) : (kM tp len p = 1 ↔ kD tp len p = 2) ∧ (kM tp len p = 2 ↔ kD tp len p = 3) ∧ (kM tp len p = 0 ↔ kD tp len p = 0) ∧ (kM tp len p = 3 ↔ kD tp len p = 1 ∧ wC tp len p ≠ 99) ∧ kM tp len p ≤ 4 := by
  unfold kM
  by_cases c0 : kD tp len p = 0
  · rw [if_pos c0]; omega
  · rw [if_neg c0]
    by_cases c1 : kD tp len p = 1
    · rw [if_pos c1]
      by_cases c9 : wC tp len p = 99
      · rw [if_pos c9]; omega
      · rw [if_neg c9]; omega
    · rw [if_neg c1]
      by_cases c2 : kD tp len p = 2
      · rw [if_pos c2]; omega
      · rw [if_neg c2]
        by_cases c3 : kD tp len p = 3
        · rw [if_pos c3]; omega
        · rw [if_neg c3]; omega
/-- a number -/
theorem M_num (h : MQz s tp len p k w z) (hk : k ≤ 3) {lo hi : Int} (h1 : -10000 ≤ lo ∧ lo ≤ 10000) (h2 : -10000 ≤ hi ∧ hi ≤ 10000) (hn : 3000 ≤ n) : ∃ s', F_X11_numbered n s (some 106) (zI lo) (zI hi) = some (nmR tp len lo hi p z, s') ∧ MG s s' ∧ MQz s' tp len (nX tp len p) (nmK tp len lo hi p k) (nmW tp len lo hi p k w) (nmZ tp len p z) := by
  cases z with
  | some e =>
    have h : MQw s tp len e := h
    refine ⟨s, ?_, MG.refl h.1.1, h⟩
    unfold F_X11_numbered
    simp only [↓bnd (g106_8 h.1.1), h.2.1, one0, if_false, ↓bnd (o106 h.1.1), ↓bnd (M_ends_w (n := n) h)]
    rfl
  | none =>
    have h : MQo s tp len p k w := h
    have S := h.1.1
    obtain ⟨t5, t4, t6, t7⟩ := MQ_t h
    have km := kM_i tp len p
    have e1 : (nI (kM tp len p) = (1 : Int32)) = (kM tp len p = 1) := nEq (b := 1) (by omega) (by decide)
    unfold nmZ nmR
    by_cases c : kD tp len p = 2
    · rw [if_pos c, if_pos c]
      have c1 := km.1.mpr c
      have dw := digitsW c
      obtain ⟨s', e', g', q'⟩ := M_adv (n := n) h hn
      have ii : F_X11_isIn n s' (nI (vN tp len p)) (zI lo) (zI hi) = some (bI (nmIn tp len lo hi p)) := by
        rw [M_isIn]
        congr 1
        have a1 : (zI lo ≤ nI (vN tp len p)) = (lo ≤ (vN tp len p : Int)) := by rw [nZ, zLe (by omega) (by omega) (by omega) (by omega)]
        have a2 : (nI (vN tp len p) ≤ zI hi) = ((vN tp len p : Int) ≤ hi) := by rw [nZ, zLe (by omega) (by omega) (by omega) (by omega)]
        by_cases c2 : nmIn tp len lo hi p
        · rw [bI_t c2, bI_t (by rw [a1, a2]; exact c2)]
        · rw [bI_f c2, bI_f (by rw [a1, a2]; exact c2)]
      unfold nmK nmW
      by_cases c2 : nmIn tp len lo hi p
      · rw [if_pos c2, if_pos c2, if_pos c2]
        rw [bI_t c2] at ii
        refine ⟨s', ?_, g', ?_⟩
        · unfold F_X11_numbered
          simp only [↓bnd (g106_8 S), h.2.1, zero0, if_true, ↓bnd (t5), e1.trans (eq_true c1), if_true, ↓bnd (t6 c), ↓bnd (t4), ↓bnd (o106 S), ↓bnd (e'), ↓bnd (ii), one0, if_false]
        · have e0 : (if k = 0 then 0 else k) = k := by
            by_cases c0 : k = 0
            · rw [if_pos c0, c0]
            · rw [if_neg c0]
          have ew : (if k = 0 then w else w) = w := by split <;> rfl
          rw [e0, ew]
          exact q'
      · rw [if_neg c2, if_neg c2, if_neg c2]
        rw [bI_f c2] at ii
        have hd : kD tp len p ≠ 0 := by omega
        obtain ⟨s2, e2, g2, q2⟩ := M_also_o (n := n) (kd := 2) q' hk h.2.2.2.2.2.2 (qq_lt h.2.2.1 hd)
        refine ⟨s2, ?_, g'.trans g2, q2⟩
        have e2 : F_X11_also n s' (some 106) (2 : Int32) (nI (qB tp len p)) = some s2 := e2
        unfold F_X11_numbered
        simp only [↓bnd (g106_8 S), h.2.1, zero0, if_true, ↓bnd (t5), e1.trans (eq_true c1), if_true, ↓bnd (t6 c), ↓bnd (t4), ↓bnd (o106 S), ↓bnd (e'), ↓bnd (ii), zero0, if_true, ↓bnd (o106 g'.1.2.2.1), ↓bnd (e2)]
    · rw [if_neg c, if_neg c]
      obtain ⟨s', e', g', q'⟩ := M_ends_o (n := n) h
      refine ⟨s', ?_, g', q'⟩
      unfold F_X11_numbered
      simp only [↓bnd (g106_8 S), h.2.1, zero0, if_true, ↓bnd (t5), e1.trans (eq_false fun q => c (km.1.mp q)), if_false, ↓bnd (o106 S), ↓bnd (e')]
theorem nmK_le {lo hi : Int} (hk : k ≤ 3) : nmK tp len lo hi p k ≤ 3 := by
  unfold nmK
  split
  · split <;> omega
  · exact hk
/-- the end of a line -/
theorem M_end (h : MQz s tp len p k w z) (hn : 3000 ≤ n) : ∃ s', F_X11_endsLine n s (some 106) = some s' ∧ MG s s' ∧ MQz s' tp len (nX tp len p) k w (enZ tp len p z) := by
  cases z with
  | some e =>
    have h : MQw s tp len e := h
    refine ⟨s, ?_, MG.refl h.1.1, h⟩
    unfold F_X11_endsLine
    simp only [↓bnd (g106_8 h.1.1), h.2.1, one0, if_false, ↓bnd (o106 h.1.1), ↓bnd (M_ends_w (n := n) h), Option.bind_some]
  | none =>
    have h : MQo s tp len p k w := h
    have S := h.1.1
    obtain ⟨t5, t4, t6, t7⟩ := MQ_t h
    have km := kM_i tp len p
    have e1 : (nI (kM tp len p) = (2 : Int32)) = (kM tp len p = 2) := nEq (b := 2) (by omega) (by decide)
    unfold enZ
    by_cases c : kD tp len p = 3
    · rw [if_pos c]
      obtain ⟨s', e', g', q'⟩ := M_adv (n := n) h hn
      refine ⟨s', ?_, g', q'⟩
      unfold F_X11_endsLine
      simp only [↓bnd (g106_8 S), h.2.1, zero0, if_true, ↓bnd (t5), e1.trans (eq_true (km.2.1.mpr c)), if_true, ↓bnd (o106 S), ↓bnd (e'), Option.bind_some]
    · rw [if_neg c]
      obtain ⟨s', e', g', q'⟩ := M_ends_o (n := n) h
      refine ⟨s', ?_, g', q'⟩
      unfold F_X11_endsLine
      simp only [↓bnd (g106_8 S), h.2.1, zero0, if_true, ↓bnd (t5), e1.trans (eq_false fun q => c (km.2.1.mp q)), if_false, ↓bnd (o106 S), ↓bnd (e'), Option.bind_some]
/-- a line's word -/
theorem M_takes_t (h : MQo s tp len p k w) {a b : Nat} (hk : kD tp len p = 1) (h1 : a ≤ wC tp len p) (h2 : wC tp len p ≤ b) (hb : b < 99) (hn : 3000 ≤ n) : ∃ s', F_X11_takes n s (some 106) (nI a) (nI b) = some (nI (wC tp len p), s') ∧ MG s s' ∧ MQo s' tp len (nX tp len p) k w := by
  have S := h.1.1
  obtain ⟨t5, t4, t6, t7⟩ := MQ_t h
  have km := kM_i tp len p
  have e1 : (nI (kM tp len p) = (3 : Int32)) = (kM tp len p = 3) := nEq (b := 3) (by omega) (by decide)
  have ii : F_X11_isIn n s (nI (wC tp len p)) (nI a) (nI b) = some 1 := by
    rw [M_isIn, bI_t ⟨nI_le h1 (by omega), nI_le h2 (by omega)⟩]
  obtain ⟨s', e', g', q'⟩ := M_adv (n := n) h hn
  refine ⟨s', ?_, g', q'⟩
  unfold F_X11_takes
  simp only [↓bnd (g106_8 S), h.2.1, zero0, if_true, ↓bnd (t5), e1.trans (eq_true (km.2.2.2.1.mpr ⟨hk, by omega⟩)), if_true, ↓bnd (t7 hk), ↓bnd (ii), one0, if_false, ↓bnd (t7 hk), ↓bnd (o106 S), ↓bnd (e')]
theorem M_takes_f (h : MQo s tp len p k w) {a b : Nat} (hf : ¬ (kD tp len p = 1 ∧ a ≤ wC tp len p ∧ wC tp len p ≤ b)) (hb : b < 99) (hab : a ≤ b) : ∃ s', F_X11_takes n s (some 106) (nI a) (nI b) = some (-1, s') ∧ MG s s' ∧ MQw s' tp len (qB tp len p) := by
  have S := h.1.1
  obtain ⟨t5, t4, t6, t7⟩ := MQ_t h
  have km := kM_i tp len p
  have e1 : (nI (kM tp len p) = (3 : Int32)) = (kM tp len p = 3) := nEq (b := 3) (by omega) (by decide)
  obtain ⟨s', e', g', q'⟩ := M_ends_o (n := n) h
  refine ⟨s', ?_, g', q'⟩
  unfold F_X11_takes
  by_cases c : kM tp len p = 3
  · obtain ⟨c1, c2⟩ := km.2.2.2.1.mp c
    have wl : wC tp len p ≤ 99 := by
      unfold wC
      split
      · exact wO_le _
      · exact Nat.le_refl _
    have ii : F_X11_isIn n s (nI (wC tp len p)) (nI a) (nI b) = some 0 := by
      rw [M_isIn, bI_f fun q => hf ⟨c1, ?_, ?_⟩]
      · have := q.1; rw [nLe (by omega) (by omega)] at this; exact this
      · have := q.2; rw [nLe (by omega) (by omega)] at this; exact this
    simp only [↓bnd (g106_8 S), h.2.1, zero0, if_true, ↓bnd (t5), e1.trans (eq_true c), if_true, ↓bnd (t7 c1), ↓bnd (ii), zero0, if_true, ↓bnd (o106 S), ↓bnd (e')]
  · simp only [↓bnd (g106_8 S), h.2.1, zero0, if_true, ↓bnd (t5), e1.trans (eq_false c), if_false, ↓bnd (o106 S), ↓bnd (e')]
end MR

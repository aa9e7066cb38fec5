/-! A LINE, A TEXT: the class -/
def gFo (so code : Nat) : Option Nat := if so = 0 then (if code = 1 then some 0 else if code = 2 then some 1 else if code = 13 then some 2 else none) else if so = 1 then (if 11 ≤ code ∧ code ≤ 17 then some (code - 1) else none) else if 21 ≤ code ∧ code ≤ 27 then some (code - 1) else none
theorem fO_gF {so : Nat} (hs : so < 3) (c : Nat) : fO so c = eI (gFo so c) := by
  unfold fO gFo
  rcases (show so = 0 ∨ so = 1 ∨ so = 2 by omega) with rfl | rfl | rfl
  · rw [if_pos rfl, if_pos rfl]
    by_cases c1 : c = 1
    · rw [if_pos c1, if_pos c1]; rfl
    · rw [if_neg c1, if_neg c1]
      by_cases c2 : c = 2
      · rw [if_pos c2, if_pos c2]; rfl
      · rw [if_neg c2, if_neg c2]
        by_cases c3 : c = 13
        · rw [if_pos c3, if_pos c3]; rfl
        · rw [if_neg c3, if_neg c3]; rfl
  · rw [if_neg (show ¬ (1 : Nat) = 0 by decide), if_pos (show (1 : Nat) = 1 from rfl), if_neg (show ¬ (1 : Nat) = 0 by decide), if_pos (show (1 : Nat) = 1 from rfl)]
    by_cases c1 : 11 ≤ c ∧ c ≤ 17
    · rw [if_pos c1, if_pos c1]; rfl
    · rw [if_neg c1, if_neg c1]; rfl
  · rw [if_neg (show ¬ (2 : Nat) = 0 by decide), if_neg (show ¬ (2 : Nat) = 1 by decide), if_neg (show ¬ (2 : Nat) = 0 by decide), if_neg (show ¬ (2 : Nat) = 1 by decide)]
    by_cases c1 : 21 ≤ c ∧ c ≤ 27
    · rw [if_pos c1, if_pos c1]; rfl
    · rw [if_neg c1, if_neg c1]; rfl
theorem gFo_r {so c f : Nat} (hs : so < 3) (h : gFo so c = some f) : (so = 0 ∧ f < 3) ∨ (so = 1 ∧ 10 ≤ f ∧ f ≤ 16) ∨ (so = 2 ∧ 20 ≤ f ∧ f ≤ 26) := by
  unfold gFo at h
  rcases (show so = 0 ∨ so = 1 ∨ so = 2 by omega) with rfl | rfl | rfl
  · rw [if_pos rfl] at h
    refine Or.inl ⟨rfl, ?_⟩
    by_cases c1 : c = 1
    · rw [if_pos c1] at h; injection h with h; omega
    · rw [if_neg c1] at h
      by_cases c2 : c = 2
      · rw [if_pos c2] at h; injection h with h; omega
      · rw [if_neg c2] at h
        by_cases c3 : c = 13
        · rw [if_pos c3] at h; injection h with h; omega
        · rw [if_neg c3] at h; cases h
  · rw [if_neg (by decide), if_pos rfl] at h
    refine Or.inr (Or.inl ⟨rfl, ?_⟩)
    by_cases c1 : 11 ≤ c ∧ c ≤ 17
    · rw [if_pos c1] at h; injection h with h; omega
    · rw [if_neg c1] at h; cases h
  · rw [if_neg (by decide), if_neg (by decide)] at h
    refine Or.inr (Or.inr ⟨rfl, ?_⟩)
    by_cases c1 : 21 ≤ c ∧ c ≤ 27
    · rw [if_pos c1] at h; injection h with h; omega
    · rw [if_neg c1] at h; cases h
def mnO (f : Nat) : Nat := if f = 0 then 3 else if f = 2 then 3 else if f = 10 then 1 else if f = 11 then 1 else if f = 20 then 1 else if f = 25 then 1 else if f = 21 then 0 else if f = 22 then 0 else if f = 23 then 0 else if f = 24 then 0 else 2
theorem mnO_le (f : Nat) : mnO f ≤ 3 := by
  unfold mnO
  repeat (first | (split; omega) | omega)
/-- the first place where a line is none -/
def lnE (tp : Nat → Nat) (len p : Nat) : Nat → Nat → Option Nat
  | 0, i => if kD tp len (npn tp len p i) = 3 then none else some (qB tp len (npn tp len p i))
  | r + 1, i => if kD tp len (npn tp len p i) = 2 then lnE tp len p r (i + 1) else some (qB tp len (npn tp len p i))
theorem lnE_n {tp : Nat → Nat} {len p : Nat} : ∀ r i, lnE tp len p r i = none → (∀ j, i ≤ j → j < i + r → kD tp len (npn tp len p j) = 2) ∧ kD tp len (npn tp len p (i + r)) = 3 := by
  intro r
  induction r with
  | zero =>
    intro i h
    unfold lnE at h
    by_cases c : kD tp len (npn tp len p i) = 3
    · exact ⟨fun j h1 h2 => by omega, c⟩
    · rw [if_neg c] at h; cases h
  | succ r ih =>
    intro i h
    unfold lnE at h
    by_cases c : kD tp len (npn tp len p i) = 2
    · rw [if_pos c] at h
      have a := ih (i + 1) h
      rw [show i + 1 + r = i + (r + 1) by omega] at a
      refine ⟨fun j h1 h2 => ?_, a.2⟩
      by_cases hj : j = i
      · rw [hj]; exact c
      · exact a.1 j (by omega) h2
    · rw [if_neg c] at h; cases h
theorem digitsW {tp : Nat → Nat} {len p : Nat} (h : kD tp len p = 2) : vN tp len p ≤ 9999 := by
  unfold kD at h
  by_cases c0 : qB tp len p < len
  · rw [if_pos c0] at h
    by_cases cl : ltB (tp (qB tp len p)) = true
    · rw [if_pos cl] at h; omega
    · rw [if_neg cl] at h
      by_cases cd : dgB (tp (qB tp len p)) = true
      · have nx : nX tp len p = scA dgB tp len (qB tp len p) := by unfold nX; rw [if_pos c0, if_neg cl, if_pos cd]
        have s1 := (sc_le (P := dgB) (tp := tp) (len := len) _ (qB tp len p) rfl).2.2.1
        unfold vN
        refine (vl_le tp (qB tp len p) _ fun i hi => ?_).1
        have := s1 (qB tp len p + i) (by omega) (by rw [← nx]; omega)
        unfold dgB at this
        exact (of_decide_eq_true this).2
      · rw [if_neg cd] at h; split at h <;> omega
  · rw [if_neg c0] at h; omega
/-- where a line that begins at p is none; where the next begins -/
def synE (tp : Nat → Nat) (len so p : Nat) : Option Nat := if kD tp len p = 1 then (match gFo so (wC tp len p) with | none => some (qB tp len p) | some f => lnE tp len (nX tp len p) (mnO f) 0) else some (qB tp len p)
def frm (tp : Nat → Nat) (len so p : Nat) : Nat := (gFo so (wC tp len p)).getD 0
def nxt (tp : Nat → Nat) (len so p : Nat) : Nat := npn tp len (nX tp len p) (mnO (frm tp len so p) + 1)
def lnV (tp : Nat → Nat) (len p m : Nat) : Nat → Nat := fun j => if j < m then vN tp len (npn tp len p j) else 0
def chkP {α : Type} (ck : α → Nat → (Nat → Nat) → Nat × Nat × α) (tp : Nat → Nat) (len so p : Nat) (D : α) (k : Nat) (w : Int32) : α × Nat × Int32 :=
  if k = 0 then ((ck D (frm tp len so p) (lnV tp len (nX tp len p) (mnO (frm tp len so p)))).2.2, (ck D (frm tp len so p) (lnV tp len (nX tp len p) (mnO (frm tp len so p)))).1, if (ck D (frm tp len so p) (lnV tp len (nX tp len p) (mnO (frm tp len so p)))).1 = 0 then w else if (ck D (frm tp len so p) (lnV tp len (nX tp len p) (mnO (frm tp len so p)))).1 = 3 then nI (qB tp len p) else nI (qB tp len (npn tp len (nX tp len p) (ck D (frm tp len so p) (lnV tp len (nX tp len p) (mnO (frm tp len so p)))).2.1))) else (D, k, w)
/-- a text: what it tells, its fault -/
def rdT {α : Type} (ck : α → Nat → (Nat → Nat) → Nat × Nat × α) (tp : Nat → Nat) (len so : Nat) : Nat → Nat → α → Nat → Int32 → α × Nat × Int32
  | 0, _, D, k, w => (D, k, w)
  | f + 1, p, D, k, w => if kD tp len p = 0 then (D, k, w) else match synE tp len so p with
    | some e => (D, 1, nI e)
    | none => rdT ck tp len so f (nxt tp len so p) (chkP ck tp len so p D k w).1 (chkP ck tp len so p D k w).2.1 (chkP ck tp len so p D k w).2.2
theorem syn_n {tp : Nat → Nat} {len so p : Nat} (hs : so < 3) (h : synE tp len so p = none) : kD tp len p = 1 ∧ ∃ f, gFo so (wC tp len p) = some f ∧ frm tp len so p = f ∧ lnE tp len (nX tp len p) (mnO f) 0 = none := by
  unfold synE at h
  by_cases c : kD tp len p = 1
  · rw [if_pos c] at h
    refine ⟨c, ?_⟩
    unfold frm
    cases g : gFo so (wC tp len p) with
    | none => rw [g] at h; cases h
    | some f => rw [g] at h; exact ⟨f, rfl, rfl, h⟩
  · rw [if_neg c] at h; cases h
theorem nxt_le {tp : Nat → Nat} {len so p : Nat} (hp : p ≤ len) (hk : kD tp len p ≠ 0) : p < nxt tp len so p ∧ nxt tp len so p ≤ len := by
  have a := nX_le (tp := tp) hp
  have b := npn_le (tp := tp) a.2.1 (mnO (frm tp len so p) + 1)
  have c := a.2.2 hk
  unfold nxt
  exact ⟨by omega, b.2⟩
/-- the class's reader reads: what it was given stays -/
def XF (m0 : Nat) (st st' : xS) : Prop := st'.1 = st.1 ∧ st'.2.1 = st.2.1 ∧ Sh st' ∧ ∀ a, a < m0 → ¬ (a = 75 ∨ a = 77 ∨ a = 78) → st'.2.2 a = st.2.2 a
section LX
variable {st st1 st2 s s1 : xS} {n len p i m m0 so : Nat} {tp : Nat → Nat} {kn : Option Nat} {fi fo : Int32}
theorem XF.refl (h : Sh st) : XF m0 st st := ⟨rfl, rfl, h, fun _ _ _ => rfl⟩
theorem XF.trans (h : XF m0 st st1) (k : XF m0 st1 st2) : XF m0 st st2 := ⟨k.1.trans h.1, k.2.1.trans h.2.1, k.2.2.1, fun a h1 h2 => (k.2.2.2 a h1 h2).trans (h.2.2.2 a h1 h2)⟩
theorem RF.xf (h : RF st st1) : XF m0 st st1 := ⟨h.1.1, h.1.2.1, h.1.2.2.1, fun a _ h2 => h.1.2.2.2 a h2⟩
theorem NF.xf (h : NF m0 st st1) : XF m0 st st1 := ⟨h.1, h.2.1, h.2.2.1, fun a h1 _ => h.2.2.2 a h1⟩
theorem RB.xf (h : RB st tp len) (k : XF m0 st st1) (h116 : 116 ≤ m0) (h0 : fR st1 75 0 = fR st 75 0) (h1 : fI st1 75 1 = fI st 75 1) : RB st1 tp len := by
  obtain ⟨a1, a2, a3, a4, a5, a6⟩ := h
  exact ⟨k.2.2.1, h0.trans a2, h1.trans a3, a4, a5, by rw [cI_c (k.2.2.2 73 (by omega) (by decide))]; exact a6⟩
theorem C_numOf {f : Nat} (hf : f ≤ 26) : F_X7_numbersOf n st (nI f) = some (nI (mnO f)) := by
  have : ∀ f : Fin 27, F_X7_numbersOf n st (nI f.val) = some (nI (mnO f.val)) := by
    intro f
    rcases (show f.val = 0 ∨ f.val = 1 ∨ f.val = 2 ∨ f.val = 3 ∨ f.val = 4 ∨ f.val = 5 ∨ f.val = 6 ∨ f.val = 7 ∨ f.val = 8 ∨ f.val = 9 ∨ f.val = 10 ∨ f.val = 11 ∨ f.val = 12 ∨ f.val = 13 ∨ f.val = 14 ∨ f.val = 15 ∨ f.val = 16 ∨ f.val = 17 ∨ f.val = 18 ∨ f.val = 19 ∨ f.val = 20 ∨ f.val = 21 ∨ f.val = 22 ∨ f.val = 23 ∨ f.val = 24 ∨ f.val = 25 ∨ f.val = 26 by omega) with h | h | h | h | h | h | h | h | h | h | h | h | h | h | h | h | h | h | h | h | h | h | h | h | h | h | h <;> rw [h] <;> rfl
  exact this ⟨f, by omega⟩
theorem C_failX (hS : Sh s) (k : Int32) (w : Int32) : ∃ s', F_X7_fail n s (some 75) k w = some s' ∧ Only (fun a => a = 75) s s' ∧ (∀ j, j < 8 → fV s' 75 j = fV s 75 j) ∧ fI s' 75 8 = k ∧ fI s' 75 9 = w := by
  have p1 := p75_8 hS k
  have S1 := s75_8 hS k
  have f1 := f75_8 hS k
  have o1 : Only (fun a => a = 75) s (uV s 75 8 (.int k)) := Only.uV S1
  have v1 : ∀ j, j < 8 → fV (uV s 75 8 (.int k)) 75 j = fV s 75 j := fun j hj => fV_o (show j ≠ 8 by omega) _
  generalize uV s 75 8 (.int k) = s1 at *
  have p2 := p75_9 S1 w
  have S2 := s75_9 S1 w
  have f2 := f75_9 S1 w
  have o2 : Only (fun a => a = 75) s1 (uV s1 75 9 (.int w)) := Only.uV S2
  have v2 : ∀ j, j < 8 → fV (uV s1 75 9 (.int w)) 75 j = fV s1 75 j := fun j hj => fV_o (show j ≠ 9 by omega) _
  have e8 : fI (uV s1 75 9 (.int w)) 75 8 = fI s1 75 8 := fI_oth (by decide) _
  refine ⟨_, ?_, o1.trans o2, fun j hj => (v2 j hj).trans (v1 j hj), e8.trans f1, f2⟩
  unfold F_X7_fail
  simp only [↓bnd (p1), ↓bnd (p2)]
theorem L_zeros (h0 : RB st tp len) : ∀ d i s, i + d = 3 → m ≤ i → AT st s tp len p m i → ∃ s', AT st s' tp len p m 3 ∧ ∀ k, F_X7_readLine_L42 n (k + d) s (some 75) kn fi fo (nI m) (nI i) = F_X7_readLine_L42 n k s' (some 75) kn fi fo (nI m) (nI 3) := by
  intro d
  induction d with
  | zero =>
    intro i s hi hm h
    have : i = 3 := by omega
    subst this
    exact ⟨s, h, fun k => rfl⟩
  | succ d ih =>
    intro i s hi hm h
    obtain ⟨s1, h1, e1⟩ := L_zero (n := n) (kn := kn) (fi := fi) (fo := fo) h0 h (by omega) hm
    obtain ⟨s2, h2, e2⟩ := ih (i + 1) s1 (by omega) (by omega) h1
    refine ⟨s2, h2, fun k => ?_⟩
    rw [show k + (d + 1) = (k + d) + 1 by omega, e1 (k + d), e2 k]
theorem L_line (h0 : RB st tp len) (hp : p ≤ len) (hm3 : m ≤ 3) (hn : 3000 ≤ n) : ∀ r i s, i + r = m → AT st s tp len p m i →
    (∀ e, lnE tp len p r i = some e → ∃ s', RF st s' ∧ fI s' 75 4 = nI e ∧ ∀ k, F_X7_readLine_L42 n (k + 4 - i) s (some 75) kn fi fo (nI m) (nI i) = some (0, s')) ∧
    (lnE tp len p r i = none → ∃ s', RF st s' ∧ (∃ b c d, RT s' (nI (npn tp len p (m + 1))) b c d) ∧ (∀ j, j < 3 → cI s' 77 j = nI (lnV tp len p m j)) ∧ (∀ j, j < m → cI s' 78 j = nI (qB tp len (npn tp len p j))) ∧
      ∀ k, F_X7_readLine_L42 n (k + 4 - i) s (some 75) kn fi fo (nI m) (nI i) = ((if fI s' 75 8 = (0 : Int32) then (F_X7_check n s' (some 75) fo (nI m) fi kn).bind fun s14 => some s14 else some s') : Option xS).bind fun q16 => some (1, q16)) := by
  intro r
  induction r with
  | zero =>
    intro i s hi h
    have : i = m := by omega
    subst this
    obtain ⟨s1, h1, e1⟩ := L_zeros (n := n) (kn := kn) (fi := fi) (fo := fo) h0 (3 - i) i s (by omega) (Nat.le_refl _) h
    obtain ⟨s2, f2, p2, t2, c7, c8, x1, x2⟩ := L_end (n := n) (kn := kn) (fi := fi) (fo := fo) h0 hp h1 hm3 hn
    unfold lnE
    by_cases c : kD tp len (npn tp len p i) = 3
    · rw [if_pos c]
      refine ⟨fun e h => (nomatch h), fun _ => ⟨s2, f2, t2, ?_, ?_, fun k => ?_⟩⟩
      · rw [c7]; exact h1.2.2.1
      · rw [c8]; exact fun j hj => h1.2.2.2 j (by omega)
      · rw [show k + 4 - i = k + 1 + (3 - i) by omega, e1, x2 c]
    · rw [if_neg c]
      refine ⟨fun e h => ?_, fun h => (nomatch h)⟩
      injection h with h
      subst h
      exact ⟨s2, f2, p2, fun k => by rw [show k + 4 - i = k + 1 + (3 - i) by omega, e1, x1 c]⟩
  | succ r ih =>
    intro i s hi h
    obtain ⟨x1, x2⟩ := L_num (n := n) (kn := kn) (fi := fi) (fo := fo) h0 hp h (by omega) (by omega) hm3 hn
    unfold lnE
    by_cases c : kD tp len (npn tp len p i) = 2
    · rw [if_pos c]
      obtain ⟨s1, h1, e1⟩ := x1 c
      obtain ⟨y1, y2⟩ := ih (i + 1) s1 (by omega) h1
      refine ⟨fun e h => ?_, fun h => ?_⟩
      · obtain ⟨s2, f2, p2, e2⟩ := y1 e h
        exact ⟨s2, f2, p2, fun k => by rw [show k + 4 - i = (k + 4 - (i + 1)) + 1 by omega, e1, e2]⟩
      · obtain ⟨s2, f2, t2, v2, q2, e2⟩ := y2 h
        exact ⟨s2, f2, t2, v2, q2, fun k => by rw [show k + 4 - i = (k + 4 - (i + 1)) + 1 by omega, e1, e2]⟩
    · rw [if_neg c]
      refine ⟨fun e h => ?_, fun h => (nomatch h)⟩
      injection h with h
      subst h
      obtain ⟨s2, f2, p2, e2⟩ := x2 c
      exact ⟨s2, f2, p2, fun k => by rw [show k + 4 - i = (k + 4 - (i + 1)) + 1 by omega, e2]⟩
/-- a kind of text, as the class holds what it tells -/
def CkH {α : Type} (n so m0 : Nat) (KN : xS → α → Prop) (Iv : α → Prop) (ck : α → Nat → (Nat → Nat) → Nat × Nat × α) : Prop :=
  (∀ s s' D, (∀ a, m0 ≤ a → s'.2.2 a = s.2.2 a) → KN s D → KN s' D) ∧
  ∀ (s : xS) (D : α) (f c : Nat) (v q : Nat → Nat) (w fi : Int32), Sh s → KN s D → Iv D → gFo so c = some f → (∀ j, j < 3 → cI s 77 j = nI (v j)) → (∀ j, j < mnO f → cI s 78 j = nI (q j)) → (∀ j, v j ≤ 9999) → fI s 75 8 = 0 → fI s 75 9 = w →
    ∃ s', F_X7_check n s (some 75) (nI f) (nI (mnO f)) fi (some m0) = some s' ∧ XF m0 s s' ∧ (∀ k, k < 8 → fV s' 75 k = fV s 75 k) ∧ KN s' (ck D f v).2.2 ∧ Iv (ck D f v).2.2 ∧ fI s' 75 8 = nI (ck D f v).1 ∧ fI s' 75 9 = (if (ck D f v).1 = 0 then w else if (ck D f v).1 = 3 then fi else nI (q (ck D f v).2.1))
theorem RT.v {a b c d : Int32} (h : RT st a b c d) (k : ∀ j, j < 8 → fV st1 75 j = fV st 75 j) : RT st1 a b c d := by
  have e : ∀ j, j < 8 → fI st1 75 j = fI st 75 j := fun j hj => by unfold fI; rw [k j hj]
  exact ⟨(e 2 (by decide)).trans h.1, (e 3 (by decide)).trans h.2.1, (e 4 (by decide)).trans h.2.2.1, (e 5 (by decide)).trans h.2.2.2⟩
theorem C_form (h : RB st tp len) (hs : so < 3) (hk : kD tp len p = 1) (hp : p ≤ len) (g2 : gI st (some 75) 7 2 = some (nI (nX tp len p))) (g4 : gI st (some 75) 7 4 = some (nI (qB tp len p))) (hn : 3000 ≤ n) : F_X7_formOf n st (some 75) (nI so) = some (eI (gFo so (wC tp len p))) := by
  rw [← fO_gF hs]
  rcases (show so = 0 ∨ so = 1 ∨ so = 2 by omega) with rfl | rfl | rfl
  · exact C_form0 h hk hp g2 g4 hn
  · exact C_form1 h hk hp g2 g4 hn
  · exact C_form2 h hk hp g2 g4 hn
/-- a line -/
theorem C_line {α : Type} {KN : xS → α → Prop} {Iv : α → Prop} {ck : α → Nat → (Nat → Nat) → Nat × Nat × α} {D : α} {k : Nat} {w d : Int32} (hc : CkH n so m0 KN Iv ck) (h116 : 116 ≤ m0) (hs : so < 3) (h : RB s tp len) (hp : p ≤ len) (ht : RT s (nI (nX tp len p)) (nI (kD tp len p)) (nI (qB tp len p)) d) (hK : KN s D) (hI : Iv D) (h8 : fI s 75 8 = nI k) (hk3 : k ≤ 3) (h9 : fI s 75 9 = w) (hn : 3000 ≤ n) :
    (∀ e, synE tp len so p = some e → ∃ s', F_X7_readLine n s (some 75) (nI so) (some m0) = some (0, s') ∧ XF m0 s s' ∧ fI s' 75 4 = nI e) ∧
    (synE tp len so p = none → ∃ s', F_X7_readLine n s (some 75) (nI so) (some m0) = some (1, s') ∧ XF m0 s s' ∧ RB s' tp len ∧ (∃ b c d, RT s' (nI (nxt tp len so p)) b c d) ∧ KN s' (chkP ck tp len so p D k w).1 ∧ Iv (chkP ck tp len so p D k w).1 ∧ fI s' 75 8 = nI (chkP ck tp len so p D k w).2.1 ∧ fI s' 75 9 = (chkP ck tp len so p D k w).2.2) := by
  have S := h.1
  have nl := nX_le (tp := tp) hp
  have g2 : gI s (some 75) 7 2 = some (nI (nX tp len p)) := by rw [g75_2 S, ht.1]
  have g3 : gI s (some 75) 7 3 = some (nI (kD tp len p)) := by rw [g75_3 S, ht.2.1]
  have g4 : gI s (some 75) 7 4 = some (nI (qB tp len p)) := by rw [g75_4 S, ht.2.2.1]
  have kl : kD tp len p ≤ 4 := by unfold kD; split <;> (try split) <;> (try split) <;> (try split) <;> omega
  have e1 : (nI (kD tp len p) = (1 : Int32)) = (kD tp len p = 1) := nEq (b := 1) (by omega) (by decide)
  by_cases c : kD tp len p = 1
  · have fm := C_form (n := n) h hs c hp g2 g4 hn
    cases hg : gFo so (wC tp len p) with
    | none =>
      rw [hg] at fm
      have sy : synE tp len so p = some (qB tp len p) := by unfold synE; rw [if_pos c, hg]
      refine ⟨fun e he => ?_, fun he => by rw [sy] at he; cases he⟩
      rw [sy] at he
      injection he with he
      subst he
      refine ⟨s, ?_, XF.refl S, ht.2.2.1⟩
      unfold F_X7_readLine
      simp only [↓bnd (g4), ↓bnd (g3), e1.trans (eq_true c), if_true, ↓bnd (o75 S), ↓bnd (fm), eI, rz0, Option.bind_some]
    | some f =>
      rw [hg] at fm
      have f26 : f ≤ 26 := by have := gFo_r hs hg; omega
      have m3 := mnO_le f
      have fn : (nI f = (-1 : Int32)) = False := nNeg1 (by omega)
      have fr : frm tp len so p = f := by unfold frm; rw [hg]; rfl
      have A0 : AT s s tp len (nX tp len p) (mnO f) 0 := ⟨RF.refl S, ⟨_, _, _, by rw [Nat.zero_min]; exact ht⟩, fun j hj => absurd hj (Nat.not_lt_zero j), fun j hj => by omega⟩
      obtain ⟨x1, x2⟩ := L_line (n := n) (kn := some m0) (fi := nI (qB tp len p)) (fo := nI f) h nl.2.1 m3 hn (mnO f) 0 s (by omega) A0
      have sy : synE tp len so p = lnE tp len (nX tp len p) (mnO f) 0 := by unfold synE; rw [if_pos c, hg]
      have rd : F_X7_readLine n s (some 75) (nI so) (some m0) = F_X7_readLine_L42 n n s (some 75) (some m0) (nI (qB tp len p)) (nI f) (nI (mnO f)) (nI 0) := by
        unfold F_X7_readLine
        simp only [↓bnd (g4), ↓bnd (g3), e1.trans (eq_true c), if_true, ↓bnd (o75 S), ↓bnd (fm), eI, fn, if_false, Option.bind_some, ↓bnd (C_numOf f26)]
        rfl
      obtain ⟨n', hn'⟩ : ∃ n', n = n' + 4 - 0 := ⟨n - 4, by omega⟩
      rw [sy, rd]
      refine ⟨fun e he => ?_, fun he => ?_⟩
      · obtain ⟨s', f', p', e'⟩ := x1 e he
        refine ⟨s', ?_, f'.xf, p'⟩
        have := e' n'
        rw [← hn'] at this
        exact this
      · obtain ⟨s', f', t', v', q', e'⟩ := x2 he
        have := e' n'
        rw [← hn'] at this
        rw [this]
        have K' : KN s' D := hc.1 s s' D (fun a ha => f'.1.2.2.2 a (by omega)) hK
        have h8' := f'.2.2.2.1.trans h8
        have h9' := f'.2.2.2.2.trans h9
        have B' := h.rf f'
        have nx : nxt tp len so p = npn tp len (nX tp len p) (mnO f + 1) := by unfold nxt; rw [fr]
        rw [nx]
        unfold chkP
        rw [fr]
        by_cases c0 : k = 0
        · subst c0
          have vb : ∀ j, lnV tp len (nX tp len p) (mnO f) j ≤ 9999 := fun j => by
            unfold lnV
            split
            · exact digitsW ((lnE_n _ _ he).1 j (Nat.zero_le _) (by omega))
            · exact Nat.zero_le _
          obtain ⟨s2, e2, x2, fv, k2, i2, a8, a9⟩ := hc.2 s' D f _ (lnV tp len (nX tp len p) (mnO f)) (fun j => qB tp len (npn tp len (nX tp len p) j)) w (nI (qB tp len p)) B'.1 K' hI hg v' q' vb h8' h9'
          rw [if_pos rfl]
          have fr0 : fR s2 75 0 = fR s' 75 0 := by unfold fR; rw [fv 0 (by decide)]
          have fi1 : fI s2 75 1 = fI s' 75 1 := by unfold fI; rw [fv 1 (by decide)]
          obtain ⟨b, c', d', t'⟩ := t'
          refine ⟨s2, ?_, f'.xf.trans x2, B'.xf x2 h116 fr0 fi1, ⟨b, c', d', t'.v fv⟩, k2, i2, a8, a9⟩
          rw [h8', if_pos (show nI 0 = (0 : Int32) from rfl)]
          simp only [↓bnd (e2), Option.bind_some]
        · rw [if_neg c0]
          refine ⟨s', ?_, f'.xf, B', t', K', hI, h8', h9'⟩
          rw [h8', if_neg (show ¬ nI k = (0 : Int32) by rw [show (0 : Int32) = nI 0 from rfl, nEq (by omega) (by decide)]; exact c0)]
          simp only [Option.bind_some]
  · have sy : synE tp len so p = some (qB tp len p) := by unfold synE; rw [if_neg c]
    refine ⟨fun e he => ?_, fun he => by rw [sy] at he; cases he⟩
    rw [sy] at he
    injection he with he
    subst he
    refine ⟨s, ?_, XF.refl S, ht.2.2.1⟩
    unfold F_X7_readLine
    simp only [↓bnd (g4), ↓bnd (g3), e1.trans (eq_false c), if_false, if_true, rz0, Option.bind_some]
/-- what a check says -/
def CkO {α : Type} (ck : α → Nat → (Nat → Nat) → Nat × Nat × α) : Prop := ∀ D f v, (ck D f v).1 ≤ 3
theorem chkP_le {α : Type} {ck : α → Nat → (Nat → Nat) → Nat × Nat × α} (ho : CkO ck) {D : α} {k : Nat} {w : Int32} (hk : k ≤ 3) : (chkP ck tp len so p D k w).2.1 ≤ 3 := by
  unfold chkP
  split
  · exact ho _ _ _
  · exact hk
/-- all lines -/
theorem C_lines {α : Type} {KN : xS → α → Prop} {Iv : α → Prop} {ck : α → Nat → (Nat → Nat) → Nat × Nat × α} (hc : CkH n so m0 KN Iv ck) (ho : CkO ck) (h116 : 116 ≤ m0) (hs : so < 3) (hn : 3000 ≤ n) : ∀ f p (D : α) k w s b c d i, len < p + f → i ≤ p → p ≤ len → RB s tp len → RT s (nI p) b c d → KN s D → Iv D → fI s 75 8 = nI k → k ≤ 3 → fI s 75 9 = w → ∀ g, f ≤ g →
    ∃ s', F_X7_read_L33 n g s (some 75) (nI so) (some m0) (nI i) = some s' ∧ XF m0 s s' ∧ fI s' 75 8 = nI (rdT ck tp len so f p D k w).2.1 ∧ fI s' 75 9 = (rdT ck tp len so f p D k w).2.2 ∧ ((rdT ck tp len so f p D k w).2.1 ≠ 1 → KN s' (rdT ck tp len so f p D k w).1 ∧ Iv (rdT ck tp len so f p D k w).1) := by
  intro f
  induction f with
  | zero => exact fun p D k w s b c d i hf hi hp => by omega
  | succ f ih =>
    intro p D k w s b c d i hf hi hp h ht hK hI h8 hk3 h9 g hg
    obtain ⟨g, rfl⟩ : ∃ j, g = j + 1 := ⟨g - 1, by omega⟩
    have b5 := h.2.2.2.1
    obtain ⟨s1, vv, e1, f1, t1, hv⟩ := C_step (n := n) h hp ht hn
    have B1 := h.sf f1
    have K1 : KN s1 D := hc.1 s s1 D (fun a ha => f1.1.2.2.2 a (by omega)) hK
    have a8 := f1.2.2.2.1.trans h8
    have a9 := f1.2.2.2.2.trans h9
    have g3 : gI s1 (some 75) 7 3 = some (nI (kD tp len p)) := by rw [g75_3 B1.1, t1.2.1]
    have kl : kD tp len p ≤ 4 := by unfold kD; split <;> (try split) <;> (try split) <;> (try split) <;> omega
    have e0 : (nI (kD tp len p) = (0 : Int32)) = (kD tp len p = 0) := nEq (b := 0) (by omega) (by decide)
    have li : (nI len < nI i) = (len < i) := nLt (by omega) (by omega)
    rw [rdT]
    by_cases c0 : kD tp len p = 0
    · rw [if_pos c0]
      refine ⟨s1, ?_, f1.rf.xf, a8, a9, fun _ => ⟨K1, hI⟩⟩
      rw [F_X7_read_L33]
      dsimp only
      simp only [↓bnd (h.ln), li.trans (eq_false (by omega)), if_false, ↓bnd (o75 h.1), ↓bnd (e1), ↓bnd (g3), e0.trans (eq_true c0), if_true]
    · rw [if_neg c0]
      obtain ⟨x1, x2⟩ := C_line (n := n) hc h116 hs B1 hp t1 K1 hI a8 hk3 a9 hn
      cases sy : synE tp len so p with
      | some e =>
        obtain ⟨s2, e2, xf2, p2⟩ := x1 e sy
        have S2 := xf2.2.2.1
        have g4 : gI s2 (some 75) 7 4 = some (nI e) := by rw [g75_4 S2, p2]
        obtain ⟨s3, e3, o3, v3, y8, y9⟩ := C_failX (n := n) S2 1 (nI e)
        refine ⟨s3, ?_, (f1.rf.xf.trans xf2).trans ⟨o3.1, o3.2.1, o3.2.2.1, fun a _ h2 => o3.2.2.2 a fun q => h2 (Or.inl q)⟩, y8, y9, fun q => absurd rfl q⟩
        rw [F_X7_read_L33]
        dsimp only
        simp only [↓bnd (h.ln), li.trans (eq_false (by omega)), if_false, ↓bnd (o75 h.1), ↓bnd (e1), ↓bnd (g3), e0.trans (eq_false c0), ↓bnd (o75 B1.1), ↓bnd (e2), if_true, ↓bnd (g4), ↓bnd (o75 S2), ↓bnd (e3)]
      | none =>
        obtain ⟨s2, e2, xf2, B2, ⟨b2, c2, d2, t2⟩, K2, I2, y8, y9⟩ := x2 sy
        have nx := nxt_le (tp := tp) (so := so) hp c0
        obtain ⟨s3, e3, xf3, z8, z9, z⟩ := ih (nxt tp len so p) _ _ _ s2 b2 c2 d2 (i + 1) (by omega) (by omega) nx.2 B2 t2 K2 I2 y8 (chkP_le ho hk3) y9 g (by omega)
        refine ⟨s3, ?_, (f1.rf.xf.trans xf2).trans xf3, z8, z9, z⟩
        rw [F_X7_read_L33]
        dsimp only
        simp only [↓bnd (h.ln), li.trans (eq_false (by omega)), if_false, ↓bnd (o75 h.1), ↓bnd (e1), ↓bnd (g3), e0.trans (eq_false c0), ↓bnd (o75 B1.1), ↓bnd (e2), one0, nI_1, e3, Option.bind_some]
end LX

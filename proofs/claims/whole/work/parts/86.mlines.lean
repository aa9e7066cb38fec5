/-! A LINE IS READ: the model -/
/-- which FAULT the numbers of a line have -/
def cK (le mo : Nat → Int) (cpl : Prop) [Decidable cpl] (v : Nat → Nat) : Nat → Nat → Nat → Nat
  | 0, _, k => k
  | r + 1, i, k => cK le mo cpl v r (i + 1) (if k = 0 then (if bdP le mo cpl v i then 2 else 0) else k)
def cWd (le mo : Nat → Int) (cpl : Prop) [Decidable cpl] (v q : Nat → Nat) : Nat → Nat → Nat → Int32 → Int32
  | 0, _, _, w => w
  | r + 1, i, k, w => cWd le mo cpl v q r (i + 1) (if k = 0 then (if bdP le mo cpl v i then 2 else 0) else k) (if k = 0 then (if bdP le mo cpl v i then nI (q i) else w) else w)
section CW
variable {le mo : Nat → Int} {v q : Nat → Nat} {w : Int32}
theorem cK_s {cpl : Prop} [Decidable cpl] : ∀ r i k, k ≠ 0 → cK le mo cpl v r i k = k ∧ cWd le mo cpl v q r i k w = w := by
  intro r
  induction r with
  | zero => exact fun i k _ => ⟨rfl, rfl⟩
  | succ r ih =>
    intro i k hk
    rw [cK, cWd, if_neg hk, if_neg hk]
    exact ih (i + 1) k hk
theorem cK_n {cpl : Prop} [Decidable cpl] : ∀ r i, fbR le mo cpl v r i = none → cK le mo cpl v r i 0 = 0 ∧ cWd le mo cpl v q r i 0 w = w := by
  intro r
  induction r with
  | zero => exact fun i _ => ⟨rfl, rfl⟩
  | succ r ih =>
    intro i h
    unfold fbR at h
    rw [cK, cWd, if_pos rfl, if_pos rfl]
    by_cases c : bdP le mo cpl v i
    · rw [if_pos c] at h; cases h
    · rw [if_neg c] at h
      rw [if_neg c, if_neg c]
      exact ih (i + 1) h
theorem cK_f {cpl : Prop} [Decidable cpl] {j : Nat} : ∀ r i, fbR le mo cpl v r i = some j → cK le mo cpl v r i 0 = 2 ∧ cWd le mo cpl v q r i 0 w = nI (q j) := by
  intro r
  induction r with
  | zero => exact fun i h => by cases h
  | succ r ih =>
    intro i h
    unfold fbR at h
    rw [cK, cWd, if_pos rfl, if_pos rfl]
    by_cases c : bdP le mo cpl v i
    · rw [if_pos c] at h
      injection h with h
      subst h
      rw [if_pos c, if_pos c]
      exact cK_s r (i + 1) 2 (by decide)
    · rw [if_neg c] at h
      rw [if_neg c, if_neg c]
      exact ih (i + 1) h
end CW
def anK (tp : Nat → Nat) (len : Nat) (lo hi : Int) (a : Int32) (p k : Nat) : Nat := if k = 0 then (if nmIn tp len lo hi p ∧ ¬ nI (vN tp len p) = a then 0 else 2) else k
def anW (tp : Nat → Nat) (len : Nat) (lo hi : Int) (a : Int32) (p k : Nat) (w : Int32) : Int32 := if k = 0 then (if nmIn tp len lo hi p ∧ ¬ nI (vN tp len p) = a then w else nI (qB tp len p)) else w
theorem nm_b {tp : Nat → Nat} {len p k : Nat} {w : Int32} {lo hi : Int} {P : Prop} [Decidable P] (h : P ↔ ¬ nmIn tp len lo hi p) : nmK tp len lo hi p k = (if k = 0 then (if P then 2 else 0) else k) ∧ nmW tp len lo hi p k w = (if k = 0 then (if P then nI (qB tp len p) else w) else w) := by
  unfold nmK nmW
  by_cases c : nmIn tp len lo hi p
  · rw [if_pos c, if_pos c, if_neg fun x => h.mp x c, if_neg fun x => h.mp x c]; exact ⟨rfl, rfl⟩
  · rw [if_neg c, if_neg c, if_pos (h.mpr c), if_pos (h.mpr c)]; exact ⟨rfl, rfl⟩
theorem an_b {tp : Nat → Nat} {len p k : Nat} {w a : Int32} {lo hi : Int} {P : Prop} [Decidable P] (h : P ↔ ¬ (nmIn tp len lo hi p ∧ ¬ nI (vN tp len p) = a)) : anK tp len lo hi a p k = (if k = 0 then (if P then 2 else 0) else k) ∧ anW tp len lo hi a p k w = (if k = 0 then (if P then nI (qB tp len p) else w) else w) := by
  unfold anK anW
  by_cases c : nmIn tp len lo hi p ∧ ¬ nI (vN tp len p) = a
  · rw [if_pos c, if_pos c, if_neg fun x => h.mp x c, if_neg fun x => h.mp x c]; exact ⟨rfl, rfl⟩
  · rw [if_neg c, if_neg c, if_pos (h.mpr c), if_pos (h.mpr c)]; exact ⟨rfl, rfl⟩
theorem uu {B : Nat → Int32} {r : Nat → Nat} {j j' a b x : Nat} (h : B j = nI (r j')) (e : j = a ↔ j' = b) : upd B a (nI x) j = nI (upN r b x j') := by
  unfold upN
  by_cases c : j = a
  · rw [if_pos (e.mp c), c, upd_s]
  · rw [if_neg fun q => c (e.mpr q), pk_un c]; exact h
theorem ul {B : Nat → Int32} {j a : Nat} {y c : Int32} (h : B j = c) (e : j ≠ a) : upd B a y j = c := by rw [pk_un e]; exact h
theorem ur {B : Nat → Int32} {r : Nat → Nat} {j j' b x : Nat} (h : B j = nI (r j')) (e : j' ≠ b) : B j = nI (upN r b x j') := by unfold upN; rw [if_neg e]; exact h
theorem nm_bK {tp : Nat → Nat} {len p k : Nat} {lo hi : Int} {P : Prop} [Decidable P] (h : P ↔ ¬ nmIn tp len lo hi p) : nmK tp len lo hi p k = (if k = 0 then (if P then 2 else 0) else k) := (nm_b (w := 0) h).1
theorem nm_bW {tp : Nat → Nat} {len p k : Nat} {w : Int32} {lo hi : Int} {P : Prop} [Decidable P] (h : P ↔ ¬ nmIn tp len lo hi p) : nmW tp len lo hi p k w = (if k = 0 then (if P then nI (qB tp len p) else w) else w) := (nm_b h).2
theorem an_bK {tp : Nat → Nat} {len p k : Nat} {a : Int32} {lo hi : Int} {P : Prop} [Decidable P] (h : P ↔ ¬ (nmIn tp len lo hi p ∧ ¬ nI (vN tp len p) = a)) : anK tp len lo hi a p k = (if k = 0 then (if P then 2 else 0) else k) := (an_b (w := 0) h).1
theorem an_bW {tp : Nat → Nat} {len p k : Nat} {w a : Int32} {lo hi : Int} {P : Prop} [Decidable P] (h : P ↔ ¬ (nmIn tp len lo hi p ∧ ¬ nI (vN tp len p) = a)) : anW tp len lo hi a p k w = (if k = 0 then (if P then nI (qB tp len p) else w) else w) := (an_b h).2
/-- a line read -/
def MH (s s' : xS) : Prop := Only (fun a => a = 106 ∨ a = 107 ∨ a = 109 ∨ a = 110) s s' ∧ (∀ q, q ≠ 5 → q ≠ 6 → cI s' 107 q = cI s 107 q) ∧ fI s' 106 15 = fI s 106 15
section ML
variable {st st1 st2 s s1 : xS} {n len p k e i : Nat} {tp : Nat → Nat} {w : Int32} {z : Option Nat}
theorem MH.refl (h : Sh st) : MH st st := ⟨Only.refl h, fun _ _ _ => rfl, rfl⟩
theorem MH.trans (h : MH st st1) (k : MH st1 st2) : MH st st2 := ⟨h.1.trans k.1, fun q h1 h2 => (k.2.1 q h1 h2).trans (h.2.1 q h1 h2), k.2.2.trans h.2.2⟩
theorem MG.mh (h : MG st st1) : MH st st1 := ⟨h.1.mono fun a h => by omega, h.2.1, h.i (by omega)⟩
theorem MH_9 (hS : Sh s) {x : Nat} (hx : x = 109 ∨ x = 110) (f : Nat → Int32) : MH s (wA s x f) := ⟨(Only.wA hS x f).mono fun a h => by omega, fun q _ _ => by rw [cI_c (wA_n (by omega) _ _)], fI_c (wA_n (by omega) _ _) 15⟩
theorem MQz.fr (h : MQz s tp len p k w z) (S : Sh s1) (hf : ∀ k, k < 9 → fI s1 106 k = fI s 106 k) (hc : cI s1 107 = cI s 107) : MQz s1 tp len p k w z := by
  cases z with
  | none =>
    obtain ⟨⟨h1, h2, h3, h4, h5⟩, x8, pl, ⟨v, x, t, tv, tx⟩, x5, x6, hk⟩ := h
    refine ⟨⟨S, (hf 2 (by decide)).trans h2, h3, h4, by rw [hc]; exact h5⟩, (hf 8 (by decide)).trans x8, pl, ⟨v, x, ⟨(hf 3 (by decide)).trans t.1, (hf 4 (by decide)).trans t.2.1, (hf 5 (by decide)).trans t.2.2.1, (hf 6 (by decide)).trans t.2.2.2.1, (hf 7 (by decide)).trans t.2.2.2.2⟩, tv, tx⟩, by rw [hc]; exact x5, by rw [hc]; exact x6, hk⟩
  | some e =>
    obtain ⟨⟨h1, h2, h3, h4, h5⟩, x8, x5, x6⟩ := h
    exact ⟨⟨S, (hf 2 (by decide)).trans h2, h3, h4, by rw [hc]; exact h5⟩, (hf 8 (by decide)).trans x8, by rw [hc]; exact x5, by rw [hc]; exact x6⟩
theorem MQz.w9 (h : MQz s tp len p k w z) (S : Sh s) {x : Nat} (hx : x = 109 ∨ x = 110) (f : Nat → Int32) : MQz (wA s x f) tp len p k w z := h.fr (MH_9 S hx f).1.2.2.1 (fun k _ => fI_c (wA_n (by omega) _ _) k) (cI_c (wA_n (by omega) _ _))
theorem MQz.sh (h : MQz s tp len p k w z) : Sh s := by
  cases z with
  | none => exact h.1.1
  | some e => exact h.1.1
theorem aI109 (hS : Sh s) {i : Nat} (hi : i < 242) : aI s (some 109) (nI i) = some (cI s 109 i) := by rw [a109 hS, if_pos (ixT hi (by decide)), nIc (by omega)]
theorem w109n (hS : Sh s) {i : Nat} (hi : i < 242) (v : Int32) : sS 0 s (some 109) (nI i) v = some (wA s 109 (upd (cI s 109) i v)) := by rw [w109 hS, if_pos (ixT hi (by decide)), nIc (by omega)]
theorem nmR_in {lo hi : Int} (hc : kD tp len p = 2) (h : nmIn tp len lo hi p) : nmR tp len lo hi p none = nI (vN tp len p) := by
  show (if kD tp len p = 2 then (if nmIn tp len lo hi p then nI (vN tp len p) else -1) else -1) = _
  rw [if_pos hc, if_pos h]
theorem nmR_out {lo hi : Int} (h : ¬ (kD tp len p = 2 ∧ nmIn tp len lo hi p)) : nmR tp len lo hi p none = -1 := by
  show (if kD tp len p = 2 then (if nmIn tp len lo hi p then nI (vN tp len p) else -1) else -1) = _
  by_cases hc : kD tp len p = 2
  · rw [if_pos hc, if_neg fun q => h ⟨hc, q⟩]
  · rw [if_neg hc]
theorem nmZ_i (hc : kD tp len p = 2) : nmZ tp len p none = none := if_pos hc
theorem nmZ_o (hc : ¬ kD tp len p = 2) : nmZ tp len p none = some (qB tp len p) := if_neg hc
theorem nmK_in {lo hi : Int} (h : nmIn tp len lo hi p) : nmK tp len lo hi p k = k ∧ nmW tp len lo hi p k w = w := by
  unfold nmK nmW
  rw [if_pos h, if_pos h]
  refine ⟨?_, by split <;> rfl⟩
  by_cases c0 : k = 0
  · rw [if_pos c0, c0]
  · rw [if_neg c0]
/-- another number -/
theorem M_ano (h : MQz s tp len p k w z) (hk : k ≤ 3) {lo hi : Int} (a : Int32) (h1 : -10000 ≤ lo ∧ lo ≤ 10000) (h2 : -10000 ≤ hi ∧ hi ≤ 10000) (hn : 3000 ≤ n) : ∃ s', F_X11_another n s (some 106) (zI lo) (zI hi) a = some (nmR tp len lo hi p z, s') ∧ MG s s' ∧ MQz s' tp len (nX tp len p) (anK tp len lo hi a p k) (anW tp len lo hi a p k w) (nmZ tp len p z) := by
  have S := h.sh
  obtain ⟨s1, e1, g1, q1⟩ := M_num (n := n) h hk h1 h2 hn
  have neg : ((-1 : Int32) < 0) = True := by decide
  unfold F_X11_another
  simp only [↓bnd (g106_4 S), ↓bnd (o106 S), ↓bnd (e1)]
  cases z with
  | some e =>
    refine ⟨s1, ?_, g1, q1⟩
    have r : nmR tp len lo hi p (some e) = -1 := rfl
    rw [r]
    simp only [neg, if_true, Option.bind_some]
  | none =>
    by_cases c : kD tp len p = 2
    · rw [nmZ_i c] at q1 ⊢
      have dw := digitsW c
      by_cases c2 : nmIn tp len lo hi p
      · rw [nmR_in c c2]
        rw [(nmK_in (k := k) (w := w) c2).1, (nmK_in (k := k) (w := w) c2).2] at q1
        have lt : (nI (vN tp len p) < (0 : Int32)) = False := eq_false (nI_pos (by omega))
        unfold anK anW
        by_cases ca : nI (vN tp len p) = a
        · have hd : kD tp len p ≠ 0 := by omega
          have hq : MQo s tp len p k w := h
          have f4 : fI s 106 4 = nI (qB tp len p) := by obtain ⟨-, -, -, ⟨v, x, t, -⟩, -⟩ := hq; exact t.2.1
          obtain ⟨s2, e2, g2, q2⟩ := M_also_o (n := n) (kd := 2) q1 hk hq.2.2.2.2.2.2 (qq_lt hq.2.2.1 hd)
          have e2 : F_X11_also n s1 (some 106) (2 : Int32) (nI (qB tp len p)) = some s2 := e2
          rw [if_neg (fun x => x.2 ca : ¬ (nmIn tp len lo hi p ∧ ¬ nI (vN tp len p) = a)), if_neg (fun x => x.2 ca : ¬ (nmIn tp len lo hi p ∧ ¬ nI (vN tp len p) = a))]
          refine ⟨s2, ?_, g1.trans g2, q2⟩
          simp only [lt, if_false, eq_true ca, if_true, ↓bnd (o106 g1.1.2.2.1), f4, ↓bnd (e2), Option.bind_some]
        · have e0 : (if k = 0 then 0 else k) = k := by
            by_cases c0 : k = 0
            · rw [if_pos c0, c0]
            · rw [if_neg c0]
          have ew : (if k = 0 then w else w) = w := by split <;> rfl
          rw [if_pos (⟨c2, ca⟩ : nmIn tp len lo hi p ∧ ¬ nI (vN tp len p) = a), if_pos (⟨c2, ca⟩ : nmIn tp len lo hi p ∧ ¬ nI (vN tp len p) = a), e0, ew]
          refine ⟨s1, ?_, g1, q1⟩
          simp only [lt, if_false, eq_false ca, Option.bind_some]
      · rw [nmR_out fun q => c2 q.2]
        unfold anK anW
        unfold nmK nmW at q1
        rw [if_neg c2, if_neg c2] at q1
        rw [if_neg (fun x => c2 x.1 : ¬ (nmIn tp len lo hi p ∧ ¬ nI (vN tp len p) = a)), if_neg (fun x => c2 x.1 : ¬ (nmIn tp len lo hi p ∧ ¬ nI (vN tp len p) = a))]
        refine ⟨s1, ?_, g1, q1⟩
        simp only [neg, if_true, Option.bind_some]
    · rw [nmZ_o c] at q1 ⊢
      rw [nmR_out fun q => c q.1]
      refine ⟨s1, ?_, g1, q1⟩
      simp only [neg, if_true, Option.bind_some]
theorem bd_in {le mo : Nat → Int} {cpl : Prop} {v : Nat → Nat} {j : Nat} (hc : ¬ (j = 1 ∧ cpl)) (hv : v j = vN tp len p) : bdP le mo cpl v j ↔ ¬ nmIn tp len (le j) (mo j) p := by
  unfold bdP nmIn
  rw [hv]
  constructor
  · rintro (⟨h1, h2, -⟩ | h | h) q
    · exact hc ⟨h1, h2⟩
    · omega
    · omega
  · intro h
    by_cases c : (vN tp len p : Int) < le j
    · exact Or.inr (Or.inl c)
    · exact Or.inr (Or.inr (by omega))
theorem anK_le {lo hi : Int} {a : Int32} (hk : k ≤ 3) : anK tp len lo hi a p k ≤ 3 := by
  unfold anK
  split
  · split <;> omega
  · exact hk
end ML

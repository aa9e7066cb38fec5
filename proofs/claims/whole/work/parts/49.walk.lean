/-! TRAVEL, TURNED -/
/-- a plan of which one game's sides are exchanged -/
def sw (P : PlD) (e : Nat) : PlD := (P.n, (fun g w => if g = e ∧ w = 0 then P.c g 1 else if g = e ∧ w = 1 then P.c g 0 else P.c g w), P.e, P.ts, P.tg)
theorem sw_n (P : PlD) (e : Nat) : (sw P e).n = P.n := rfl
theorem sw_e (P : PlD) (e : Nat) : (sw P e).e = P.e := rfl
theorem sw_0 (P : PlD) (e g : Nat) : (sw P e).c g 0 = if g = e then P.c g 1 else P.c g 0 := by
  show (if g = e ∧ 0 = 0 then P.c g 1 else if g = e ∧ 0 = 1 then P.c g 0 else P.c g 0) = _
  by_cases h : g = e <;> simp [h]
theorem sw_1 (P : PlD) (e g : Nat) : (sw P e).c g 1 = if g = e then P.c g 0 else P.c g 1 := by
  show (if g = e ∧ 1 = 0 then P.c g 1 else if g = e ∧ 1 = 1 then P.c g 0 else P.c g 1) = _
  by_cases h : g = e <;> simp [h]
theorem sw_w (P : PlD) (e g w : Nat) (h : 2 ≤ w) : (sw P e).c g w = P.c g w := by
  show (if g = e ∧ w = 0 then P.c g 1 else if g = e ∧ w = 1 then P.c g 0 else P.c g w) = _
  rw [if_neg (by omega), if_neg (by omega)]
theorem sw_I {P : PlD} (hJ : PlI P) (e : Nat) : PlI (sw P e) := by
  obtain ⟨h1, h2, h3, h4, h5, h6⟩ := hJ
  refine ⟨h1, fun g hg => ?_, fun S => ?_, h4, h5, h6⟩
  · have d := h2 g hg
    rw [sw_0, sw_1, sw_w P e g 2 (by omega), sw_w P e g 3 (by omega), sw_w P e g 4 (by omega)]
    by_cases h : g = e
    · rw [if_pos h, if_pos h]
      exact ⟨d.2.1, d.1, fun q => d.2.2.1 q.symm, d.2.2.2⟩
    · rw [if_neg h, if_neg h]
      exact d
  · show P.ts ≤ S ↔ ∀ g, g < P.n → _
    rw [h3 S]
    refine ⟨fun h g hg => ?_, fun h g hg => ?_⟩
    · have := h g hg
      rw [sw_0, sw_1]
      by_cases h : g = e
      · rw [if_pos h, if_pos h]; exact ⟨this.2, this.1⟩
      · rw [if_neg h, if_neg h]; exact this
    · have := h g hg
      rw [sw_0, sw_1] at this
      by_cases h : g = e
      · rw [if_pos h, if_pos h] at this; exact ⟨this.2, this.1⟩
      · rw [if_neg h, if_neg h] at this; exact this
/-- where a side stands, how far it has gone -/
def ps (L : LgD) (P : PlD) (s : Nat) : Nat → Nat
  | 0 => L.r (40 + s)
  | g + 1 => if P.c g 0 = s ∨ P.c g 1 = s then gO L P g else ps L P s g
def wd (L : LgD) (P : PlD) (s : Nat) : Nat → Nat
  | 0 => 0
  | g + 1 => if P.c g 0 = s ∨ P.c g 1 = s then wd L P s g + L.d (10 * ps L P s g + gO L P g) else wd L P s g
def tr (L : LgD) (P : PlD) (s : Nat) : Nat := wd L P s P.n + L.d (10 * ps L P s P.n + L.r (40 + s))
theorem ps_lt {L : LgD} {P : PlD} (hI : LgI L) (hJ : PlI P) {s : Nat} (hs : s < 8) : ∀ g, g ≤ P.n → ps L P s g < 10 := by
  intro g
  induction g with
  | zero => exact fun _ => hI.2.2.2.2.2.2.1 s hs
  | succ g ih =>
    intro hg
    unfold ps
    split
    · exact gO_lt hI hJ (by omega)
    · exact ih (by omega)
theorem wd_le {L : LgD} {P : PlD} (hI : LgI L) (s g : Nat) : wd L P s g ≤ g * 9999 := by
  induction g with
  | zero => exact Nat.zero_le _
  | succ g ih =>
    have h9 := hI.2.2.2.1 (10 * ps L P s g + gO L P g)
    rw [Nat.succ_mul, wd]
    by_cases h : P.c g 0 = s ∨ P.c g 1 = s
    · rw [if_pos h]
      exact Nat.add_le_add ih h9
    · rw [if_neg h]
      exact Nat.le_trans ih (Nat.le_add_right _ _)
theorem tr_le {L : LgD} {P : PlD} (hI : LgI L) (hJ : PlI P) (s : Nat) : tr L P s ≤ 409959 := by
  have h1 := wd_le (P := P) hI s P.n
  have h2 := hJ.1
  have h3 := hI.2.2.2.1 (10 * ps L P s P.n + L.r (40 + s))
  unfold tr
  omega
/-- a side that isn't there goes nowhere -/
theorem tr_0 {L : LgD} {P : PlD} (hI : LgI L) (hJ : PlI P) (hf : P.ts ≤ L.s) {s : Nat} (h1 : L.s ≤ s) (h2 : s < 8) : tr L P s = 0 := by
  have hp := (hJ.2.2.1 L.s).mp hf
  have key : ∀ g, g ≤ P.n → ps L P s g = L.r (40 + s) ∧ wd L P s g = 0 := by
    intro g
    induction g with
    | zero => exact fun _ => ⟨rfl, rfl⟩
    | succ g ih =>
      intro hg
      have := hp g (by omega)
      have i := ih (by omega)
      unfold ps wd
      rw [if_neg (by omega), if_neg (by omega)]
      exact i
  have k := key P.n (Nat.le_refl _)
  unfold tr
  rw [k.1, k.2, hI.2.2.2.2.1 _ (hI.2.2.2.2.2.2.1 s h2)]
theorem tr_all {L : LgD} {P : PlD} (hI : LgI L) (hJ : PlI P) (hf : P.ts ≤ L.s) : nS (tr L P) 8 = nS (tr L P) L.s := by
  have h8 := hI.2.1
  have key : ∀ m, L.s + m ≤ 8 → nS (tr L P) (L.s + m) = nS (tr L P) L.s := by
    intro m
    induction m with
    | zero => exact fun _ => rfl
    | succ m ih =>
      intro h
      show nS (tr L P) (L.s + m) + tr L P (L.s + m) = _
      rw [ih (by omega), tr_0 hI hJ hf (by omega) (by omega)]
      rfl
  have := key (8 - L.s) (by omega)
  rwa [show L.s + (8 - L.s) = 8 by omega] at this
section WA
variable {st st1 : xS} {n : Nat} {G : Gh} {I : Im} {a p : Nat} {L : LgD} {P : PlD}
def MB (st : xS) (a p : Nat) (L : LgD) (P : PlD) : Prop := Sh st ∧ fR st 79 0 = some a ∧ fR st 79 2 = some p ∧ LgR st a L ∧ PlR st p P
theorem MB.wq (h : MB st a p L P) (k : WQ st st1) : MB st1 a p L P := by
  obtain ⟨h1, h2, h3, h4, h5⟩ := h
  have hS : ∀ a, QC a → a < 116 := fun a q => by unfold QC at q; omega
  exact ⟨k.1.2.2.1, (k.2 0 (by decide)).trans h2, (k.2 2 (by decide)).trans h3, h4.only k.1 hS, h5.only k.1 hS⟩
theorem MB.y0 (m : MB st a p L P) : gR st (some 79) 5 0 = some (some a) := (g79_0 m.1).trans (congrArg some m.2.1)
theorem MB.y2 (m : MB st a p L P) : gR st (some 79) 5 2 = some (some p) := (g79_2 m.1).trans (congrArg some m.2.2.1)
theorem WQ_A (hS : Sh st) {x : Nat} (hx : x = 88 ∨ x = 89) (f : Nat → Int32) : WQ st (wA st x f) := ⟨(Only.wA hS x _).mono fun y h => by unfold QC; omega, fun k _ => fR_c (wA_n (by omega) _ _) k⟩
theorem C_groundX (m : MB st a p L P) (hJ : PlI P) {g h : Nat} (hg : g < P.n) (hh : h < 8) : F_X5_groundOf n st (some 79) (nI g) (nI h) = some (nI (match P.e g with | none => L.r (40 + h) | some x => x)) := by
  have d := hJ.2.1 g hg
  have e5 : F_X6_of n st (some p) (nI g) (5 : Int32) = some (eI (P.e g)) := C_of5 m.2.2.2.2 hJ hg
  unfold F_X5_groundOf
  simp only [↓bnd m.y2, ↓bnd m.2.2.2.2.o, ↓bnd e5]
  cases he : P.e g with
  | none =>
    have : eI none = -1 := rfl
    simp only [this, if_true, ↓bnd m.y0, ↓bnd m.2.2.2.1.o, C_own m.2.2.2.1 (show h < 20 by omega), Option.bind_some]
  | some x =>
    have hx := d.2.2.2.2.2.2 x he
    have : eI (some x) = nI x := rfl
    simp only [this, nNeg1 (show x < 2147483648 by omega), if_false, Option.bind_some]
theorem C_go (m : MB st a p L P) {s x y z : Nat} (hs : s < 8) (hx : x < 10) (hz : z < 10) (h88 : cI st 88 s = nI x) (h89 : cI st 89 s = nI y) : ∃ st', F_X5_go n st (some 79) (nI s) (nI z) = some st' ∧ WQ st st' ∧ cI st' 88 = upd (cI st 88) s (nI z) ∧ cI st' 89 = upd (cI st 89) s (nI (y + L.d (10 * x + z))) := by
  have S := m.1
  have r9 : aI st (some 89) (nI s) = some (nI y) := by rw [a89 S, if_pos (ixT (by omega) (by decide)), nIc (by omega), h89]
  have r8 : aI st (some 88) (nI s) = some (nI x) := by rw [a88 S, if_pos (ixT (by omega) (by decide)), nIc (by omega), h88]
  have w9 : sS 0 st (some 89) (nI s) (nI y + nI (L.d (10 * x + z))) = some (wA st 89 (upd (cI st 89) s (nI (y + L.d (10 * x + z))))) := by rw [w89 S, if_pos (ixT (by omega) (by decide)), nIc (by omega), nAdd]
  have q1 := WQ_A S (x := 89) (Or.inr rfl) (upd (cI st 89) s (nI (y + L.d (10 * x + z))))
  have S1 := q1.1.2.2.1
  have c8 : cI (wA st 89 (upd (cI st 89) s (nI (y + L.d (10 * x + z))))) 88 = cI st 88 := cI_c (wA_n (by decide) _ _)
  have c9 := k89 S (upd (cI st 89) s (nI (y + L.d (10 * x + z))))
  have hap : F_X4_apart n st (some a) (nI x) (nI z) = some (nI (L.d (10 * x + z))) := C_apart m.2.2.2.1 (by omega)
  have a1 : (nI s < (0 : Int32)) = False := eq_false (nI_pos (by omega))
  have a2 : ((8 : Int32) ≤ nI s) = False := eq_false (nI_ge (a := s) (b := 8) (by omega) (by omega))
  unfold F_X5_go
  simp only [↓Option.bind_some, ↓reduceIte, a1, a2, ↓bnd (g79_9 S), ↓bnd (r9), ↓bnd (m.y0), ↓bnd (g79_8 S), ↓bnd (r8), ↓bnd (m.2.2.2.1.o), ↓bnd (hap), ↓bnd (w9)]
  generalize wA st 89 (upd (cI st 89) s (nI (y + L.d (10 * x + z)))) = st1 at q1 S1 c8 c9 ⊢
  have w8 : sS 0 st1 (some 88) (nI s) (nI z) = some (wA st1 88 (upd (cI st 88) s (nI z))) := by rw [w88 S1, if_pos (ixT (by omega) (by decide)), nIc (by omega), c8]
  refine ⟨_, ?_, q1.trans (WQ_A S1 (x := 88) (Or.inl rfl) (upd (cI st 88) s (nI z))), k88 S1 _, (cI_c (wA_n (by decide) _ _)).trans c9⟩
  simp only [↓Option.bind_some, ↓bnd (g79_8 S1), ↓bnd (w8)]
def wkV (st : xS) (L : LgD) (P : PlD) (g : Nat) : Prop := ∀ s, s < 8 → cI st 88 s = nI (ps L P s g) ∧ cI st 89 s = nI (wd L P s g)
theorem C_walk (m : MB st a p L P) (hI : LgI L) (hJ : PlI P) {e : Nat} {x : Int32} (hx : ∀ g, g < P.n → (nI g = x ↔ g = e)) (hn : 3000 ≤ n) : ∃ st', F_X5_walk n st (some 79) x = some (nI (nS (tr L (sw P e)) 8), st') ∧ WQ st st' ∧ ∀ s, s < 8 → cI st' 89 s = nI (tr L (sw P e) s) := by
  have c1 := hJ.1
  have hJ2 := sw_I hJ e
  have h1 : ∃ st1, F_X5_walk_L2 n n st (some 79) x (0 : Int32) = some st1 ∧ WQ st st1 ∧ wkV st1 L (sw P e) 0 := by
    refine loop_ex (fun k (s : xS × Int32) => F_X5_walk_L2 n k s.1 (some 79) x s.2) (fun i s => WQ st s.1 ∧ (∀ q, q < i → cI s.1 88 q = nI (L.r (40 + q)) ∧ cI s.1 89 q = nI 0) ∧ s.2 = nI i) 8 (fun r => ∃ st1, r = some st1 ∧ WQ st st1 ∧ wkV st1 L (sw P e) 0) ?_ ?_ n (by omega) (st, 0) ⟨(WF.refl m.1).q, fun q hq => by omega, rfl⟩
    · rintro k i ⟨s, y⟩ hi ⟨h1, h2, h3⟩
      dsimp only at h1 h2 h3 ⊢
      subst h3
      have ms := m.wq h1
      have w8 : sS 0 s (some 88) (nI i) (nI (L.r (40 + i))) = some (wA s 88 (upd (cI s 88) i (nI (L.r (40 + i))))) := by rw [w88 ms.1, if_pos (ixT (by omega) (by decide)), nIc (by omega)]
      have q1 := WQ_A ms.1 (x := 88) (Or.inl rfl) (upd (cI s 88) i (nI (L.r (40 + i))))
      have c8 := k88 ms.1 (upd (cI s 88) i (nI (L.r (40 + i))))
      have c9 : cI (wA s 88 (upd (cI s 88) i (nI (L.r (40 + i))))) 89 = cI s 89 := cI_c (wA_n (by decide) _ _)
      have ho : F_X4_own n s (some a) (nI i) = some (nI (L.r (40 + i))) := C_own ms.2.2.2.1 (by omega)
      have e1 : F_X5_walk_L2 n (k + 1) s (some 79) x (nI i) = (gR (wA s 88 (upd (cI s 88) i (nI (L.r (40 + i))))) (some 79) 5 9).bind fun v6 => (sS 0 (wA s 88 (upd (cI s 88) i (nI (L.r (40 + i))))) v6 (nI i) (0 : Int32)).bind fun s7 => F_X5_walk_L2 n k s7 (some 79) x (nI (i + 1)) := by
        rw [F_X5_walk_L2]
        dsimp only
        simp (disch := omega) only [l8, ↓Option.bind_some, ↓reduceIte, ↓bnd (g79_8 ms.1), ↓bnd (ms.y0), ↓bnd (ms.2.2.2.1.o), ↓bnd (ho), ↓bnd (w8), nLe_f, nI_1]
      generalize wA s 88 (upd (cI s 88) i (nI (L.r (40 + i)))) = s1 at q1 c8 c9 e1
      have S1 := q1.1.2.2.1
      have w9 : sS 0 s1 (some 89) (nI i) (0 : Int32) = some (wA s1 89 (upd (cI s 89) i 0)) := by rw [w89 S1, if_pos (ixT (by omega) (by decide)), nIc (by omega), c9]
      refine ⟨(wA s1 89 (upd (cI s 89) i 0), nI (i + 1)), ⟨(h1.trans q1).trans (WQ_A S1 (x := 89) (Or.inr rfl) _), fun q hq => ?_, rfl⟩, ?_⟩
      · dsimp only
        rw [cI_c (wA_n (by decide) _ _), c8, k89 S1]
        by_cases hqi : q = i
        · rw [hqi, upd_s, upd_s]
          exact ⟨rfl, rfl⟩
        · rw [pk_un hqi, pk_un hqi]
          exact h2 q (by omega)
      · dsimp only
        rw [e1]
        simp only [↓bnd (g79_9 S1), ↓bnd (w9)]
    · rintro k ⟨s, y⟩ ⟨h1, h2, h3⟩
      dsimp only at h1 h2 h3 ⊢
      subst h3
      refine ⟨s, ?_, h1, h2⟩
      rw [F_X5_walk_L2]
      dsimp only
      simp (disch := omega) only [l8, ↓reduceIte, nLe_t]
  obtain ⟨s1, e1, q1, v1⟩ := h1
  have h2 : ∃ s2, F_X5_walk_L37 n n s1 (some 79) x (0 : Int32) = some s2 ∧ WQ st s2 ∧ wkV s2 L (sw P e) P.n := by
    refine loop_ex (fun k (s : xS × Int32) => F_X5_walk_L37 n k s.1 (some 79) x s.2) (fun g s => WQ st s.1 ∧ wkV s.1 L (sw P e) g ∧ s.2 = nI g) P.n (fun r => ∃ s2, r = some s2 ∧ WQ st s2 ∧ wkV s2 L (sw P e) P.n) ?_ ?_ n (by omega) (s1, 0) ⟨q1, v1, rfl⟩
    · rintro k g ⟨s, y⟩ hg ⟨h1, h2, h3⟩
      dsimp only at h1 h2 h3 ⊢
      subst h3
      have ms := m.wq h1
      have d := hJ.2.1 g hg
      have d2 := hJ2.2.1 g hg
      have hh : (if nI g = x then some (1 : Int32) else some (0 : Int32)) = some (nI (if g = e then 1 else 0)) := by
        by_cases h : g = e
        · rw [if_pos ((hx g hg).mpr h), if_pos h]; rfl
        · rw [if_neg (fun q => h ((hx g hg).mp q)), if_neg h]; rfl
      have hh2 : (if nI g = x then some (0 : Int32) else some (1 : Int32)) = some (nI (if g = e then 0 else 1)) := by
        by_cases h : g = e
        · rw [if_pos ((hx g hg).mpr h), if_pos h]; rfl
        · rw [if_neg (fun q => h ((hx g hg).mp q)), if_neg h]; rfl
      have o1 : F_X6_of n s (some p) (nI g) (nI (if g = e then 1 else 0)) = some (nI ((sw P e).c g 0)) := by
        rw [C_of ms.2.2.2.2 hJ hg (by split <;> omega), sw_0]
        by_cases h : g = e
        · rw [if_pos h, if_pos h]
        · rw [if_neg h, if_neg h]
      have o2 : F_X6_of n s (some p) (nI g) (nI (if g = e then 0 else 1)) = some (nI ((sw P e).c g 1)) := by
        rw [C_of ms.2.2.2.2 hJ hg (by split <;> omega), sw_1]
        by_cases h : g = e
        · rw [if_pos h, if_pos h]
        · rw [if_neg h, if_neg h]
      have og : F_X5_groundOf n s (some 79) (nI g) (nI ((sw P e).c g 0)) = some (nI (gO L (sw P e) g)) := C_groundX ms hJ hg d2.1
      have bO := gO_lt hI hJ2 hg
      have b0 := ps_lt hI hJ2 d2.1 g (Nat.le_of_lt hg)
      have b1 := ps_lt hI hJ2 d2.2.1 g (Nat.le_of_lt hg)
      obtain ⟨s3, e3, q3, c8, c9⟩ := C_go (n := n) ms d2.1 b0 bO (h2 _ d2.1).1 (h2 _ d2.1).2
      have ms3 := ms.wq q3
      obtain ⟨s4, e4, q4, k8, k9⟩ := C_go (n := n) (z := gO L (sw P e) g) (y := wd L (sw P e) ((sw P e).c g 1) g) ms3 d2.2.1 b1 bO (by rw [c8, pk_un (fun q => d2.2.2.1 q.symm)]; exact (h2 _ d2.2.1).1) (by rw [c9, pk_un (fun q => d2.2.2.1 q.symm)]; exact (h2 _ d2.2.1).2)
      refine ⟨(s4, nI (g + 1)), ⟨(h1.trans q3).trans q4, fun t ht => ?_, rfl⟩, ?_⟩
      · dsimp only
        rw [k8, k9, c8, c9, ps, wd]
        by_cases t1 : t = (sw P e).c g 1
        · rw [if_pos (Or.inr t1.symm), if_pos (Or.inr t1.symm), t1, upd_s, upd_s]
          exact ⟨rfl, rfl⟩
        · rw [pk_un t1, pk_un t1]
          by_cases t0 : t = (sw P e).c g 0
          · rw [if_pos (Or.inl t0.symm), if_pos (Or.inl t0.symm), t0, upd_s, upd_s]
            exact ⟨rfl, rfl⟩
          · rw [pk_un t0, pk_un t0, if_neg (by omega), if_neg (by omega)]
            exact h2 t ht
      · dsimp only
        rw [F_X5_walk_L37]
        dsimp only
        simp (disch := omega) only [↓Option.bind_some, ↓reduceIte, ↓bnd (ms.y2), ↓bnd (ms.2.2.2.2.gn), ↓bnd (hh), ↓bnd (hh2), ↓bnd (ms.2.2.2.2.o), ↓bnd (o1), ↓bnd (o2), ↓bnd (o79 ms.1), ↓bnd (og), ↓bnd (e3), ↓bnd (o79 ms3.1), ↓bnd (e4), nLe_f, nI_1]
    · rintro k ⟨s, y⟩ ⟨h1, h2, h3⟩
      dsimp only at h1 h2 h3 ⊢
      subst h3
      have ms := m.wq h1
      refine ⟨s, ?_, h1, h2⟩
      rw [F_X5_walk_L37]
      dsimp only
      simp (disch := omega) only [↓Option.bind_some, ↓reduceIte, ↓bnd (ms.y2), ↓bnd (ms.2.2.2.2.gn), nLe_t]
  obtain ⟨s2, e2, q2, v2⟩ := h2
  have h3 : ∃ s3, F_X5_walk_L120 n n s2 (some 79) (0 : Int32) (0 : Int32) = some (nI (nS (tr L (sw P e)) 8), s3) ∧ WQ st s3 ∧ ∀ s, s < 8 → cI s3 89 s = nI (tr L (sw P e) s) := by
    refine loop_ex (fun k (s : xS × Int32 × Int32) => F_X5_walk_L120 n k s.1 (some 79) s.2.1 s.2.2) (fun i s => WQ st s.1 ∧ (∀ q, q < i → cI s.1 89 q = nI (tr L (sw P e) q)) ∧ (∀ q, i ≤ q → q < 8 → cI s.1 88 q = nI (ps L (sw P e) q P.n) ∧ cI s.1 89 q = nI (wd L (sw P e) q P.n)) ∧ s.2.1 = nI (nS (tr L (sw P e)) i) ∧ s.2.2 = nI i) 8 (fun r => ∃ s3, r = some (nI (nS (tr L (sw P e)) 8), s3) ∧ WQ st s3 ∧ ∀ s, s < 8 → cI s3 89 s = nI (tr L (sw P e) s)) ?_ ?_ n (by omega) (s2, 0, 0) ⟨q2, fun q hq => by omega, fun q _ hq => v2 q hq, rfl, rfl⟩
    · rintro k i ⟨s, y, z⟩ hi ⟨h1, h2, h3, h4, h5⟩
      dsimp only at h1 h2 h3 h4 h5 ⊢
      subst h4
      subst h5
      have ms := m.wq h1
      have ho : F_X4_own n s (some a) (nI i) = some (nI (L.r (40 + i))) := C_own ms.2.2.2.1 (by omega)
      have b1 := ps_lt hI hJ2 hi P.n (Nat.le_refl _)
      obtain ⟨s3, e3, q3, c8, c9⟩ := C_go (n := n) ms hi b1 (hI.2.2.2.2.2.2.1 i hi) (h3 i (Nat.le_refl i) hi).1 (h3 i (Nat.le_refl i) hi).2
      have ms3 := ms.wq q3
      have r9 : aI s3 (some 89) (nI i) = some (nI (tr L (sw P e) i)) := by rw [a89 ms3.1, if_pos (ixT (by omega) (by decide)), nIc (by omega), c9, upd_s]; rfl
      refine ⟨(s3, nI (nS (tr L (sw P e)) (i + 1)), nI (i + 1)), ⟨h1.trans q3, fun q hq => ?_, fun q hq hq2 => ?_, rfl, rfl⟩, ?_⟩
      · dsimp only
        rw [c9]
        by_cases hqi : q = i
        · rw [hqi, upd_s]; rfl
        · rw [pk_un hqi]
          exact h2 q (by omega)
      · dsimp only
        rw [c8, c9, pk_un (show q ≠ i by omega), pk_un (show q ≠ i by omega)]
        exact h3 q (by omega) hq2
      · dsimp only
        rw [F_X5_walk_L120, nS]
        dsimp only
        simp (disch := omega) only [l8, ↓Option.bind_some, ↓reduceIte, ↓bnd (ms.y0), ↓bnd (ms.2.2.2.1.o), ↓bnd (ho), ↓bnd (o79 ms.1), ↓bnd (e3), ↓bnd (g79_9 ms3.1), ↓bnd (r9), nLe_f, nI_1, nAdd]
    · rintro k ⟨s, y, z⟩ ⟨h1, h2, h3, h4, h5⟩
      dsimp only at h1 h2 h3 h4 h5 ⊢
      subst h4
      subst h5
      refine ⟨s, ?_, h1, h2⟩
      rw [F_X5_walk_L120]
      dsimp only
      simp (disch := omega) only [l8, ↓reduceIte, nLe_t]
  obtain ⟨s3, e3, q3, v3⟩ := h3
  refine ⟨s3, ?_, q3, v3⟩
  unfold F_X5_walk
  simp only [↓Option.bind_some, ↓bnd (e1), ↓bnd (e2), ↓bnd (e3)]
end WA

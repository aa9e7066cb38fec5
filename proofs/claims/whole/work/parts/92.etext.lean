/-! TEXT -/
theorem LgM.tr {B C : Nat → Int32} {b c : Nat} {D : LgD} (h : ∀ j, j < 150 → B (b + j) = C (c + j)) (hD : LgM C c D) : LgM B b D := by
  have H : ∀ x y, b ≤ x → x < b + 150 → y + b = x + c → B x = C y := fun x y h1 h2 h3 => by
    have := h (x - b) (by omega)
    rw [show b + (x - b) = x by omega, show c + (x - b) = y by omega] at this
    exact this
  obtain ⟨g1, g2, g3, g4, g5, g6, g7, g8⟩ := hD
  exact ⟨(H _ _ (by omega) (by omega) (by omega)).trans g1, (H _ _ (by omega) (by omega) (by omega)).trans g2, fun x hx => (H _ _ (by omega) (by omega) (by omega)).trans (g3 x hx), fun x hx => (H _ _ (by omega) (by omega) (by omega)).trans (g4 x hx), fun x hx => (H _ _ (by omega) (by omega) (by omega)).trans (g5 x hx), fun x hx => (H _ _ (by omega) (by omega) (by omega)).trans (g6 x hx), fun x hx => (H _ _ (by omega) (by omega) (by omega)).trans (g7 x hx), fun x y hx hy => (H _ _ (by omega) (by omega) (by omega)).trans (g8 x y hx hy)⟩
theorem LwM.tr {B C : Nat → Int32} {b c : Nat} {D : LwD} (h : ∀ j, j < 14 → B (b + j) = C (c + j)) (hD : LwM C c D) : LwM B b D := by
  have H : ∀ x y, b ≤ x → x < b + 14 → y + b = x + c → B x = C y := fun x y h1 h2 h3 => by
    have := h (x - b) (by omega)
    rw [show b + (x - b) = x by omega, show c + (x - b) = y by omega] at this
    exact this
  obtain ⟨g1, g2, g3⟩ := hD
  exact ⟨(H _ _ (by omega) (by omega) (by omega)).trans g1, fun x hx => (H _ _ (by omega) (by omega) (by omega)).trans (g2 x hx), fun x hx => (H _ _ (by omega) (by omega) (by omega)).trans (g3 x hx)⟩
theorem PlM.tr {B C : Nat → Int32} {b c : Nat} {D : PlD} (hn : D.n ≤ 40) (h : ∀ j, j < 242 → B (b + j) = C (c + j)) (hD : PlM C c D) : PlM B b D := by
  have H : ∀ x y, b ≤ x → x < b + 242 → y + b = x + c → B x = C y := fun x y h1 h2 h3 => by
    have := h (x - b) (by omega)
    rw [show b + (x - b) = x by omega, show c + (x - b) = y by omega] at this
    exact this
  obtain ⟨g1, g2, g3⟩ := hD
  exact ⟨(H _ _ (by omega) (by omega) (by omega)).trans g1, fun x w hx hw => (H _ _ (by omega) (by omega) (by omega)).trans (g2 x w hx hw), fun x hx => (H _ _ (by omega) (by omega) (by omega)).trans (g3 x hx)⟩
section L6
variable {st st1 st2 s s1 : xS} {n len p k e i so c fl : Nat} {tp : Nat → Nat} {w pl a2 : Int32} {G G1 : Gh} {I : Im} {B B1 C : Nat → Int32}
theorem ModB.q (hM : ModB B G) (hI : GhI G) (h4 : B1 4 = 0) (h5 : B1 5 = nI fl) (h6 : B1 6 = pl) (ho : ∀ q, q ≠ 4 → q ≠ 5 → q ≠ 6 → B1 q = B q) : ModB B1 (setQ G fl pl) := by
  obtain ⟨m1, m2, m3, m4, m5, m6, m7, m8, m9, m10⟩ := hM
  refine ⟨fun w hw => (ho w (by omega) (by omega) (by omega)).trans (m1 w hw), h4, h5, h6, fun q hq => (ho _ (by omega) (by omega) (by omega)).trans (m5 q hq), fun q hq => (m6 q hq).tr fun j hj => ho _ (by omega) (by omega) (by omega), fun q hq => (m7 q hq).tr fun j hj => ho _ (by omega) (by omega) (by omega), fun q hq => (m8 q hq).tr (hI.pp hq).1 fun j hj => ho _ (by omega) (by omega) (by omega), fun q w hq hw => (ho _ (by omega) (by omega) (by omega)).trans (m9 q w hq hw), fun j hj => ?_⟩
  obtain ⟨d1, d2, d3, d4⟩ := m10 j hj
  exact ⟨(ho _ (by omega) (by omega) (by omega)).trans d1, (ho _ (by omega) (by omega) (by omega)).trans d2, (ho _ (by omega) (by omega) (by omega)).trans d3, (ho _ (by omega) (by omega) (by omega)).trans d4⟩
theorem ModB.put0 {D : LgD} (hM : ModB B G) (hI : GhI G) (hk : k ≤ G.cn 0) (h3 : k < 3) (h0 : B1 0 = nI (max (G.cn 0) (k + 1))) (h4 : B1 4 = 0) (h5 : B1 5 = nI fl) (h6 : B1 6 = pl) (hD : LgM C 0 D) (hC : ∀ j, j < 150 → B1 (510 + 150 * k + j) = C j) (ho : ∀ q, q ≠ 0 → q ≠ 4 → q ≠ 5 → q ≠ 6 → ¬ (510 + 150 * k ≤ q ∧ q < 510 + 150 * k + 150) → B1 q = B q) : ModB B1 (setQ (setL G k D) fl pl) := by
  have b0 := hI.1
  have b1 := hI.2.1
  have b2 := hI.2.2.1
  have b3 := hI.2.2.2.1
  obtain ⟨m1, m2, m3, m4, m5, m6, m7, m8, m9, m10⟩ := hM
  have H : ∀ q, 10 ≤ q → ¬ (510 + 150 * k ≤ q ∧ q < 510 + 150 * k + 150) → B1 q = B q := fun q h1 h2 => ho q (by omega) (by omega) (by omega) (by omega) h2
  refine ⟨fun w hw => ?_, h4, h5, h6, fun q hq => (H _ (by omega) (by omega)).trans (m5 q hq), fun q hq => ?_, fun q hq => ?_, fun q hq => ?_, fun q w hq hw => ?_, fun j hj => ?_⟩
  · show B1 w = nI (if w = 0 then max (G.cn 0) (k + 1) else G.cn w)
    by_cases c : w = 0
    · rw [if_pos c, c]; exact h0
    · rw [if_neg c]; exact (ho w c (by omega) (by omega) (by omega) (by omega)).trans (m1 w hw)
  · have hq : q < max (G.cn 0) (k + 1) := hq
    show LgM B1 (510 + 150 * q) (if q = k then D else G.L q)
    by_cases c : q = k
    · subst c
      rw [if_pos rfl]
      exact hD.tr fun j hj => (hC j hj).trans (by rw [Nat.zero_add])
    · rw [if_neg c]
      have hq : q < G.cn 0 := by omega
      exact (m6 q hq).tr fun j hj => H _ (by omega) (by omega)
  · have hq : q < G.cn 1 := hq
    exact (m7 q hq).tr fun j hj => H _ (by omega) (by omega)
  · have hq : q < G.cn 2 := hq
    exact (m8 q hq).tr (hI.pp hq).1 fun j hj => H _ (by omega) (by omega)
  · have hq : q < G.cn 3 := hq
    exact (H _ (by omega) (by omega)).trans (m9 q w hq hw)
  · obtain ⟨d1, d2, d3, d4⟩ := m10 j hj
    exact ⟨(H _ (by omega) (by omega)).trans d1, (H _ (by omega) (by omega)).trans d2, (H _ (by omega) (by omega)).trans d3, (H _ (by omega) (by omega)).trans d4⟩
theorem ModB.put1 {D : LwD} (hM : ModB B G) (hI : GhI G) (hk : k ≤ G.cn 1) (h3 : k < 3) (h0 : B1 1 = nI (max (G.cn 1) (k + 1))) (h4 : B1 4 = 0) (h5 : B1 5 = nI fl) (h6 : B1 6 = pl) (hD : LwM C 0 D) (hC : ∀ j, j < 14 → B1 (960 + 14 * k + j) = C j) (ho : ∀ q, q ≠ 1 → q ≠ 4 → q ≠ 5 → q ≠ 6 → ¬ (960 + 14 * k ≤ q ∧ q < 960 + 14 * k + 14) → B1 q = B q) : ModB B1 (setQ (setW G k D) fl pl) := by
  have b0 := hI.1
  have b1 := hI.2.1
  have b2 := hI.2.2.1
  have b3 := hI.2.2.2.1
  obtain ⟨m1, m2, m3, m4, m5, m6, m7, m8, m9, m10⟩ := hM
  have H : ∀ q, 10 ≤ q → ¬ (960 + 14 * k ≤ q ∧ q < 960 + 14 * k + 14) → B1 q = B q := fun q h1 h2 => ho q (by omega) (by omega) (by omega) (by omega) h2
  refine ⟨fun w hw => ?_, h4, h5, h6, fun q hq => (H _ (by omega) (by omega)).trans (m5 q hq), fun q hq => ?_, fun q hq => ?_, fun q hq => ?_, fun q w hq hw => ?_, fun j hj => ?_⟩
  · show B1 w = nI (if w = 1 then max (G.cn 1) (k + 1) else G.cn w)
    by_cases c : w = 1
    · rw [if_pos c, c]; exact h0
    · rw [if_neg c]; exact (ho w c (by omega) (by omega) (by omega) (by omega)).trans (m1 w hw)
  · have hq : q < G.cn 0 := hq
    exact (m6 q hq).tr fun j hj => H _ (by omega) (by omega)
  · have hq : q < max (G.cn 1) (k + 1) := hq
    show LwM B1 (960 + 14 * q) (if q = k then D else G.W q)
    by_cases c : q = k
    · subst c
      rw [if_pos rfl]
      exact hD.tr fun j hj => (hC j hj).trans (by rw [Nat.zero_add])
    · rw [if_neg c]
      have hq : q < G.cn 1 := by omega
      exact (m7 q hq).tr fun j hj => H _ (by omega) (by omega)
  · have hq : q < G.cn 2 := hq
    exact (m8 q hq).tr (hI.pp hq).1 fun j hj => H _ (by omega) (by omega)
  · have hq : q < G.cn 3 := hq
    exact (H _ (by omega) (by omega)).trans (m9 q w hq hw)
  · obtain ⟨d1, d2, d3, d4⟩ := m10 j hj
    exact ⟨(H _ (by omega) (by omega)).trans d1, (H _ (by omega) (by omega)).trans d2, (H _ (by omega) (by omega)).trans d3, (H _ (by omega) (by omega)).trans d4⟩
theorem ModB.put2 {D : PlD} (hM : ModB B G) (hI : GhI G) (hk : k ≤ G.cn 2) (h3 : k < 3) (h0 : B1 2 = nI (max (G.cn 2) (k + 1))) (h4 : B1 4 = 0) (h5 : B1 5 = nI fl) (h6 : B1 6 = pl) (hn : D.n ≤ 40) (hD : PlM C 0 D) (hC : ∀ j, j < 242 → B1 (1002 + 242 * k + j) = C j) (ho : ∀ q, q ≠ 2 → q ≠ 4 → q ≠ 5 → q ≠ 6 → ¬ (1002 + 242 * k ≤ q ∧ q < 1002 + 242 * k + 242) → B1 q = B q) : ModB B1 (setQ (setP G k D) fl pl) := by
  have b0 := hI.1
  have b1 := hI.2.1
  have b2 := hI.2.2.1
  have b3 := hI.2.2.2.1
  obtain ⟨m1, m2, m3, m4, m5, m6, m7, m8, m9, m10⟩ := hM
  have H : ∀ q, 10 ≤ q → ¬ (1002 + 242 * k ≤ q ∧ q < 1002 + 242 * k + 242) → B1 q = B q := fun q h1 h2 => ho q (by omega) (by omega) (by omega) (by omega) h2
  refine ⟨fun w hw => ?_, h4, h5, h6, fun q hq => (H _ (by omega) (by omega)).trans (m5 q hq), fun q hq => ?_, fun q hq => ?_, fun q hq => ?_, fun q w hq hw => ?_, fun j hj => ?_⟩
  · show B1 w = nI (if w = 2 then max (G.cn 2) (k + 1) else G.cn w)
    by_cases c : w = 2
    · rw [if_pos c, c]; exact h0
    · rw [if_neg c]; exact (ho w c (by omega) (by omega) (by omega) (by omega)).trans (m1 w hw)
  · have hq : q < G.cn 0 := hq
    exact (m6 q hq).tr fun j hj => H _ (by omega) (by omega)
  · have hq : q < G.cn 1 := hq
    exact (m7 q hq).tr fun j hj => H _ (by omega) (by omega)
  · have hq : q < max (G.cn 2) (k + 1) := hq
    show PlM B1 (1002 + 242 * q) (if q = k then D else G.P q)
    by_cases c : q = k
    · subst c
      rw [if_pos rfl]
      exact hD.tr hn fun j hj => (hC j hj).trans (by rw [Nat.zero_add])
    · rw [if_neg c]
      have hq : q < G.cn 2 := by omega
      exact (m8 q hq).tr (hI.pp hq).1 fun j hj => H _ (by omega) (by omega)
  · have hq : q < G.cn 3 := hq
    exact (H _ (by omega) (by omega)).trans (m9 q w hq hw)
  · obtain ⟨d1, d2, d3, d4⟩ := m10 j hj
    exact ⟨(H _ (by omega) (by omega)).trans d1, (H _ (by omega) (by omega)).trans d2, (H _ (by omega) (by omega)).trans d3, (H _ (by omega) (by omega)).trans d4⟩
/-- the model from where a text begins to be read -/
def tlF (n : Nat) (s : xS) (a1 a2 : Int32) : Option (Int32 × xS) :=
  (F_X11_begins n s (some 106) a1).bind fun s43 =>
  (F_X11_text_L76 n n s43 (some 106) a1 a2).bind fun q45 =>
  (gR q45 (some 106) 11 0).bind fun v46 =>
  (aI q45 v46 (5 : Int32)).bind fun v47 =>
  if v47 = (0 : Int32) then
    ((if a2 = (-1 : Int32) then
        (gR q45 (some 106) 11 0).bind fun v48 =>
        (aI q45 v48 a1).bind fun v49 =>
        some v49
      else
        some a2) : Option (Int32)).bind fun q50 =>
    ((if a2 = (-1 : Int32) then
        (gR q45 (some 106) 11 0).bind fun v51 =>
        (aI q45 v51 a1).bind fun v52 =>
        (sS 0 q45 v51 a1 (v52 + (1 : Int32))).bind fun s53 =>
        some s53
      else
        some q45) : Option (xS)).bind fun q54 =>
    (F_X11_text_L165 n n q54 (some 106) a1 q50 (0 : Int32)).bind fun q55 =>
    some (q50, q55)
  else
    some ((-1 : Int32), q45)
theorem tx_eq (a1 : Int32) : F_X11_text n s (some 106) a1 a2 = ((gR s (some 106) 11 0).bind fun v1 =>
  (aI s v1 (4 : Int32)).bind fun v2 =>
  (pF s (some 106) 11 2 (.int v2)).bind fun s3 =>
  (gR s3 (some 106) 11 0).bind fun v4 =>
  (sS 0 s3 v4 (4 : Int32) (0 : Int32)).bind fun s5 =>
  (gR s5 (some 106) 11 0).bind fun v6 =>
  (sS 0 s5 v6 (5 : Int32) (0 : Int32)).bind fun s7 =>
  (gR s7 (some 106) 11 0).bind fun v8 =>
  (sS 0 s7 v8 (6 : Int32) (-1 : Int32)).bind fun s9 =>
  (F_X11_isIn n s9 a1 (0 : Int32) (2 : Int32)).bind fun v10 =>
  if v10 = (0 : Int32) then
    some ((-2 : Int32), s9)
  else
    if a2 = (-1 : Int32) then
      (gR s9 (some 106) 11 0).bind fun v11 =>
      (aI s9 v11 a1).bind fun v12 =>
      if v12 < (3 : Int32) then
        (isO s9 (some 106) 11).bind fun _ => tlF n s9 a1 a2
      else
        some ((-2 : Int32), s9)
    else
      (isO s9 (some 106) 11).bind fun _ =>
      (F_X11_isOf n s9 (some 106) a1 a2).bind fun v41 =>
      if v41 = (0 : Int32) then
        some ((-2 : Int32), s9)
      else
        (isO s9 (some 106) 11).bind fun _ => tlF n s9 a1 a2) := rfl
theorem M_107 (S : Sh s) {j : Nat} (hj : j < 10250) (v : Int32) : ∃ s', sS 0 s (some 107) (nI j) v = some s' ∧ Only (fun a => a = 107) s s' ∧ cI s' 107 = upd (cI s 107) j v := ⟨_, w107n S hj v, Only.wA S 107 _, k107 S _⟩
theorem M_tail {α : Type} {KQ : xS → α → Nat → Nat → Prop} {Iv : α → Prop} {ck : α → Nat → (Nat → Nat) → Nat × Nat × α} {F : Nat → xS → Option Nat → Option xS} {D0 : α} (hL : LnH n so F KQ Iv ck) (hT : TxH n so F) (ho : CkO ck) (hc : CkI so Iv ck) (hs : so < 3) (hI0 : Iv D0) (hb : ∀ s', (so = 0 → LgQ s' lg0 0 0) → (so = 1 → LwQ s' lw0 0 0) → (so = 2 → PlQ s' pl0 0 0) → KQ s' D0 0 0) (h : RN s tp len) (h5 : cI s 107 5 = 0) (h6 : cI s 107 6 = -1) (hcell : cI s 107 so = nI c) (c3 : c ≤ 3) (k3 : k < 3) (Gd : (a2 = -1 ∧ k = c) ∨ (¬ a2 = -1 ∧ a2 = nI k ∧ k < c)) (hn : 3000 ≤ n) :
    ∃ s' sx, tlF n s (nI so) a2 = some (if (rdT ck tp len so (len + 1) 0 D0 0 (-1)).2.1 = 0 then nI k else -1, s') ∧ Only QN s s' ∧ fI s' 106 15 = fI s 106 15 ∧ cI s' 108 = cI s 108 ∧ cI s' 107 5 = nI (rdT ck tp len so (len + 1) 0 D0 0 (-1)).2.1 ∧ cI s' 107 6 = (rdT ck tp len so (len + 1) 0 D0 0 (-1)).2.2 ∧ ((rdT ck tp len so (len + 1) 0 D0 0 (-1)).2.1 ≠ 0 → ∀ q, q ≠ 5 → q ≠ 6 → cI s' 107 q = cI s 107 q) ∧
      ((rdT ck tp len so (len + 1) 0 D0 0 (-1)).2.1 = 0 → cI s' 107 so = nI (max c (k + 1)) ∧ (∃ i', KQ sx (rdT ck tp len so (len + 1) 0 D0 0 (-1)).1 0 i') ∧ (∀ j, j < zO so → cI s' 107 (pO so k + j) = cI sx 109 j) ∧ ∀ q, q ≠ so → q ≠ 5 → q ≠ 6 → ¬ (pO so k ≤ q ∧ q < pO so k + zO so) → cI s' 107 q = cI s 107 q) := by
  obtain ⟨s1, e1, m1, q1, k0, k1, k2⟩ := M_begins (n := n) h h5 h6 hs hn
  have b5 := h.2.2.1
  obtain ⟨s2, e2, m2, y5, y6, kq⟩ := M_rd (a2 := a2) hL hT ho hc hs (len + 1) 0 D0 0 (-1) s1 0 (by omega) (Nat.le_refl 0) (Nat.zero_le _) q1 (by decide) hI0 (hb s1 k0 k1 k2) n (by omega)
  have r3 := rdT_le ho (tp := tp) (len := len) (so := so) (len + 1) 0 D0 0 (-1) (by decide)
  generalize rdT ck tp len so (len + 1) 0 D0 0 (-1) = R at *
  have m := m1.trans m2
  have S2 := m.1.2.2.1
  have oq : Only QN s s2 := m.1.mono fun a h => by unfold QN; omega
  have r5 : aI s2 (some 107) (5 : Int32) = some (nI R.2.1) := by
    have : aI s2 (some 107) (5 : Int32) = some (cI s2 107 5) := aI107 S2 (by decide)
    rw [this, y5]
  have q0 : (nI R.2.1 = (0 : Int32)) = (R.2.1 = 0) := nEq (b := 0) (by omega) (by decide)
  unfold tlF
  by_cases c0 : R.2.1 = 0
  · have p2 : 510 ≤ pO so k ∧ pO so k ≤ 1500 := by unfold pO; split <;> (try split) <;> omega
    have z2 : zO so ≤ 242 := by unfold zO; split <;> (try split) <;> omega
    have rc : aI s2 (some 107) (nI so) = some (nI c) := by rw [aI107 S2 (by omega), m.2.1 so (by omega) (by omega), hcell]
    have W : ∃ s3, ((if a2 = (-1 : Int32) then (gR s2 (some 106) 11 0).bind fun v51 => (aI s2 v51 (nI so)).bind fun v52 => (sS 0 s2 v51 (nI so) (v52 + (1 : Int32))).bind fun s53 => some s53 else some s2) : Option xS) = some s3 ∧ ((if a2 = (-1 : Int32) then (gR s2 (some 106) 11 0).bind fun v48 => (aI s2 v48 (nI so)).bind fun v49 => some v49 else some a2) : Option Int32) = some (nI k) ∧ Only (fun a => a = 107) s2 s3 ∧ cI s3 107 so = nI (max c (k + 1)) ∧ ∀ q, q ≠ so → cI s3 107 q = cI s2 107 q := by
      rcases Gd with ⟨g1, g2⟩ | ⟨g1, g2, g3⟩
      · obtain ⟨s3, e3, o3, c3'⟩ := M_107 S2 (j := so) (by omega) (nI (c + 1))
        refine ⟨s3, ?_, ?_, o3, by rw [c3', upd_s, g2, show max c (c + 1) = c + 1 by omega], fun q hq => by rw [c3', pk_un hq]⟩
        · simp only [eq_true g1, if_true, ↓bnd (g106_0 S2), ↓bnd (rc), nI_1, ↓bnd (e3)]
        · simp only [eq_true g1, if_true, ↓bnd (g106_0 S2), ↓bnd (rc), g2]
      · exact ⟨s2, by rw [if_neg g1], by rw [if_neg g1, g2], Only.refl S2, by rw [m.2.1 so (by omega) (by omega), hcell, show max c (k + 1) = c by omega], fun _ _ => rfl⟩
    obtain ⟨s3, e3, e3', o3, v3, w3⟩ := W
    have S3 := o3.2.2.1
    obtain ⟨s4, e4, o4, v4⟩ := M_cp (n := n) (so := so) (k := k) S3 hs k3 hn
    refine ⟨s4, s2, ?_, (oq.trans (o3.mono fun a h => by unfold QN; omega)).trans (o4.mono fun a h => by unfold QN; omega), ?_, ?_, ?_, ?_, fun q => absurd c0 q, fun _ => ⟨?_, kq c0, fun j hj => ?_, fun q h1 h2 h3 h4 => ?_⟩⟩
    · simp only [↓bnd (e1), ↓bnd (e2), ↓bnd (g106_0 S2), ↓bnd (r5), q0, eq_true c0, if_true, ↓bnd (e3'), ↓bnd (e3), ↓bnd (e4)]
    · rw [fI_c (o4.2.2.2 106 (by decide)) 15, fI_c (o3.2.2.2 106 (by decide)) 15]; exact m.2.2
    · rw [cI_o o4 (by decide), cI_o o3 (by decide)]; exact cI_o m.1 (by decide)
    · rw [v4, if_neg (by omega), w3 5 (by omega)]; exact y5
    · rw [v4, if_neg (by omega), w3 6 (by omega)]; exact y6
    · rw [v4, if_neg (by omega)]; exact v3
    · rw [v4, if_pos (by omega), show pO so k + j - pO so k = j by omega]
      exact congrFun (cI_o o3 (by decide)) j
    · rw [v4, if_neg h4, w3 q h1]
      exact m.2.1 q h2 h3
  · refine ⟨s2, s2, ?_, oq, m.2.2, cI_o m.1 (by decide), y5, y6, fun _ => m.2.1, fun q => absurd q c0⟩
    simp only [↓bnd (e1), ↓bnd (e2), ↓bnd (g106_0 S2), ↓bnd (r5), q0, eq_false c0, if_false]
theorem rdT_I {α : Type} {Iv : α → Prop} {ck : α → Nat → (Nat → Nat) → Nat × Nat × α} (hc : CkI so Iv ck) (hs : so < 3) : ∀ f p (D : α) k w, Iv D → Iv (rdT ck tp len so f p D k w).1 := by
  intro f
  induction f with
  | zero => exact fun p D k w h => h
  | succ f ih =>
    intro p D k w h
    rw [rdT]
    by_cases c : kD tp len p = 0
    · rw [if_pos c]; exact h
    · rw [if_neg c]
      cases sy : synE tp len so p with
      | some e => exact h
      | none => exact ih _ _ _ _ (chkP_I hc hs h sy)
/-- before it is read: the class, the model -/
theorem C_pre (h : RelK s G I) : ∃ s1 s2 s3, pF s (some 65) 9 8 (.int 0) = some s1 ∧ pF s1 (some 65) 9 9 (.int 0) = some s2 ∧ pF s2 (some 65) 9 10 (.int (-1)) = some s3 ∧ Sh s1 ∧ Sh s2 ∧ RelK s3 (setQ G 0 (-1)) I ∧ KF s s3 ∧ s3.1 = s.1 ∧ s3.2.1 = s.2.1 := by
  have S := h.1
  have p1 := p65_8 S 0
  have f1 := f65_8 S 0
  have b1 := BF_V S (TS_65 S) (Or.inl rfl) (k := 8) (by decide) 0
  have o1 : ∀ a, a ≠ 65 → (uV s 65 8 (.int 0)).2.2 a = s.2.2 a := fun a ha => uV_n ha _ _ _
  generalize uV s 65 8 (.int 0) = s1 at *
  have S1 := b1.2.2.1
  have p2 := p65_9 S1 0
  have f2 := f65_9 S1 0
  have b2 := BF_V S1 (TS_65 S1) (Or.inl rfl) (k := 9) (by decide) 0
  have o2 : ∀ a, a ≠ 65 → (uV s1 65 9 (.int 0)).2.2 a = s1.2.2 a := fun a ha => uV_n ha _ _ _
  have x2 : fI (uV s1 65 9 (.int 0)) 65 8 = fI s1 65 8 := fI_oth (by decide) _
  generalize uV s1 65 9 (.int 0) = s2 at *
  have S2 := b2.2.2.1
  have p3 := p65_10 S2 (-1)
  have f3 := f65_10 S2 (-1)
  have b3 := BF_V S2 (TS_65 S2) (Or.inl rfl) (k := 10) (by decide) (-1)
  have o3 : ∀ a, a ≠ 65 → (uV s2 65 10 (.int (-1))).2.2 a = s2.2.2 a := fun a ha => uV_n ha _ _ _
  have x3 : fI (uV s2 65 10 (.int (-1))) 65 8 = fI s2 65 8 := fI_oth (by decide) _
  have y3 : fI (uV s2 65 10 (.int (-1))) 65 9 = fI s2 65 9 := fI_oth (by decide) _
  generalize uV s2 65 10 (.int (-1)) = s3 at *
  have b := (b1.trans b2).trans b3
  have o : ∀ a, a ≠ 65 → s3.2.2 a = s.2.2 a := fun a ha => ((o3 a ha).trans (o2 a ha)).trans (o1 a ha)
  exact ⟨s1, s2, s3, p1, p2, p3, S1, S2, h.bf b (setQ_I h.2.1 (by decide)) (h.2.2.2.2.1.q b o ((x3.trans x2).trans f1) (y3.trans f2) f3), b.kf (Or.inl rfl), b.1, b.2.1⟩
theorem C_post (h : RelK s G I) (h0 : G.tl = 0) (hf : fl ≤ 3) (pl : Int32) : ∃ s1 s2, pF s (some 65) 9 9 (.int (nI fl)) = some s1 ∧ pF s1 (some 65) 9 10 (.int pl) = some s2 ∧ Sh s1 ∧ RelK s2 (setQ G fl pl) I ∧ KF s s2 ∧ s2.1 = s.1 ∧ s2.2.1 = s.2.1 ∧ fI s2 65 9 = nI fl ∧ s1.2.2 75 = s.2.2 75 := by
  have S := h.1
  have p2 := p65_9 S (nI fl)
  have f2 := f65_9 S (nI fl)
  have b2 := BF_V S (TS_65 S) (Or.inl rfl) (k := 9) (by decide) (nI fl)
  have o2 : ∀ a, a ≠ 65 → (uV s 65 9 (.int (nI fl))).2.2 a = s.2.2 a := fun a ha => uV_n ha _ _ _
  have x2 : fI (uV s 65 9 (.int (nI fl))) 65 8 = fI s 65 8 := fI_oth (by decide) _
  generalize uV s 65 9 (.int (nI fl)) = s2 at *
  have S2 := b2.2.2.1
  have p3 := p65_10 S2 pl
  have f3 := f65_10 S2 pl
  have b3 := BF_V S2 (TS_65 S2) (Or.inl rfl) (k := 10) (by decide) pl
  have o3 : ∀ a, a ≠ 65 → (uV s2 65 10 (.int pl)).2.2 a = s2.2.2 a := fun a ha => uV_n ha _ _ _
  have x3 : fI (uV s2 65 10 (.int pl)) 65 8 = fI s2 65 8 := fI_oth (by decide) _
  have y3 : fI (uV s2 65 10 (.int pl)) 65 9 = fI s2 65 9 := fI_oth (by decide) _
  generalize uV s2 65 10 (.int pl) = s3 at *
  have b := b2.trans b3
  have o : ∀ a, a ≠ 65 → s3.2.2 a = s.2.2 a := fun a ha => (o3 a ha).trans (o2 a ha)
  have h8 : fI s 65 8 = 0 := by rw [h.2.2.2.2.1.2.2.2.2.2.2.2.2.1, h0]; rfl
  exact ⟨s2, s3, p2, p3, S2, h.bf b (setQ_I h.2.1 hf) (h.2.2.2.2.1.q b o ((x3.trans x2).trans h8) (y3.trans f2) f3), b.kf (Or.inl rfl), b.1, b.2.1, y3.trans f2, o2 75 (by decide)⟩
theorem M_pre (h : RelN s G I) : ∃ s1 s2 s3 s4, pF s (some 106) 11 2 (.int (nI G.tl)) = some s1 ∧ sS 0 s1 (some 107) (4 : Int32) (0 : Int32) = some s2 ∧ sS 0 s2 (some 107) (5 : Int32) (0 : Int32) = some s3 ∧ sS 0 s3 (some 107) (6 : Int32) (-1 : Int32) = some s4 ∧ Sh s1 ∧ Sh s2 ∧ Sh s3 ∧ RelN s4 (setQ G 0 (-1)) I ∧ Only QN s s4 ∧ RN s4 G.tp G.tl ∧ cI s4 107 5 = 0 ∧ cI s4 107 6 = -1 := by
  have S := h.1
  obtain ⟨s1, e1, o1, x1, y1⟩ := M_pf S (j := 2) (by decide) (nI G.tl)
  have S1 := o1.2.2.1
  obtain ⟨s2, e2, o2, c2⟩ := M_107 S1 (j := 4) (by decide) 0
  have S2 := o2.2.2.1
  obtain ⟨s3, e3, o3, c3⟩ := M_107 S2 (j := 5) (by decide) 0
  have S3 := o3.2.2.1
  obtain ⟨s4, e4, o4, c4⟩ := M_107 S3 (j := 6) (by decide) (-1)
  have S4 := o4.2.2.1
  have o : Only (fun a => a = 106 ∨ a = 107) s s4 := (((o1.mono fun a h => Or.inl h).trans (o2.mono fun a h => Or.inr h)).trans (o3.mono fun a h => Or.inr h)).trans (o4.mono fun a h => Or.inr h)
  have oq : Only QN s s4 := o.mono fun a h => by unfold QN; omega
  have f4 : ∀ k, fI s4 106 k = fI s1 106 k := fun k => ((fI_c (o4.2.2.2 106 (by decide)) k).trans (fI_c (o3.2.2.2 106 (by decide)) k)).trans (fI_c (o2.2.2.2 106 (by decide)) k)
  have v6 : cI s4 107 6 = -1 := by rw [c4, upd_s]
  have v5 : cI s4 107 5 = 0 := by rw [c4, pk_un (by decide), c3, upd_s]
  have v4 : cI s4 107 4 = 0 := by rw [c4, pk_un (by decide), c3, pk_un (by decide), c2, upd_s]
  have vo : ∀ q, q ≠ 4 → q ≠ 5 → q ≠ 6 → cI s4 107 q = cI s 107 q := fun q h1 h2 h3 => by rw [c4, pk_un h3, c3, pk_un h2, c2, pk_un h1, cI_o o1 (by decide)]
  have M := h.mod
  exact ⟨s1, s2, s3, s4, e1, e2, e3, e4, S1, S2, S3, h.base oq (setQ_I h.2.1 (by decide)) (M.q h.2.1 v4 v5 v6 vo) ((f4 15).trans ((y1 15 (by decide)).trans h.2.2.2.2.1)) (cI_o o (by decide)) (fun i hi => vo i (by omega) (by omega) (by omega)), oq, ⟨S4, (f4 2).trans x1, h.2.1.2.2.2.2.1, h.2.1.2.2.2.2.2.2.1, fun i hi => (vo _ (by omega) (by omega) (by omega)).trans (M.2.2.2.2.1 i hi)⟩, v5, v6⟩
theorem E_text0 (hR : Rel st G I) (k3 : k < 3) (Gd : (a2 = -1 ∧ k = G.cn 0) ∨ (¬ a2 = -1 ∧ a2 = nI k ∧ k < G.cn 0)) (hsl : F_X9_slotOf n st (some 65) (nI 0) a2 = some (nI k)) (hn : 3000 ≤ n) : Chg (fun st => F_X10_text n st (some 64) (nI 0) a2) (fun st => F_X11_text n st (some 106) (nI 0) a2) st G I 3 248 := by
  have hS := hR.sh
  have hT := hR.tol
  have hI := hR.inv
  have b5 := hI.2.2.2.2.1
  have hk : k ≤ G.cn 0 := by rcases Gd with ⟨-, g⟩ | ⟨-, -, g⟩ <;> omega
  have c3 : G.cn 0 ≤ 3 := hI.1
  have g8 : gI st (some 65) 9 8 = some (nI G.tl) := by rw [g65_8 hS, hT.2.2.2.2.2.2.2.2.1]
  obtain ⟨s1, s2, s3, p1, p2, p3, S1, S2, K3, f3, a3, b3⟩ := C_pre hR.cls
  have S3 := K3.1
  obtain ⟨s4, e4, x1, x2, x3, f4, y8, y9, r3, K4⟩ := C_into0 (n := n) (k := k) (tl := G.tl) K3 hk k3 b5 hn
  have S4 := K4.1
  have tp0 : (setQ G 0 (-1)).tp = G.tp := rfl
  rw [tp0] at y8 y9 r3 K4
  have rN : ∀ s', RN s' G.tp G.tl → cI s' 107 5 = 0 → cI s' 107 6 = -1 → cI s' 107 0 = nI (G.cn 0) → _ := fun s' h1 h2 h3 h4 => M_tail (n := n) (so := 0) (D0 := lg0) (LnH_lg hn) TxH_lg lgCk_le CkI_lg (by decide) lg0_I (fun s' a _ _ => a rfl) h1 h2 h3 h4 c3 k3 Gd hn
  generalize rdT lgCk G.tp G.tl 0 (G.tl + 1) 0 lg0 0 (-1) = R at *
  have t0 : (if R.2.1 = 0 then setL (setQ G 0 (-1)) k R.1 else setQ G 0 (-1)).tl = 0 := by split <;> rfl
  obtain ⟨s5, s6, p5, p6, S5, K6, f6, a6, b6, z9, z75⟩ := C_post K4 t0 r3 R.2.2
  have S6 := K6.1
  have g48 : gI s4 (some 75) 7 8 = some (nI R.2.1) := by rw [g75_8 S4, y8]
  have g59 : gI s5 (some 75) 7 9 = some R.2.2 := by rw [g75_9 S5, fI_c z75 9, y9]
  have g69 : gI s6 (some 65) 9 9 = some (nI R.2.1) := by rw [g65_9 S6, z9]
  have q0 : (nI R.2.1 = (0 : Int32)) = (R.2.1 = 0) := nEq (b := 0) (by omega) (by decide)
  have nm : (nI k = (-1 : Int32)) = False := nNeg1 (by omega)
  refine ⟨if R.2.1 = 0 then nI k else -1, s6, _, I, ?_, K6, (f3.trans f4).trans f6, by omega, by omega, by omega, fun st2 r2 => ?_⟩
  · dsimp only
    unfold F_X10_text
    simp only [↓bnd (g64_0 hS), ↓bnd (g8), ↓bnd (o65 hS), ↓bnd (hsl), ↓bnd (p1), ↓bnd (g64_0 S1), ↓bnd (p2), ↓bnd (g64_0 S2), ↓bnd (p3), nm, if_false, ↓bnd (o64 S3), ↓bnd (e4), ↓bnd (g64_0 S4), ↓bnd (g64_2 S4), ↓bnd (g48), ↓bnd (p5), ↓bnd (g64_0 S5), ↓bnd (g64_2 S5), ↓bnd (g59), ↓bnd (p6), ↓bnd (g64_0 S6), ↓bnd (g69), q0]
    by_cases c : R.2.1 = 0
    · rw [if_pos c, if_pos c]; rfl
    · rw [if_neg c, if_neg c]; rfl
  · obtain ⟨m1, m2, m3, m4, e1, e2, e3, e4', T1, T2, T3, N4, o4, R4, w5, w6⟩ := M_pre r2
    have T4 := N4.1
    have T := r2.1
    have M4 := N4.mod
    have v0 : cI m4 107 0 = nI (G.cn 0) := M4.1 0 (by decide)
    obtain ⟨s', sx, et, oq, x15, x108, u5, u6, un, uz⟩ := rN m4 R4 w5 w6 v0
    have v4 : cI m4 107 4 = 0 := M4.2.1
    have r4 : aI st2 (some 107) (4 : Int32) = some (nI G.tl) := by
      have : aI st2 (some 107) (4 : Int32) = some (cI st2 107 4) := aI107 T (by decide)
      rw [this, r2.mod.2.1]
    refine ⟨s', ?_, N4.base oq K6.2.1 ?_ (x15.trans N4.2.2.2.2.1) x108 ?_, o4.trans oq⟩
    · dsimp only
      rw [tx_eq]
      have ii : F_X11_isIn n m4 (nI 0) (0 : Int32) (2 : Int32) = some 1 := M_in_t (j := 0) (b := 2) (by decide) (by decide)
      simp only [↓bnd (g106_0 T), ↓bnd (r4), ↓bnd (e1), ↓bnd (g106_0 T1), ↓bnd (e2), ↓bnd (g106_0 T2), ↓bnd (e3), ↓bnd (g106_0 T3), ↓bnd (e4'), ↓bnd (ii), one0, if_false]
      rcases Gd with ⟨g1, g2⟩ | ⟨g1, g2, g3⟩
      · have rc : aI m4 (some 107) (nI 0) = some (nI (G.cn 0)) := by rw [aI107 T4 (by decide), v0]
        have lt : (nI (G.cn 0) < (3 : Int32)) = True := nLt_t (b := 3) (by omega) (by decide)
        rw [if_pos g1]
        simp only [↓bnd (g106_0 T4), ↓bnd (rc), lt, if_true, ↓bnd (o106 T4), et]
      · have io : F_X11_isOf n m4 (some 106) (nI 0) a2 = some 1 := by rw [g2]; exact M_isOf_t T4 M4 (by decide) g3 (by show G.cn 0 < 1000; omega)
        rw [if_neg g1]
        simp only [↓bnd (o106 T4), ↓bnd (io), one0, if_false, ↓bnd (o106 T4), et]
    · by_cases c : R.2.1 = 0
      · rw [if_pos c]
        obtain ⟨uc, ⟨i', hKQ⟩, uj, uo⟩ := uz c
        have hM : LgM (cI sx 109) 0 R.1 := by
          obtain ⟨g, t, -, -, -, -, hM⟩ := hKQ
          obtain ⟨-, -, hM⟩ := hM rfl
          exact hM
        exact ModB.put0 M4 N4.2.1 hk k3 uc ((uo 4 (by decide) (by decide) (by decide) (by show ¬ (510 + 150 * k ≤ 4 ∧ _); omega)).trans v4) u5 u6 hM uj fun q h1 h2 h3 h4 h5 => uo q h1 h3 h4 h5
      · rw [if_neg c]
        exact M4.q N4.2.1 ((un c 4 (by decide) (by decide)).trans v4) u5 u6 fun q h1 h2 h3 => un c q h2 h3
    · intro q hq
      by_cases c : R.2.1 = 0
      · exact (uz c).2.2.2 q (by omega) (by omega) (by omega) (by show ¬ (510 + 150 * k ≤ q ∧ q < 510 + 150 * k + 150); omega)
      · exact un c q (by omega) (by omega)
theorem E_text1 (hR : Rel st G I) (k3 : k < 3) (Gd : (a2 = -1 ∧ k = G.cn 1) ∨ (¬ a2 = -1 ∧ a2 = nI k ∧ k < G.cn 1)) (hsl : F_X9_slotOf n st (some 65) (nI 1) a2 = some (nI k)) (hn : 3000 ≤ n) : Chg (fun st => F_X10_text n st (some 64) (nI 1) a2) (fun st => F_X11_text n st (some 106) (nI 1) a2) st G I 3 248 := by
  have hS := hR.sh
  have hT := hR.tol
  have hI := hR.inv
  have b5 := hI.2.2.2.2.1
  have hk : k ≤ G.cn 1 := by rcases Gd with ⟨-, g⟩ | ⟨-, -, g⟩ <;> omega
  have c3 : G.cn 1 ≤ 3 := hI.2.1
  have g8 : gI st (some 65) 9 8 = some (nI G.tl) := by rw [g65_8 hS, hT.2.2.2.2.2.2.2.2.1]
  obtain ⟨s1, s2, s3, p1, p2, p3, S1, S2, K3, f3, a3, b3⟩ := C_pre hR.cls
  have S3 := K3.1
  obtain ⟨s4, e4, x1, x2, x3, f4, y8, y9, r3, K4⟩ := C_into1 (n := n) (k := k) (tl := G.tl) K3 hk k3 b5 hn
  have S4 := K4.1
  have tp0 : (setQ G 0 (-1)).tp = G.tp := rfl
  rw [tp0] at y8 y9 r3 K4
  have rN : ∀ s', RN s' G.tp G.tl → cI s' 107 5 = 0 → cI s' 107 6 = -1 → cI s' 107 1 = nI (G.cn 1) → _ := fun s' h1 h2 h3 h4 => M_tail (n := n) (so := 1) (D0 := lw0) (LnH_lw hn) TxH_lw lwCk_le CkI_lw (by decide) lw0_I (fun s' _ a _ => a rfl) h1 h2 h3 h4 c3 k3 Gd hn
  generalize rdT lwCk G.tp G.tl 1 (G.tl + 1) 0 lw0 0 (-1) = R at *
  have t0 : (if R.2.1 = 0 then setW (setQ G 0 (-1)) k R.1 else setQ G 0 (-1)).tl = 0 := by split <;> rfl
  obtain ⟨s5, s6, p5, p6, S5, K6, f6, a6, b6, z9, z75⟩ := C_post K4 t0 r3 R.2.2
  have S6 := K6.1
  have g48 : gI s4 (some 75) 7 8 = some (nI R.2.1) := by rw [g75_8 S4, y8]
  have g59 : gI s5 (some 75) 7 9 = some R.2.2 := by rw [g75_9 S5, fI_c z75 9, y9]
  have g69 : gI s6 (some 65) 9 9 = some (nI R.2.1) := by rw [g65_9 S6, z9]
  have q0 : (nI R.2.1 = (0 : Int32)) = (R.2.1 = 0) := nEq (b := 0) (by omega) (by decide)
  have nm : (nI k = (-1 : Int32)) = False := nNeg1 (by omega)
  refine ⟨if R.2.1 = 0 then nI k else -1, s6, _, I, ?_, K6, (f3.trans f4).trans f6, by omega, by omega, by omega, fun st2 r2 => ?_⟩
  · dsimp only
    unfold F_X10_text
    simp only [↓bnd (g64_0 hS), ↓bnd (g8), ↓bnd (o65 hS), ↓bnd (hsl), ↓bnd (p1), ↓bnd (g64_0 S1), ↓bnd (p2), ↓bnd (g64_0 S2), ↓bnd (p3), nm, if_false, ↓bnd (o64 S3), ↓bnd (e4), ↓bnd (g64_0 S4), ↓bnd (g64_2 S4), ↓bnd (g48), ↓bnd (p5), ↓bnd (g64_0 S5), ↓bnd (g64_2 S5), ↓bnd (g59), ↓bnd (p6), ↓bnd (g64_0 S6), ↓bnd (g69), q0]
    by_cases c : R.2.1 = 0
    · rw [if_pos c, if_pos c]; rfl
    · rw [if_neg c, if_neg c]; rfl
  · obtain ⟨m1, m2, m3, m4, e1, e2, e3, e4', T1, T2, T3, N4, o4, R4, w5, w6⟩ := M_pre r2
    have T4 := N4.1
    have T := r2.1
    have M4 := N4.mod
    have v1 : cI m4 107 1 = nI (G.cn 1) := M4.1 1 (by decide)
    obtain ⟨s', sx, et, oq, x15, x108, u5, u6, un, uz⟩ := rN m4 R4 w5 w6 v1
    have v4 : cI m4 107 4 = 0 := M4.2.1
    have r4 : aI st2 (some 107) (4 : Int32) = some (nI G.tl) := by
      have : aI st2 (some 107) (4 : Int32) = some (cI st2 107 4) := aI107 T (by decide)
      rw [this, r2.mod.2.1]
    refine ⟨s', ?_, N4.base oq K6.2.1 ?_ (x15.trans N4.2.2.2.2.1) x108 ?_, o4.trans oq⟩
    · dsimp only
      rw [tx_eq]
      have ii : F_X11_isIn n m4 (nI 1) (0 : Int32) (2 : Int32) = some 1 := M_in_t (j := 1) (b := 2) (by decide) (by decide)
      simp only [↓bnd (g106_0 T), ↓bnd (r4), ↓bnd (e1), ↓bnd (g106_0 T1), ↓bnd (e2), ↓bnd (g106_0 T2), ↓bnd (e3), ↓bnd (g106_0 T3), ↓bnd (e4'), ↓bnd (ii), one0, if_false]
      rcases Gd with ⟨g1, g2⟩ | ⟨g1, g2, g3⟩
      · have rc : aI m4 (some 107) (nI 1) = some (nI (G.cn 1)) := by rw [aI107 T4 (by decide), v1]
        have lt : (nI (G.cn 1) < (3 : Int32)) = True := nLt_t (b := 3) (by omega) (by decide)
        rw [if_pos g1]
        simp only [↓bnd (g106_0 T4), ↓bnd (rc), lt, if_true, ↓bnd (o106 T4), et]
      · have io : F_X11_isOf n m4 (some 106) (nI 1) a2 = some 1 := by rw [g2]; exact M_isOf_t T4 M4 (by decide) g3 (by show G.cn 1 < 1000; omega)
        rw [if_neg g1]
        simp only [↓bnd (o106 T4), ↓bnd (io), one0, if_false, ↓bnd (o106 T4), et]
    · by_cases c : R.2.1 = 0
      · rw [if_pos c]
        obtain ⟨uc, ⟨i', hKQ⟩, uj, uo⟩ := uz c
        have hM : LwM (cI sx 109) 0 R.1 := by
          have hM := hKQ rfl
          exact hM
        exact ModB.put1 M4 N4.2.1 hk k3 uc ((uo 4 (by decide) (by decide) (by decide) (by show ¬ (960 + 14 * k ≤ 4 ∧ _); omega)).trans v4) u5 u6 hM uj fun q h1 h2 h3 h4 h5 => uo q h1 h3 h4 h5
      · rw [if_neg c]
        exact M4.q N4.2.1 ((un c 4 (by decide) (by decide)).trans v4) u5 u6 fun q h1 h2 h3 => un c q h2 h3
    · intro q hq
      by_cases c : R.2.1 = 0
      · exact (uz c).2.2.2 q (by omega) (by omega) (by omega) (by show ¬ (960 + 14 * k ≤ q ∧ q < 960 + 14 * k + 14); omega)
      · exact un c q (by omega) (by omega)
theorem E_text2 (hR : Rel st G I) (k3 : k < 3) (Gd : (a2 = -1 ∧ k = G.cn 2) ∨ (¬ a2 = -1 ∧ a2 = nI k ∧ k < G.cn 2)) (hsl : F_X9_slotOf n st (some 65) (nI 2) a2 = some (nI k)) (hn : 3000 ≤ n) : Chg (fun st => F_X10_text n st (some 64) (nI 2) a2) (fun st => F_X11_text n st (some 106) (nI 2) a2) st G I 3 248 := by
  have hS := hR.sh
  have hT := hR.tol
  have hI := hR.inv
  have b5 := hI.2.2.2.2.1
  have hk : k ≤ G.cn 2 := by rcases Gd with ⟨-, g⟩ | ⟨-, -, g⟩ <;> omega
  have c3 : G.cn 2 ≤ 3 := hI.2.2.1
  have g8 : gI st (some 65) 9 8 = some (nI G.tl) := by rw [g65_8 hS, hT.2.2.2.2.2.2.2.2.1]
  obtain ⟨s1, s2, s3, p1, p2, p3, S1, S2, K3, f3, a3, b3⟩ := C_pre hR.cls
  have S3 := K3.1
  obtain ⟨s4, e4, x1, x2, x3, f4, y8, y9, r3, K4⟩ := C_into2 (n := n) (k := k) (tl := G.tl) K3 hk k3 b5 hn
  have S4 := K4.1
  have tp0 : (setQ G 0 (-1)).tp = G.tp := rfl
  rw [tp0] at y8 y9 r3 K4
  have rN : ∀ s', RN s' G.tp G.tl → cI s' 107 5 = 0 → cI s' 107 6 = -1 → cI s' 107 2 = nI (G.cn 2) → _ := fun s' h1 h2 h3 h4 => M_tail (n := n) (so := 2) (D0 := pl0) (LnH_pl hn) TxH_pl plCk_le CkI_pl (by decide) pl0_I (fun s' _ _ a => a rfl) h1 h2 h3 h4 c3 k3 Gd hn
  have iR := (rdT_I (so := 2) (tp := G.tp) (len := G.tl) CkI_pl (by decide) (G.tl + 1) 0 pl0 0 (-1) pl0_I)
  generalize rdT plCk G.tp G.tl 2 (G.tl + 1) 0 pl0 0 (-1) = R at *
  have t0 : (if R.2.1 = 0 then setP (setQ G 0 (-1)) k R.1.d else setQ G 0 (-1)).tl = 0 := by split <;> rfl
  obtain ⟨s5, s6, p5, p6, S5, K6, f6, a6, b6, z9, z75⟩ := C_post K4 t0 r3 R.2.2
  have S6 := K6.1
  have g48 : gI s4 (some 75) 7 8 = some (nI R.2.1) := by rw [g75_8 S4, y8]
  have g59 : gI s5 (some 75) 7 9 = some R.2.2 := by rw [g75_9 S5, fI_c z75 9, y9]
  have g69 : gI s6 (some 65) 9 9 = some (nI R.2.1) := by rw [g65_9 S6, z9]
  have q0 : (nI R.2.1 = (0 : Int32)) = (R.2.1 = 0) := nEq (b := 0) (by omega) (by decide)
  have nm : (nI k = (-1 : Int32)) = False := nNeg1 (by omega)
  refine ⟨if R.2.1 = 0 then nI k else -1, s6, _, I, ?_, K6, (f3.trans f4).trans f6, by omega, by omega, by omega, fun st2 r2 => ?_⟩
  · dsimp only
    unfold F_X10_text
    simp only [↓bnd (g64_0 hS), ↓bnd (g8), ↓bnd (o65 hS), ↓bnd (hsl), ↓bnd (p1), ↓bnd (g64_0 S1), ↓bnd (p2), ↓bnd (g64_0 S2), ↓bnd (p3), nm, if_false, ↓bnd (o64 S3), ↓bnd (e4), ↓bnd (g64_0 S4), ↓bnd (g64_2 S4), ↓bnd (g48), ↓bnd (p5), ↓bnd (g64_0 S5), ↓bnd (g64_2 S5), ↓bnd (g59), ↓bnd (p6), ↓bnd (g64_0 S6), ↓bnd (g69), q0]
    by_cases c : R.2.1 = 0
    · rw [if_pos c, if_pos c]; rfl
    · rw [if_neg c, if_neg c]; rfl
  · obtain ⟨m1, m2, m3, m4, e1, e2, e3, e4', T1, T2, T3, N4, o4, R4, w5, w6⟩ := M_pre r2
    have T4 := N4.1
    have T := r2.1
    have M4 := N4.mod
    have v2 : cI m4 107 2 = nI (G.cn 2) := M4.1 2 (by decide)
    obtain ⟨s', sx, et, oq, x15, x108, u5, u6, un, uz⟩ := rN m4 R4 w5 w6 v2
    have v4 : cI m4 107 4 = 0 := M4.2.1
    have r4 : aI st2 (some 107) (4 : Int32) = some (nI G.tl) := by
      have : aI st2 (some 107) (4 : Int32) = some (cI st2 107 4) := aI107 T (by decide)
      rw [this, r2.mod.2.1]
    refine ⟨s', ?_, N4.base oq K6.2.1 ?_ (x15.trans N4.2.2.2.2.1) x108 ?_, o4.trans oq⟩
    · dsimp only
      rw [tx_eq]
      have ii : F_X11_isIn n m4 (nI 2) (0 : Int32) (2 : Int32) = some 1 := M_in_t (j := 2) (b := 2) (by decide) (by decide)
      simp only [↓bnd (g106_0 T), ↓bnd (r4), ↓bnd (e1), ↓bnd (g106_0 T1), ↓bnd (e2), ↓bnd (g106_0 T2), ↓bnd (e3), ↓bnd (g106_0 T3), ↓bnd (e4'), ↓bnd (ii), one0, if_false]
      rcases Gd with ⟨g1, g2⟩ | ⟨g1, g2, g3⟩
      · have rc : aI m4 (some 107) (nI 2) = some (nI (G.cn 2)) := by rw [aI107 T4 (by decide), v2]
        have lt : (nI (G.cn 2) < (3 : Int32)) = True := nLt_t (b := 3) (by omega) (by decide)
        rw [if_pos g1]
        simp only [↓bnd (g106_0 T4), ↓bnd (rc), lt, if_true, ↓bnd (o106 T4), et]
      · have io : F_X11_isOf n m4 (some 106) (nI 2) a2 = some 1 := by rw [g2]; exact M_isOf_t T4 M4 (by decide) g3 (by show G.cn 2 < 1000; omega)
        rw [if_neg g1]
        simp only [↓bnd (o106 T4), ↓bnd (io), one0, if_false, ↓bnd (o106 T4), et]
    · by_cases c : R.2.1 = 0
      · rw [if_pos c]
        obtain ⟨uc, ⟨i', hKQ⟩, uj, uo⟩ := uz c
        have hM : PlM (cI sx 109) 0 R.1.d := by
          obtain ⟨g, y, -, -, -, -, hM⟩ := hKQ
          obtain ⟨-, -, hM, -⟩ := hM rfl
          exact hM
        exact ModB.put2 M4 N4.2.1 hk k3 uc ((uo 4 (by decide) (by decide) (by decide) (by show ¬ (1002 + 242 * k ≤ 4 ∧ _); omega)).trans v4) u5 u6 iR.1.1 hM uj fun q h1 h2 h3 h4 h5 => uo q h1 h3 h4 h5
      · rw [if_neg c]
        exact M4.q N4.2.1 ((un c 4 (by decide) (by decide)).trans v4) u5 u6 fun q h1 h2 h3 => un c q h2 h3
    · intro q hq
      by_cases c : R.2.1 = 0
      · exact (uz c).2.2.2 q (by omega) (by omega) (by omega) (by show ¬ (1002 + 242 * k ≤ q ∧ q < 1002 + 242 * k + 242); omega)
      · exact un c q (by omega) (by omega)
theorem C_slot (hR : Rel st G I) {w : Nat} (hw : w < 3) : (a2 = -1 → F_X9_slotOf n st (some 65) (nI w) a2 = some (if 3 ≤ G.cn w then -1 else nI (G.cn w))) ∧ (∀ k, ¬ a2 = -1 → a2 = nI k → k < G.cn w → F_X9_slotOf n st (some 65) (nI w) a2 = some (nI k)) ∧ (¬ a2 = -1 → (∀ k, k < G.cn w → ¬ a2 = nI k) → F_X9_slotOf n st (some 65) (nI w) a2 = some (-1)) := by
  have hS := hR.sh
  have hT := hR.tol
  have hI := hR.inv
  have c3 : G.cn w ≤ 3 := by
    rcases (show w = 0 ∨ w = 1 ∨ w = 2 by omega) with rfl | rfl | rfl
    · exact hI.1
    · exact hI.2.1
    · exact hI.2.2.1
  have hm := C_howMany (n := n) hS hT (w := w) (by omega)
  have n0 : (nI w < (0 : Int32)) = False := eq_false (nI_pos (by omega))
  have l2 : (nI w ≤ (2 : Int32)) = True := nLe_t (b := 2) (by omega) (by decide)
  unfold F_X9_slotOf
  simp only [n0, if_false, l2, if_true, ↓bnd (o65 hS), ↓bnd (hm)]
  refine ⟨fun h => ?_, fun k h1 h2 h3 => ?_, fun h1 h2 => ?_⟩
  · have l3 : ((3 : Int32) ≤ nI (G.cn w)) = (3 ≤ G.cn w) := nLe (a := 3) (by decide) (by omega)
    rw [if_pos h]
    simp only [l3]
    by_cases c : 3 ≤ G.cn w
    · rw [if_pos c, if_pos c]; rfl
    · rw [if_neg c, if_neg c]; rfl
  · have l3 : (nI (G.cn w) ≤ nI k) = (G.cn w ≤ k) := nLe (by omega) (by omega)
    have k0 : (nI k < (0 : Int32)) = False := eq_false (nI_pos (by omega))
    rw [if_neg h1, h2]
    simp only [k0, if_false, l3, eq_false (show ¬ G.cn w ≤ k by omega), Option.bind_some]
  · rw [if_neg h1]
    rcases nOut (by omega) h2 with h | h
    · rw [if_pos h]; rfl
    · by_cases h0 : a2 < 0
      · rw [if_pos h0]; rfl
      · rw [if_neg h0, if_pos h]; rfl
/-- no slot -/
theorem E_textN (hR : Rel st G I) (a1 : Int32) (hsl : F_X9_slotOf n st (some 65) a1 a2 = some (-1)) (hm : ∀ s, RelN s (setQ G 0 (-1)) I → (∃ x, F_X11_isIn n s a1 (0 : Int32) (2 : Int32) = some x ∧ (x = 0 ∨ (x = 1 ∧ a2 = -1 ∧ ∃ v, aI s (some 107) a1 = some v ∧ ¬ v < 3) ∨ (x = 1 ∧ ¬ a2 = -1 ∧ F_X11_isOf n s (some 106) a1 a2 = some 0)))) : Chg (fun st => F_X10_text n st (some 64) a1 a2) (fun st => F_X11_text n st (some 106) a1 a2) st G I 3 248 := by
  have hS := hR.sh
  have hT := hR.tol
  have g8 : gI st (some 65) 9 8 = some (nI G.tl) := by rw [g65_8 hS, hT.2.2.2.2.2.2.2.2.1]
  obtain ⟨s1, s2, s3, p1, p2, p3, S1, S2, K3, f3, a3, b3⟩ := C_pre hR.cls
  refine ⟨-2, s3, _, I, ?_, K3, f3, by omega, by omega, by omega, fun st2 r2 => ?_⟩
  · dsimp only
    unfold F_X10_text
    simp only [↓bnd (g64_0 hS), ↓bnd (g8), ↓bnd (o65 hS), ↓bnd (hsl), ↓bnd (p1), ↓bnd (g64_0 S1), ↓bnd (p2), ↓bnd (g64_0 S2), ↓bnd (p3), if_true]
  · obtain ⟨m1, m2, m3, m4, e1, e2, e3, e4', T1, T2, T3, N4, o4, R4, w5, w6⟩ := M_pre r2
    have T := r2.1
    have T4 := N4.1
    have r4 : aI st2 (some 107) (4 : Int32) = some (nI G.tl) := by
      have : aI st2 (some 107) (4 : Int32) = some (cI st2 107 4) := aI107 T (by decide)
      rw [this, r2.mod.2.1]
    refine ⟨m4, ?_, N4, o4⟩
    dsimp only
    rw [tx_eq]
    obtain ⟨x, ii, h⟩ := hm m4 N4
    simp only [↓bnd (g106_0 T), ↓bnd (r4), ↓bnd (e1), ↓bnd (g106_0 T1), ↓bnd (e2), ↓bnd (g106_0 T2), ↓bnd (e3), ↓bnd (g106_0 T3), ↓bnd (e4'), ↓bnd (ii)]
    rcases h with h | ⟨h1, h2, v, h3, h4⟩ | ⟨h1, h2, h3⟩
    · rw [if_pos h]
    · rw [if_neg (by rw [h1]; decide), if_pos h2]
      simp only [↓bnd (g106_0 T4), ↓bnd (h3), eq_false h4, if_false]
    · rw [if_neg (by rw [h1]; decide), if_neg h2]
      simp only [↓bnd (o106 T4), ↓bnd (h3), if_true]
theorem E_text (hR : Rel st G I) (a1 a2 : Int32) (hn : 3000 ≤ n) : Chg (fun st => F_X10_text n st (some 64) a1 a2) (fun st => F_X11_text n st (some 106) a1 a2) st G I 3 248 := by
  have hI := hR.inv
  rcases nCut a1 3 with ⟨w, hw, rfl⟩ | hx
  · have c3 : G.cn w ≤ 3 := by
      rcases (show w = 0 ∨ w = 1 ∨ w = 2 by omega) with rfl | rfl | rfl
      · exact hI.1
      · exact hI.2.1
      · exact hI.2.2.1
    obtain ⟨x1, x2, x3⟩ := C_slot (n := n) (a2 := a2) hR hw
    have good : ∀ k, k < 3 → ((a2 = -1 ∧ k = G.cn w) ∨ (¬ a2 = -1 ∧ a2 = nI k ∧ k < G.cn w)) → F_X9_slotOf n st (some 65) (nI w) a2 = some (nI k) → Chg (fun st => F_X10_text n st (some 64) (nI w) a2) (fun st => F_X11_text n st (some 106) (nI w) a2) st G I 3 248 := by
      rcases (show w = 0 ∨ w = 1 ∨ w = 2 by omega) with rfl | rfl | rfl
      · exact fun k h1 h2 h3 => E_text0 hR h1 h2 h3 hn
      · exact fun k h1 h2 h3 => E_text1 hR h1 h2 h3 hn
      · exact fun k h1 h2 h3 => E_text2 hR h1 h2 h3 hn
    have ii : ∀ s, F_X11_isIn n s (nI w) (0 : Int32) (2 : Int32) = some 1 := fun s => M_in_t (j := w) (b := 2) (by omega) (by decide)
    by_cases h : a2 = -1
    · by_cases c : 3 ≤ G.cn w
      · refine E_textN hR _ (by rw [x1 h, if_pos c]) fun s r => ⟨1, ii s, Or.inr (Or.inl ⟨rfl, h, nI (G.cn w), ?_, ?_⟩)⟩
        · rw [aI107 r.1 (by omega)]
          exact congrArg some (r.mod.1 w (by omega))
        · rw [show (nI (G.cn w) < (3 : Int32)) = (G.cn w < 3) from nLt (b := 3) (by omega) (by decide)]
          omega
      · exact good (G.cn w) (by omega) (Or.inl ⟨h, rfl⟩) (by rw [x1 h, if_neg c])
    · rcases nCut a2 (G.cn w) with ⟨k, hk, e⟩ | hk
      · exact good k (by omega) (Or.inr ⟨h, e, hk⟩) (x2 k h e hk)
      · exact E_textN hR _ (x3 h hk) fun s r => ⟨1, ii s, Or.inr (Or.inr ⟨rfl, h, M_isOf_f r.1 r.mod hw (by show G.cn w < 1000; omega) hk⟩)⟩
  · refine E_textN hR _ ?_ fun s r => ⟨0, M_in_f (b := 2) hx (by decide), Or.inl rfl⟩
    unfold F_X9_slotOf
    rcases nOut (by decide) hx with h | h
    · rw [if_pos h]
    · by_cases h0 : a1 < 0
      · rw [if_pos h0]
      · have h3 : ¬ a1 ≤ (2 : Int32) := fun h4 => by
          have h5 : nI 3 ≤ nI 2 := Int32.le_trans h h4
          rw [nLe (by omega) (by omega)] at h5
          omega
        rw [if_neg h0, if_neg h3]
end L6

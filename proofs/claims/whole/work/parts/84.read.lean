/-! A TEXT IS READ: the class -/
theorem rdT_le {α : Type} {ck : α → Nat → (Nat → Nat) → Nat × Nat × α} (ho : CkO ck) {tp : Nat → Nat} {len so : Nat} : ∀ f p (D : α) k w, k ≤ 3 → (rdT ck tp len so f p D k w).2.1 ≤ 3 := by
  intro f
  induction f with
  | zero => exact fun p D k w hk => hk
  | succ f ih =>
    intro p D k w hk
    rw [rdT]
    by_cases c : kD tp len p = 0
    · rw [if_pos c]; exact hk
    · rw [if_neg c]
      cases synE tp len so p with
      | some e => exact (by decide : 1 ≤ 3)
      | none => exact ih _ _ _ _ (chkP_le ho hk)
def lg0 : LgD := (0, 0, fun _ => 0, fun _ => 0)
def lw0 : LwD := fun j => if j = 0 then 30 else if 21 ≤ j ∧ j < 26 then 1 else 0
def pl0 : PlX := ((0, fun _ _ => 0, fun _ => none, 0, 0), 0, 1, 0, none)
theorem lg0_I : LgI lg0 := ⟨by decide, by decide, fun _ => by show 0 ≤ 999; omega, fun _ => by show 0 ≤ 9999; omega, fun _ _ => rfl, fun _ _ => by show 0 ≤ 50; omega, fun _ _ => by show 0 < 10; omega, fun i hi => absurd hi (Nat.not_lt_zero i), fun _ _ => by show 0 ≤ 99; omega⟩
theorem lw0_I : LwI lw0 := by
  refine ⟨by decide, fun p hp => ?_, fun p hp => ?_, fun p h1 h2 => ?_⟩
  · unfold lw0; rw [if_neg (by omega), if_neg (by omega)]; omega
  · unfold lw0; rw [if_neg (by omega)]; split <;> omega
  · unfold lw0; rw [if_neg (by omega), if_pos (by omega)]; omega
theorem pl0_I : PlXI pl0 := by
  refine ⟨⟨by decide, fun g hg => absurd hg (Nat.not_lt_zero g), fun S => ⟨fun _ g hg => absurd hg (Nat.not_lt_zero g), fun _ => Nat.zero_le S⟩, fun S => ⟨fun _ g hg => absurd hg (Nat.not_lt_zero g), fun _ => Nat.zero_le S⟩, by decide, by decide⟩, by decide, by decide, by decide, fun x hx => by cases hx⟩
section RI
variable {st st1 st2 s s1 : xS} {n m0 k T tl : Nat} {G G1 : Gh} {I I1 : Im}
theorem Y_new {ci : Nat} {fs : List Value} (h : s.2.2 T = .inr (ci, fs)) (hT : T < 64 + s.1) {j sl : Nat} (hj : j < fs.length) (c : xC) : ∃ s', pF (xnew s sl c) (some T) ci j (va_rf (some (64 + s.1))) = some s' ∧ s'.1 = s.1 + 1 ∧ s'.2.1 = s.2.1 + sl ∧ s'.2.2 T = .inr (ci, fs.set j (.ref (64 + s.1))) ∧ s'.2.2 (64 + s.1) = c ∧ ∀ a, a < 64 + s.1 → a ≠ T → s'.2.2 a = s.2.2 a := by
  have e : (xnew s sl c).2.2 T = .inr (ci, fs) := by
    show (if T = 64 + s.1 then c else s.2.2 T) = _
    rw [if_neg (by omega), h]
  have p := pF_of e (v := va_rf (some (64 + s.1))) hj
  have u : uV (xnew s sl c) T j (va_rf (some (64 + s.1))) = xup (xnew s sl c) T (.inr (ci, fs.set j (.ref (64 + s.1)))) := by
    unfold uV
    rw [e]
    rfl
  rw [u] at p
  refine ⟨_, p, rfl, rfl, xup_s _ _ _, ?_, fun a ha hne => ?_⟩
  · rw [xup_n (by omega)]
    exact if_pos rfl
  · rw [xup_n hne]
    exact if_neg (by omega)
theorem Y_int {ci : Nat} {fs : List Value} (h : s.2.2 T = .inr (ci, fs)) {j : Nat} (hj : j < fs.length) (v : Int32) : ∃ s', pF s (some T) ci j (.int v) = some s' ∧ s'.1 = s.1 ∧ s'.2.1 = s.2.1 ∧ s'.2.2 T = .inr (ci, fs.set j (.int v)) ∧ ∀ a, a ≠ T → s'.2.2 a = s.2.2 a := by
  have p := pF_of h (v := .int v) hj
  have u : uV s T j (.int v) = xup s T (.inr (ci, fs.set j (.int v))) := by
    unfold uV
    rw [h]
  rw [u] at p
  exact ⟨_, p, rfl, rfl, xup_s _ _ _, fun a hne => xup_n hne _ _⟩
theorem sh_low (hS : Sh s) (h1 : s.1 ≤ s1.1) (h : ∀ a, a < 64 + s.1 → s1.2.2 a = s.2.2 a) : Sh s1 := hS.same h1 fun b hb => h b (by have := hS.1; omega)
theorem C_init4 (hS : Sh s) : ∃ s', F_X4_init n (xnew s 4 (.inr (4, [Value.null, Value.null, Value.int 0, Value.int 0]))) (some (64 + s.1)) = some s' ∧ s'.1 = s.1 + 3 ∧ s'.2.1 = s.2.1 + 164 ∧ Sh s' ∧ (∀ a, a < 64 + s.1 → s'.2.2 a = s.2.2 a) ∧ LgN s' (64 + s.1) lg0 := by
  generalize hs0 : xnew s 4 (.inr (4, [Value.null, Value.null, Value.int 0, Value.int 0])) = s0
  have a0 : s0.1 = s.1 + 1 := by rw [← hs0]; rfl
  have b0 : s0.2.1 = s.2.1 + 4 := by rw [← hs0]; rfl
  have c0 : s0.2.2 (64 + s.1) = .inr (4, [Value.null, Value.null, Value.int 0, Value.int 0]) := by rw [← hs0]; exact if_pos rfl
  have d0 : ∀ a, a < 64 + s.1 → s0.2.2 a = s.2.2 a := fun a ha => by rw [← hs0]; exact if_neg (by omega)
  clear hs0
  obtain ⟨s1, e1, a1, b1, c1, n1, o1⟩ := Y_new (s := s0) (T := 64 + s.1) (j := 0) (sl := 60) c0 (by omega) (by show 0 < 4; omega) (.inl (0, 60, .inl fun _ => 0))
  obtain ⟨s2, e2, a2, b2, c2, n2, o2⟩ := Y_new (s := s1) (T := 64 + s.1) (j := 1) (sl := 100) c1 (by omega) (by show 1 < 4; omega) (.inl (0, 100, .inl fun _ => 0))
  obtain ⟨s3, e3, a3, b3, c3, o3⟩ := Y_int (s := s2) (T := 64 + s.1) (j := 2) c2 (by show 2 < 4; omega) 0
  obtain ⟨s4, e4, a4, b4, c4, o4⟩ := Y_int (s := s3) (T := 64 + s.1) (j := 3) c3 (by show 3 < 4; omega) 0
  have low : ∀ a, a < 64 + s.1 → s4.2.2 a = s.2.2 a := fun a ha => by rw [o4 a (by omega), o3 a (by omega), o2 a (by omega) (by omega), o1 a (by omega) (by omega), d0 a ha]
  have ea : 64 + s0.1 = 64 + s.1 + 1 := by omega
  have eb : 64 + s1.1 = 64 + s.1 + 2 := by omega
  have x1 : s4.2.2 (64 + s.1 + 1) = .inl (0, 60, .inl fun _ => 0) := by rw [o4 _ (by omega), o3 _ (by omega), o2 _ (by omega) (by omega), ← ea, n1]
  have x2 : s4.2.2 (64 + s.1 + 2) = .inl (0, 100, .inl fun _ => 0) := by rw [o4 _ (by omega), o3 _ (by omega), ← eb, n2]
  refine ⟨s4, ?_, by omega, by omega, sh_low hS (by omega) low, low, ?_, _, _, x1, x2, fun _ _ => rfl, fun _ _ => rfl⟩
  · unfold F_X4_init F_X2_init
    simp only [Option.bind_some, ↓bnd (e1), ↓bnd (e2), ↓bnd (e3), ↓bnd (e4)]
  · rw [c4, ea, eb]
    rfl
theorem C_init6 (hS : Sh s) : ∃ s', F_X6_init n (xnew s 8 (.inr (6, [Value.null, Value.int 0, Value.int 0, Value.int 0, Value.int 0, Value.int 0, Value.int 0, Value.int 0]))) (some (64 + s.1)) = some s' ∧ s'.1 = s.1 + 2 ∧ s'.2.1 = s.2.1 + 248 ∧ Sh s' ∧ (∀ a, a < 64 + s.1 → s'.2.2 a = s.2.2 a) ∧ PlN s' (64 + s.1) pl0 := by
  generalize hs0 : xnew s 8 (.inr (6, [Value.null, Value.int 0, Value.int 0, Value.int 0, Value.int 0, Value.int 0, Value.int 0, Value.int 0])) = s0
  have a0 : s0.1 = s.1 + 1 := by rw [← hs0]; rfl
  have b0 : s0.2.1 = s.2.1 + 8 := by rw [← hs0]; rfl
  have c0 : s0.2.2 (64 + s.1) = .inr (6, [Value.null, Value.int 0, Value.int 0, Value.int 0, Value.int 0, Value.int 0, Value.int 0, Value.int 0]) := by rw [← hs0]; exact if_pos rfl
  have d0 : ∀ a, a < 64 + s.1 → s0.2.2 a = s.2.2 a := fun a ha => by rw [← hs0]; exact if_neg (by omega)
  clear hs0
  obtain ⟨s1, e1, a1, b1, c1, n1, o1⟩ := Y_new (s := s0) (T := 64 + s.1) (j := 0) (sl := 240) c0 (by omega) (by show 0 < 8; omega) (.inl (0, 240, .inl fun _ => 0))
  obtain ⟨s2, e2, a2, b2, c2, o2⟩ := Y_int (s := s1) (T := 64 + s.1) (j := 1) c1 (by show 1 < 8; omega) 0
  obtain ⟨s3, e3, a3, b3, c3, o3⟩ := Y_int (s := s2) (T := 64 + s.1) (j := 2) c2 (by show 2 < 8; omega) (-1)
  obtain ⟨s4, e4, a4, b4, c4, o4⟩ := Y_int (s := s3) (T := 64 + s.1) (j := 3) c3 (by show 3 < 8; omega) (-1)
  obtain ⟨s5, e5, a5, b5, c5, o5⟩ := Y_int (s := s4) (T := 64 + s.1) (j := 4) c4 (by show 4 < 8; omega) 0
  obtain ⟨s6, e6, a6, b6, c6, o6⟩ := Y_int (s := s5) (T := 64 + s.1) (j := 5) c5 (by show 5 < 8; omega) 1
  obtain ⟨s7, e7, a7, b7, c7, o7⟩ := Y_int (s := s6) (T := 64 + s.1) (j := 6) c6 (by show 6 < 8; omega) 0
  obtain ⟨s8, e8, a8, b8, c8, o8⟩ := Y_int (s := s7) (T := 64 + s.1) (j := 7) c7 (by show 7 < 8; omega) (-1)
  have low : ∀ a, a < 64 + s.1 → s8.2.2 a = s.2.2 a := fun a ha => by rw [o8 a (by omega), o7 a (by omega), o6 a (by omega), o5 a (by omega), o4 a (by omega), o3 a (by omega), o2 a (by omega), o1 a (by omega) (by omega), d0 a ha]
  have ea : 64 + s0.1 = 64 + s.1 + 1 := by omega
  have x1 : s8.2.2 (64 + s.1 + 1) = .inl (0, 240, .inl fun _ => 0) := by rw [o8 _ (by omega), o7 _ (by omega), o6 _ (by omega), o5 _ (by omega), o4 _ (by omega), o3 _ (by omega), o2 _ (by omega), ← ea, n1]
  refine ⟨s8, ?_, by omega, by omega, sh_low hS (by omega) low, low, ?_, _, x1, fun g w hg _ => absurd hg (Nat.not_lt_zero g), fun g hg => absurd hg (Nat.not_lt_zero g)⟩
  · unfold F_X6_init F_X2_init
    simp only [Option.bind_some, ↓bnd (e1), ↓bnd (e2), ↓bnd (e3), ↓bnd (e4), ↓bnd (e5), ↓bnd (e6), ↓bnd (e7), ↓bnd (e8)]
  · rw [c8, ea]
    rfl
theorem C_init3 (hS : Sh s) (hn : 3000 ≤ n) : ∃ s', F_X3_init n (xnew s 1 (.inr (3, [Value.null]))) (some (64 + s.1)) = some s' ∧ s'.1 = s.1 + 2 ∧ s'.2.1 = s.2.1 + 27 ∧ Sh s' ∧ (∀ a, a < 64 + s.1 → s'.2.2 a = s.2.2 a) ∧ LwN s' (64 + s.1) lw0 := by
  generalize hs0 : xnew s 1 (.inr (3, [Value.null])) = s0
  have a0 : s0.1 = s.1 + 1 := by rw [← hs0]; rfl
  have b0 : s0.2.1 = s.2.1 + 1 := by rw [← hs0]; rfl
  have c0 : s0.2.2 (64 + s.1) = .inr (3, [Value.null]) := by rw [← hs0]; exact if_pos rfl
  have d0 : ∀ a, a < 64 + s.1 → s0.2.2 a = s.2.2 a := fun a ha => by rw [← hs0]; exact if_neg (by omega)
  clear hs0
  obtain ⟨s1, e1, a1, b1, c1, n1, o1⟩ := Y_new (s := s0) (T := 64 + s.1) (j := 0) (sl := 26) c0 (by omega) (by decide) (.inl (0, 26, .inl fun _ => 0))
  have ea : 64 + s0.1 = 64 + s.1 + 1 := by omega
  rw [ea] at n1 c1
  have c1 : s1.2.2 (64 + s.1) = .inr (3, [.ref (64 + s.1 + 1)]) := c1
  have g0 : gR s1 (some (64 + s.1)) 3 0 = some (some (64 + s.1 + 1)) := gR_of c1 rfl
  have w0 : sS 0 s1 (some (64 + s.1 + 1)) (0 : Int32) (30 : Int32) = some (wA s1 (64 + s.1 + 1) (upd (fun _ => 0) 0 30)) := by rw [sS_of n1, if_pos (show ix (0 : Int32) 26 = true by decide)]; rfl
  have q1 := wA_c n1 (upd (fun _ => (0 : Int32)) 0 30)
  have r1 : ∀ a, a ≠ 64 + s.1 + 1 → (wA s1 (64 + s.1 + 1) (upd (fun _ => 0) 0 30)).2.2 a = s1.2.2 a := fun a ha => wA_n ha _ _
  have z1 := (wA_1 s1 (64 + s.1 + 1) (upd (fun _ => (0 : Int32)) 0 30)).1
  have z2 := (wA_1 s1 (64 + s.1 + 1) (upd (fun _ => (0 : Int32)) 0 30)).2
  generalize wA s1 (64 + s.1 + 1) (upd (fun _ => 0) 0 30) = s2 at *
  have hl : ∃ s', F_X3_init_L22 n n s2 (some (64 + s.1)) (nI (0 + 1)) = some s' ∧ s'.1 = s2.1 ∧ s'.2.1 = s2.2.1 ∧ (∀ a, a ≠ 64 + s.1 + 1 → s'.2.2 a = s2.2.2 a) ∧ ∃ f : Nat → Int32, s'.2.2 (64 + s.1 + 1) = .inl (0, 26, .inl f) ∧ ∀ j, j < 26 → f j = nI (if j = 0 then 30 else if 21 ≤ j ∧ j < 21 + 5 then 1 else 0) := by
    refine loop_ex (fun m (s' : xS × Int32) => F_X3_init_L22 n m s'.1 (some (64 + s.1)) s'.2) (fun i s' => s'.1.1 = s2.1 ∧ s'.1.2.1 = s2.2.1 ∧ (∀ a, a ≠ 64 + s.1 + 1 → s'.1.2.2 a = s2.2.2 a) ∧ (∃ f : Nat → Int32, s'.1.2.2 (64 + s.1 + 1) = .inl (0, 26, .inl f) ∧ ∀ j, j < 26 → f j = nI (if j = 0 then 30 else if 21 ≤ j ∧ j < 21 + i then 1 else 0)) ∧ s'.2 = nI (i + 1)) 5 (fun r => ∃ s', r = some s' ∧ s'.1 = s2.1 ∧ s'.2.1 = s2.2.1 ∧ (∀ a, a ≠ 64 + s.1 + 1 → s'.2.2 a = s2.2.2 a) ∧ ∃ f : Nat → Int32, s'.2.2 (64 + s.1 + 1) = .inl (0, 26, .inl f) ∧ ∀ j, j < 26 → f j = nI (if j = 0 then 30 else if 21 ≤ j ∧ j < 21 + 5 then 1 else 0)) ?_ ?_ n (by omega) (s2, nI (0 + 1)) ⟨rfl, rfl, fun _ _ => rfl, ⟨_, q1, fun j hj => ?_⟩, rfl⟩
    · rintro m i ⟨s', z⟩ hi ⟨h1, h2, h3, ⟨f, h4, h5⟩, h6⟩
      dsimp only at h1 h2 h3 h4 h5 h6 ⊢
      subst h6
      have g0' : gR s' (some (64 + s.1)) 3 0 = some (some (64 + s.1 + 1)) := gR_of ((h3 _ (by omega)).trans ((r1 _ (by omega)).trans c1)) rfl
      have l6 : ((6 : Int32) ≤ nI (i + 1)) = (6 ≤ i + 1) := nLe (a := 6) (by decide) (by omega)
      have ix : (20 : Int32) + nI (i + 1) = nI (20 + (i + 1)) := nAdd 20 _
      have w : sS 0 s' (some (64 + s.1 + 1)) (nI (20 + (i + 1))) (1 : Int32) = some (wA s' (64 + s.1 + 1) (upd f (20 + (i + 1)) 1)) := by rw [sS_of h4, if_pos (ixT (by omega) (by decide)), nIc (by omega)]
      refine ⟨(wA s' (64 + s.1 + 1) (upd f (20 + (i + 1)) 1), nI (i + 1 + 1)), ⟨(wA_1 _ _ _).1.trans h1, (wA_1 _ _ _).2.trans h2, fun a ha => (wA_n ha _ _).trans (h3 a ha), ⟨_, wA_c h4 _, fun j hj => ?_⟩, rfl⟩, ?_⟩
      · by_cases c : j = 20 + (i + 1)
        · rw [c, upd_s, if_neg (by omega), if_pos (by omega)]; rfl
        · rw [pk_un c, h5 j hj]
          by_cases j0 : j = 0
          · rw [if_pos j0, if_pos j0]
          · rw [if_neg j0, if_neg j0]
            by_cases j1 : 21 ≤ j ∧ j < 21 + i
            · rw [if_pos j1, if_pos (by omega)]
            · rw [if_neg j1, if_neg (by omega)]
      · dsimp only
        rw [F_X3_init_L22]
        dsimp only
        simp only [l6, eq_false (show ¬ 6 ≤ i + 1 by omega), if_false, ↓bnd (g0'), ix, ↓bnd (w), nI_1, Option.bind_some]
    · rintro m ⟨s', z⟩ ⟨h1, h2, h3, h4, h6⟩
      dsimp only at h1 h2 h3 h4 h6 ⊢
      subst h6
      refine ⟨s', ?_, h1, h2, h3, h4⟩
      rw [F_X3_init_L22]
      dsimp only
      exact if_pos (by decide)
    · by_cases j0 : j = 0
      · rw [j0, upd_s]; rfl
      · rw [pk_un j0, if_neg j0, if_neg (by omega)]; rfl
  obtain ⟨s3, e3, a3, b3, o3, f, x1, x2⟩ := hl
  have e3 : F_X3_init_L22 n n s2 (some (64 + s.1)) (1 : Int32) = some s3 := e3
  have low : ∀ a, a < 64 + s.1 → s3.2.2 a = s.2.2 a := fun a ha => by rw [o3 a (by omega), r1 a (by omega), o1 a (by omega) (by omega), d0 a ha]
  refine ⟨s3, ?_, by omega, by omega, sh_low hS (by omega) low, low, ?_, f, x1, x2⟩
  · unfold F_X3_init F_X2_init
    simp only [Option.bind_some, ea, ↓bnd (e1)]
    rw [ea] at e1
    simp only [Option.bind_some, ↓bnd (e1), ↓bnd (g0), ↓bnd (w0), ↓bnd (e3)]
  · rw [o3 _ (by omega), r1 _ (by omega), c1]
theorem C_read {α : Type} {KN : xS → α → Prop} {Iv : α → Prop} {ck : α → Nat → (Nat → Nat) → Nat × Nat × α} {so len : Nat} {tp : Nat → Nat} {D : α} (hc : CkH n so m0 KN Iv ck) (ho : CkO ck) (h116 : 116 ≤ m0) (hs : so < 3) (hn : 3000 ≤ n) (S : Sh s) (hl : len ≤ 500) (hb : ∀ i, tp i < 256) (ht : ∀ i, i < 500 → cI s 73 i &&& 255 = nI (tp i)) (hK : KN s D) (hI : Iv D) :
    ∃ s', F_X7_read n s (some 75) (some 73) (nI len) (nI so) (some m0) = some s' ∧ XF m0 s s' ∧ fI s' 75 8 = nI (rdT ck tp len so (len + 1) 0 D 0 (-1)).2.1 ∧ fI s' 75 9 = (rdT ck tp len so (len + 1) 0 D 0 (-1)).2.2 ∧ ((rdT ck tp len so (len + 1) 0 D 0 (-1)).2.1 ≠ 1 → KN s' (rdT ck tp len so (len + 1) 0 D 0 (-1)).1 ∧ Iv (rdT ck tp len so (len + 1) 0 D 0 (-1)).1) := by
  have p0 := p75_0 S (some 73)
  have S0 := s75_0 S (some 73)
  have f0 := f75_0 S (some 73)
  have o0 : Only (fun a => a = 75) s (uV s 75 0 (va_rf (some 73))) := Only.uV S0
  generalize uV s 75 0 (va_rf (some 73)) = s0 at *
  have im : imin (nI len) (nI 500) = nI len := by
    unfold imin
    rw [if_neg (Int32.not_lt.mpr (nI_le hl (by decide)))]
  have p1 := p75_1 S0 (nI len)
  have S1 := s75_1 S0 (nI len)
  have f1 := f75_1 S0 (nI len)
  have o1 : Only (fun a => a = 75) s0 (uV s0 75 1 (.int (nI len))) := Only.uV S1
  have r1 : fR (uV s0 75 1 (.int (nI len))) 75 0 = fR s0 75 0 := fR_oth (by decide) _
  generalize uV s0 75 1 (.int (nI len)) = s1 at *
  have p2 := p75_2 S1 0
  have S2 := s75_2 S1 0
  have f2 := f75_2 S1 0
  have o2 : Only (fun a => a = 75) s1 (uV s1 75 2 (.int 0)) := Only.uV S2
  have r2 : fR (uV s1 75 2 (.int 0)) 75 0 = fR s1 75 0 := fR_oth (by decide) _
  have i2 : fI (uV s1 75 2 (.int 0)) 75 1 = fI s1 75 1 := fI_oth (by decide) _
  generalize uV s1 75 2 (.int 0) = s2 at *
  have p3 := p75_8 S2 0
  have S3 := s75_8 S2 0
  have f3 := f75_8 S2 0
  have o3 : Only (fun a => a = 75) s2 (uV s2 75 8 (.int 0)) := Only.uV S3
  have r3 : fR (uV s2 75 8 (.int 0)) 75 0 = fR s2 75 0 := fR_oth (by decide) _
  have i3 : fI (uV s2 75 8 (.int 0)) 75 1 = fI s2 75 1 := fI_oth (by decide) _
  have j3 : fI (uV s2 75 8 (.int 0)) 75 2 = fI s2 75 2 := fI_oth (by decide) _
  generalize uV s2 75 8 (.int 0) = s3 at *
  have p4 := p75_9 S3 (-1)
  have S4 := s75_9 S3 (-1)
  have f4 := f75_9 S3 (-1)
  have o4 : Only (fun a => a = 75) s3 (uV s3 75 9 (.int (-1))) := Only.uV S4
  have r4 : fR (uV s3 75 9 (.int (-1))) 75 0 = fR s3 75 0 := fR_oth (by decide) _
  have i4 : fI (uV s3 75 9 (.int (-1))) 75 1 = fI s3 75 1 := fI_oth (by decide) _
  have j4 : fI (uV s3 75 9 (.int (-1))) 75 2 = fI s3 75 2 := fI_oth (by decide) _
  have k4 : fI (uV s3 75 9 (.int (-1))) 75 8 = fI s3 75 8 := fI_oth (by decide) _
  generalize uV s3 75 9 (.int (-1)) = s4 at *
  have o := (((o0.trans o1).trans o2).trans o3).trans o4
  have B : RB s4 tp len := ⟨S4, ((r4.trans r3).trans (r2.trans r1)).trans f0, (i4.trans i3).trans (i2.trans f1), hl, hb, by rw [cI_o o (by decide)]; exact ht⟩
  obtain ⟨s5, e5, x5, y8, y9, yk⟩ := C_lines (n := n) hc ho h116 hs hn (len + 1) 0 D 0 (-1) s4 _ _ _ 0 (by omega) (Nat.le_refl 0) (Nat.zero_le _) B ⟨(j4.trans j3).trans f2, rfl, rfl, rfl⟩ (hc.1 s s4 D (fun a ha => o.2.2.2 a (by omega)) hK) hI (k4.trans f3) (by decide) f4 n (by omega)
  refine ⟨s5, ?_, (xf_fail h116 o).trans x5, y8, y9, yk⟩
  have e5 : F_X7_read_L33 n n s4 (some 75) (nI so) (some m0) (0 : Int32) = some s5 := e5
  unfold F_X7_read
  simp only [↓bnd (p0), ↓bnd (n73 S0), im, ↓bnd (p1), ↓bnd (p2), ↓bnd (p3), ↓bnd (p4), e5]
theorem C_into0 (h : RelK s G I) (hk : k ≤ G.cn 0) (h3 : k < 3) (hl : tl ≤ 500) (hn : 3000 ≤ n) : ∃ s', F_X10_readInto n s (some 64) (nI 0) (nI k) (nI tl) = some s' ∧ s.1 ≤ s'.1 ∧ s'.1 ≤ s.1 + 3 ∧ s'.2.1 ≤ s.2.1 + 248 ∧ KF s s' ∧ fI s' 75 8 = nI (rdT lgCk G.tp tl 0 (tl + 1) 0 lg0 0 (-1)).2.1 ∧ fI s' 75 9 = (rdT lgCk G.tp tl 0 (tl + 1) 0 lg0 0 (-1)).2.2 ∧ (rdT lgCk G.tp tl 0 (tl + 1) 0 lg0 0 (-1)).2.1 ≤ 3 ∧ RelK s' (if (rdT lgCk G.tp tl 0 (tl + 1) 0 lg0 0 (-1)).2.1 = 0 then setL G k (rdT lgCk G.tp tl 0 (tl + 1) 0 lg0 0 (-1)).1 else G) I := by
  have S := h.1
  have h52 := S.1
  obtain ⟨s4, e4, a4, b4, S4, low, K4⟩ := C_init4 (n := n) S
  have T := h.2.2.2.2.1
  have tb : ∀ i, i < 500 → cI s4 73 i &&& 255 = nI (G.tp i) := fun i hi => by rw [cI_c (low 73 (by omega))]; exact (T.2.2.2.2.2.2.2.1 i hi).1
  obtain ⟨s5, e5, x5, y8, y9, yk⟩ := C_read (n := n) (tp := G.tp) (len := tl) (CkH_lg (m0 := 64 + s.1) (by omega) hn) lgCk_le (by omega) (by decide) hn S4 hl h.2.1.2.2.2.2.2.2.1 tb K4 lg0_I
  have S5 := x5.2.2.1
  have low5 : ∀ a, a < 64 + s.1 → ¬ (a = 75 ∨ a = 77 ∨ a = 78) → s5.2.2 a = s.2.2 a := fun a h1 h2 => (x5.2.2.2 a h1 h2).trans (low a h1)
  have a5 := x5.1
  have b5 := x5.2.1
  have K5 : RelK s5 G I := h.gx (by omega) S5 low5
  have F5 : KF s s5 := fun a h1 h2 => low5 a (by omega) (by omega)
  have r3 := rdT_le (ck := lgCk) lgCk_le (tp := G.tp) (len := tl) (so := 0) (tl + 1) 0 lg0 0 (-1) (by decide)
  generalize (rdT lgCk G.tp tl 0 (tl + 1) 0 lg0 0 (-1)) = R at *
  have g8 : gI s5 (some 75) 7 8 = some (nI R.2.1) := by rw [g75_8 S5, y8]
  have q0 : (nI R.2.1 = (0 : Int32)) = (R.2.1 = 0) := nEq (b := 0) (by omega) (by decide)
  by_cases c : R.2.1 = 0
  · rw [if_pos c]
    have LR : LgR s5 (64 + s.1) R.1 := by
      obtain ⟨c0, f, g, c1, c2, h1, h2⟩ := (yk (by omega)).1
      have hd := s.1
      exact ⟨_, _, f, g, c0, c1, c2, h1, h2, ⟨by omega, by omega⟩, ⟨by omega, by omega⟩, ⟨by omega, by omega⟩⟩
    obtain ⟨s6, e6, b6, t6⟩ := C_putL (n := n) S5 K5.2.2.2.2.1 K5.2.1 hk h3 ((yk (by omega)).1).1 fun s' b => LR.bf b
    have b75 : s6.2.2 75 = s5.2.2 75 := b6.2.2.2.2.2 75 fun i hi => by omega
    refine ⟨s6, ?_, by have := b6.1; omega, by have := b6.1; omega, by have := b6.2.1; omega, F5.trans (b6.kf (Or.inl rfl)), (fI_c b75 8).trans y8, (fI_c b75 9).trans y9, r3, K5.bf b6 (setL_I K5.2.1 ((yk (by omega)).2) hk h3) t6⟩
    unfold F_X10_readInto
    rw [if_pos (show nI 0 = (0 : Int32) from rfl)]
    simp only [Option.bind_some, ↓bnd (e4), ↓bnd (g64_2 S4), ↓bnd (g64_0 S4), ↓bnd (g65_7 S4), ↓bnd (o75 S4), ↓bnd (e5), ↓bnd (g64_2 S5), ↓bnd (g8), q0, eq_true c, if_true, ↓bnd (g64_0 S5), ↓bnd (o65 S5), ↓bnd (e6)]
  · rw [if_neg c]
    refine ⟨s5, ?_, by omega, by omega, by omega, F5, y8, y9, r3, K5⟩
    unfold F_X10_readInto
    rw [if_pos (show nI 0 = (0 : Int32) from rfl)]
    simp only [Option.bind_some, ↓bnd (e4), ↓bnd (g64_2 S4), ↓bnd (g64_0 S4), ↓bnd (g65_7 S4), ↓bnd (o75 S4), ↓bnd (e5), ↓bnd (g64_2 S5), ↓bnd (g8), q0, eq_false c, if_false]
theorem C_into1 (h : RelK s G I) (hk : k ≤ G.cn 1) (h3 : k < 3) (hl : tl ≤ 500) (hn : 3000 ≤ n) : ∃ s', F_X10_readInto n s (some 64) (nI 1) (nI k) (nI tl) = some s' ∧ s.1 ≤ s'.1 ∧ s'.1 ≤ s.1 + 3 ∧ s'.2.1 ≤ s.2.1 + 248 ∧ KF s s' ∧ fI s' 75 8 = nI (rdT lwCk G.tp tl 1 (tl + 1) 0 lw0 0 (-1)).2.1 ∧ fI s' 75 9 = (rdT lwCk G.tp tl 1 (tl + 1) 0 lw0 0 (-1)).2.2 ∧ (rdT lwCk G.tp tl 1 (tl + 1) 0 lw0 0 (-1)).2.1 ≤ 3 ∧ RelK s' (if (rdT lwCk G.tp tl 1 (tl + 1) 0 lw0 0 (-1)).2.1 = 0 then setW G k (rdT lwCk G.tp tl 1 (tl + 1) 0 lw0 0 (-1)).1 else G) I := by
  have S := h.1
  have h52 := S.1
  obtain ⟨s4, e4, a4, b4, S4, low, K4⟩ := C_init3 (n := n) S hn
  have T := h.2.2.2.2.1
  have tb : ∀ i, i < 500 → cI s4 73 i &&& 255 = nI (G.tp i) := fun i hi => by rw [cI_c (low 73 (by omega))]; exact (T.2.2.2.2.2.2.2.1 i hi).1
  obtain ⟨s5, e5, x5, y8, y9, yk⟩ := C_read (n := n) (tp := G.tp) (len := tl) (CkH_lw (m0 := 64 + s.1) (by omega) hn) lwCk_le (by omega) (by decide) hn S4 hl h.2.1.2.2.2.2.2.2.1 tb K4 lw0_I
  have S5 := x5.2.2.1
  have low5 : ∀ a, a < 64 + s.1 → ¬ (a = 75 ∨ a = 77 ∨ a = 78) → s5.2.2 a = s.2.2 a := fun a h1 h2 => (x5.2.2.2 a h1 h2).trans (low a h1)
  have a5 := x5.1
  have b5 := x5.2.1
  have K5 : RelK s5 G I := h.gx (by omega) S5 low5
  have F5 : KF s s5 := fun a h1 h2 => low5 a (by omega) (by omega)
  have r3 := rdT_le (ck := lwCk) lwCk_le (tp := G.tp) (len := tl) (so := 1) (tl + 1) 0 lw0 0 (-1) (by decide)
  generalize (rdT lwCk G.tp tl 1 (tl + 1) 0 lw0 0 (-1)) = R at *
  have g8 : gI s5 (some 75) 7 8 = some (nI R.2.1) := by rw [g75_8 S5, y8]
  have q0 : (nI R.2.1 = (0 : Int32)) = (R.2.1 = 0) := nEq (b := 0) (by omega) (by decide)
  by_cases c : R.2.1 = 0
  · rw [if_pos c]
    have LR : LwR s5 (64 + s.1) R.1 := by
      obtain ⟨c0, f, c1, h1⟩ := (yk (by omega)).1
      exact ⟨_, f, c0, c1, fun i hi => h1 i (by omega), ⟨by omega, by omega⟩, ⟨by omega, by omega⟩⟩
    obtain ⟨s6, e6, b6, t6⟩ := C_putW (n := n) S5 K5.2.2.2.2.1 K5.2.1 hk h3 ((yk (by omega)).1).1 fun s' b => LR.bf b
    have b75 : s6.2.2 75 = s5.2.2 75 := b6.2.2.2.2.2 75 fun i hi => by omega
    refine ⟨s6, ?_, by have := b6.1; omega, by have := b6.1; omega, by have := b6.2.1; omega, F5.trans (b6.kf (Or.inl rfl)), (fI_c b75 8).trans y8, (fI_c b75 9).trans y9, r3, K5.bf b6 (setW_I K5.2.1 ((yk (by omega)).2) hk h3) t6⟩
    unfold F_X10_readInto
    rw [if_neg (show ¬ nI 1 = (0 : Int32) by decide), if_pos (show nI 1 = (1 : Int32) from rfl)]
    simp only [Option.bind_some, ↓bnd (e4), ↓bnd (g64_2 S4), ↓bnd (g64_0 S4), ↓bnd (g65_7 S4), ↓bnd (o75 S4), ↓bnd (e5), ↓bnd (g64_2 S5), ↓bnd (g8), q0, eq_true c, if_true, ↓bnd (g64_0 S5), ↓bnd (o65 S5), ↓bnd (e6)]
  · rw [if_neg c]
    refine ⟨s5, ?_, by omega, by omega, by omega, F5, y8, y9, r3, K5⟩
    unfold F_X10_readInto
    rw [if_neg (show ¬ nI 1 = (0 : Int32) by decide), if_pos (show nI 1 = (1 : Int32) from rfl)]
    simp only [Option.bind_some, ↓bnd (e4), ↓bnd (g64_2 S4), ↓bnd (g64_0 S4), ↓bnd (g65_7 S4), ↓bnd (o75 S4), ↓bnd (e5), ↓bnd (g64_2 S5), ↓bnd (g8), q0, eq_false c, if_false]
theorem C_into2 (h : RelK s G I) (hk : k ≤ G.cn 2) (h3 : k < 3) (hl : tl ≤ 500) (hn : 3000 ≤ n) : ∃ s', F_X10_readInto n s (some 64) (nI 2) (nI k) (nI tl) = some s' ∧ s.1 ≤ s'.1 ∧ s'.1 ≤ s.1 + 3 ∧ s'.2.1 ≤ s.2.1 + 248 ∧ KF s s' ∧ fI s' 75 8 = nI (rdT plCk G.tp tl 2 (tl + 1) 0 pl0 0 (-1)).2.1 ∧ fI s' 75 9 = (rdT plCk G.tp tl 2 (tl + 1) 0 pl0 0 (-1)).2.2 ∧ (rdT plCk G.tp tl 2 (tl + 1) 0 pl0 0 (-1)).2.1 ≤ 3 ∧ RelK s' (if (rdT plCk G.tp tl 2 (tl + 1) 0 pl0 0 (-1)).2.1 = 0 then setP G k (rdT plCk G.tp tl 2 (tl + 1) 0 pl0 0 (-1)).1.d else G) I := by
  have S := h.1
  have h52 := S.1
  obtain ⟨s4, e4, a4, b4, S4, low, K4⟩ := C_init6 (n := n) S
  have T := h.2.2.2.2.1
  have tb : ∀ i, i < 500 → cI s4 73 i &&& 255 = nI (G.tp i) := fun i hi => by rw [cI_c (low 73 (by omega))]; exact (T.2.2.2.2.2.2.2.1 i hi).1
  obtain ⟨s5, e5, x5, y8, y9, yk⟩ := C_read (n := n) (tp := G.tp) (len := tl) (CkH_pl (m0 := 64 + s.1) (by omega) hn) plCk_le (by omega) (by decide) hn S4 hl h.2.1.2.2.2.2.2.2.1 tb K4 pl0_I
  have S5 := x5.2.2.1
  have low5 : ∀ a, a < 64 + s.1 → ¬ (a = 75 ∨ a = 77 ∨ a = 78) → s5.2.2 a = s.2.2 a := fun a h1 h2 => (x5.2.2.2 a h1 h2).trans (low a h1)
  have a5 := x5.1
  have b5 := x5.2.1
  have K5 : RelK s5 G I := h.gx (by omega) S5 low5
  have F5 : KF s s5 := fun a h1 h2 => low5 a (by omega) (by omega)
  have r3 := rdT_le (ck := plCk) plCk_le (tp := G.tp) (len := tl) (so := 2) (tl + 1) 0 pl0 0 (-1) (by decide)
  generalize (rdT plCk G.tp tl 2 (tl + 1) 0 pl0 0 (-1)) = R at *
  have g8 : gI s5 (some 75) 7 8 = some (nI R.2.1) := by rw [g75_8 S5, y8]
  have q0 : (nI R.2.1 = (0 : Int32)) = (R.2.1 = 0) := nEq (b := 0) (by omega) (by decide)
  by_cases c : R.2.1 = 0
  · rw [if_pos c]
    have LR : PlR s5 (64 + s.1) R.1.d := by
      obtain ⟨c0, f, c1, h1, h2⟩ := (yk (by omega)).1
      exact ⟨_, f, _, _, _, _, c0, c1, h1, h2, ⟨by omega, by omega⟩, ⟨by omega, by omega⟩⟩
    obtain ⟨s6, e6, b6, t6⟩ := C_putP (n := n) S5 K5.2.2.2.2.1 K5.2.1 hk h3 ((yk (by omega)).1).1 fun s' b => LR.bf b
    have b75 : s6.2.2 75 = s5.2.2 75 := b6.2.2.2.2.2 75 fun i hi => by omega
    refine ⟨s6, ?_, by have := b6.1; omega, by have := b6.1; omega, by have := b6.2.1; omega, F5.trans (b6.kf (Or.inl rfl)), (fI_c b75 8).trans y8, (fI_c b75 9).trans y9, r3, K5.bf b6 (setP_I K5.2.1 ((yk (by omega)).2.1) hk h3) t6⟩
    unfold F_X10_readInto
    rw [if_neg (show ¬ nI 2 = (0 : Int32) by decide), if_neg (show ¬ nI 2 = (1 : Int32) by decide)]
    simp only [Option.bind_some, ↓bnd (e4), ↓bnd (g64_2 S4), ↓bnd (g64_0 S4), ↓bnd (g65_7 S4), ↓bnd (o75 S4), ↓bnd (e5), ↓bnd (g64_2 S5), ↓bnd (g8), q0, eq_true c, if_true, ↓bnd (g64_0 S5), ↓bnd (o65 S5), ↓bnd (e6)]
  · rw [if_neg c]
    refine ⟨s5, ?_, by omega, by omega, by omega, F5, y8, y9, r3, K5⟩
    unfold F_X10_readInto
    rw [if_neg (show ¬ nI 2 = (0 : Int32) by decide), if_neg (show ¬ nI 2 = (1 : Int32) by decide)]
    simp only [Option.bind_some, ↓bnd (e4), ↓bnd (g64_2 S4), ↓bnd (g64_0 S4), ↓bnd (g65_7 S4), ↓bnd (o75 S4), ↓bnd (e5), ↓bnd (g64_2 S5), ↓bnd (g8), q0, eq_false c, if_false]
end RI

/-! A LINE'S NUMBERS: the class -/
/-- where the j-th number of a line would begin to be read -/
def npn (tp : Nat → Nat) (len p : Nat) : Nat → Nat
  | 0 => p
  | j + 1 => nX tp len (npn tp len p j)
theorem npn_le {tp : Nat → Nat} {len p : Nat} (hp : p ≤ len) (j : Nat) : p ≤ npn tp len p j ∧ npn tp len p j ≤ len := by
  induction j with
  | zero => exact ⟨Nat.le_refl _, hp⟩
  | succ j ih =>
    have a := nX_le (tp := tp) ih.2
    have b := qB_le (tp := tp) ih.2
    exact ⟨by show p ≤ nX tp len (npn tp len p j); omega, a.2.1⟩
section LN
variable {st st1 st2 s s1 : xS} {n len p i m : Nat} {tp : Nat → Nat} {kn : Option Nat} {fi fo : Int32}
def RF (st st' : xS) : Prop := Only (fun a => a = 75 ∨ a = 77 ∨ a = 78) st st' ∧ fR st' 75 0 = fR st 75 0 ∧ fI st' 75 1 = fI st 75 1 ∧ fI st' 75 8 = fI st 75 8 ∧ fI st' 75 9 = fI st 75 9
theorem SF.rf (h : SF st st1) : RF st st1 := ⟨h.1.mono fun a h => Or.inl h, h.2⟩
theorem RF.refl (h : Sh st) : RF st st := (SF.refl h).rf
theorem RF.trans (h : RF st st1) (k : RF st1 st2) : RF st st2 := ⟨h.1.trans k.1, k.2.1.trans h.2.1, k.2.2.1.trans h.2.2.1, k.2.2.2.1.trans h.2.2.2.1, k.2.2.2.2.trans h.2.2.2.2⟩
theorem RB.rf (h : RB st tp len) (k : RF st st1) : RB st1 tp len := by
  obtain ⟨h1, h2, h3, h4, h5, h6⟩ := h
  exact ⟨k.1.2.2.1, k.2.1.trans h2, k.2.2.1.trans h3, h4, h5, by rw [cI_o k.1 (by decide)]; exact h6⟩
theorem RF_77 (hS : Sh s) {x : Nat} (hx : x = 77 ∨ x = 78) (f : Nat → Int32) : RF s (wA s x f) ∧ (∀ {a b c d : Int32}, RT s a b c d → RT (wA s x f) a b c d) := by
  have e : ∀ k, fI (wA s x f) 75 k = fI s 75 k := fun k => fI_c (wA_n (by omega) _ _) k
  have er : fR (wA s x f) 75 0 = fR s 75 0 := fR_c (wA_n (by omega) _ _) 0
  refine ⟨⟨(Only.wA hS x f).mono fun a h => by omega, er, e 1, e 8, e 9⟩, fun h => ⟨(e 2).trans h.1, (e 3).trans h.2.1, (e 4).trans h.2.2.1, (e 5).trans h.2.2.2⟩⟩
/-- after i of the three -/
def AT (st0 s : xS) (tp : Nat → Nat) (len p m i : Nat) : Prop := RF st0 s ∧ (∃ b c d, RT s (nI (npn tp len p (min i m))) b c d) ∧ (∀ j, j < i → cI s 77 j = nI (if j < m then vN tp len (npn tp len p j) else 0)) ∧ ∀ j, j < min i m → cI s 78 j = nI (qB tp len (npn tp len p j))
theorem L_zero (h0 : RB st tp len) (h : AT st s tp len p m i) (hi : i < 3) (hm : m ≤ i) : ∃ s', AT st s' tp len p m (i + 1) ∧ ∀ k, F_X7_readLine_L42 n (k + 1) s (some 75) kn fi fo (nI m) (nI i) = F_X7_readLine_L42 n k s' (some 75) kn fi fo (nI m) (nI (i + 1)) := by
  obtain ⟨f, ⟨b, c, d, t⟩, v, q⟩ := h
  have S := f.1.2.2.1
  have w : sS 0 s (some 77) (nI i) (0 : Int32) = some (wA s 77 (upd (cI s 77) i 0)) := by rw [w77 S, if_pos (ixT hi (by decide)), nIc (by omega)]
  have r := RF_77 S (x := 77) (Or.inl rfl) (upd (cI s 77) i 0)
  have k7 := k77 S (upd (cI s 77) i 0)
  have k8 : cI (wA s 77 (upd (cI s 77) i 0)) 78 = cI s 78 := cI_c (wA_n (by decide) _ _)
  refine ⟨_, ⟨f.trans r.1, ⟨b, c, d, by rw [show min (i + 1) m = min i m by omega]; exact r.2 t⟩, fun j hj => ?_, fun j hj => by rw [k8]; exact q j (by omega)⟩, fun k => ?_⟩
  · rw [k7]
    by_cases hji : j = i
    · rw [hji, upd_s, if_neg (by omega)]; rfl
    · rw [pk_un hji]; exact v j (by omega)
  · rw [F_X7_readLine_L42]
    dsimp only
    simp (disch := omega) only [show ((3 : Int32) ≤ nI i) = False from nLe_f (a := 3) (by omega) (by decide), if_false, ↓bnd (g75_6 S), ↓bnd (w), nLe_t, if_true, nI_1, Option.bind_some]
/-- one number -/
theorem L_num (h0 : RB st tp len) (hp : p ≤ len) (h : AT st s tp len p m i) (hi : i < 3) (hm : i < m) (hm3 : m ≤ 3) (hn : 3000 ≤ n) : (kD tp len (npn tp len p i) = 2 → ∃ s', AT st s' tp len p m (i + 1) ∧ ∀ k, F_X7_readLine_L42 n (k + 1) s (some 75) kn fi fo (nI m) (nI i) = F_X7_readLine_L42 n k s' (some 75) kn fi fo (nI m) (nI (i + 1))) ∧
    (kD tp len (npn tp len p i) ≠ 2 → ∃ s', RF st s' ∧ fI s' 75 4 = nI (qB tp len (npn tp len p i)) ∧ ∀ k, F_X7_readLine_L42 n (k + 1) s (some 75) kn fi fo (nI m) (nI i) = some (0, s')) := by
  obtain ⟨f, ⟨b, c, d, t⟩, v, q⟩ := h
  have S := f.1.2.2.1
  have hP := npn_le (tp := tp) hp i
  have b5 := h0.2.2.2.1
  have ql := qB_le (tp := tp) hP.2
  have w : sS 0 s (some 77) (nI i) (0 : Int32) = some (wA s 77 (upd (cI s 77) i 0)) := by rw [w77 S, if_pos (ixT hi (by decide)), nIc (by omega)]
  have r := RF_77 S (x := 77) (Or.inl rfl) (upd (cI s 77) i 0)
  have k7 := k77 S (upd (cI s 77) i 0)
  have k8 : cI (wA s 77 (upd (cI s 77) i 0)) 78 = cI s 78 := cI_c (wA_n (by decide) _ _)
  have t1 := r.2 t
  generalize wA s 77 (upd (cI s 77) i 0) = s1 at *
  have F1 := f.trans r.1
  have B1 := h0.rf F1
  rw [show min i m = i by omega] at t1
  obtain ⟨s2, vv, e2, f2, t2, hv⟩ := C_step (n := n) B1 hP.2 t1 hn
  have F2 := F1.trans f2.rf
  have B2 := h0.rf F2
  have g3 : gI s2 (some 75) 7 3 = some (nI (kD tp len (npn tp len p i))) := by rw [g75_3 B2.1, t2.2.1]
  have kl : kD tp len (npn tp len p i) ≤ 4 := by unfold kD; split <;> (try split) <;> (try split) <;> (try split) <;> omega
  have e3 : (nI (kD tp len (npn tp len p i)) = (2 : Int32)) = (kD tp len (npn tp len p i) = 2) := nEq (b := 2) (by omega) (by decide)
  constructor
  · intro hk
    rw [hv hk] at t2
    have g5 : gI s2 (some 75) 7 5 = some (nI (vN tp len (npn tp len p i))) := by rw [g75_5 B2.1, t2.2.2.2]
    have w2 : sS 0 s2 (some 77) (nI i) (nI (vN tp len (npn tp len p i))) = some (wA s2 77 (upd (cI s2 77) i (nI (vN tp len (npn tp len p i))))) := by rw [w77 B2.1, if_pos (ixT hi (by decide)), nIc (by omega)]
    have r2 := RF_77 B2.1 (x := 77) (Or.inl rfl) (upd (cI s2 77) i (nI (vN tp len (npn tp len p i))))
    have k72 := k77 B2.1 (upd (cI s2 77) i (nI (vN tp len (npn tp len p i))))
    have k82 : cI (wA s2 77 (upd (cI s2 77) i (nI (vN tp len (npn tp len p i))))) 78 = cI s2 78 := cI_c (wA_n (by decide) _ _)
    have t3 := r2.2 t2
    generalize wA s2 77 (upd (cI s2 77) i (nI (vN tp len (npn tp len p i)))) = s3 at *
    have S3 := r2.1.1.2.2.1
    have g4 : gI s3 (some 75) 7 4 = some (nI (qB tp len (npn tp len p i))) := by rw [g75_4 S3, t3.2.2.1]
    have w3 : sS 0 s3 (some 78) (nI i) (nI (qB tp len (npn tp len p i))) = some (wA s3 78 (upd (cI s3 78) i (nI (qB tp len (npn tp len p i))))) := by rw [w78 S3, if_pos (ixT hi (by decide)), nIc (by omega)]
    have r3 := RF_77 S3 (x := 78) (Or.inr rfl) (upd (cI s3 78) i (nI (qB tp len (npn tp len p i))))
    have k83 := k78 S3 (upd (cI s3 78) i (nI (qB tp len (npn tp len p i))))
    have k73 : cI (wA s3 78 (upd (cI s3 78) i (nI (qB tp len (npn tp len p i))))) 77 = cI s3 77 := cI_c (wA_n (by decide) _ _)
    have c7 : cI s2 77 = cI s1 77 := cI_o f2.1 (by decide)
    have c8 : cI s2 78 = cI s1 78 := cI_o f2.1 (by decide)
    refine ⟨_, ⟨(F2.trans r2.1).trans r3.1, ⟨_, _, _, by rw [show min (i + 1) m = i + 1 by omega]; exact r3.2 t3⟩, fun j hj => ?_, fun j hj => ?_⟩, fun k => ?_⟩
    · rw [k73, k72, c7, k7]
      by_cases hji : j = i
      · rw [hji, upd_s, if_pos hm]
      · rw [pk_un hji, pk_un hji]; exact v j (by omega)
    · rw [k83, k82, c8, k8]
      by_cases hji : j = i
      · rw [hji, upd_s]
      · rw [pk_un hji]; exact q j (by omega)
    · rw [F_X7_readLine_L42]
      dsimp only
      simp (disch := omega) only [show ((3 : Int32) ≤ nI i) = False from nLe_f (a := 3) (by omega) (by decide), nLe_f, if_false, ↓bnd (g75_6 S), ↓bnd (w), ↓bnd (o75 B1.1), ↓bnd (e2), ↓bnd (g3), e3.trans (eq_true hk), if_true, ↓bnd (g75_6 B2.1), ↓bnd (g5), ↓bnd (w2), ↓bnd (g75_7 S3), ↓bnd (g4), ↓bnd (w3), nI_1, Option.bind_some]
  · intro hk
    refine ⟨s2, F2, t2.2.2.1, fun k => ?_⟩
    rw [F_X7_readLine_L42]
    dsimp only
    simp (disch := omega) only [show ((3 : Int32) ≤ nI i) = False from nLe_f (a := 3) (by omega) (by decide), nLe_f, if_false, ↓bnd (g75_6 S), ↓bnd (w), ↓bnd (o75 B1.1), ↓bnd (e2), ↓bnd (g3), e3.trans (eq_false hk), if_false, rz0, Option.bind_some]
/-- the end of a line -/
theorem L_end (h0 : RB st tp len) (hp : p ≤ len) (h : AT st s tp len p m 3) (hm : m ≤ 3) (hn : 3000 ≤ n) : ∃ s', RF st s' ∧ fI s' 75 4 = nI (qB tp len (npn tp len p m)) ∧ (∃ b c d, RT s' (nI (npn tp len p (m + 1))) b c d) ∧ cI s' 77 = cI s 77 ∧ cI s' 78 = cI s 78 ∧ (kD tp len (npn tp len p m) ≠ 3 → ∀ k, F_X7_readLine_L42 n (k + 1) s (some 75) kn fi fo (nI m) (nI 3) = some (0, s')) ∧
    (kD tp len (npn tp len p m) = 3 → ∀ k, F_X7_readLine_L42 n (k + 1) s (some 75) kn fi fo (nI m) (nI 3) = ((if fI s' 75 8 = (0 : Int32) then (F_X7_check n s' (some 75) fo (nI m) fi kn).bind fun s14 => some s14 else some s') : Option xS).bind fun q16 => some (1, q16)) := by
  obtain ⟨f, ⟨b, c, d, t⟩, v, q⟩ := h
  have S := f.1.2.2.1
  have B := h0.rf f
  have hP := npn_le (tp := tp) hp m
  rw [show min 3 m = m by omega] at t
  obtain ⟨s2, vv, e2, f2, t2, hv⟩ := C_step (n := n) B hP.2 t hn
  have B2 := B.sf f2
  have g3 : gI s2 (some 75) 7 3 = some (nI (kD tp len (npn tp len p m))) := by rw [g75_3 B2.1, t2.2.1]
  have kl : kD tp len (npn tp len p m) ≤ 4 := by unfold kD; split <;> (try split) <;> (try split) <;> (try split) <;> omega
  have e3 : (nI (kD tp len (npn tp len p m)) = (3 : Int32)) = (kD tp len (npn tp len p m) = 3) := nEq (b := 3) (by omega) (by decide)
  refine ⟨s2, f.trans f2.rf, t2.2.2.1, ⟨_, _, _, t2⟩, cI_o f2.1 (by decide), cI_o f2.1 (by decide), fun hk k => ?_, fun hk k => ?_⟩
  · rw [F_X7_readLine_L42]
    dsimp only
    simp (disch := omega) only [show ((3 : Int32) ≤ nI 3) = True from nLe_t (a := 3) (by omega) (by decide), if_true, ↓bnd (o75 S), ↓bnd (e2), ↓bnd (g3), e3.trans (eq_false hk), if_false, rz0, Option.bind_some]
  · rw [F_X7_readLine_L42]
    dsimp only
    simp (disch := omega) only [show ((3 : Int32) ≤ nI 3) = True from nLe_t (a := 3) (by omega) (by decide), if_true, ↓bnd (o75 S), ↓bnd (e2), ↓bnd (g3), e3.trans (eq_true hk), if_true, ↓bnd (g75_8 B2.1), rz1, Option.bind_some, o75 B2.1]
end LN

/-! TOKENS: the class's step, the model's advance -/
/-- a word's letters as one number -/
def hsh (tp : Nat → Nat) (q : Nat) : Nat → Nat
  | 0 => 0
  | m + 1 => if m < 6 then 32 * hsh tp q m + (tp (q + m) - 96) else hsh tp q m
theorem hsh_le (tp : Nat → Nat) (q m : Nat) (h : ∀ i, i < m → tp (q + i) ≤ 122) : hsh tp q m < 1073741824 ∧ (m ≤ 6 → hsh tp q m < 32 ^ m) := by
  induction m with
  | zero => exact ⟨by show 0 < 1073741824; omega, fun _ => by show 0 < 1; omega⟩
  | succ m ih =>
    have i := ih fun i hi => h i (by omega)
    have := h m (by omega)
    unfold hsh
    by_cases c : m < 6
    · rw [if_pos c]
      have i2 := i.2 (by omega)
      rcases (show m = 0 ∨ m = 1 ∨ m = 2 ∨ m = 3 ∨ m = 4 ∨ m = 5 by omega) with rfl | rfl | rfl | rfl | rfl | rfl <;> constructor <;> omega
    · rw [if_neg c]
      exact ⟨i.1, fun hm => by omega⟩
def wO (v : Nat) : Nat := if v = 254268868 then 1 else if v = 631941 then 2 else if v = 67173 then 11 else if v = 12009198 then 12 else if v = 13938867 then 13 else if v = 595572 then 14 else if v = 644551 then 15 else if v = 357702820 then 16 else if v = 273980692 then 17 else if v = 4153 then 21 else if v = 542622085 then 22 else if v = 5685913 then 23 else if v = 638164 then 24 else if v = 659104884 then 25 else if v = 52 then 26 else if v = 230821 then 27 else 99
/-- the model's word, its token -/
def wC (tp : Nat → Nat) (len p : Nat) : Nat := if nX tp len p - qB tp len p ≤ 6 then wO (hsh tp (qB tp len p) (nX tp len p - qB tp len p)) else 99
def kM (tp : Nat → Nat) (len p : Nat) : Nat := if kD tp len p = 0 then 0 else if kD tp len p = 1 then (if wC tp len p = 99 then 4 else 3) else if kD tp len p = 2 then 1 else if kD tp len p = 3 then 2 else 4
theorem wO_le (v : Nat) : wO v ≤ 99 := by
  unfold wO
  by_cases c0 : v = 254268868
  · rw [if_pos c0]; omega
  rw [if_neg c0]
  by_cases c1 : v = 631941
  · rw [if_pos c1]; omega
  rw [if_neg c1]
  by_cases c2 : v = 67173
  · rw [if_pos c2]; omega
  rw [if_neg c2]
  by_cases c3 : v = 12009198
  · rw [if_pos c3]; omega
  rw [if_neg c3]
  by_cases c4 : v = 13938867
  · rw [if_pos c4]; omega
  rw [if_neg c4]
  by_cases c5 : v = 595572
  · rw [if_pos c5]; omega
  rw [if_neg c5]
  by_cases c6 : v = 644551
  · rw [if_pos c6]; omega
  rw [if_neg c6]
  by_cases c7 : v = 357702820
  · rw [if_pos c7]; omega
  rw [if_neg c7]
  by_cases c8 : v = 273980692
  · rw [if_pos c8]; omega
  rw [if_neg c8]
  by_cases c9 : v = 4153
  · rw [if_pos c9]; omega
  rw [if_neg c9]
  by_cases c10 : v = 542622085
  · rw [if_pos c10]; omega
  rw [if_neg c10]
  by_cases c11 : v = 5685913
  · rw [if_pos c11]; omega
  rw [if_neg c11]
  by_cases c12 : v = 638164
  · rw [if_pos c12]; omega
  rw [if_neg c12]
  by_cases c13 : v = 659104884
  · rw [if_pos c13]; omega
  rw [if_neg c13]
  by_cases c14 : v = 52
  · rw [if_pos c14]; omega
  rw [if_neg c14]
  by_cases c15 : v = 230821
  · rw [if_pos c15]; omega
  rw [if_neg c15]
  exact Nat.le_refl 99
section TM
variable {st st1 st2 s s1 : xS} {n len p : Nat} {tp : Nat → Nat}
theorem C_step (h : RB st tp len) (hp : p ≤ len) {b c d : Int32} (ht : RT st (nI p) b c d) (hn : 3000 ≤ n) : ∃ s' v, F_X7_step n st (some 75) = some s' ∧ SF st s' ∧ RT s' (nI (nX tp len p)) (nI (kD tp len p)) (nI (qB tp len p)) v ∧ (kD tp len p = 2 → v = nI (vN tp len p)) := by
  have b5 := h.2.2.2.1
  have ql := qB_le (tp := tp) hp
  obtain ⟨s1, e1, f1, t1⟩ := C_skip (n := n) _ p st h rfl hp ht n (by omega)
  have h1 := h.sf f1
  have g2 : gI s1 (some 75) 7 2 = some (nI (qB tp len p)) := by rw [g75_2 h1.1, t1.1]; rfl
  obtain ⟨s2, e2, f2, t2⟩ := R_4 h1.1 t1 (nI (qB tp len p))
  have h2 := h1.sf f2
  have g4 : gI s2 (some 75) 7 4 = some (nI (qB tp len p)) := by rw [g75_4 h2.1, t2.2.2.1]
  have g22 : gI s2 (some 75) 7 2 = some (nI (qB tp len p)) := by rw [g75_2 h2.1, t2.1]; rfl
  have sg : F_X7_signAt n s2 (some 75) (nI (qB tp len p)) = some (sgn tp len (qB tp len p)) := C_sign h2 (by omega)
  by_cases c0 : qB tp len p < len
  · have b256 := h.2.2.2.2.1 (qB tp len p)
    have es : sgn tp len (qB tp len p) = nI (tp (qB tp len p)) := if_pos c0
    rw [es] at sg
    have n1 : (nI (tp (qB tp len p)) = (-1 : Int32)) = False := nNeg1 (by omega)
    have bl := C_letter (n := n) (st := s2) b256
    have bd := C_digit (n := n) (st := s2) b256
    by_cases cl : ltB (tp (qB tp len p)) = true
    · rw [if_pos cl] at bl
      obtain ⟨s3, e3, f3, t3⟩ := R_3 h2.1 t2 1
      have h3 := h2.sf f3
      obtain ⟨s4, e4, f4, t4⟩ := C_letters (n := n) _ (qB tp len p) s3 h3 rfl ql.2 t3 n (by omega)
      have kx : kD tp len p = 1 := by unfold kD; rw [if_pos c0, if_pos cl]
      have nx : nX tp len p = scA ltB tp len (qB tp len p) := by unfold nX; rw [if_pos c0, if_pos cl]
      refine ⟨s4, d, ?_, ((f1.trans f2).trans f3).trans f4, by rw [nx, kx]; exact t4, fun q => by rw [kx] at q; omega⟩
      unfold F_X7_step
      simp only [↓reduceIte, ↓bnd (e1), ↓bnd (g2), ↓bnd (e2), ↓bnd (g4), ↓bnd (o75 h2.1), ↓bnd (sg), n1, ↓bnd (bl), one0, ↓bnd (e3), ↓bnd (e4), ↓Option.bind_some]
    · rw [if_neg cl] at bl
      by_cases cd : dgB (tp (qB tp len p)) = true
      · rw [if_pos cd] at bd
        obtain ⟨s3, e3, f3, t3⟩ := R_5 h2.1 t2 (nI (vl tp (qB tp len p) (qB tp len p - qB tp len p)))
        have e3 : pF s2 (some 75) 7 5 (.int (0 : Int32)) = some s3 := by rw [Nat.sub_self] at e3; exact e3
        have h3 := h2.sf f3
        obtain ⟨s4, e4, f4, t4⟩ := C_digits (n := n) _ (qB tp len p) s3 h3 rfl ql.2 (Nat.le_refl _) t3 n (by omega)
        have h4 := h3.sf f4
        have nx : nX tp len p = scA dgB tp len (qB tp len p) := by unfold nX; rw [if_pos c0, if_neg cl, if_pos cd]
        have nl := nX_le (tp := tp) hp
        rw [← nx] at t4
        have g42 : gI s4 (some 75) 7 2 = some (nI (nX tp len p)) := by rw [g75_2 h4.1, t4.1]
        have g44 : gI s4 (some 75) 7 4 = some (nI (qB tp len p)) := by rw [g75_4 h4.1, t4.2.2.1]
        have kx : kD tp len p = if nX tp len p - qB tp len p ≤ 4 then 2 else 4 := by unfold kD; rw [if_pos c0, if_neg cl, if_pos cd]
        have q21 : ((if (4 : Int32) < (nI (nX tp len p) - nI (qB tp len p)) then some (4 : Int32) else some (2 : Int32)) : Option Int32) = some (nI (kD tp len p)) := by
          rw [nSub nl.1, kx]
          have e : ((4 : Int32) < nI (nX tp len p - qB tp len p)) = (4 < nX tp len p - qB tp len p) := nLt (a := 4) (by decide) (by omega)
          simp only [e]
          by_cases q : nX tp len p - qB tp len p ≤ 4
          · rw [if_neg (by omega), if_pos q]; rfl
          · rw [if_pos (by omega), if_neg q]; rfl
        obtain ⟨s5, e5, f5, t5⟩ := R_3 h4.1 t4 (nI (kD tp len p))
        refine ⟨s5, _, ?_, (((f1.trans f2).trans f3).trans f4).trans f5, t5, fun _ => rfl⟩
        unfold F_X7_step F_X7_stepNumber
        simp only [↓reduceIte, ↓bnd (e1), ↓bnd (g2), ↓bnd (e2), ↓bnd (g4), ↓bnd (o75 h2.1), ↓bnd (sg), n1, ↓bnd (bl), ↓bnd (bd), ↓bnd (e3), ↓bnd (e4), ↓bnd (g42), ↓bnd (g44), ↓bnd (q21), ↓bnd (e5), one0, zero0, ↓Option.bind_some]
      · rw [if_neg cd] at bd
        have nx : nX tp len p = qB tp len p + 1 := by unfold nX; rw [if_pos c0, if_neg cl, if_neg cd]
        have kx : kD tp len p = if tp (qB tp len p) = 59 then 3 else 4 := by unfold kD; rw [if_pos c0, if_neg cl, if_neg cd]
        have q18 : ((if nI (tp (qB tp len p)) = (59 : Int32) then some (3 : Int32) else some (4 : Int32)) : Option Int32) = some (nI (kD tp len p)) := by
          have e : (nI (tp (qB tp len p)) = (59 : Int32)) = (tp (qB tp len p) = 59) := nEq (b := 59) (by omega) (by decide)
          rw [kx]
          simp only [e]
          by_cases q : tp (qB tp len p) = 59
          · rw [if_pos q, if_pos q]; rfl
          · rw [if_neg q, if_neg q]; rfl
        obtain ⟨s3, e3, f3, t3⟩ := R_3 h2.1 t2 (nI (kD tp len p))
        have h3 := h2.sf f3
        have g32 : gI s3 (some 75) 7 2 = some (nI (qB tp len p)) := by rw [g75_2 h3.1, t3.1]; rfl
        obtain ⟨s4, e4, f4, t4⟩ := R_2 h3.1 t3 (nI (qB tp len p + 1))
        refine ⟨s4, d, ?_, ((f1.trans f2).trans f3).trans f4, by rw [nx]; exact t4, fun q => by rw [kx] at q; split at q <;> omega⟩
        unfold F_X7_step
        simp only [↓reduceIte, ↓bnd (e1), ↓bnd (g2), ↓bnd (e2), ↓bnd (g4), ↓bnd (o75 h2.1), ↓bnd (sg), n1, ↓bnd (bl), ↓bnd (bd), ↓bnd (q18), ↓bnd (e3), ↓bnd (g32), zero0, nI_1, ↓bnd (e4), ↓Option.bind_some]
  · have es : sgn tp len (qB tp len p) = -1 := if_neg c0
    rw [es] at sg
    obtain ⟨s3, e3, f3, t3⟩ := R_3 h2.1 t2 0
    have nx : nX tp len p = qB tp len p := by unfold nX; rw [if_neg c0]
    have kx : kD tp len p = 0 := by unfold kD; rw [if_neg c0]
    refine ⟨s3, d, ?_, (f1.trans f2).trans f3, by rw [nx, kx]; exact t3, fun q => by rw [kx] at q; omega⟩
    unfold F_X7_step
    simp only [↓reduceIte, ↓bnd (e1), ↓bnd (g2), ↓bnd (e2), ↓bnd (g4), ↓bnd (o75 h2.1), ↓bnd (sg), ↓bnd (e3), ↓Option.bind_some]
theorem M_wordOf {v : Nat} (hv : v < 2147483648) : F_X11_wordOf n st (nI v) = some (nI (wO v)) := by
  have t_7_18_15 : F_X11_three n st (7 : Int32) (18 : Int32) (15 : Int32) = some (nI 7759) := congrArg some (by decide)
  have t_21_14_4 : F_X11_three n st (21 : Int32) (14 : Int32) (4 : Int32) = some (nI 21956) := congrArg some (by decide)
  have t_19_9_4 : F_X11_three n st (19 : Int32) (9 : Int32) (4 : Int32) = some (nI 19748) := congrArg some (by decide)
  have t_2_1_19 : F_X11_three n st (2 : Int32) (1 : Int32) (19 : Int32) = some (nI 2099) := congrArg some (by decide)
  have t_11_14_15 : F_X11_three n st (11 : Int32) (14 : Int32) (15 : Int32) = some (nI 11727) := congrArg some (by decide)
  have t_13_9_12 : F_X11_three n st (13 : Int32) (9 : Int32) (12 : Int32) = some (nI 13612) := congrArg some (by decide)
  have t_18_5_19 : F_X11_three n st (18 : Int32) (5 : Int32) (19 : Int32) = some (nI 18611) := congrArg some (by decide)
  have t_19_21_14 : F_X11_three n st (19 : Int32) (21 : Int32) (14 : Int32) = some (nI 20142) := congrArg some (by decide)
  have t_10_21_4 : F_X11_three n st (10 : Int32) (21 : Int32) (4 : Int32) = some (nI 10916) := congrArg some (by decide)
  have t_7_5_4 : F_X11_three n st (7 : Int32) (5 : Int32) (4 : Int32) = some (nI 7332) := congrArg some (by decide)
  have t_8_5_9 : F_X11_three n st (8 : Int32) (5 : Int32) (9 : Int32) = some (nI 8361) := congrArg some (by decide)
  have t_7_8_20 : F_X11_three n st (7 : Int32) (8 : Int32) (20 : Int32) = some (nI 7444) := congrArg some (by decide)
  have t_4_1_25 : F_X11_three n st (4 : Int32) (1 : Int32) (25 : Int32) = some (nI 4153) := congrArg some (by decide)
  have t_16_5_15 : F_X11_three n st (16 : Int32) (5 : Int32) (15 : Int32) = some (nI 16559) := congrArg some (by decide)
  have t_16_12_5 : F_X11_three n st (16 : Int32) (12 : Int32) (5 : Int32) = some (nI 16773) := congrArg some (by decide)
  have t_5_13_16 : F_X11_three n st (5 : Int32) (13 : Int32) (16 : Int32) = some (nI 5552) := congrArg some (by decide)
  have t_19_15_6 : F_X11_three n st (19 : Int32) (15 : Int32) (6 : Int32) = some (nI 19942) := congrArg some (by decide)
  have t_19_20_18 : F_X11_three n st (19 : Int32) (20 : Int32) (18 : Int32) = some (nI 20114) := congrArg some (by decide)
  have t_9_3_20 : F_X11_three n st (9 : Int32) (3 : Int32) (20 : Int32) = some (nI 9332) := congrArg some (by decide)
  have t_0_1_20 : F_X11_three n st (0 : Int32) (1 : Int32) (20 : Int32) = some (nI 52) := congrArg some (by decide)
  have t_7_1_13 : F_X11_three n st (7 : Int32) (1 : Int32) (13 : Int32) = some (nI 7213) := congrArg some (by decide)
  have q : ∀ c : Nat, c < 2147483648 → (nI v = nI c) = (v = c) := fun c hc => nEq hv hc
  unfold F_X11_wordOf wO
  simp only [↓bnd (t_7_18_15), ↓bnd (t_21_14_4), ↓bnd (t_19_9_4), ↓bnd (t_2_1_19), ↓bnd (t_11_14_15), ↓bnd (t_13_9_12), ↓bnd (t_18_5_19), ↓bnd (t_19_21_14), ↓bnd (t_10_21_4), ↓bnd (t_7_5_4), ↓bnd (t_8_5_9), ↓bnd (t_7_8_20), ↓bnd (t_4_1_25), ↓bnd (t_16_5_15), ↓bnd (t_16_12_5), ↓bnd (t_5_13_16), ↓bnd (t_19_15_6), ↓bnd (t_19_20_18), ↓bnd (t_9_3_20), ↓bnd (t_0_1_20), ↓bnd (t_7_1_13), show (32768 : Int32) * nI 7759 + nI 21956 = nI 254268868 by decide, show (32 : Int32) * nI 19748 + (5 : Int32) = nI 631941 by decide, show (32 : Int32) * nI 2099 + (5 : Int32) = nI 67173 by decide, show (1024 : Int32) * nI 11727 + (736 : Int32) + (14 : Int32) = nI 12009198 by decide, show (1024 : Int32) * nI 13612 + (160 : Int32) + (19 : Int32) = nI 13938867 by decide, show (32 : Int32) * nI 18611 + (20 : Int32) = nI 595572 by decide, show (32 : Int32) * nI 20142 + (7 : Int32) = nI 644551 by decide, show (32768 : Int32) * nI 10916 + nI 7332 = nI 357702820 by decide, show (32768 : Int32) * nI 8361 + nI 7444 = nI 273980692 by decide, show (32768 : Int32) * nI 16559 + nI 16773 = nI 542622085 by decide, show (1024 : Int32) * nI 5552 + (640 : Int32) + (25 : Int32) = nI 5685913 by decide, show (32 : Int32) * nI 19942 + (20 : Int32) = nI 638164 by decide, show (32768 : Int32) * nI 20114 + nI 9332 = nI 659104884 by decide, show (32 : Int32) * nI 7213 + (5 : Int32) = nI 230821 by decide, q 254268868 (by decide), q 631941 (by decide), q 67173 (by decide), q 12009198 (by decide), q 13938867 (by decide), q 595572 (by decide), q 644551 (by decide), q 357702820 (by decide), q 273980692 (by decide), q 4153 (by decide), q 542622085 (by decide), q 5685913 (by decide), q 638164 (by decide), q 659104884 (by decide), q 52 (by decide), q 230821 (by decide)]
  by_cases c0 : v = 254268868
  · simp only [c0, if_true]
    rfl
  simp only [c0, if_false]
  by_cases c1 : v = 631941
  · simp only [c1, if_true]
    rfl
  simp only [c1, if_false]
  by_cases c2 : v = 67173
  · simp only [c2, if_true]
    rfl
  simp only [c2, if_false]
  by_cases c3 : v = 12009198
  · simp only [c3, if_true]
    rfl
  simp only [c3, if_false]
  by_cases c4 : v = 13938867
  · simp only [c4, if_true]
    rfl
  simp only [c4, if_false]
  by_cases c5 : v = 595572
  · simp only [c5, if_true]
    rfl
  simp only [c5, if_false]
  by_cases c6 : v = 644551
  · simp only [c6, if_true]
    rfl
  simp only [c6, if_false]
  by_cases c7 : v = 357702820
  · simp only [c7, if_true]
    rfl
  simp only [c7, if_false]
  by_cases c8 : v = 273980692
  · simp only [c8, if_true]
    rfl
  simp only [c8, if_false]
  by_cases c9 : v = 4153
  · simp only [c9, if_true]
    rfl
  simp only [c9, if_false]
  by_cases c10 : v = 542622085
  · simp only [c10, if_true]
    rfl
  simp only [c10, if_false]
  by_cases c11 : v = 5685913
  · simp only [c11, if_true]
    rfl
  simp only [c11, if_false]
  by_cases c12 : v = 638164
  · simp only [c12, if_true]
    rfl
  simp only [c12, if_false]
  by_cases c13 : v = 659104884
  · simp only [c13, if_true]
    rfl
  simp only [c13, if_false]
  by_cases c14 : v = 52
  · simp only [c14, if_true]
    rfl
  simp only [c14, if_false]
  by_cases c15 : v = 230821
  · simp only [c15, if_true]
    rfl
  simp only [c15, if_false]
  rfl
end TM

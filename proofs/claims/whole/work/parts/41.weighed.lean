/-! A GAME WEIGHED: all of it -/
section WE
variable {st st1 st2 : xS} {n a w p g : Nat} {L : LgD} {W : LwD} {P : PlD}
theorem MS.wo (m : MS st a w p L W P) (hV : LwI W) {q t v : Nat} (hq : q < 6) (ht : t ≤ 99999) (hv : v = min 50 (W (10 + q) * t)) : F_X3_worthOf n st (some w) (nI q) (nI t) = some (nI v) := by rw [hv]; exact C_worthOf m.2.2.2.2.2.1 hV hq ht
theorem MS.s87 (m : MS st a w p L W P) {i : Nat} (hi : i < 6) (v : Int32) : sS 0 st (some 87) (nI i) v = some (wA st 87 (upd (cI st 87) i v)) := by
  rw [w87 m.1, if_pos (ixT (by omega) (by decide)), nIc (by omega)]
theorem gT_0 : gT L W P g 0 = if gO L P g = L.r (40 + P.c g 0) then (if gO L P g = gA L P g then 0 else 1) else 0 := rfl
theorem gT_1 : gT L W P g 1 = L.d (10 * gA L P g + gO L P g) / W 21 := rfl
theorem gT_2 : gT L W P g 2 = if (W 22 : Int) ≤ rsN P g (P.c g 1) g then 0 else if rsN P g (P.c g 0) g < (W 22 : Int) then 0 else 1 := rfl
theorem gT_3 : gT L W P g 3 = gN L P g / W 23 := rfl
theorem gT_4 : gT L W P g 4 = if P.c g 4 = 1 then gN L P g / W 24 else 0 := rfl
theorem gT_5 : gT L W P g 5 = (L.r (10 + gO L P g) - L.r (10 + gA L P g)) / W 25 := rfl
theorem upd_s (f : Nat → Int32) (i : Nat) (v : Int32) : upd f i v i = v := pk_us
theorem C_weigh (m : MS st a w p L W P) (hI : LgI L) (hV : LwI W) (hJ : PlI P) (hg : g < P.n) (hn : 3000 ≤ n) :
    ∃ st', F_X5_weigh n st (some 79) (nI g) = some st' ∧ WF st st' ∧ (∀ i, i < 6 → cI st' 87 i = nI (gP L W P g i)) ∧ fI st' 79 4 = nI (gE (gP L W P g) 9) ∧ fI st' 79 5 = nI (gN L P g) ∧ fI st' 79 6 = nI (gp L W P g (gE (gP L W P g) 9)) ∧ fI st' 79 7 = nI (gq L W P g) := by
  have d := hJ.2.1 g hg
  have b1 := gO_lt hI hJ hg
  have b2 := gA_lt hI hJ hg
  have b3 := gN_le (L := L) (P := P) (g := g) hI
  have b4 := hI.2.2.1 (30 + gO L P g)
  have b5 := hI.2.2.1 (20 + gO L P g)
  have p1 : W 21 ≤ 9999 := hV.2.2.1 1 (by decide)
  have p2 : W 22 ≤ 9999 := hV.2.2.1 2 (by decide)
  have p3 : W 23 ≤ 9999 := hV.2.2.1 3 (by decide)
  have p4 : W 24 ≤ 9999 := hV.2.2.1 4 (by decide)
  have p5 : W 25 ≤ 9999 := hV.2.2.1 5 (by decide)
  have hA : F_X4_own n st (some a) (nI (P.c g 1)) = some (nI (gA L P g)) := C_own m.2.2.2.2.1 (by omega)
  have hN : F_X4_noise n st (some a) (nI (gO L P g)) = some (nI (L.r (30 + gO L P g) / (1 + L.r (20 + gO L P g)))) := C_noise m.2.2.2.2.1 (by omega) hI
  have qN : (if nI (P.c g 3) = (1 : Int32) then some (nI (L.r (30 + gO L P g) / (1 + L.r (20 + gO L P g)))) else some (0 : Int32)) = some (nI (gN L P g)) := by
    unfold gN
    by_cases h : P.c g 3 = 1
    · rw [if_pos h, if_pos (by rw [h]; rfl)]
    · rw [if_neg h, if_neg (fun q => h (by
        have q : nI (P.c g 3) = nI 1 := q
        rwa [nEq (by omega) (by decide)] at q))]
      rfl
  unfold F_X5_weigh
  simp only [g79_2 m.1, m.2.2.2.1, m.2.2.2.2.2.2.o, m.r0 hJ hg, m.r1 hJ hg, m.r3 hJ hg, o79 m.1, C_groundOf m hJ hg, g79_0 m.1, m.2.1, m.2.2.2.2.1.o, hA, hN, qN, p79_5 m.1, Option.bind_some]
  have k1 := WF_f m.1 (k := 5) (Or.inr (Or.inl rfl)) (nI (gN L P g))
  have n1 : fI (uV st 79 5 (.int (nI (gN L P g)))) 79 5 = nI (gN L P g) := f79_5 m.1 _
  have m1 := m.wf k1
  generalize uV st 79 5 (.int (nI (gN L P g))) = st1 at k1 n1 m1 ⊢
  have hH : F_X4_own n st1 (some a) (nI (P.c g 0)) = some (nI (L.r (40 + P.c g 0))) := C_own m1.2.2.2.2.1 (by omega)
  have bH := hI.2.2.1 (40 + P.c g 0)
  have q0 : (if nI (gO L P g) = nI (L.r (40 + P.c g 0)) then if nI (gO L P g) = nI (gA L P g) then some (0 : Int32) else some (1 : Int32) else some (0 : Int32)) = some (nI (gT L W P g 0)) := by
    rw [gT_0]
    by_cases h : gO L P g = L.r (40 + P.c g 0)
    · rw [if_pos h, if_pos (by rw [← h])]
      by_cases h2 : gO L P g = gA L P g
      · rw [if_pos h2, if_pos (by rw [← h2])]
        rfl
      · rw [if_neg h2, if_neg (by rw [nEq (by omega) (by omega)]; exact h2)]
        rfl
    · rw [if_neg h, if_neg (by rw [nEq (by omega) (by omega)]; exact h)]
      rfl
  have t0 : gT L W P g 0 ≤ 99999 := by
    rw [gT_0]
    split
    · split <;> omega
    · omega
  have v0 : F_X3_worthOf n st1 (some w) (0 : Int32) (nI (gT L W P g 0)) = some (nI (gP L W P g 0)) := m1.wo hV (by decide) t0 rfl
  have x0 : sS 0 st1 (some 87) (0 : Int32) (nI (gP L W P g 0)) = some (wA st1 87 (upd (cI st1 87) 0 (nI (gP L W P g 0)))) := m1.s87 (by decide) _
  simp only [g79_0 m1.1, g79_1 m1.1, g79_2 m1.1, g79_3 m1.1, m1.2.1, m1.2.2.1, m1.2.2.2.1, m1.2.2.2.2.1.o, m1.2.2.2.2.2.1.o, m1.2.2.2.2.2.2.o, hH, q0, v0, x0, Option.bind_some]
  have k2 := k1.trans (WF_p m1.1 0 (nI (gP L W P g 0)))
  have n2 : fI (wA st1 87 (upd (cI st1 87) 0 (nI (gP L W P g 0)))) 79 5 = nI (gN L P g) := (fI_c (wA_n (by decide) _ _) 5).trans n1
  have c2 : cI (wA st1 87 (upd (cI st1 87) 0 (nI (gP L W P g 0)))) 87 0 = nI (gP L W P g 0) := by rw [k87 m1.1, upd_s]
  have m2 := m.wf k2
  generalize wA st1 87 (upd (cI st1 87) 0 (nI (gP L W P g 0))) = st2 at k2 n2 c2 m2 ⊢
  have bD := hI.2.2.2.1 (10 * gA L P g + gO L P g)
  have hD : F_X4_apart n st2 (some a) (nI (gA L P g)) (nI (gO L P g)) = some (nI (L.d (10 * gA L P g + gO L P g))) := C_apart m2.2.2.2.2.1 (by omega)
  have hC : F_X10_cut n st2 (nI (L.d (10 * gA L P g + gO L P g))) (nI (W 21)) = some (nI (gT L W P g 1)) := C_cut (by omega) (by omega)
  have t1 : gT L W P g 1 ≤ 99999 := by
    rw [gT_1]
    exact Nat.le_trans (Nat.div_le_self _ _) (by omega)
  have v1 : F_X3_worthOf n st2 (some w) (1 : Int32) (nI (gT L W P g 1)) = some (nI (gP L W P g 1)) := m2.wo hV (by decide) t1 rfl
  have x1 : sS 0 st2 (some 87) (1 : Int32) (nI (gP L W P g 1)) = some (wA st2 87 (upd (cI st2 87) 1 (nI (gP L W P g 1)))) := m2.s87 (by decide) _
  simp only [g79_0 m2.1, g79_1 m2.1, g79_2 m2.1, g79_3 m2.1, m2.2.1, m2.2.2.1, m2.2.2.2.1, m2.2.2.2.2.1.o, m2.2.2.2.2.2.1.o, m2.2.2.2.2.2.2.o, hD, m2.e1, hC, v1, x1, Option.bind_some]
  have k3 := k2.trans (WF_p m2.1 1 (nI (gP L W P g 1)))
  have n3 : fI (wA st2 87 (upd (cI st2 87) 1 (nI (gP L W P g 1)))) 79 5 = nI (gN L P g) := (fI_c (wA_n (by decide) _ _) 5).trans n2
  have c3 : cI (wA st2 87 (upd (cI st2 87) 1 (nI (gP L W P g 1)))) 87 1 = nI (gP L W P g 1) := by rw [k87 m2.1, upd_s]
  have c3_0 : cI (wA st2 87 (upd (cI st2 87) 1 (nI (gP L W P g 1)))) 87 0 = nI (gP L W P g 0) := by rw [k87 m2.1, pk_un (by decide)]; exact c2
  have m3 := m.wf k3
  generalize wA st2 87 (upd (cI st2 87) 1 (nI (gP L W P g 1))) = st3 at k3 n3 c3 c3_0 m3 ⊢
  have hr1 : F_X6_restOf n st3 (some p) (nI g) (nI (P.c g 1)) = some (zI (rsN P g (P.c g 1) g)) := C_restOf m3.2.2.2.2.2.2 hJ hg d.2.1 hn
  have hr0 : F_X6_restOf n st3 (some p) (nI g) (nI (P.c g 0)) = some (zI (rsN P g (P.c g 0) g)) := C_restOf m3.2.2.2.2.2.2 hJ hg d.1 hn
  have bR1 := rsN_le hJ (s := P.c g 1) g hg g (Nat.le_refl g)
  have bR0 := rsN_le hJ (s := P.c g 0) g hg g (Nat.le_refl g)
  have q2 : (if nI (W 22) ≤ zI (rsN P g (P.c g 1) g) then some (0 : Int32) else if zI (rsN P g (P.c g 0) g) < nI (W 22) then some (0 : Int32) else some (1 : Int32)) = some (nI (gT L W P g 2)) := by
    rw [gT_2]
    rw [nZ (W 22)]
    by_cases h : (W 22 : Int) ≤ rsN P g (P.c g 1) g
    · rw [if_pos h, if_pos (by rw [zLe (by omega) (by omega) (by omega) (by omega)]; exact h)]
      rfl
    · rw [if_neg h, if_neg (by rw [zLe (by omega) (by omega) (by omega) (by omega)]; exact h)]
      by_cases h2 : rsN P g (P.c g 0) g < (W 22 : Int)
      · rw [if_pos h2, if_pos (by rw [zLt (by omega) (by omega) (by omega) (by omega)]; exact h2)]
        rfl
      · rw [if_neg h2, if_neg (by rw [zLt (by omega) (by omega) (by omega) (by omega)]; exact h2)]
        rfl
  have bT : gT L W P g 2 ≤ 1 := by
    rw [gT_2]
    split
    · omega
    · split <;> omega
  have q2' : (if nI (gT L W P g 2) = (0 : Int32) then some (0 : Int32) else some (1 : Int32)) = some (nI (gT L W P g 2)) := by
    rcases Nat.le_one_iff_eq_zero_or_eq_one.mp bT with e | e <;> rw [e] <;> rfl
  have t2 : gT L W P g 2 ≤ 99999 := by omega
  have v2 : F_X3_worthOf n st3 (some w) (2 : Int32) (nI (gT L W P g 2)) = some (nI (gP L W P g 2)) := m3.wo hV (by decide) t2 rfl
  have x2 : sS 0 st3 (some 87) (2 : Int32) (nI (gP L W P g 2)) = some (wA st3 87 (upd (cI st3 87) 2 (nI (gP L W P g 2)))) := m3.s87 (by decide) _
  simp only [g79_0 m3.1, g79_1 m3.1, g79_2 m3.1, g79_3 m3.1, m3.2.1, m3.2.2.1, m3.2.2.2.1, m3.2.2.2.2.1.o, m3.2.2.2.2.2.1.o, m3.2.2.2.2.2.2.o, m3.r1 hJ hg, m3.r0 hJ hg, m3.e2, hr1, hr0, q2, q2', v2, x2, Option.bind_some]
  have k4 := k3.trans (WF_p m3.1 2 (nI (gP L W P g 2)))
  have n4 : fI (wA st3 87 (upd (cI st3 87) 2 (nI (gP L W P g 2)))) 79 5 = nI (gN L P g) := (fI_c (wA_n (by decide) _ _) 5).trans n3
  have c4 : cI (wA st3 87 (upd (cI st3 87) 2 (nI (gP L W P g 2)))) 87 2 = nI (gP L W P g 2) := by rw [k87 m3.1, upd_s]
  have c4_0 : cI (wA st3 87 (upd (cI st3 87) 2 (nI (gP L W P g 2)))) 87 0 = nI (gP L W P g 0) := by rw [k87 m3.1, pk_un (by decide)]; exact c3_0
  have c4_1 : cI (wA st3 87 (upd (cI st3 87) 2 (nI (gP L W P g 2)))) 87 1 = nI (gP L W P g 1) := by rw [k87 m3.1, pk_un (by decide)]; exact c3
  have m4 := m.wf k4
  generalize wA st3 87 (upd (cI st3 87) 2 (nI (gP L W P g 2))) = st4 at k4 n4 c4 c4_0 c4_1 m4 ⊢
  have hC : F_X10_cut n st4 (nI (gN L P g)) (nI (W 23)) = some (nI (gT L W P g 3)) := C_cut (by omega) (by omega)
  have t3 : gT L W P g 3 ≤ 99999 := by
    rw [gT_3]
    exact Nat.le_trans (Nat.div_le_self _ _) (by omega)
  have v3 : F_X3_worthOf n st4 (some w) (3 : Int32) (nI (gT L W P g 3)) = some (nI (gP L W P g 3)) := m4.wo hV (by decide) t3 rfl
  have x3 : sS 0 st4 (some 87) (3 : Int32) (nI (gP L W P g 3)) = some (wA st4 87 (upd (cI st4 87) 3 (nI (gP L W P g 3)))) := m4.s87 (by decide) _
  simp only [g79_0 m4.1, g79_1 m4.1, g79_2 m4.1, g79_3 m4.1, m4.2.1, m4.2.2.1, m4.2.2.2.1, m4.2.2.2.2.1.o, m4.2.2.2.2.2.1.o, m4.2.2.2.2.2.2.o, g79_5 m4.1, n4, m4.e3, hC, v3, x3, Option.bind_some]
  have k5 := k4.trans (WF_p m4.1 3 (nI (gP L W P g 3)))
  have n5 : fI (wA st4 87 (upd (cI st4 87) 3 (nI (gP L W P g 3)))) 79 5 = nI (gN L P g) := (fI_c (wA_n (by decide) _ _) 5).trans n4
  have c5 : cI (wA st4 87 (upd (cI st4 87) 3 (nI (gP L W P g 3)))) 87 3 = nI (gP L W P g 3) := by rw [k87 m4.1, upd_s]
  have c5_0 : cI (wA st4 87 (upd (cI st4 87) 3 (nI (gP L W P g 3)))) 87 0 = nI (gP L W P g 0) := by rw [k87 m4.1, pk_un (by decide)]; exact c4_0
  have c5_1 : cI (wA st4 87 (upd (cI st4 87) 3 (nI (gP L W P g 3)))) 87 1 = nI (gP L W P g 1) := by rw [k87 m4.1, pk_un (by decide)]; exact c4_1
  have c5_2 : cI (wA st4 87 (upd (cI st4 87) 3 (nI (gP L W P g 3)))) 87 2 = nI (gP L W P g 2) := by rw [k87 m4.1, pk_un (by decide)]; exact c4
  have m5 := m.wf k5
  generalize wA st4 87 (upd (cI st4 87) 3 (nI (gP L W P g 3))) = st5 at k5 n5 c5 c5_0 c5_1 c5_2 m5 ⊢
  have hC : F_X10_cut n st5 (nI (gN L P g)) (nI (W 24)) = some (nI (gN L P g / W 24)) := C_cut (by omega) (by omega)
  have q4 : (if nI (P.c g 4) = (1 : Int32) then some (nI (gN L P g / W 24)) else some (0 : Int32)) = some (nI (gT L W P g 4)) := by
    rw [gT_4]
    by_cases h : P.c g 4 = 1
    · rw [if_pos h, if_pos (by rw [h]; rfl)]
    · rw [if_neg h, if_neg (fun q => h (by
        have q : nI (P.c g 4) = nI 1 := q
        rwa [nEq (by omega) (by decide)] at q))]
      rfl
  have t4 : gT L W P g 4 ≤ 99999 := by
    have hq := Nat.div_le_self (gN L P g) (W 24)
    rw [gT_4]
    split <;> omega
  have v4 : F_X3_worthOf n st5 (some w) (4 : Int32) (nI (gT L W P g 4)) = some (nI (gP L W P g 4)) := m5.wo hV (by decide) t4 rfl
  have x4 : sS 0 st5 (some 87) (4 : Int32) (nI (gP L W P g 4)) = some (wA st5 87 (upd (cI st5 87) 4 (nI (gP L W P g 4)))) := m5.s87 (by decide) _
  simp only [g79_0 m5.1, g79_1 m5.1, g79_2 m5.1, g79_3 m5.1, m5.2.1, m5.2.2.1, m5.2.2.2.1, m5.2.2.2.2.1.o, m5.2.2.2.2.2.1.o, m5.2.2.2.2.2.2.o, g79_5 m5.1, n5, m5.r4 hJ hg, m5.e4, hC, q4, v4, x4, Option.bind_some]
  have k6 := k5.trans (WF_p m5.1 4 (nI (gP L W P g 4)))
  have n6 : fI (wA st5 87 (upd (cI st5 87) 4 (nI (gP L W P g 4)))) 79 5 = nI (gN L P g) := (fI_c (wA_n (by decide) _ _) 5).trans n5
  have c6 : cI (wA st5 87 (upd (cI st5 87) 4 (nI (gP L W P g 4)))) 87 4 = nI (gP L W P g 4) := by rw [k87 m5.1, upd_s]
  have c6_0 : cI (wA st5 87 (upd (cI st5 87) 4 (nI (gP L W P g 4)))) 87 0 = nI (gP L W P g 0) := by rw [k87 m5.1, pk_un (by decide)]; exact c5_0
  have c6_1 : cI (wA st5 87 (upd (cI st5 87) 4 (nI (gP L W P g 4)))) 87 1 = nI (gP L W P g 1) := by rw [k87 m5.1, pk_un (by decide)]; exact c5_1
  have c6_2 : cI (wA st5 87 (upd (cI st5 87) 4 (nI (gP L W P g 4)))) 87 2 = nI (gP L W P g 2) := by rw [k87 m5.1, pk_un (by decide)]; exact c5_2
  have c6_3 : cI (wA st5 87 (upd (cI st5 87) 4 (nI (gP L W P g 4)))) 87 3 = nI (gP L W P g 3) := by rw [k87 m5.1, pk_un (by decide)]; exact c5
  have m6 := m.wf k6
  generalize wA st5 87 (upd (cI st5 87) 4 (nI (gP L W P g 4))) = st6 at k6 n6 c6 c6_0 c6_1 c6_2 c6_3 m6 ⊢
  have bE1 := hI.2.2.1 (10 + gO L P g)
  have bE2 := hI.2.2.1 (10 + gA L P g)
  have hE1 : F_X4_height n st6 (some a) (nI (gO L P g)) = some (nI (L.r (10 + gO L P g))) := C_height m6.2.2.2.2.1 (by omega)
  have hE2 : F_X4_height n st6 (some a) (nI (gA L P g)) = some (nI (L.r (10 + gA L P g))) := C_height m6.2.2.2.2.1 (by omega)
  have hM : imax (0 : Int32) (nI (L.r (10 + gO L P g)) - nI (L.r (10 + gA L P g))) = nI (L.r (10 + gO L P g) - L.r (10 + gA L P g)) := imax0 (by omega) (by omega)
  have hC : F_X10_cut n st6 (nI (L.r (10 + gO L P g) - L.r (10 + gA L P g))) (nI (W 25)) = some (nI (gT L W P g 5)) := C_cut (by omega) (by omega)
  have t5 : gT L W P g 5 ≤ 99999 := by
    rw [gT_5]
    exact Nat.le_trans (Nat.div_le_self _ _) (by omega)
  have v5 : F_X3_worthOf n st6 (some w) (5 : Int32) (nI (gT L W P g 5)) = some (nI (gP L W P g 5)) := m6.wo hV (by decide) t5 rfl
  have x5 : sS 0 st6 (some 87) (5 : Int32) (nI (gP L W P g 5)) = some (wA st6 87 (upd (cI st6 87) 5 (nI (gP L W P g 5)))) := m6.s87 (by decide) _
  simp only [g79_0 m6.1, g79_1 m6.1, g79_2 m6.1, g79_3 m6.1, m6.2.1, m6.2.2.1, m6.2.2.2.1, m6.2.2.2.2.1.o, m6.2.2.2.2.2.1.o, m6.2.2.2.2.2.2.o, hE1, hE2, hM, m6.e5, hC, v5, x5, Option.bind_some]
  have k7 := k6.trans (WF_p m6.1 5 (nI (gP L W P g 5)))
  have n7 : fI (wA st6 87 (upd (cI st6 87) 5 (nI (gP L W P g 5)))) 79 5 = nI (gN L P g) := (fI_c (wA_n (by decide) _ _) 5).trans n6
  have c7 : cI (wA st6 87 (upd (cI st6 87) 5 (nI (gP L W P g 5)))) 87 5 = nI (gP L W P g 5) := by rw [k87 m6.1, upd_s]
  have c7_0 : cI (wA st6 87 (upd (cI st6 87) 5 (nI (gP L W P g 5)))) 87 0 = nI (gP L W P g 0) := by rw [k87 m6.1, pk_un (by decide)]; exact c6_0
  have c7_1 : cI (wA st6 87 (upd (cI st6 87) 5 (nI (gP L W P g 5)))) 87 1 = nI (gP L W P g 1) := by rw [k87 m6.1, pk_un (by decide)]; exact c6_1
  have c7_2 : cI (wA st6 87 (upd (cI st6 87) 5 (nI (gP L W P g 5)))) 87 2 = nI (gP L W P g 2) := by rw [k87 m6.1, pk_un (by decide)]; exact c6_2
  have c7_3 : cI (wA st6 87 (upd (cI st6 87) 5 (nI (gP L W P g 5)))) 87 3 = nI (gP L W P g 3) := by rw [k87 m6.1, pk_un (by decide)]; exact c6_3
  have c7_4 : cI (wA st6 87 (upd (cI st6 87) 5 (nI (gP L W P g 5)))) 87 4 = nI (gP L W P g 4) := by rw [k87 m6.1, pk_un (by decide)]; exact c6
  have m7 := m.wf k7
  generalize wA st6 87 (upd (cI st6 87) 5 (nI (gP L W P g 5))) = st7 at k7 n7 c7 c7_0 c7_1 c7_2 c7_3 c7_4 m7 ⊢
  have hp : ∀ i, i < 6 → cI st7 87 i = nI (gP L W P g i) := by
    intro i hi
    match i, hi with
    | 0, _ => exact c7_0
    | 1, _ => exact c7_1
    | 2, _ => exact c7_2
    | 3, _ => exact c7_3
    | 4, _ => exact c7_4
    | 5, _ => exact c7
  obtain ⟨st8, e1, e2, e3, e4, e5, e6, e7⟩ := C_aim (n := n) m7 hI hV hJ hg (gP_le L W P g) hp hn
  simp only [o79 m7.1, e1, Option.bind_some]
  exact ⟨st8, rfl, k7.trans e2, fun i hi => by rw [e3, hp i hi], e4, e5.trans n7, e6, e7⟩
end WE

/-! TABLE, POINTS: the class, and both -/
def TV (st : xS) (g : Nat → Nat → Int) : Prop := ∀ s, s < 8 → cI st 100 s = zI (g 3 s) ∧ cI st 101 s = zI (g 0 s) ∧ cI st 102 s = zI (g 1 s) ∧ cI st 103 s = zI (g 2 s)
def tF (a : Nat) : Prop := 100 ≤ a ∧ a ≤ 103
def tA (g : Nat → Nat → Int) (s : Nat) (a b : Int) : Nat → Nat → Int := fun w q => if q = s then g w q + (if w = 0 then pt (a - b) else if w = 1 then a - b else if w = 2 then a else 1) else g w q
section RA
variable {st st1 : xS} {n : Nat} {G : Gh} {I : Im} {x y : Int32}
theorem tF_A (hS : Sh st) {x : Nat} (hx : tF x) (f : Nat → Int32) : Only tF st (wA st x f) := (Only.wA hS x f).mono fun a h => by rw [h]; exact hx
theorem TV.o {g : Nat → Nat → Int} (h : TV st g) {S : Nat → Prop} (o : Only S st st1) (hS : ∀ a, tF a → ¬ S a) : TV st1 g := by
  unfold TV
  rw [cI_o o (hS 100 (by unfold tF; omega)), cI_o o (hS 101 (by unfold tF; omega)), cI_o o (hS 102 (by unfold tF; omega)), cI_o o (hS 103 (by unfold tF; omega))]
  exact h
theorem C_tadd (hS : Sh st) {g : Nat → Nat → Int} (h : TV st g) {s : Nat} (hs : s < 8) {a b : Int} (h1 : -2147483648 ≤ a - b) (h2 : a - b < 2147483648) : ∃ st', F_X8_add n st (some 99) (nI s) (zI a) (zI b) = some st' ∧ Only tF st st' ∧ TV st' (tA g s a b) := by
  obtain ⟨e0, e1, e2, e3⟩ := h s hs
  have r0 : aI st (some 100) (nI s) = some (zI (g 3 s)) := by rw [a100 hS, if_pos (ixT hs (by decide)), nIc (by omega), e0]
  have w0 : sS 0 st (some 100) (nI s) (zI (g 3 s) + (1 : Int32)) = some (wA st 100 (upd (cI st 100) s (zI (g 3 s + 1)))) := by rw [w100 hS, if_pos (ixT hs (by decide)), nIc (by omega), show (1 : Int32) = zI 1 from rfl, zAdd]
  have o0 := tF_A hS (x := 100) (by unfold tF; omega) (upd (cI st 100) s (zI (g 3 s + 1)))
  have k0 := k100 hS (upd (cI st 100) s (zI (g 3 s + 1)))
  have k01 : cI (wA st 100 (upd (cI st 100) s (zI (g 3 s + 1)))) 101 = cI st 101 := cI_c (wA_n (by decide) _ _)
  have k02 : cI (wA st 100 (upd (cI st 100) s (zI (g 3 s + 1)))) 102 = cI st 102 := cI_c (wA_n (by decide) _ _)
  have k03 : cI (wA st 100 (upd (cI st 100) s (zI (g 3 s + 1)))) 103 = cI st 103 := cI_c (wA_n (by decide) _ _)
  generalize hA : wA st 100 (upd (cI st 100) s (zI (g 3 s + 1))) = sa at *
  have Sa := o0.2.2.1
  have r1 : aI sa (some 101) (nI s) = some (zI (g 0 s)) := by rw [a101 Sa, if_pos (ixT hs (by decide)), nIc (by omega), k01, e1]
  have w1 : sS 0 sa (some 101) (nI s) (zI (g 0 s + pt (a - b))) = some (wA sa 101 (upd (cI st 101) s (zI (g 0 s + pt (a - b))))) := by rw [w101 Sa, if_pos (ixT hs (by decide)), nIc (by omega), k01]
  have o1 := tF_A Sa (x := 101) (by unfold tF; omega) (upd (cI st 101) s (zI (g 0 s + pt (a - b))))
  have k1 := k101 Sa (upd (cI st 101) s (zI (g 0 s + pt (a - b))))
  have k10 : cI (wA sa 101 (upd (cI st 101) s (zI (g 0 s + pt (a - b))))) 100 = cI sa 100 := cI_c (wA_n (by decide) _ _)
  have k12 : cI (wA sa 101 (upd (cI st 101) s (zI (g 0 s + pt (a - b))))) 102 = cI sa 102 := cI_c (wA_n (by decide) _ _)
  have k13 : cI (wA sa 101 (upd (cI st 101) s (zI (g 0 s + pt (a - b))))) 103 = cI sa 103 := cI_c (wA_n (by decide) _ _)
  generalize hB : wA sa 101 (upd (cI st 101) s (zI (g 0 s + pt (a - b)))) = sb at *
  have Sb := o1.2.2.1
  have r2 : aI sb (some 102) (nI s) = some (zI (g 1 s)) := by rw [a102 Sb, if_pos (ixT hs (by decide)), nIc (by omega), k12, k02, e2]
  have w2 : sS 0 sb (some 102) (nI s) (zI (g 1 s + (a - b))) = some (wA sb 102 (upd (cI st 102) s (zI (g 1 s + (a - b))))) := by rw [w102 Sb, if_pos (ixT hs (by decide)), nIc (by omega), k12, k02]
  have o2 := tF_A Sb (x := 102) (by unfold tF; omega) (upd (cI st 102) s (zI (g 1 s + (a - b))))
  have k2 := k102 Sb (upd (cI st 102) s (zI (g 1 s + (a - b))))
  have k20 : cI (wA sb 102 (upd (cI st 102) s (zI (g 1 s + (a - b))))) 100 = cI sb 100 := cI_c (wA_n (by decide) _ _)
  have k21 : cI (wA sb 102 (upd (cI st 102) s (zI (g 1 s + (a - b))))) 101 = cI sb 101 := cI_c (wA_n (by decide) _ _)
  have k23 : cI (wA sb 102 (upd (cI st 102) s (zI (g 1 s + (a - b))))) 103 = cI sb 103 := cI_c (wA_n (by decide) _ _)
  generalize hC : wA sb 102 (upd (cI st 102) s (zI (g 1 s + (a - b)))) = sc at *
  have Sc := o2.2.2.1
  have r3 : aI sc (some 103) (nI s) = some (zI (g 2 s)) := by rw [a103 Sc, if_pos (ixT hs (by decide)), nIc (by omega), k23, k13, k03, e3]
  have w3 : sS 0 sc (some 103) (nI s) (zI (g 2 s + a)) = some (wA sc 103 (upd (cI st 103) s (zI (g 2 s + a)))) := by rw [w103 Sc, if_pos (ixT hs (by decide)), nIc (by omega), k23, k13, k03]
  have o3 := tF_A Sc (x := 103) (by unfold tF; omega) (upd (cI st 103) s (zI (g 2 s + a)))
  have k3 := k103 Sc (upd (cI st 103) s (zI (g 2 s + a)))
  have k30 : cI (wA sc 103 (upd (cI st 103) s (zI (g 2 s + a)))) 100 = cI sc 100 := cI_c (wA_n (by decide) _ _)
  have k31 : cI (wA sc 103 (upd (cI st 103) s (zI (g 2 s + a)))) 101 = cI sc 101 := cI_c (wA_n (by decide) _ _)
  have k32 : cI (wA sc 103 (upd (cI st 103) s (zI (g 2 s + a)))) 102 = cI sc 102 := cI_c (wA_n (by decide) _ _)
  have a1 : (nI s < (0 : Int32)) = False := eq_false (nI_pos (by omega))
  have a2 : ((8 : Int32) ≤ nI s) = False := eq_false (nI_ge (a := s) (b := 8) (by omega) (by omega))
  refine ⟨_, ?_, (o0.trans o1).trans (o2.trans o3), fun q hq => ?_⟩
  · unfold F_X8_add
    simp only [↓reduceIte, a1, a2, zSub, ↓bnd (g99_0 hS), ↓bnd (r0), ↓bnd (w0), ↓bnd (g99_1 Sa), ↓bnd (r1), ↓bnd (C_pointsBy h1 h2), zAdd, ↓bnd (w1), ↓bnd (g99_2 Sb), ↓bnd (r2), ↓bnd (w2), ↓bnd (g99_3 Sc), ↓bnd (r3), ↓bnd (w3)]
    rfl
  · rw [k30, k31, k32, k3, k20, k21, k2, k10, k1, k0]
    unfold tA
    by_cases hqs : q = s
    · subst hqs
      simp only [upd_s, nn0_0, nn0_1, nn0_2, nn0_3, nn1_0, nn1_1, nn1_2, nn1_3, nn2_0, nn2_1, nn2_2, nn2_3, nn3_0, nn3_1, nn3_2, nn3_3, nn4_0, nn4_1, nn4_2, nn4_3, nn5_0, nn5_1, nn5_2, nn5_3, mm0_0, mm0_1, mm0_2, mm0_3, mm1_0, mm1_1, mm1_2, mm1_3, mm2_0, mm2_1, mm2_2, mm2_3, mm3_0, mm3_1, mm3_2, mm3_3, mm4_0, mm4_1, mm4_2, mm4_3, mm5_0, mm5_1, mm5_2, mm5_3, if_true, if_false, ↓reduceIte, and_self]
    · simp only [hqs, if_false]
      rw [pk_un hqs, pk_un hqs, pk_un hqs, pk_un hqs]
      exact h q hq
theorem C_tclear (hS : Sh st) (hn : 3000 ≤ n) : ∃ st', F_X8_clear n st (some 99) = some st' ∧ Only tF st st' ∧ TV st' (fun _ _ => 0) := by
  have hl : ∃ st', F_X8_clear_L2 n n st (some 99) (nI 0) = some st' ∧ Only tF st st' ∧ TV st' (fun _ _ => 0) := by
    refine loop_ex (fun m (s : xS × Int32) => F_X8_clear_L2 n m s.1 (some 99) s.2) (fun i s => Only tF st s.1 ∧ (∀ q, q < i → cI s.1 100 q = zI 0 ∧ cI s.1 101 q = zI 0 ∧ cI s.1 102 q = zI 0 ∧ cI s.1 103 q = zI 0) ∧ s.2 = nI i) 8 (fun r => ∃ st', r = some st' ∧ Only tF st st' ∧ TV st' (fun _ _ => 0)) ?_ ?_ n (by omega) (st, nI 0) ⟨Only.refl hS, fun q hq => by omega, rfl⟩
    · rintro m i ⟨s, z⟩ hi ⟨h1, h2, h3⟩
      dsimp only at h1 h2 h3 ⊢
      subst h3
      have S := h1.2.2.1
      have w0 : sS 0 s (some 100) (nI i) (0 : Int32) = some (wA s 100 (upd (cI s 100) i (zI 0))) := by rw [w100 S, if_pos (ixT hi (by decide)), nIc (by omega)]; rfl
      have o0 := tF_A S (x := 100) (by unfold tF; omega) (upd (cI s 100) i (zI 0))
      have k0 := k100 S (upd (cI s 100) i (zI 0))
      have k01 : cI (wA s 100 (upd (cI s 100) i (zI 0))) 101 = cI s 101 := cI_c (wA_n (by decide) _ _)
      have k02 : cI (wA s 100 (upd (cI s 100) i (zI 0))) 102 = cI s 102 := cI_c (wA_n (by decide) _ _)
      have k03 : cI (wA s 100 (upd (cI s 100) i (zI 0))) 103 = cI s 103 := cI_c (wA_n (by decide) _ _)
      generalize hA : wA s 100 (upd (cI s 100) i (zI 0)) = sa at *
      have Sa := o0.2.2.1
      have w1 : sS 0 sa (some 101) (nI i) (0 : Int32) = some (wA sa 101 (upd (cI s 101) i (zI 0))) := by rw [w101 Sa, if_pos (ixT hi (by decide)), nIc (by omega), k01]; rfl
      have o1 := tF_A Sa (x := 101) (by unfold tF; omega) (upd (cI s 101) i (zI 0))
      have k1 := k101 Sa (upd (cI s 101) i (zI 0))
      have k10 : cI (wA sa 101 (upd (cI s 101) i (zI 0))) 100 = cI sa 100 := cI_c (wA_n (by decide) _ _)
      have k12 : cI (wA sa 101 (upd (cI s 101) i (zI 0))) 102 = cI sa 102 := cI_c (wA_n (by decide) _ _)
      have k13 : cI (wA sa 101 (upd (cI s 101) i (zI 0))) 103 = cI sa 103 := cI_c (wA_n (by decide) _ _)
      generalize hB : wA sa 101 (upd (cI s 101) i (zI 0)) = sb at *
      have Sb := o1.2.2.1
      have w2 : sS 0 sb (some 102) (nI i) (0 : Int32) = some (wA sb 102 (upd (cI s 102) i (zI 0))) := by rw [w102 Sb, if_pos (ixT hi (by decide)), nIc (by omega), k12, k02]; rfl
      have o2 := tF_A Sb (x := 102) (by unfold tF; omega) (upd (cI s 102) i (zI 0))
      have k2 := k102 Sb (upd (cI s 102) i (zI 0))
      have k20 : cI (wA sb 102 (upd (cI s 102) i (zI 0))) 100 = cI sb 100 := cI_c (wA_n (by decide) _ _)
      have k21 : cI (wA sb 102 (upd (cI s 102) i (zI 0))) 101 = cI sb 101 := cI_c (wA_n (by decide) _ _)
      have k23 : cI (wA sb 102 (upd (cI s 102) i (zI 0))) 103 = cI sb 103 := cI_c (wA_n (by decide) _ _)
      generalize hC : wA sb 102 (upd (cI s 102) i (zI 0)) = sc at *
      have Sc := o2.2.2.1
      have w3 : sS 0 sc (some 103) (nI i) (0 : Int32) = some (wA sc 103 (upd (cI s 103) i (zI 0))) := by rw [w103 Sc, if_pos (ixT hi (by decide)), nIc (by omega), k23, k13, k03]; rfl
      have o3 := tF_A Sc (x := 103) (by unfold tF; omega) (upd (cI s 103) i (zI 0))
      have k3 := k103 Sc (upd (cI s 103) i (zI 0))
      have k30 : cI (wA sc 103 (upd (cI s 103) i (zI 0))) 100 = cI sc 100 := cI_c (wA_n (by decide) _ _)
      have k31 : cI (wA sc 103 (upd (cI s 103) i (zI 0))) 101 = cI sc 101 := cI_c (wA_n (by decide) _ _)
      have k32 : cI (wA sc 103 (upd (cI s 103) i (zI 0))) 102 = cI sc 102 := cI_c (wA_n (by decide) _ _)
      refine ⟨(wA sc 103 (upd (cI s 103) i (zI 0)), nI (i + 1)), ⟨(h1.trans o0).trans ((o1.trans o2).trans o3), fun q hq => ?_, rfl⟩, ?_⟩
      · dsimp only
        rw [k30, k31, k32, k3, k20, k21, k2, k10, k1, k0]
        by_cases hqs : q = i
        · subst hqs
          simp only [upd_s, and_self]
        · rw [pk_un hqs, pk_un hqs, pk_un hqs, pk_un hqs]
          exact h2 q (by omega)
      · dsimp only
        rw [F_X8_clear_L2]
        dsimp only
        simp (disch := omega) only [l8, ↓Option.bind_some, ↓reduceIte, ↓bnd (g99_0 S), ↓bnd (w0), ↓bnd (g99_1 Sa), ↓bnd (w1), ↓bnd (g99_2 Sb), ↓bnd (w2), ↓bnd (g99_3 Sc), ↓bnd (w3), nLe_f, nI_1]
    · rintro m ⟨s, z⟩ ⟨h1, h2, h3⟩
      dsimp only at h1 h2 h3 ⊢
      subst h3
      refine ⟨s, ?_, h1, h2⟩
      rw [F_X8_clear_L2]
      dsimp only
      simp (disch := omega) only [l8, ↓reduceIte, nLe_t]
  obtain ⟨st', e, o⟩ := hl
  have e : F_X8_clear_L2 n n st (some 99) (0 : Int32) = some st' := e
  refine ⟨st', ?_, o⟩
  unfold F_X8_clear
  simp only [↓bnd (e)]
/-- the whole table -/
theorem C_fill (hR : Rel st G I) (x y : Int32) (hn : 3000 ≤ n) : ∃ st', F_X10_fillTable n st (some 64) x y = some st' ∧ Only QC st st' ∧ TV st' (tT G x y) := by
  have hS := hR.sh
  have b := hR.inv.n3
  have c := pc_le G x y
  have tq : ∀ a, tF a → QC a := fun a h => by unfold tF at h; unfold QC; omega
  obtain ⟨s1, e1, o1, v1⟩ := C_tclear (n := n) hS hn
  have q1 : Only QC st s1 := o1.mono tq
  have R1 := hR.qc q1
  obtain ⟨s2, e2, o2, hp⟩ := C_pick R1 x y hn
  have q2 : Only QC s1 s2 := o2.mono fun a h => by unfold QC; omega
  have R2 := R1.qc q2
  have v2 : TV s2 (fun _ _ => 0) := v1.o o2 (fun a h => by unfold tF at h; omega)
  have hl : ∃ st', F_X10_fillTable_L17 n n s2 (some 64) (nI (pc G x y)) (nI 0) = some st' ∧ Only QC st st' ∧ TV st' (tT G x y) := by
    refine loop_ex (fun m (s : xS × Int32) => F_X10_fillTable_L17 n m s.1 (some 64) (nI (pc G x y)) s.2) (fun i s => Only tF s2 s.1 ∧ TV s.1 (fun w q => iS (fun i => mt G w q (pf G x y i)) i) ∧ s.2 = nI i) (pc G x y) (fun r => ∃ st', r = some st' ∧ Only QC st st' ∧ TV st' (tT G x y)) ?_ ?_ n (by omega) (s2, nI 0) ⟨Only.refl R2.sh, v2, rfl⟩
    · rintro m i ⟨s, z⟩ hi ⟨h1, h2, h3⟩
      dsimp only at h1 h2 h3 ⊢
      subst h3
      have Rs := R2.qc (h1.mono tq)
      have S := Rs.sh
      have t := hR.inv.nt (pf_lt hi)
      unfold NtI at t
      have hps : ∀ i, i < pc G x y → cI s 104 i = nI (pf G x y i) := by rw [cI_o h1 (by unfold tF; omega)]; exact hp
      have e3 : F_X10_pickedOf n s (some 64) (nI i) (3 : Int32) = some (zI ((G.nt (pf G x y i) 3 : Nat) : Int)) := C_pickedOf Rs hps hi (show 3 < 10 by decide)
      have e4 : F_X10_pickedOf n s (some 64) (nI i) (4 : Int32) = some (zI ((G.nt (pf G x y i) 4 : Nat) : Int)) := C_pickedOf Rs hps hi (show 4 < 10 by decide)
      have e0 : F_X10_pickedOf n s (some 64) (nI i) (0 : Int32) = _ := C_pickedOf Rs hps hi (show 0 < 10 by decide)
      obtain ⟨s3, f3, o3, v3⟩ := C_tadd (n := n) S h2 (s := G.nt (pf G x y i) 0) t.1 (a := ((G.nt (pf G x y i) 3 : Nat) : Int)) (b := ((G.nt (pf G x y i) 4 : Nat) : Int)) (by omega) (by omega)
      have Rs3 := Rs.qc (o3.mono tq)
      have S3 := Rs3.sh
      have hps3 : ∀ i, i < pc G x y → cI s3 104 i = nI (pf G x y i) := by rw [cI_o o3 (by unfold tF; omega)]; exact hps
      have e1 : F_X10_pickedOf n s3 (some 64) (nI i) (1 : Int32) = _ := C_pickedOf Rs3 hps3 hi (show 1 < 10 by decide)
      obtain ⟨s4, f4, o4, v4⟩ := C_tadd (n := n) S3 v3 (s := G.nt (pf G x y i) 1) t.2.1 (a := ((G.nt (pf G x y i) 4 : Nat) : Int)) (b := ((G.nt (pf G x y i) 3 : Nat) : Int)) (by omega) (by omega)
      refine ⟨(s4, nI (i + 1)), ⟨(h1.trans o3).trans o4, fun q hq => ?_, rfl⟩, ?_⟩
      · have key : ∀ w, w < 4 → tA (tA (fun w q => iS (fun i => mt G w q (pf G x y i)) i) (G.nt (pf G x y i) 0) ((G.nt (pf G x y i) 3 : Nat) : Int) ((G.nt (pf G x y i) 4 : Nat) : Int)) (G.nt (pf G x y i) 1) ((G.nt (pf G x y i) 4 : Nat) : Int) ((G.nt (pf G x y i) 3 : Nat) : Int) w q = iS (fun i => mt G w q (pf G x y i)) (i + 1) := by
          intro w hw
          have t3 := t.2.2.1
          have hN : iS (fun i => mt G w q (pf G x y i)) (i + 1) = iS (fun i => mt G w q (pf G x y i)) i + mt G w q (pf G x y i) := rfl
          rw [hN]
          unfold tA
          by_cases q1 : q = G.nt (pf G x y i) 1
          · have q0 : ¬ q = G.nt (pf G x y i) 0 := fun h => t3 (h.symm.trans q1)
            have q2 : ¬ G.nt (pf G x y i) 0 = q := fun h => q0 h.symm
            have hm : mt G w q (pf G x y i) = (if w = 0 then pt (((G.nt (pf G x y i) 4 : Nat) : Int) - ((G.nt (pf G x y i) 3 : Nat) : Int)) else if w = 1 then (((G.nt (pf G x y i) 4 : Nat) : Int) - ((G.nt (pf G x y i) 3 : Nat) : Int)) else if w = 2 then ((G.nt (pf G x y i) 4 : Nat) : Int) else 1) := by
              unfold mt mg
              simp only [q1.symm, q2, if_false, or_true, if_true, Int.neg_sub]
            rw [if_pos q1, if_neg q0, hm]
          · rw [if_neg q1]
            by_cases q0 : q = G.nt (pf G x y i) 0
            · have hm : mt G w q (pf G x y i) = (if w = 0 then pt (((G.nt (pf G x y i) 3 : Nat) : Int) - ((G.nt (pf G x y i) 4 : Nat) : Int)) else if w = 1 then (((G.nt (pf G x y i) 3 : Nat) : Int) - ((G.nt (pf G x y i) 4 : Nat) : Int)) else if w = 2 then ((G.nt (pf G x y i) 3 : Nat) : Int) else 1) := by
                unfold mt mg
                simp only [q0, true_or, if_true]
              rw [if_pos q0, hm]
            · have q2 : ¬ (G.nt (pf G x y i) 0 = q ∨ G.nt (pf G x y i) 1 = q) := fun h => h.elim (fun h => q0 h.symm) (fun h => q1 h.symm)
              have hm : mt G w q (pf G x y i) = 0 := by
                unfold mt
                rw [if_neg q2]
              rw [if_neg q0, hm, Int.add_zero]
        have v := v4 q hq
        rw [key 0 (by decide), key 1 (by decide), key 2 (by decide), key 3 (by decide)] at v
        exact v
      · dsimp only
        rw [F_X10_fillTable_L17]
        dsimp only
        simp (disch := omega) only [↓Option.bind_some, ↓reduceIte, ↓bnd (o64 S), ↓bnd (e3), ↓bnd (e4), ↓bnd (g64_5 S), ↓bnd (e0), ↓bnd (o99 S), ↓bnd (f3), ↓bnd (g64_5 S3), ↓bnd (o64 S3), ↓bnd (e1), ↓bnd (o99 S3), ↓bnd (f4), nLe_f, nI_1]
    · rintro m ⟨s, z⟩ ⟨h1, h2, h3⟩
      dsimp only at h1 h2 h3 ⊢
      subst h3
      refine ⟨s, ?_, (q1.trans q2).trans (h1.mono tq), fun q hq => ?_⟩
      · rw [F_X10_fillTable_L17]
        dsimp only
        simp (disch := omega) only [↓reduceIte, nLe_t]
      · have v := h2 q hq
        dsimp only at v
        rw [yS_pf G x y (mt G 0 q), yS_pf G x y (mt G 1 q), yS_pf G x y (mt G 2 q), yS_pf G x y (mt G 3 q)] at v
        exact v
  obtain ⟨st', e, o⟩ := hl
  have e : F_X10_fillTable_L17 n n s2 (some 64) (nI (pc G x y)) (0 : Int32) = some st' := e
  refine ⟨st', ?_, o⟩
  unfold F_X10_fillTable
  simp only [↓bnd (g64_5 hS), ↓bnd (o99 hS), ↓bnd (e1), ↓bnd (o64 R1.sh), ↓bnd (e2), ↓bnd (e)]
theorem C_ahead (hS : Sh st) {T : Nat → Nat → Int} (h : TV st T) (hb : ∀ w s, -720 ≤ T w s ∧ T w s ≤ 720) {s t : Nat} (hs : s < 8) (ht : t < 8) : F_X8_isAhead n st (some 99) (nI s) (nI t) = some (bI (ahd T s t)) := by
  have v1 : ∀ q, q < 8 → F_X10_valueAt n st (some 101) (nI q) = some (zI (T 0 q)) := fun q hq => by rw [C_val (c101 hS) hq (by decide), (h q hq).2.1]
  have v2 : ∀ q, q < 8 → F_X10_valueAt n st (some 102) (nI q) = some (zI (T 1 q)) := fun q hq => by rw [C_val (c102 hS) hq (by decide), (h q hq).2.2.1]
  have v3 : ∀ q, q < 8 → F_X10_valueAt n st (some 103) (nI q) = some (zI (T 2 q)) := fun q hq => by rw [C_val (c103 hS) hq (by decide), (h q hq).2.2.2]
  have b0s := hb 0 s
  have b0t := hb 0 t
  have b1s := hb 1 s
  have b1t := hb 1 t
  have b2s := hb 2 s
  have b2t := hb 2 t
  have x0 : (zI (T 0 s) = zI (T 0 t)) = (T 0 s = T 0 t) := zEq (by omega) (by omega) (by omega) (by omega)
  have x1 : (zI (T 1 s) = zI (T 1 t)) = (T 1 s = T 1 t) := zEq (by omega) (by omega) (by omega) (by omega)
  have x2 : (zI (T 2 s) = zI (T 2 t)) = (T 2 s = T 2 t) := zEq (by omega) (by omega) (by omega) (by omega)
  have y0 : (zI (T 0 s) ≤ zI (T 0 t)) = (T 0 s ≤ T 0 t) := zLe (by omega) (by omega) (by omega) (by omega)
  have y1 : (zI (T 1 s) ≤ zI (T 1 t)) = (T 1 s ≤ T 1 t) := zLe (by omega) (by omega) (by omega) (by omega)
  have y2 : (zI (T 2 s) ≤ zI (T 2 t)) = (T 2 s ≤ T 2 t) := zLe (by omega) (by omega) (by omega) (by omega)
  have y3 : (nI t ≤ nI s) = (t ≤ s) := nLe (by omega) (by omega)
  have fin : ∀ (a b : Prop) [Decidable a] [Decidable b], (b ↔ ¬ a) → (((if a then some (0 : Int32) else some (1 : Int32)) : Option Int32).bind fun q => (rz q).bind fun v => some v) = some (bI b) := by
    intro a b _ _ hab
    by_cases ha : a
    · rw [if_pos ha, bI_f (fun hb => hab.mp hb ha)]; rfl
    · rw [if_neg ha, bI_t (hab.mpr ha)]; rfl
  unfold F_X8_isAhead
  simp only [↓Option.bind_some, ↓bnd (g99_1 hS), ↓bnd (g99_2 hS), ↓bnd (g99_3 hS), ↓bnd (v1 s hs), ↓bnd (v1 t ht), ↓bnd (v2 s hs), ↓bnd (v2 t ht), ↓bnd (v3 s hs), ↓bnd (v3 t ht), x0, x1, x2, y0, y1, y2, y3]
  by_cases c0 : T 0 s = T 0 t
  · rw [if_pos c0]
    by_cases c1 : T 1 s = T 1 t
    · rw [if_pos c1]
      by_cases c2 : T 2 s = T 2 t
      · rw [if_pos c2]
        exact fin _ _ (by unfold ahd; rw [if_pos c0, if_pos c1, if_pos c2]; omega)
      · rw [if_neg c2]
        exact fin _ _ (by unfold ahd; rw [if_pos c0, if_pos c1, if_neg c2]; omega)
    · rw [if_neg c1]
      exact fin _ _ (by unfold ahd; rw [if_pos c0, if_neg c1]; omega)
  · rw [if_neg c0]
    exact fin _ _ (by unfold ahd; rw [if_neg c0]; omega)
theorem C_placeOf (hS : Sh st) {T : Nat → Nat → Int} (h : TV st T) (hb : ∀ w s, -720 ≤ T w s ∧ T w s ≤ 720) {s : Nat} (hs : s < 8) (hn : 3000 ≤ n) : F_X8_placeOf n st (some 99) (nI s) = some (nI (plN T s 8)) := by
  have v : ∀ q, q < 8 → F_X10_valueAt n st (some 100) (nI q) = some (zI (T 3 q)) := fun q hq => by rw [C_val (c100 hS) hq (by decide), (h q hq).1]
  have hl : F_X8_placeOf_L4 n n st (some 99) (nI s) (nI 0) (nI 0) = some (nI (plN T s 8)) := by
    refine loop_run (fun m (q : Int32 × Int32) => F_X8_placeOf_L4 n m st (some 99) (nI s) q.1 q.2) (fun o => (nI (plN T s o), nI o)) 8 _ (fun m o ho => ?_) (fun m => ?_) n (by omega)
    · dsimp only
      have b3 := hb 3 o
      rw [F_X8_placeOf_L4, plN]
      dsimp only
      simp (disch := omega) only [l8, ↓Option.bind_some, ↓reduceIte, ↓bnd (g99_0 hS), ↓bnd (v o ho), nLe_f, nI_1, zLe0, zGe0, zEq0, zEq1, zEqN]
      by_cases c3 : T 3 o ≤ 0
      · simp only [c3, if_true, Option.bind_some]
      · simp only [c3, if_false, ↓bnd (o99 hS), ↓bnd (C_ahead hS h hb ho hs)]
        by_cases c4 : ahd T o s
        · simp only [bI_T, eq_true c4, i10, if_false, if_true, Option.bind_some, nI_1]
        · simp only [bI_F, eq_false c4, if_false, if_true, Option.bind_some]
    · dsimp only
      rw [F_X8_placeOf_L4]
      dsimp only
      simp (disch := omega) only [l8, ↓reduceIte, nLe_t]
  have hl2 : F_X8_placeOf_L4 n n st (some 99) (nI s) (0 : Int32) (0 : Int32) = _ := hl
  unfold F_X8_placeOf
  simp only [↓bnd (hl2)]
theorem C_sideAt (hS : Sh st) {T : Nat → Nat → Int} (h : TV st T) (hb : ∀ w s, -720 ≤ T w s ∧ T w s ≤ 720) (p : Int32) (hn : 3000 ≤ n) : ∀ m, m ≤ 8 → ∀ k, m < k → F_X8_sideAt_L2 n k st (some 99) p (nI (8 - m)) = some (sdF T p m) := by
  intro m
  induction m with
  | zero =>
    intro _ k hk
    obtain ⟨k, rfl⟩ : ∃ j, k = j + 1 := ⟨k - 1, by omega⟩
    rw [F_X8_sideAt_L2]
    dsimp only
    rw [if_pos (by decide)]
    rfl
  | succ m ih =>
    intro hm k hk
    obtain ⟨k, rfl⟩ : ∃ j, k = j + 1 := ⟨k - 1, by omega⟩
    have e : 8 - (m + 1) = 7 - m := by omega
    have e2 : nI (7 - m) + (1 : Int32) = nI (8 - m) := by rw [nI_1]; congr 1; omega
    have i := ih (by omega) k (by omega)
    have b3 := hb 3 (7 - m)
    have r : aI st (some 100) (nI (7 - m)) = some (zI (T 3 (7 - m))) := by rw [a100 hS, if_pos (ixT (by omega) (by decide)), nIc (by omega), (h _ (by omega)).1]
    rw [e, F_X8_sideAt_L2, sdF]
    dsimp only
    simp (disch := omega) only [l8, ↓Option.bind_some, ↓reduceIte, ↓bnd (g99_0 hS), ↓bnd (r), nLe_f, zLe0, zGe0, zEq0, zEq1, zEqN, e2, i, ↓bnd (o99 hS), ↓bnd (C_placeOf hS h hb (show 7 - m < 8 by omega) hn)]
    split <;> (try split) <;> rfl
theorem E_points (hR : Rel st G I) (x y s : Int32) (hn : 3000 ≤ n) : ∃ v st', F_X10_points n st (some 64) x y s = some (v, st') ∧ Only QC st st' ∧ ∀ st2, Rel st2 G I → F_X11_points n st2 (some 106) x y s = some v := by
  have hS := hR.sh
  unfold F_X10_points
  rcases nCut s 8 with ⟨s, hs, rfl⟩ | hs
  · have xc : F_X10_isSide n st (nI s) = some 1 := by
      have : F_X10_within n st (nI s) (0 : Int32) (7 : Int32) = some 1 := C_in_t (j := s) (b := 7) (by omega) (by decide)
      unfold F_X10_isSide
      simp only [↓bnd (this), rz1, Option.bind_some]
    obtain ⟨st1, e1, o1, v1⟩ := C_fill hR x y hn
    have S1 := o1.2.2.1
    have v : F_X10_valueAt n st1 (some 101) (nI s) = some (zI (tT G x y 0 s)) := by rw [C_val (c101 S1) hs (by decide), (v1 s hs).2.1]
    refine ⟨zI (tT G x y 0 s), st1, ?_, o1, fun st2 r2 => ?_⟩
    · unfold F_X8_pointsOf
      simp only [↓Option.bind_some, ↓reduceIte, ↓bnd (xc), ↓bnd (o64 hS), ↓bnd (e1), ↓bnd (g64_5 S1), ↓bnd (o99 S1), ↓bnd (g99_1 S1), ↓bnd (v), i10]
    · have xm : F_X11_isIn n st2 (nI s) (0 : Int32) (7 : Int32) = some 1 := M_in_t (j := s) (b := 7) (by omega) (by decide)
      have e : F_X11_madeOf n st2 (some 106) x y (nI s) (0 : Int32) = _ := M_made r2.sh r2.mod r2.inv x y hs (show 0 < 4 by decide) hn
      unfold F_X11_points
      simp only [↓Option.bind_some, ↓reduceIte, ↓bnd (xm), ↓bnd (o106 r2.sh), ↓bnd (e), i10]
  · have xc : F_X10_isSide n st s = some 0 := by
      have : F_X10_within n st s (0 : Int32) (7 : Int32) = some 0 := C_in_f (b := 7) hs (by decide)
      unfold F_X10_isSide
      simp only [↓bnd (this), rz0, Option.bind_some]
    refine ⟨-1, st, ?_, Only.refl hS, fun st2 r2 => ?_⟩
    · simp only [↓Option.bind_some, ↓reduceIte, ↓bnd (xc)]
    · have xm : F_X11_isIn n st2 s (0 : Int32) (7 : Int32) = some 0 := M_in_f (b := 7) hs (by decide)
      unfold F_X11_points
      simp only [↓Option.bind_some, ↓reduceIte, ↓bnd (xm)]
theorem M_table (hS : Sh st) (hM : ModB (cI st 107) G) (hI : GhI G) (x y p : Int32) (hn : 3000 ≤ n) : ∀ m, m ≤ 8 → ∀ k, m < k → F_X11_table_L3 n k st (some 106) x y p (nI (8 - m)) = some (sdF (tT G x y) p m) := by
  have ahead : ∀ s, s < 8 → F_X11_table_L31 n n st (some 106) x y p (nI s) (0 : Int32) (0 : Int32) = some (nI (plN (tT G x y) s 8)) := by
    intro s hs
    refine loop_run (fun m (q : Int32 × Int32) => F_X11_table_L31 n m st (some 106) x y p (nI s) q.1 q.2) (fun o => (nI (plN (tT G x y) s o), nI o)) 8 _ (fun m o ho => ?_) (fun m => ?_) n (by omega)
    · dsimp only
      have b3 := tT_b hI x y 3 o
      have e3 : F_X11_madeOf n st (some 106) x y (nI o) (3 : Int32) = _ := M_made hS hM hI x y ho (show 3 < 4 by decide) hn
      rw [F_X11_table_L31, plN]
      dsimp only
      simp (disch := omega) only [l8, ↓Option.bind_some, ↓reduceIte, nLe_f, nEq]
      by_cases c : o = s
      · subst c
        simp only [ahd_s, if_false, if_true, Option.bind_some, nI_1, show nI (plN (tT G x y) o o) + (0 : Int32) = nI (plN (tT G x y) o o) from nAdd _ 0, ite_self]
      · simp (disch := omega) only [c, if_false, ↓bnd (o106 hS), ↓bnd (e3), zLe0, zGe0, zEq0, zEq1, zEqN]
        by_cases c3 : tT G x y 3 o ≤ 0
        · simp only [c3, if_true, Option.bind_some, nI_1, show nI (plN (tT G x y) s o) + (0 : Int32) = nI (plN (tT G x y) s o) from nAdd _ 0]
        · simp only [c3, if_false, ↓bnd (o106 hS), ↓bnd (M_ahead hS hM hI x y ho hs hn)]
          by_cases c4 : ahd (tT G x y) o s
          · simp only [bI_T, eq_true c4, i10, if_false, if_true, Option.bind_some, nI_1]
          · simp only [bI_F, eq_false c4, if_false, if_true, Option.bind_some, nI_1, show nI (plN (tT G x y) s o) + (0 : Int32) = nI (plN (tT G x y) s o) from nAdd _ 0]
    · dsimp only
      rw [F_X11_table_L31]
      dsimp only
      simp (disch := omega) only [l8, ↓reduceIte, nLe_t]
  intro m
  induction m with
  | zero =>
    intro _ k hk
    obtain ⟨k, rfl⟩ : ∃ j, k = j + 1 := ⟨k - 1, by omega⟩
    rw [F_X11_table_L3]
    dsimp only
    rw [if_pos (by decide)]
    rfl
  | succ m ih =>
    intro hm k hk
    obtain ⟨k, rfl⟩ : ∃ j, k = j + 1 := ⟨k - 1, by omega⟩
    have e : 8 - (m + 1) = 7 - m := by omega
    have e2 : nI (7 - m) + (1 : Int32) = nI (8 - m) := by rw [nI_1]; congr 1; omega
    have i := ih (by omega) k (by omega)
    have b3 := tT_b hI x y 3 (7 - m)
    have t3 := tT_3 hI x y (7 - m)
    have e3 : F_X11_madeOf n st (some 106) x y (nI (7 - m)) (3 : Int32) = _ := M_made hS hM hI x y (show 7 - m < 8 by omega) (show 3 < 4 by decide) hn
    have c : (tT G x y 3 (7 - m) = 0) = (tT G x y 3 (7 - m) ≤ 0) := propext (by omega)
    rw [e, F_X11_table_L3, sdF]
    dsimp only
    simp (disch := omega) only [l8, ↓Option.bind_some, ↓reduceIte, ↓bnd (o106 hS), ↓bnd (e3), nLe_f, zLe0, zGe0, zEq0, zEq1, zEqN, c, e2, i, ↓bnd (ahead (7 - m) (by omega))]
    split <;> (try split) <;> rfl
theorem E_table (hR : Rel st G I) (x y p : Int32) (hn : 3000 ≤ n) : ∃ v st', F_X10_table n st (some 64) x y p = some (v, st') ∧ Only QC st st' ∧ ∀ st2, Rel st2 G I → F_X11_table n st2 (some 106) x y p = some v := by
  have hS := hR.sh
  obtain ⟨st1, e1, o1, v1⟩ := C_fill hR x y hn
  have S1 := o1.2.2.1
  have s : F_X8_sideAt_L2 n n st1 (some 99) p (0 : Int32) = _ := C_sideAt (n := n) S1 v1 (fun w s => tT_b hR.inv x y w s) p hn 8 (Nat.le_refl _) n (by omega)
  refine ⟨sdF (tT G x y) p 8, st1, ?_, o1, fun st2 r2 => M_table r2.sh r2.mod r2.inv x y p hn 8 (Nat.le_refl _) n (by omega)⟩
  unfold F_X10_table F_X8_sideAt
  simp only [↓bnd (o64 hS), ↓bnd (e1), ↓bnd (g64_5 S1), ↓bnd (o99 S1), ↓bnd (s)]
end RA

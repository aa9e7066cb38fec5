/-! BOTH, OFF -/
def RRu (G : Gh) (x y : Int32) : Nat → Nat → Int64 := fun a b => lZ (yS G x y (fun k => fXu (tT G x y 3) G a k * fXu (tT G x y 3) G b k) (G.cn 3))
def m8u (G : Gh) (x y : Int32) : Nat := uNn (tT G x y 3) 8
def FitOK (G : Gh) (x y : Int32) : Prop := 0 < m8u G x y ∧ m8u G x y ≤ 6 ∧ ∀ k, k < m8u G x y → ¬ (gSu (m8u G x y) (RRu G x y) k).2 k k = 0
theorem zsu_iS (f : Nat → Int) : ∀ N, zsu N f = iS f N := by
  intro N
  induction N with
  | zero => rfl
  | succ N ih => rw [zsu, iS, ih]
theorem zsu_lec {f : Nat → Int} {c : Int} : ∀ N, (∀ k, k < N → f k ≤ c) → zsu N f ≤ c * N := by
  intro N
  induction N with
  | zero => intro _; show (0 : Int) ≤ c * 0; omega
  | succ N ih =>
    intro h
    have a := ih fun k hk => h k (by omega)
    have b := h N (by omega)
    rw [zsu, Int.natCast_add, Int.mul_add]
    omega
theorem i5u (h : Nat) : (if 1 = h then (1 : Int) else 0) + (if 2 = h then 1 else 0) + (if 3 = h then 1 else 0) + (if 4 = h then 1 else 0) + (if 5 = h then 1 else 0) ≤ 1 := by
  by_cases h1 : 1 = h
  · subst h1; decide
  · by_cases h2 : 2 = h
    · subst h2; decide
    · by_cases h3 : 3 = h
      · subst h3; decide
      · by_cases h4 : 4 = h
        · subst h4; decide
        · rw [if_neg h1, if_neg h2, if_neg h3, if_neg h4]
          split <;> omega
theorem fcu_sq (T : Nat → Int) (G : Gh) {u : Nat} (hu : ¬ u = 0) (k : Nat) : fcu T G u k * fcu T G u k ≤ (if u = uNn T (G.nt k 0) then 1 else 0) + (if u = uNn T (G.nt k 1) then 1 else 0) := by
  unfold fcu
  rw [if_neg hu]
  by_cases h1 : u = uNn T (G.nt k 0)
  · rw [if_pos h1, if_pos h1]
    split <;> decide
  · rw [if_neg h1, if_neg h1]
    by_cases h2 : u = uNn T (G.nt k 1)
    · rw [if_pos h2, if_pos h2]; decide
    · rw [if_neg h2, if_neg h2]; decide
section BO
variable {st st1 : xS} {n : Nat} {G : Gh} {I : Im} {x y : Int32}
theorem XXu_b (G : Gh) (x y : Int32) {u : Nat} (hu : u < 6) (k : Nat) : -1 ≤ XXu G x y u k ∧ XXu G x y u k ≤ 1 := by
  unfold XXu
  by_cases h : inY G x y k
  · rw [if_pos h, fXu_b _ _ hu]
    exact fcu_b _ _ _ _
  · rw [if_neg h]; decide
theorem RRu_g (G : Gh) (x y : Int32) (a b : Nat) : RRu G x y a b = lZ (gmu (G.cn 3) (XXu G x y) a b) := by
  unfold RRu gmu ipu
  rw [zsu_iS]
  unfold yS
  congr 1
  refine iS_congr fun k _ => ?_
  unfold XXu
  by_cases h : inY G x y k
  · rw [if_pos h, if_pos h, if_pos h]
  · rw [if_neg h, if_neg h, if_neg h, Int.zero_mul]
theorem HB_X (hI : GhI G) (x y : Int32) : HBu (G.cn 3) (XXu G x y) := by
  have b := hI.n3
  refine ⟨fun i hi => ?_, ?_, ?_⟩
  · have h := zsu_lec (f := fun k => XXu G x y i k * XXu G x y i k) (c := 1) (G.cn 3) fun k _ => by
      have q := XXu_b G x y hi k
      have := mul_b (A := 1) (B := 1) q q
      omega
    show zsu (G.cn 3) (fun k => XXu G x y i k * XXu G x y i k) ≤ 80
    omega
  · have h := zsu_lec (f := fun k => XXu G x y 1 k * XXu G x y 1 k + XXu G x y 2 k * XXu G x y 2 k + XXu G x y 3 k * XXu G x y 3 k + XXu G x y 4 k * XXu G x y 4 k + XXu G x y 5 k * XXu G x y 5 k) (c := 2) (G.cn 3) fun k _ => by
      unfold XXu
      by_cases h : inY G x y k
      · simp only [if_pos h]
        have e1 := fcu_sq (tT G x y 3) G (u := 1) (by decide) k
        have e2 := fcu_sq (tT G x y 3) G (u := 2) (by decide) k
        have e3 := fcu_sq (tT G x y 3) G (u := 3) (by decide) k
        have e4 := fcu_sq (tT G x y 3) G (u := 4) (by decide) k
        have e5 := fcu_sq (tT G x y 3) G (u := 5) (by decide) k
        have i1 := i5u (uNn (tT G x y 3) (G.nt k 0))
        have i2 := i5u (uNn (tT G x y 3) (G.nt k 1))
        rw [fXu_b _ _ (show 1 < 6 by decide), fXu_b _ _ (show 2 < 6 by decide), fXu_b _ _ (show 3 < 6 by decide), fXu_b _ _ (show 4 < 6 by decide), fXu_b _ _ (show 5 < 6 by decide)]
        generalize fcu (tT G x y 3) G 1 k * fcu (tT G x y 3) G 1 k = c1 at *
        generalize fcu (tT G x y 3) G 2 k * fcu (tT G x y 3) G 2 k = c2 at *
        generalize fcu (tT G x y 3) G 3 k * fcu (tT G x y 3) G 3 k = c3 at *
        generalize fcu (tT G x y 3) G 4 k * fcu (tT G x y 3) G 4 k = c4 at *
        generalize fcu (tT G x y 3) G 5 k * fcu (tT G x y 3) G 5 k = c5 at *
        generalize (if 1 = uNn (tT G x y 3) (G.nt k 0) then (1 : Int) else 0) = p1 at *
        generalize (if 2 = uNn (tT G x y 3) (G.nt k 0) then (1 : Int) else 0) = p2 at *
        generalize (if 3 = uNn (tT G x y 3) (G.nt k 0) then (1 : Int) else 0) = p3 at *
        generalize (if 4 = uNn (tT G x y 3) (G.nt k 0) then (1 : Int) else 0) = p4 at *
        generalize (if 5 = uNn (tT G x y 3) (G.nt k 0) then (1 : Int) else 0) = p5 at *
        generalize (if 1 = uNn (tT G x y 3) (G.nt k 1) then (1 : Int) else 0) = r1 at *
        generalize (if 2 = uNn (tT G x y 3) (G.nt k 1) then (1 : Int) else 0) = r2 at *
        generalize (if 3 = uNn (tT G x y 3) (G.nt k 1) then (1 : Int) else 0) = r3 at *
        generalize (if 4 = uNn (tT G x y 3) (G.nt k 1) then (1 : Int) else 0) = r4 at *
        generalize (if 5 = uNn (tT G x y 3) (G.nt k 1) then (1 : Int) else 0) = r5 at *
        omega
      · simp only [if_neg h]
        decide
    rw [zsu_add (f := fun k => XXu G x y 1 k * XXu G x y 1 k + XXu G x y 2 k * XXu G x y 2 k + XXu G x y 3 k * XXu G x y 3 k + XXu G x y 4 k * XXu G x y 4 k) (g := fun k => XXu G x y 5 k * XXu G x y 5 k), zsu_add (f := fun k => XXu G x y 1 k * XXu G x y 1 k + XXu G x y 2 k * XXu G x y 2 k + XXu G x y 3 k * XXu G x y 3 k) (g := fun k => XXu G x y 4 k * XXu G x y 4 k), zsu_add (f := fun k => XXu G x y 1 k * XXu G x y 1 k + XXu G x y 2 k * XXu G x y 2 k) (g := fun k => XXu G x y 3 k * XXu G x y 3 k), zsu_add (f := fun k => XXu G x y 1 k * XXu G x y 1 k) (g := fun k => XXu G x y 2 k * XXu G x y 2 k)] at h
    show zsu (G.cn 3) (fun k => XXu G x y 1 k * XXu G x y 1 k) + zsu (G.cn 3) (fun k => XXu G x y 2 k * XXu G x y 2 k) + zsu (G.cn 3) (fun k => XXu G x y 3 k * XXu G x y 3 k) + zsu (G.cn 3) (fun k => XXu G x y 4 k * XXu G x y 4 k) + zsu (G.cn 3) (fun k => XXu G x y 5 k * XXu G x y 5 k) ≤ 160
    omega
  · have h := zsu_lec (f := fun k => XXu G x y 6 k * XXu G x y 6 k) (c := 81) (G.cn 3) fun k hk => by
      unfold XXu
      by_cases h : inY G x y k
      · simp only [if_pos h, fXu_6]
        have q := mg_b hI hk
        have := mul_b (A := 9) (B := 9) q q
        omega
      · simp only [if_neg h]
        decide
    show zsu (G.cn 3) (fun k => XXu G x y 6 k * XXu G x y 6 k) ≤ 6480
    omega
/-- all games: the class -/
theorem C_fit65 (hR : Rel st G I) (hp : ∀ i, i < pc G x y → cI st 104 i = nI (pf G x y i)) (hu : ∀ s, s < 8 → cI st 91 s = if tT G x y 3 s = 0 then -1 else nI (uNn (tT G x y 3) s)) (hm1 : 0 < m8u G x y) (hm6 : m8u G x y ≤ 6) (hf : fI st 90 2 = nI (m8u G x y)) (h0 : ∀ a b, a < 6 → b < 7 → cL st (93 + a) b = 0) (hn : 3000 ≤ n) : ∃ st', F_X10_fitYears_L65 n n st (some 64) (nI (pc G x y)) (0 : Int32) = some st' ∧ Only FIT st st' ∧ ∀ a b, a < 6 → b < 7 → cL st' (93 + a) b = RRu G x y a b := by
  have bn := hR.inv.n3
  have c := pc_le G x y
  have hs : ∀ a b, RRu G x y a b = lZ (iS (fun t => fXu (tT G x y 3) G a (pf G x y t) * fXu (tT G x y 3) G b (pf G x y t)) (pc G x y)) := fun a b => congrArg lZ (yS_pf G x y (fun k => fXu (tT G x y 3) G a k * fXu (tT G x y 3) G b k)).symm
  refine loop_ex (fun m (s : xS × Int32) => F_X10_fitYears_L65 n m s.1 (some 64) (nI (pc G x y)) s.2) (fun i s => Only FIT st s.1 ∧ (∀ a b, a < 6 → b < 7 → cL s.1 (93 + a) b = lZ (iS (fun t => fXu (tT G x y 3) G a (pf G x y t) * fXu (tT G x y 3) G b (pf G x y t)) i)) ∧ s.2 = nI i) (pc G x y) (fun r => ∃ st', r = some st' ∧ Only FIT st st' ∧ ∀ a b, a < 6 → b < 7 → cL st' (93 + a) b = RRu G x y a b) ?_ ?_ n (by omega) (st, 0) ⟨Only.refl hR.sh, fun a b ha hb => h0 a b ha hb, rfl⟩
  · rintro m i ⟨s, z⟩ hi ⟨h1, h2, h3⟩
    dsimp only at h1 h2 h3 ⊢
    subst h3
    have hRs := hR.qc (h1.mono fun a h => by unfold FIT at h; unfold QC; omega)
    have S := hRs.sh
    have hps : ∀ i, i < pc G x y → cI s 104 i = nI (pf G x y i) := fun i hi => by rw [cI_o h1 (by unfold FIT; omega)]; exact hp i hi
    have hy : inY G x y (pf G x y i) := (pkN_in G x y _ i hi).2
    have t := hR.inv.nt (pf_lt hi)
    have g := mg_b hR.inv (pf_lt hi)
    unfold NtI at t
    have p0 : F_X10_pickedOf n s (some 64) (nI i) (0 : Int32) = _ := C_pickedOf hRs hps hi (show 0 < 10 by decide)
    have p1 : F_X10_pickedOf n s (some 64) (nI i) (1 : Int32) = _ := C_pickedOf hRs hps hi (show 1 < 10 by decide)
    obtain ⟨s1, e1, o1, k1⟩ := C_addF (n := n) S (T := tT G x y 3) (fun s hs => by rw [cI_o h1 (by unfold FIT; omega)]; exact hu s hs) rfl hm1 hm6 (by rw [fI_o h1 (by unfold FIT; omega), hf]; rfl) t.1 t.2.1 (tT_in hR.inv (pf_lt hi) hy (Or.inl rfl)) (tT_in hR.inv (pf_lt hi) hy (Or.inr rfl)) g hn
    refine ⟨(s1, nI (i + 1)), ⟨h1.trans o1, fun a b ha hb => ?_, rfl⟩, ?_⟩
    · dsimp only
      rw [k1 a b ha hb, h2 a b ha hb, iS, lZAdd]
    · dsimp only
      rw [F_X10_fitYears_L65]
      dsimp only
      simp (disch := omega) only [↓Option.bind_some, ↓reduceIte, ↓bnd (g64_4 S), ↓bnd (o64 S), ↓bnd (p0), ↓bnd (p1), ↓bnd (C_mg hRs hps hi), ↓bnd (o90 S), ↓bnd (e1), nLe_f, nI_1]
  · rintro m ⟨s, z⟩ ⟨h1, h2, h3⟩
    dsimp only at h1 h2 h3 ⊢
    subst h3
    refine ⟨s, ?_, h1, fun a b ha hb => by rw [h2 a b ha hb, hs]⟩
    rw [F_X10_fitYears_L65]
    dsimp only
    simp (disch := omega) only [nLe_t, ↓reduceIte]
theorem C_fitYears (hR : Rel st G I) (x y : Int32) (hn : 3000 ≤ n) : (FitOK G x y ∧ ∃ st', F_X10_fitYears n st (some 64) x y = some (1, st') ∧ Only QC st st' ∧ (∀ s, s < 8 → cI st' 91 s = if tT G x y 3 s = 0 then -1 else nI (uNn (tT G x y 3) s)) ∧ ∀ a b, a < m8u G x y → b < 7 → cL st' (93 + a) b = (gSu (m8u G x y) (RRu G x y) (m8u G x y)).2 a b) ∨ (¬ FitOK G x y ∧ ∃ st', F_X10_fitYears n st (some 64) x y = some (0, st') ∧ Only QC st st') := by
  have hS := hR.sh
  obtain ⟨s1, e1, o1, hp⟩ := C_pick hR x y hn
  have q1 : Only QC st s1 := o1.mono fun a h => by unfold QC; omega
  have R1 := hR.qc q1
  obtain ⟨s2, e2, o2, k2⟩ := C_clearF (n := n) R1.sh hn
  have q2 : Only QC s1 s2 := o2.mono fun a h => by unfold QC; omega
  have R2 := R1.qc q2
  have hp2 : ∀ i, i < pc G x y → cI s2 104 i = nI (pf G x y i) := fun i hi => by rw [cI_o o2 (by omega)]; exact hp i hi
  obtain ⟨s3, e3, o3, k3⟩ := C_fit17 (n := n) R2 hp2 k2 hn
  have q3 : Only QC s2 s3 := o3.mono fun a h => by unfold QC; omega
  have R3 := R2.qc q3
  have hp3 : ∀ i, i < pc G x y → cI s3 104 i = nI (pf G x y i) := fun i hi => by rw [cI_o o3 (by omega)]; exact hp2 i hi
  obtain ⟨s4, e4, o4, k4, m4, z4⟩ := C_arrange (n := n) R3.sh (tT G x y 3) k3 hn
  have q4 : Only QC s3 s4 := o4.mono fun a h => by unfold QC; omega
  have R4 := R3.qc q4
  have hp4 : ∀ i, i < pc G x y → cI s4 104 i = nI (pf G x y i) := fun i hi => by rw [cI_o o4 (by omega)]; exact hp3 i hi
  have qq := ((q1.trans q2).trans q3).trans q4
  by_cases c : 0 < uNn (tT G x y 3) 8 ∧ uNn (tT G x y 3) 8 ≤ 6
  · rw [bI_t c] at e4
    obtain ⟨s5, e5, o5, k5⟩ := C_fit65 (n := n) R4 hp4 k4 c.1 c.2 m4 z4 hn
    have q5 : Only QC s4 s5 := o5.mono fun a h => by unfold FIT at h; unfold QC; omega
    have R5 := R4.qc q5
    have m5 : fI s5 90 2 = nI (m8u G x y) := by rw [fI_o o5 (by unfold FIT; omega), m4]; rfl
    have k5' : ∀ s, s < 8 → cI s5 91 s = if tT G x y 3 s = 0 then -1 else nI (uNn (tT G x y 3) s) := fun s hs => by rw [cI_o o5 (by unfold FIT; omega)]; exact k4 s hs
    have sv := C_solve (n := n) R5.sh (m := m8u G x y) c.2 m5 (R := RRu G x y) (fun a b ha hb => k5 a b (Nat.lt_of_lt_of_le ha c.2) hb) hn
    rcases sv with ⟨s6, e6, o6, k6, z6⟩ | ⟨s6, p, e6, o6, hp6, z6, -⟩
    · refine Or.inl ⟨⟨c.1, c.2, z6⟩, s6, ?_, (qq.trans q5).trans (o6.mono fun a h => by unfold FIT at h; unfold QC; omega), fun s hs => by rw [cI_o o6 (by unfold FIT; omega)]; exact k5' s hs, k6⟩
      unfold F_X10_fitYears
      simp only [↓Option.bind_some, ↓bnd (o64 hS), ↓bnd (e1), ↓bnd (g64_4 R1.sh), ↓bnd (o90 R1.sh), ↓bnd (e2), ↓bnd (e3), ↓bnd (g64_4 R3.sh), ↓bnd (o90 R3.sh), ↓bnd (e4), ↓bnd (e5), ↓bnd (g64_4 R5.sh), ↓bnd (o90 R5.sh), ↓bnd (e6), i10, if_false, rz1, Option.bind_some]
    · refine Or.inr ⟨fun h => h.2.2 p hp6 z6, s6, ?_, (qq.trans q5).trans (o6.mono fun a h => by unfold FIT at h; unfold QC; omega)⟩
      unfold F_X10_fitYears
      simp only [↓Option.bind_some, ↓bnd (o64 hS), ↓bnd (e1), ↓bnd (g64_4 R1.sh), ↓bnd (o90 R1.sh), ↓bnd (e2), ↓bnd (e3), ↓bnd (g64_4 R3.sh), ↓bnd (o90 R3.sh), ↓bnd (e4), ↓bnd (e5), ↓bnd (g64_4 R5.sh), ↓bnd (o90 R5.sh), ↓bnd (e6), i10, if_false, rz0, Option.bind_some]
  · rw [bI_f c] at e4
    refine Or.inr ⟨fun h => c ⟨h.1, h.2.1⟩, s4, ?_, qq⟩
    unfold F_X10_fitYears
    simp only [↓Option.bind_some, ↓bnd (o64 hS), ↓bnd (e1), ↓bnd (g64_4 R1.sh), ↓bnd (o90 R1.sh), ↓bnd (e2), ↓bnd (e3), ↓bnd (g64_4 R3.sh), ↓bnd (o90 R3.sh), ↓bnd (e4), if_true, rz0, Option.bind_some]
theorem Z_ok (hI : GhI G) (h6 : m8u G x y ≤ 6) : ∀ p, p < m8u G x y → (∀ k, k < p → ¬ (gSu (m8u G x y) (RRu G x y) k).2 k k = 0) → (gSu (m8u G x y) (RRu G x y) p).2 p p = 0 → ∀ i, p ≤ i → i < m8u G x y → (gSu (m8u G x y) (RRu G x y) p).2 i p = 0 :=
  fun p hp hz h i h1 h2 => gS_z (HB_X hI x y) h6 (fun a b _ _ => RRu_g G x y a b) hp hz h h1 h2
/-- what the model does once its rows are cleared -/
def fTl (n : Nat) (p8 : Int64 × xS) (a3 : Int32) : Option (Int32 × xS) :=
  ((if a3 = (-1 : Int32) then
      some (0 : Int32)
    else
      (gR p8.2 (some 106) 11 22).bind fun v11 =>
      (aI p8.2 v11 a3).bind fun v12 =>
      some v12) : Option (Int32)).bind fun q13 =>
  ((if a3 = (-1 : Int32) then
      if (0 : Int32) ≤ q13 then
        (gR p8.2 (some 106) 11 21).bind fun v14 =>
        (aL p8.2 v14 (((7 : Int32) * q13) + (6 : Int32))).bind fun v15 =>
        some v15
      else
        some (0 : Int64)
    else
      (gI p8.2 (some 106) 11 24).bind fun v16 =>
      if a3 = v16 then
        some (0 : Int64)
      else
        if (0 : Int32) ≤ q13 then
          (gR p8.2 (some 106) 11 21).bind fun v17 =>
          (aL p8.2 v17 (((7 : Int32) * q13) + (6 : Int32))).bind fun v18 =>
          some v18
        else
          some (0 : Int64)) : Option (Int64)).bind fun q19 =>
  (pF p8.2 (some 106) 11 25 (.long q19)).bind fun s20 =>
  (pF s20 (some 106) 11 26 (.long p8.1)).bind fun s21 =>
  ((if a3 = (-1 : Int32) then
      some (1 : Int32)
    else
      (gI s21 (some 106) 11 24).bind fun v22 =>
      if a3 = v22 then
        some (1 : Int32)
      else
        if q13 ≤ (0 : Int32) then
          some (0 : Int32)
        else
          some (1 : Int32)) : Option (Int32)).bind fun q23 =>
  (rz q23).bind fun v24 =>
  some (v24, s21)
theorem M_fin (hR : Rel st G I) (x y : Int32) (hn : 3000 ≤ n) : (FitOK G x y ∧ ∃ s', (∀ z, F_X11_finds n st (some 106) x y z = fTl n ((gSu (m8u G x y) (RRu G x y) (m8u G x y)).1, s') z) ∧ Only QM st s' ∧ fI s' 106 15 = -1 ∧ (∀ s, s < 8 → cI s' 112 s = mUn (tT G x y 3) s) ∧ FsO (tT G x y 3) 8 (fI s' 106 24) ∧ ∀ a b, a < m8u G x y → b < 7 → cL s' 111 (7 * a + b) = (gSu (m8u G x y) (RRu G x y) (m8u G x y)).2 a b) ∨ (¬ FitOK G x y ∧ ∃ s', (∀ z, F_X11_finds n st (some 106) x y z = some (0, s')) ∧ Only QM st s' ∧ fI s' 106 15 = -1) := by
  have hS := hR.sh
  have u8 := uNn_le (tT G x y 3) 8
  obtain ⟨s1, e1, o1, k1, m1, f1⟩ := M_meets (n := n) hR x y hn
  have R1 := o1.rel hR
  have S1 := R1.sh
  have q1 : Only QM st s1 := o1.1.mono fun a h => by unfold QM; omega
  have b1 : fI s1 106 15 = -1 := R1.2.2.2.2.2.2.1
  have g24 := g106_24 S1
  have g23 : gI s1 (some 106) 11 23 = some (nI (if uNn (tT G x y 3) 8 = 0 then 1 else uNn (tT G x y 3) 8)) := by rw [g106_23 S1, m1]
  rcases f1 with ⟨a, b⟩ | ⟨a, s0, hs0, b, d1, d2⟩
  · rw [b] at g24
    refine Or.inr ⟨fun h => by have := h.1; unfold m8u at this; omega, s1, fun z => ?_, q1, b1⟩
    unfold F_X11_finds
    simp only [↓Option.bind_some, ↓bnd (o106 hS), ↓bnd (e1), ↓bnd (g24), show ((-1 : Int32) < 0) = True by decide, if_true, rz0, Option.bind_some]
  · have f1 : FsO (tT G x y 3) 8 (fI s1 106 24) := Or.inr ⟨a, s0, hs0, b, d1, d2⟩
    rw [b] at g24
    rw [if_neg (show ¬ uNn (tT G x y 3) 8 = 0 by omega)] at g23 m1
    have ng : (nI s0 < (0 : Int32)) = False := nLt_f (b := 0) (by omega) (by omega)
    by_cases c6 : uNn (tT G x y 3) 8 ≤ 6
    · have l6 : (nI (uNn (tT G x y 3) 8) ≤ (6 : Int32)) = True := nLe_t (b := 6) c6 (by decide)
      obtain ⟨s2, e2, o2, k2⟩ := M_squares (n := n) R1 (x := x) (y := y) k1 rfl a c6 m1 hn
      have R2 := o2.rel R1
      have S2 := R2.sh
      have sv := M_clears (n := n) S2 (m := m8u G x y) c6 (by rw [fI_o o2 (by decide), m1]; rfl) (R := RRu G x y) (Z_ok hR.inv c6) (fun a b ha hb => k2 a b (Nat.lt_of_lt_of_le ha c6) hb) hn
      rcases sv with ⟨s3, e3, o3, k3, z3⟩ | ⟨s3, p, e3, o3, hp3, z3, -⟩
      · have o23 := o2.trans o3
        have nz : ((gSu (m8u G x y) (RRu G x y) (m8u G x y)).1 = 0) = False := eq_false (gSu_q z3)
        refine Or.inl ⟨⟨a, c6, z3⟩, s3, fun z => ?_, q1.trans (o23.mono fun a h => by unfold QM; omega), by rw [fI_o o23 (by decide), b1], fun s hs => by rw [cI_o o23 (by decide)]; exact k1 s hs, by rw [fI_o o23 (by decide)]; exact f1, k3⟩
        unfold F_X11_finds
        simp only [↓Option.bind_some, ↓bnd (o106 hS), ↓bnd (e1), ↓bnd (g24), ↓bnd (g23), ↓bnd (o106 S1), ↓bnd (e2), ↓bnd (o106 S2), ↓bnd (e3), ng, l6, cmpE, nz, if_true, if_false]
        rfl
      · have o23 := o2.trans o3
        refine Or.inr ⟨fun h => h.2.2 p hp3 z3, s3, fun z => ?_, q1.trans (o23.mono fun a h => by unfold QM; omega), by rw [fI_o o23 (by decide), b1]⟩
        unfold F_X11_finds
        simp only [↓Option.bind_some, ↓bnd (o106 hS), ↓bnd (e1), ↓bnd (g24), ↓bnd (g23), ↓bnd (o106 S1), ↓bnd (e2), ↓bnd (o106 S2), ↓bnd (e3), ng, l6, cmpE, if_true, if_false, rz0, Option.bind_some]
    · have l6 : (nI (uNn (tT G x y 3) 8) ≤ (6 : Int32)) = False := nLe_f (b := 6) (by omega) (by omega)
      refine Or.inr ⟨fun h => c6 h.2.1, s1, fun z => ?_, q1, b1⟩
      unfold F_X11_finds
      simp only [↓Option.bind_some, ↓bnd (o106 hS), ↓bnd (e1), ↓bnd (g24), ↓bnd (g23), ng, l6, if_false, rz0, Option.bind_some]
theorem fTl_x (hS : Sh st) (d v : Int64) : Sh (uV st 106 25 (.long v)) ∧ Sh (uV (uV st 106 25 (.long v)) 106 26 (.long d)) ∧ Only QM st (uV (uV st 106 25 (.long v)) 106 26 (.long d)) ∧ fI (uV (uV st 106 25 (.long v)) 106 26 (.long d)) 106 15 = fI st 106 15 ∧ fL (uV (uV st 106 25 (.long v)) 106 26 (.long d)) 106 25 = v ∧ fL (uV (uV st 106 25 (.long v)) 106 26 (.long d)) 106 26 = d ∧ fI (uV (uV st 106 25 (.long v)) 106 26 (.long d)) 106 24 = fI st 106 24 := by
  have S1 := s106_25 hS v
  have S2 := s106_26 S1 d
  refine ⟨S1, S2, ((Only.uV S1).trans (Only.uV S2)).mono fun a h => by unfold QM; omega, ?_, ?_, f106_26 S1 d, ?_⟩
  · rw [fI_oth (by decide), fI_oth (by decide)]
  · rw [fL_oth (by decide), f106_25 hS v]
  · rw [fI_oth (by decide), fI_oth (by decide)]
theorem fTl_h (hS : Sh st) (d : Int64) : ∃ st', fTl n (d, st) (-1) = some (1, st') ∧ Only QM st st' ∧ fI st' 106 15 = fI st 106 15 ∧ fL st' 106 25 = cL st 111 6 ∧ fL st' 106 26 = d := by
  obtain ⟨S1, S2, o, f15, f25, f26, f24⟩ := fTl_x hS d (cL st 111 6)
  have r0 : aL st (some 111) ((7 : Int32) * (0 : Int32) + (6 : Int32)) = some (cL st 111 6) := by
    rw [show (7 : Int32) * (0 : Int32) + (6 : Int32) = nI (7 * 0 + 6) from ix76 0]
    exact rM hS (a := 0) (b := 6) (by decide) (by decide)
  refine ⟨_, ?_, o, f15, f25, f26⟩
  unfold fTl
  simp only [↓Option.bind_some, ↓reduceIte, show ((0 : Int32) ≤ 0) = True by decide, if_true, ↓bnd (g106_21 hS), ↓bnd (r0), ↓bnd (p106_25 hS (cL st 111 6)), ↓bnd (p106_26 S1 d), rz1, Option.bind_some]
theorem nNegOne {s : Nat} (h : s < 8) : (nI s = (-1 : Int32)) = False := nNeg1 (by omega)
theorem fTl_s (hS : Sh st) (d : Int64) {T : Nat → Int} (hu : ∀ s, s < 8 → cI st 112 s = mUn T s) (hf : FsO T 8 (fI st 106 24)) (hm : 0 < uNn T 8) (h6 : uNn T 8 ≤ 6) {s : Nat} (hs : s < 8) : ∃ st' v, fTl n (d, st) (nI s) = some (bI (¬ T s = 0), st') ∧ Only QM st st' ∧ fI st' 106 15 = fI st 106 15 ∧ fL st' 106 26 = d ∧ (¬ T s = 0 → v = if uNn T s = 0 then 0 else cL st 111 (7 * uNn T s + 6)) ∧ fL st' 106 25 = v := by
  have us := uNn_le T s
  have r1 : aI st (some 112) (nI s) = some (mUn T s) := by rw [a112 hS, if_pos (ixT hs (by decide)), nIc (by omega), hu s hs]
  have n1 := nNegOne hs
  rcases hf with ⟨a, b⟩ | ⟨a, s0, hs0, b, d1, d2⟩
  · omega
  · have g24 : gI st (some 106) 11 24 = some (nI s0) := by rw [g106_24 hS, b]
    by_cases c : s = s0
    · subst c
      obtain ⟨S1, S2, o, f15, f25, f26, f24⟩ := fTl_x hS d 0
      have h24 : gI (uV (uV st 106 25 (.long 0)) 106 26 (.long d)) (some 106) 11 24 = some (nI s) := by rw [g106_24 S2, f24, b]
      refine ⟨_, 0, ?_, o, f15, f26, fun _ => (if_pos d2).symm, f25⟩
      unfold fTl
      rw [bI_t d1]
      simp only [↓Option.bind_some, ↓reduceIte, n1, if_false, ↓bnd (g106_22 hS), ↓bnd (r1), ↓bnd (g24), ↓bnd (p106_25 hS 0), ↓bnd (p106_26 S1 d), ↓bnd (h24), rz1, Option.bind_some]
    · have ne : (nI s = nI s0) = False := nEq_f c (by omega) (by omega)
      by_cases t0 : T s = 0
      · obtain ⟨S1, S2, o, f15, f25, f26, f24⟩ := fTl_x hS d 0
        have h24 : gI (uV (uV st 106 25 (.long 0)) 106 26 (.long d)) (some 106) 11 24 = some (nI s0) := by rw [g106_24 S2, f24, b]
        have mu : mUn T s = -1 := if_pos t0
        rw [mu] at r1
        refine ⟨_, 0, ?_, o, f15, f26, fun h => absurd t0 h, f25⟩
        unfold fTl
        rw [bI_f (fun h => h t0)]
        simp only [↓Option.bind_some, ↓reduceIte, n1, ne, ng1, if_false, ↓bnd (g106_22 hS), ↓bnd (r1), ↓bnd (g24), ↓bnd (p106_25 hS 0), ↓bnd (p106_26 S1 d), ↓bnd (h24), show ((-1 : Int32) ≤ 0) = True by decide, if_true, rz0, Option.bind_some]
      · have u0 : ¬ uNn T s = 0 := fun h => uNn_i c t0 d1 (by rw [h, d2])
        have u6 := uNn_lt hs t0
        obtain ⟨S1, S2, o, f15, f25, f26, f24⟩ := fTl_x hS d (cL st 111 (7 * uNn T s + 6))
        have h24 : gI (uV (uV st 106 25 (.long (cL st 111 (7 * uNn T s + 6)))) 106 26 (.long d)) (some 106) 11 24 = some (nI s0) := by rw [g106_24 S2, f24, b]
        have mu : mUn T s = nI (uNn T s) := by unfold mUn; rw [if_neg t0, if_neg u0]
        rw [mu] at r1
        have r2 : aL st (some 111) ((7 : Int32) * nI (uNn T s) + (6 : Int32)) = some (cL st 111 (7 * uNn T s + 6)) := by rw [ix76]; exact rM hS (by omega) (by decide)
        have ge : ((0 : Int32) ≤ nI (uNn T s)) = True := nLe_t (a := 0) (by omega) (by omega)
        have le : (nI (uNn T s) ≤ (0 : Int32)) = False := nLe_f (b := 0) (by omega) (by omega)
        refine ⟨_, cL st 111 (7 * uNn T s + 6), ?_, o, f15, f26, fun _ => (if_neg u0).symm, f25⟩
        unfold fTl
        rw [bI_t t0]
        simp only [↓Option.bind_some, ↓reduceIte, n1, ne, ge, le, if_true, if_false, ↓bnd (g106_22 hS), ↓bnd (r1), ↓bnd (g24), ↓bnd (g106_21 hS), ↓bnd (r2), ↓bnd (p106_25 hS (cL st 111 (7 * uNn T s + 6))), ↓bnd (p106_26 S1 d), ↓bnd (h24), rz1, Option.bind_some]
theorem CM_sh (n : Nat) (a : Int64) {d : Int} (hd : 0 < d) (hd2 : d < 281474976710656) (u : Int32) (hn : 3000 ≤ n) : ∃ v, (∀ st, F_X10_share n st a (lZ d) u = some v) ∧ ∀ st2, F_X11_least n st2 a (lZ d) u = some v := by
  obtain ⟨v, h1, h2⟩ := CM_share (n := n) (st := (0, 0, fun _ => xJ)) (st2 := (0, 0, fun _ => xJ)) a hd hd2 u hn
  refine ⟨v, fun st => ?_, fun st2 => ?_⟩
  · obtain ⟨v', h3, h4⟩ := CM_share (n := n) (st := st) (st2 := (0, 0, fun _ => xJ)) a hd hd2 u hn
    rw [h4] at h2
    rw [h3, h2]
  · obtain ⟨v', h3, h4⟩ := CM_share (n := n) (st := (0, 0, fun _ => xJ)) (st2 := st2) a hd hd2 u hn
    rw [h3] at h1
    rw [h4, h1]
theorem E_both (hR : Rel st G I) (x y z u : Int32) (hn : 3000 ≤ n) : ∃ v st', F_X10_both n st (some 64) x y z u = some (v, st') ∧ Only QC st st' ∧ ∀ st2, Rel st2 G I → ∃ st3, F_X11_both n st2 (some 106) x y z u = some (v, st3) ∧ Only QM st2 st3 ∧ fI st3 106 15 = -1 := by
  have hS := hR.sh
  have xm : ∀ st2 j, j < 8 → F_X11_isIn n st2 (nI j) (0 : Int32) (7 : Int32) = some 1 := fun st2 j hj => M_in_t (j := j) (b := 7) (by omega) (by decide)
  rcases C_fitYears (n := n) hR x y hn with ⟨ok, s1, e1, o1, k1, r1⟩ | ⟨no, s1, e1, o1⟩
  · have R1 := hR.qc o1
    have S1 := R1.sh
    obtain ⟨d, h, d1, d2, d3, d4, d5, -, -⟩ := gS_e (HB_X hR.inv x y) ok.2.1 ok.1 (fun a b _ _ => RRu_g G x y a b) ok.2.2
    have un : F_X1_under n s1 (some 90) = some (lZ d) := by rw [C_underF S1, show cL s1 93 0 = _ from r1 0 0 ok.1 (by decide), d2]
    have mf : ∀ st2, Rel st2 G I → ∃ s', (∀ z, F_X11_finds n st2 (some 106) x y z = fTl n (lZ d, s') z) ∧ Only QM st2 s' ∧ fI s' 106 15 = -1 ∧ (∀ s, s < 8 → cI s' 112 s = mUn (tT G x y 3) s) ∧ FsO (tT G x y 3) 8 (fI s' 106 24) ∧ ∀ a b, a < m8u G x y → b < 7 → cL s' 111 (7 * a + b) = (gSu (m8u G x y) (RRu G x y) (m8u G x y)).2 a b := by
      intro st2 r2
      rcases M_fin (n := n) r2 x y hn with ⟨-, s', q⟩ | ⟨no, -⟩
      · rw [d1] at q
        exact ⟨s', q⟩
      · exact absurd ok no
    by_cases c : z = -1
    · subst c
      obtain ⟨v, hv1, hv2⟩ := CM_sh n (cL s1 93 6) d4 (by omega) u hn
      refine ⟨v, s1, ?_, o1, fun st2 r2 => ?_⟩
      · unfold F_X10_both
        simp only [↓Option.bind_some, ↓reduceIte, ↓bnd (o64 hS), ↓bnd (e1), ↓bnd (g64_4 S1), ↓bnd (o90 S1), ↓bnd (C_homeF S1), ↓bnd (un), ↓bnd (hv1 s1), i10, if_false]
      · obtain ⟨s2, e2, o2, f2, -, -, k2⟩ := mf st2 r2
        have S2 := o2.2.2.1
        obtain ⟨s3, e3, o3, f3, v3, w3⟩ := fTl_h (n := n) S2 (lZ d)
        have S3 := o3.2.2.1
        have e23 : F_X11_finds n st2 (some 106) x y (-1) = some (1, s3) := by rw [e2, e3]
        have eq6 : cL s2 111 6 = cL s1 93 6 := by
          rw [show cL s2 111 6 = _ from k2 0 6 ok.1 (by decide), show cL s1 93 6 = _ from r1 0 6 ok.1 (by decide)]
        have g25 : gL s3 (some 106) 11 25 = some (cL s1 93 6) := by rw [g106_25 S3, v3, eq6]
        have g26 : gL s3 (some 106) 11 26 = some (lZ d) := by rw [g106_26 S3, w3]
        refine ⟨s3, ?_, o2.trans o3, f3.trans f2⟩
        unfold F_X11_both
        simp only [↓Option.bind_some, ↓reduceIte, ↓bnd (o106 r2.sh), ↓bnd (e23), ↓bnd (g25), ↓bnd (g26), ↓bnd (hv2 s3), i10, if_false, Option.bind_some]
    · rcases nCut z 8 with ⟨s, hs, rfl⟩ | hz
      · by_cases t0 : tT G x y 3 s = 0
        · have pl : F_X1_played n s1 (some 90) (nI s) = some 0 := by rw [C_played_t S1 k1 hs, bI_f (fun h => h t0)]
          refine ⟨-1000000000000000, s1, ?_, o1, fun st2 r2 => ?_⟩
          · unfold F_X10_both
            simp only [↓Option.bind_some, ↓reduceIte, ↓bnd (o64 hS), ↓bnd (e1), ↓bnd (g64_4 S1), ↓bnd (o90 S1), ↓bnd (pl), i10, eq_false c, if_false, Option.bind_some]
          · obtain ⟨s2, e2, o2, f2, k2, k3, k4⟩ := mf st2 r2
            obtain ⟨s3, v, e3, o3, f3, -, -, -⟩ := fTl_s (n := n) o2.2.2.1 (lZ d) k2 k3 ok.1 ok.2.1 hs
            rw [bI_f (fun h => h t0)] at e3
            have e23 : F_X11_finds n st2 (some 106) x y (nI s) = some (0, s3) := by rw [e2, e3]
            refine ⟨s3, ?_, o2.trans o3, f3.trans f2⟩
            unfold F_X11_both
            simp only [↓Option.bind_some, ↓reduceIte, ↓bnd (xm st2 s hs), ↓bnd (o106 r2.sh), ↓bnd (e23), i10, eq_false c, if_false, Option.bind_some]
        · have pl : F_X1_played n s1 (some 90) (nI s) = some 1 := by rw [C_played_t S1 k1 hs, bI_t t0]
          have u6 : uNn (tT G x y 3) s < m8u G x y := uNn_lt hs t0
          have st1' := C_strengthF (n := n) S1 k1 hs t0 (Nat.lt_of_lt_of_le u6 ok.2.1)
          obtain ⟨v, hv1, hv2⟩ := CM_sh n (if uNn (tT G x y 3) s = 0 then 0 else cL s1 (93 + uNn (tT G x y 3) s) 6) d4 (by omega) u hn
          refine ⟨v, s1, ?_, o1, fun st2 r2 => ?_⟩
          · unfold F_X10_both
            simp only [↓Option.bind_some, ↓reduceIte, ↓bnd (o64 hS), ↓bnd (e1), ↓bnd (g64_4 S1), ↓bnd (o90 S1), ↓bnd (pl), i10, eq_false c, if_false]
            simp only [↓bnd (g64_4 S1), ↓bnd (o90 S1), ↓bnd (st1'), ↓bnd (un), ↓bnd (hv1 s1), Option.bind_some]
          · obtain ⟨s2, e2, o2, f2, k2, k3, k4⟩ := mf st2 r2
            obtain ⟨s3, w, e3, o3, f3, w3, hw, v3⟩ := fTl_s (n := n) o2.2.2.1 (lZ d) k2 k3 ok.1 ok.2.1 hs
            have S3 := o3.2.2.1
            rw [bI_t t0] at e3
            have e23 : F_X11_finds n st2 (some 106) x y (nI s) = some (1, s3) := by rw [e2, e3]
            have ew : w = if uNn (tT G x y 3) s = 0 then 0 else cL s1 (93 + uNn (tT G x y 3) s) 6 := by
              rw [hw t0, k4 _ 6 u6 (by decide), r1 _ 6 u6 (by decide)]
            have g25 : gL s3 (some 106) 11 25 = some (if uNn (tT G x y 3) s = 0 then 0 else cL s1 (93 + uNn (tT G x y 3) s) 6) := by rw [g106_25 S3, v3, ew]
            have g26 : gL s3 (some 106) 11 26 = some (lZ d) := by rw [g106_26 S3, w3]
            refine ⟨s3, ?_, o2.trans o3, f3.trans f2⟩
            unfold F_X11_both
            simp only [↓Option.bind_some, ↓reduceIte, ↓bnd (xm st2 s hs), ↓bnd (o106 r2.sh), ↓bnd (e23), i10, eq_false c, if_false]
            simp only [↓bnd (g25), ↓bnd (g26), ↓bnd (hv2 s3), Option.bind_some]
      · have xf : ∀ st2, F_X11_isIn n st2 z (0 : Int32) (7 : Int32) = some 0 := fun st2 => M_in_f (b := 7) hz (by decide)
        refine ⟨-1000000000000000, s1, ?_, o1, fun st2 r2 => ⟨st2, ?_, Only.refl r2.sh, r2.2.2.2.2.2.2.1⟩⟩
        · unfold F_X10_both
          simp only [↓Option.bind_some, ↓reduceIte, ↓bnd (o64 hS), ↓bnd (e1), ↓bnd (g64_4 S1), ↓bnd (o90 S1), ↓bnd (C_played_f (n := n) S1 hz), i10, eq_false c, if_false, Option.bind_some]
        · unfold F_X11_both
          simp only [↓Option.bind_some, ↓reduceIte, ↓bnd (xf st2), eq_false c, if_false]
  · refine ⟨-1000000000000000, s1, ?_, o1, fun st2 r2 => ?_⟩
    · unfold F_X10_both
      simp only [↓Option.bind_some, ↓reduceIte, ↓bnd (o64 hS), ↓bnd (e1)]
    · rcases M_fin (n := n) r2 x y hn with ⟨ok, -⟩ | ⟨-, s2, e2, o2, f2⟩
      · exact absurd ok no
      · by_cases c : z = -1
        · subst c
          refine ⟨s2, ?_, o2, f2⟩
          unfold F_X11_both
          simp only [↓Option.bind_some, ↓reduceIte, ↓bnd (o106 r2.sh), ↓bnd (e2 (-1)), Option.bind_some]
        · rcases nCut z 8 with ⟨s, hs, rfl⟩ | hz
          · refine ⟨s2, ?_, o2, f2⟩
            unfold F_X11_both
            simp only [↓Option.bind_some, ↓reduceIte, ↓bnd (xm st2 s hs), ↓bnd (o106 r2.sh), ↓bnd (e2 (nI s)), i10, eq_false c, if_false, Option.bind_some]
          · have xf : F_X11_isIn n st2 z (0 : Int32) (7 : Int32) = some 0 := M_in_f (b := 7) hz (by decide)
            refine ⟨st2, ?_, Only.refl r2.sh, r2.2.2.2.2.2.2.1⟩
            unfold F_X11_both
            simp only [↓Option.bind_some, ↓reduceIte, ↓bnd (xf), eq_false c, if_false]
end BO

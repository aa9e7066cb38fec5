/-! WHAT IS NOTED OF SOME YEARS, by years, then as noted -/
abbrev inY (G : Gh) (x y : Int32) (k : Nat) : Prop := ¬ nI (G.nt k 2) < x ∧ ¬ y < nI (G.nt k 2)
/-- where a year comes to stand -/
def ip (y : Nat → Nat) (t : Nat) : Nat → Nat
  | 0 => 0
  | i + 1 => if y i ≤ t then i + 1 else ip y t i
theorem ip_le (y : Nat → Nat) (t i : Nat) : ip y t i ≤ i := by
  induction i with
  | zero => exact Nat.le_refl 0
  | succ i ih => unfold ip; split <;> omega
def insF (f : Nat → Nat) (p k : Nat) : Nat → Nat := fun j => if j < p then f j else if j = p then k else f (j - 1)
def pkN (G : Gh) (x y : Int32) : Nat → Nat × (Nat → Nat)
  | 0 => (0, fun _ => 0)
  | k + 1 => if inY G x y k then ((pkN G x y k).1 + 1, insF (pkN G x y k).2 (ip (fun i => G.nt ((pkN G x y k).2 i) 2) (G.nt k 2) (pkN G x y k).1) k) else pkN G x y k
theorem pkN_t {G : Gh} {x y : Int32} {k : Nat} (h : inY G x y k) : pkN G x y (k + 1) = ((pkN G x y k).1 + 1, insF (pkN G x y k).2 (ip (fun i => G.nt ((pkN G x y k).2 i) 2) (G.nt k 2) (pkN G x y k).1) k) := if_pos h
theorem pkN_f {G : Gh} {x y : Int32} {k : Nat} (h : ¬ inY G x y k) : pkN G x y (k + 1) = pkN G x y k := if_neg h
theorem pkN_le (G : Gh) (x y : Int32) (k : Nat) : (pkN G x y k).1 ≤ k := by
  induction k with
  | zero => exact Nat.le_refl 0
  | succ k ih =>
    by_cases h : inY G x y k
    · rw [pkN_t h]
      exact Nat.succ_le_succ ih
    · rw [pkN_f h]
      exact Nat.le_succ_of_le ih
theorem pkN_in (G : Gh) (x y : Int32) (k : Nat) : ∀ i, i < (pkN G x y k).1 → (pkN G x y k).2 i < k ∧ inY G x y ((pkN G x y k).2 i) := by
  induction k with
  | zero => exact fun i hi => by cases hi
  | succ k ih =>
    intro i hi
    by_cases h : inY G x y k
    · rw [pkN_t h] at hi ⊢
      dsimp only at hi ⊢
      have hp := ip_le (fun i => G.nt ((pkN G x y k).2 i) 2) (G.nt k 2) (pkN G x y k).1
      unfold insF
      by_cases h1 : i < ip (fun i => G.nt ((pkN G x y k).2 i) 2) (G.nt k 2) (pkN G x y k).1
      · rw [if_pos h1]
        have := ih i (by omega)
        exact ⟨by omega, this.2⟩
      · rw [if_neg h1]
        by_cases h2 : i = ip (fun i => G.nt ((pkN G x y k).2 i) 2) (G.nt k 2) (pkN G x y k).1
        · rw [if_pos h2]
          exact ⟨by omega, h⟩
        · rw [if_neg h2]
          have := ih (i - 1) (by omega)
          exact ⟨by omega, this.2⟩
    · rw [pkN_f h] at hi ⊢
      have := ih i hi
      exact ⟨by omega, this.2⟩
theorem ins_sum (w : Nat → Int) (f : Nat → Nat) (p k : Nat) : ∀ c, p ≤ c → iS (fun i => w (insF f p k i)) (c + 1) = iS (fun i => w (f i)) c + w k := by
  intro c
  have e0 : ∀ i, i < p → insF f p k i = f i := fun i h => if_pos h
  have e1 : insF f p k p = k := by unfold insF; rw [if_neg (Nat.lt_irrefl p), if_pos rfl]
  have e2 : ∀ i, p < i → insF f p k i = f (i - 1) := fun i h => by unfold insF; rw [if_neg (by omega), if_neg (by omega)]
  induction c with
  | zero =>
    intro h
    have h0 : p = 0 := by omega
    subst h0
    simp only [iS, e1]
  | succ c ih =>
    intro h
    by_cases hp : p = c + 1
    · subst hp
      rw [iS, e1, iS_congr (g := fun i => w (f i)) fun i hi => by rw [e0 i hi]]
    · rw [iS, ih (by omega), e2 (c + 1) (by omega), iS]
      show _ + w (f c) = _
      omega
theorem pkN_sum (G : Gh) (x y : Int32) (w : Nat → Int) (k : Nat) : iS (fun i => w ((pkN G x y k).2 i)) (pkN G x y k).1 = iS (fun i => if inY G x y i then w i else 0) k := by
  induction k with
  | zero => rfl
  | succ k ih =>
    by_cases h : inY G x y k
    · rw [pkN_t h]
      dsimp only
      rw [ins_sum w _ _ _ _ (ip_le _ _ _), ih]
      show _ = iS (fun i => if inY G x y i then w i else 0) k + (if inY G x y k then w k else 0)
      rw [if_pos h]
    · rw [pkN_f h, ih]
      show _ = iS (fun i => if inY G x y i then w i else 0) k + (if inY G x y k then w k else 0)
      rw [if_neg h, Int.add_zero]
def pc (G : Gh) (x y : Int32) : Nat := (pkN G x y (G.cn 3)).1
def pf (G : Gh) (x y : Int32) : Nat → Nat := (pkN G x y (G.cn 3)).2
/-- a sum over what is noted of some years -/
def yS (G : Gh) (x y : Int32) (w : Nat → Int) : Nat → Int := iS fun i => if inY G x y i then w i else 0
theorem yS_pf (G : Gh) (x y : Int32) (w : Nat → Int) : iS (fun i => w (pf G x y i)) (pc G x y) = yS G x y w (G.cn 3) := pkN_sum G x y w _
theorem iS_one (c : Nat) : iS (fun _ => 1) c = c := by
  induction c with
  | zero => rfl
  | succ c ih => rw [iS, ih]; omega
theorem yS_1 (G : Gh) (x y : Int32) : ((pc G x y : Nat) : Int) = yS G x y (fun _ => 1) (G.cn 3) := by rw [← yS_pf, iS_one]
theorem pc_le (G : Gh) (x y : Int32) : pc G x y ≤ G.cn 3 := pkN_le G x y _
theorem pf_lt {G : Gh} {x y : Int32} {i : Nat} (h : i < pc G x y) : pf G x y i < G.cn 3 := (pkN_in G x y _ i h).1
theorem yS_s (G : Gh) (x y : Int32) (w : Nat → Int) (k : Nat) : yS G x y w (k + 1) = if inY G x y k then yS G x y w k + w k else yS G x y w k := by
  show yS G x y w k + (if inY G x y k then w k else 0) = _
  by_cases h : inY G x y k
  · rw [if_pos h, if_pos h]
  · rw [if_neg h, if_neg h, Int.add_zero]
theorem iS_b {f : Nat → Int} {c : Int} {N M : Nat} (h : ∀ i, i < N → -c ≤ f i ∧ f i ≤ c) (hc : 0 ≤ c) (hN : N ≤ M) : -(c * M) ≤ iS f N ∧ iS f N ≤ c * M := by
  have k := iS_le h hc
  have e : c * (M : Int) = c * N + c * ((M - N : Nat) : Int) := by rw [← Int.mul_add]; congr 1; omega
  have e2 : 0 ≤ c * ((M - N : Nat) : Int) := Int.mul_nonneg hc (by omega)
  omega
theorem yS_b {G : Gh} {x y : Int32} {w : Nat → Int} {c : Int} {k : Nat} (h : ∀ i, i < k → -c ≤ w i ∧ w i ≤ c) (hc : 0 ≤ c) (hk : k ≤ 80) : -(c * 80) ≤ yS G x y w k ∧ yS G x y w k ≤ c * 80 := by
  refine iS_b (N := k) (M := 80) (fun i hi => ?_) hc hk
  have := h i hi
  split <;> omega
/-- by how much -/
def mg (G : Gh) (k : Nat) : Int := (G.nt k 3 : Int) - (G.nt k 4 : Int)
theorem nI_pm1 (a : Nat) : nI (a + 1) + (-1 : Int32) = nI a := (Int32.sub_eq_add_neg (nI (a + 1)) 1).symm.trans (nI_pred a)
theorem bI_T {d : Decidable True} : @bI True d = 1 := if_pos trivial
theorem bI_F {d : Decidable False} : @bI False d = 0 := if_neg id
section PK
variable {st st1 : xS} {n : Nat} {G : Gh} {I : Im} {x y : Int32}
theorem mg_b (hI : GhI G) {k : Nat} (hk : k < G.cn 3) : -9 ≤ mg G k ∧ mg G k ≤ 9 := by
  have := hI.nt hk
  unfold NtI at this
  unfold mg
  omega
theorem GhI.n3 (h : GhI G) : G.cn 3 ≤ 80 := h.2.2.2.1
theorem C_yr (k : Nat) : F_X10_within n st (nI (G.nt k 2)) x y = some (bI (inY G x y k)) := by
  unfold F_X10_within inY
  by_cases h1 : nI (G.nt k 2) < x
  · rw [if_pos h1, bI_f fun h => h.1 h1]; rfl
  · rw [if_neg h1]
    by_cases h2 : y < nI (G.nt k 2)
    · rw [if_pos h2, bI_f fun h => h.2 h2]; rfl
    · rw [if_neg h2, bI_t ⟨h1, h2⟩]; rfl
theorem M_yr (hS : Sh st) (hM : ModB (cI st 107) G) (hI : GhI G) {k : Nat} (hk : k < G.cn 3) : F_X11_isOfYears n st (some 106) (nI k) x y = some (bI (inY G x y k)) := by
  have e : F_X11_noteAt n st (some 106) (nI k) (2 : Int32) = _ := M_noteAt hS hM hI hk (show 2 < 10 by decide)
  have e2 : F_X11_isIn n st (nI (G.nt k 2)) x y = some (bI (inY G x y k)) := C_yr (n := n) (st := st) k
  unfold F_X11_isOfYears
  simp only [↓bnd (o106 hS), ↓bnd e, ↓bnd e2, rz_bI, Option.bind_some]
/-- one more is put where it belongs: the class's loop -/
theorem C_ins (hR : Rel st G I) {f : Nat → Nat} {c k : Nat} (hc : c ≤ k) (hk : k < G.cn 3) (hf : ∀ i, i < c → f i < G.cn 3) {a1 a2 a4 : Int32} : ∀ i, i ≤ c → ∀ m s, i < m → Only (fun a => a = 104) st s → (∀ j, j < i → cI s 104 j = nI (f j)) → (∀ j, i < j → j ≤ c → cI s 104 j = nI (f (j - 1))) →
    ∃ s', F_X10_pick_L55 n m s (some 64) a1 a2 a4 (nI k) (nI (G.nt k 2)) (nI i) = some (nI (ip (fun i => G.nt (f i) 2) (G.nt k 2) i), s') ∧ Only (fun a => a = 104) st s' ∧ (∀ j, j < ip (fun i => G.nt (f i) 2) (G.nt k 2) i → cI s' 104 j = nI (f j)) ∧ ∀ j, ip (fun i => G.nt (f i) 2) (G.nt k 2) i < j → j ≤ c → cI s' 104 j = nI (f (j - 1)) := by
  have b := hR.inv.n3
  intro i
  induction i with
  | zero =>
    intro _ m s hm o h1 h2
    obtain ⟨m, rfl⟩ : ∃ j, m = j + 1 := ⟨m - 1, by omega⟩
    refine ⟨s, ?_, o, h1, h2⟩
    rw [F_X10_pick_L55]
    dsimp only
    simp (disch := omega) only [l0, nLe_t, if_true]
    rfl
  | succ i ih =>
    intro hi m s hm o h1 h2
    obtain ⟨m, rfl⟩ : ∃ j, m = j + 1 := ⟨m - 1, by omega⟩
    have hRs := hR.qc (o.mono fun a h => by unfold QC; omega)
    have S := hRs.sh
    have y1 := (hR.inv.nt hk).2.2.2.1
    have y2 := (hR.inv.nt (hf i (by omega))).2.2.2.1
    have r1 : aI s (some 104) (nI (i + 1) - (1 : Int32)) = some (nI (f i)) := by rw [nI_pred, a104 S, if_pos (ixT (by omega) (by decide)), nIc (by omega), h1 i (by omega)]
    have e1 : F_X9_noteOf n s (some 65) (nI (f i)) (2 : Int32) = some (nI (G.nt (f i) 2)) := C_noteOf S hRs.tol hRs.inv (hf i (by omega)) (by decide)
    by_cases hh : G.nt (f i) 2 ≤ G.nt k 2
    · rw [show ip (fun i => G.nt (f i) 2) (G.nt k 2) (i + 1) = i + 1 from if_pos hh]
      refine ⟨s, ?_, o, h1, h2⟩
      rw [F_X10_pick_L55]
      dsimp only
      simp (disch := omega) only [↓Option.bind_some, ↓reduceIte, ↓bnd (g64_0 S), ↓bnd (g64_6 S), ↓bnd (r1), ↓bnd (o65 S), ↓bnd (e1), l0, nLe_f, nLe_t]
    · rw [show ip (fun i => G.nt (f i) 2) (G.nt k 2) (i + 1) = ip (fun i => G.nt (f i) 2) (G.nt k 2) i from if_neg hh]
      have w1 : sS 0 s (some 104) (nI (i + 1)) (nI (f i)) = some (wA s 104 (upd (cI s 104) (i + 1) (nI (f i)))) := by rw [w104 S, if_pos (ixT (by omega) (by decide)), nIc (by omega)]
      have k1 := k104 S (upd (cI s 104) (i + 1) (nI (f i)))
      obtain ⟨s', e', q⟩ := ih (by omega) m (wA s 104 (upd (cI s 104) (i + 1) (nI (f i)))) (by omega) (o.trans (Only.wA S 104 _)) (fun j hj => by rw [k1, pk_un (by omega)]; exact h1 j (by omega)) (fun j hj hj2 => by
        rw [k1]
        by_cases hji : j = i + 1
        · rw [hji, upd_s]; rfl
        · rw [pk_un hji]
          exact h2 j (by omega) hj2)
      refine ⟨s', ?_, q⟩
      rw [← e', F_X10_pick_L55]
      dsimp only
      simp (disch := omega) only [↓Option.bind_some, ↓reduceIte, ↓bnd (g64_0 S), ↓bnd (g64_6 S), ↓bnd (r1), ↓bnd (o65 S), ↓bnd (e1), ↓bnd (w1), l0, nLe_f, nI_pm1]
theorem C_pick (hR : Rel st G I) (x y : Int32) (hn : 3000 ≤ n) : ∃ st', F_X10_pick n st (some 64) x y = some (nI (pc G x y), st') ∧ Only (fun a => a = 104) st st' ∧ ∀ i, i < pc G x y → cI st' 104 i = nI (pf G x y i) := by
  have b := hR.inv.n3
  have hl : ∃ st', F_X10_pick_L5 n n st (some 64) x y (0 : Int32) (0 : Int32) = some (nI (pc G x y), st') ∧ Only (fun a => a = 104) st st' ∧ ∀ i, i < pc G x y → cI st' 104 i = nI (pf G x y i) := by
    refine loop_ex (fun m (s : xS × Int32 × Int32) => F_X10_pick_L5 n m s.1 (some 64) x y s.2.1 s.2.2) (fun k s => Only (fun a => a = 104) st s.1 ∧ (∀ i, i < (pkN G x y k).1 → cI s.1 104 i = nI ((pkN G x y k).2 i)) ∧ s.2.1 = nI (pkN G x y k).1 ∧ s.2.2 = nI k) (G.cn 3) (fun r => ∃ st', r = some (nI (pc G x y), st') ∧ Only (fun a => a = 104) st st' ∧ ∀ i, i < pc G x y → cI st' 104 i = nI (pf G x y i)) ?_ ?_ n (by omega) (st, 0, 0) ⟨Only.refl hR.sh, fun i hi => absurd hi (Nat.not_lt_zero i), rfl, rfl⟩
    · rintro m k ⟨s, u, v⟩ hk ⟨h1, h2, h3, h4⟩
      dsimp only at h1 h2 h3 h4 ⊢
      subst h3
      subst h4
      have hRs := hR.qc (h1.mono fun a h => by unfold QC; omega)
      have S := hRs.sh
      have hc := pkN_le G x y k
      have hm : F_X9_howMany n s (some 65) (3 : Int32) = some (nI (G.cn 3)) := C_howMany S hRs.tol (by decide)
      have e1 : F_X9_noteOf n s (some 65) (nI k) (2 : Int32) = some (nI (G.nt k 2)) := C_noteOf S hRs.tol hRs.inv hk (by decide)
      have e2 : F_X10_within n s (nI (G.nt k 2)) x y = _ := C_yr k
      by_cases hy : inY G x y k
      · rw [bI_t hy] at e2
        obtain ⟨s1, i1, i2, i3, i4⟩ := C_ins (n := n) (a1 := x) (a2 := y) (a4 := nI (pkN G x y k).1) hRs hc hk (fun i hi => by have := (pkN_in G x y k i hi).1; omega) (pkN G x y k).1 (Nat.le_refl _) n s (by omega) (Only.refl S) h2 (fun j hj hj2 => by omega)
        have S1 := i2.2.2.1
        have hp := ip_le (fun i => G.nt ((pkN G x y k).2 i) 2) (G.nt k 2) (pkN G x y k).1
        rw [pkN_t hy]
        generalize hP : ip (fun i => G.nt ((pkN G x y k).2 i) 2) (G.nt k 2) (pkN G x y k).1 = P at *
        have w1 : sS 0 s1 (some 104) (nI P) (nI k) = some (wA s1 104 (upd (cI s1 104) P (nI k))) := by rw [w104 S1, if_pos (ixT (by omega) (by decide)), nIc (by omega)]
        refine ⟨(wA s1 104 (upd (cI s1 104) P (nI k)), nI ((pkN G x y k).1 + 1), nI (k + 1)), ⟨(h1.trans i2).trans (Only.wA S1 104 _), fun j hj => ?_, rfl, rfl⟩, ?_⟩
        · dsimp only at hj ⊢
          rw [k104 S1]
          unfold insF
          by_cases j1 : j < P
          · rw [if_pos j1, pk_un (by omega), i3 j j1]
          · rw [if_neg j1]
            by_cases j2 : j = P
            · rw [if_pos j2, j2, upd_s]
            · rw [if_neg j2, pk_un j2, i4 j (by omega) (by omega)]
        · dsimp only
          rw [F_X10_pick_L5]
          dsimp only
          simp (disch := omega) only [↓Option.bind_some, ↓reduceIte, ↓bnd (g64_0 S), ↓bnd (o65 S), ↓bnd (hm), ↓bnd (g64_6 S), ↓bnd (n104 S), ↓bnd (e1), ↓bnd (e2), ↓bnd (i1), ↓bnd (g64_6 S1), ↓bnd (w1), nLe_f, nI_1, i10]
      · rw [bI_f hy] at e2
        rw [pkN_f hy]
        refine ⟨(s, nI (pkN G x y k).1, nI (k + 1)), ⟨h1, h2, rfl, rfl⟩, ?_⟩
        dsimp only
        rw [F_X10_pick_L5]
        dsimp only
        simp (disch := omega) only [↓Option.bind_some, ↓reduceIte, ↓bnd (g64_0 S), ↓bnd (o65 S), ↓bnd (hm), ↓bnd (g64_6 S), ↓bnd (n104 S), ↓bnd (e1), ↓bnd (e2), nLe_f, nI_1, i10]
    · rintro m ⟨s, u, v⟩ ⟨h1, h2, h3, h4⟩
      dsimp only at h1 h2 h3 h4 ⊢
      subst h3
      subst h4
      have hRs := hR.qc (h1.mono fun a h => by unfold QC; omega)
      have S := hRs.sh
      have hm : F_X9_howMany n s (some 65) (3 : Int32) = some (nI (G.cn 3)) := C_howMany S hRs.tol (by decide)
      refine ⟨s, ?_, h1, h2⟩
      rw [F_X10_pick_L5]
      dsimp only
      simp (disch := omega) only [↓Option.bind_some, ↓reduceIte, ↓bnd (g64_0 S), ↓bnd (o65 S), ↓bnd (hm), nLe_t]
      rfl
  obtain ⟨st', e, o⟩ := hl
  refine ⟨st', ?_, o⟩
  unfold F_X10_pick
  simp only [↓bnd e]
/-- reading what is picked -/
theorem C_pickedOf (hR : Rel st G I) (hp : ∀ i, i < pc G x y → cI st 104 i = nI (pf G x y i)) {i w : Nat} (hi : i < pc G x y) (hw : w < 10) : F_X10_pickedOf n st (some 64) (nI i) (nI w) = some (nI (G.nt (pf G x y i) w)) := by
  have S := hR.sh
  have b := hR.inv.n3
  have c := pc_le G x y
  have v : F_X10_valueAt n st (some 104) (nI i) = some (nI (pf G x y i)) := by rw [C_val (c104 S) (by omega) (by decide), hp i hi]
  unfold F_X10_pickedOf
  simp only [↓bnd (g64_0 S), ↓bnd (g64_6 S), ↓bnd (v), ↓bnd (o65 S), ↓bnd (C_noteOf S hR.tol hR.inv (pf_lt hi) hw)]
theorem C_mg (hR : Rel st G I) (hp : ∀ i, i < pc G x y → cI st 104 i = nI (pf G x y i)) {i : Nat} (hi : i < pc G x y) : F_X10_margin n st (some 64) (nI i) = some (zI (mg G (pf G x y i))) := by
  have S := hR.sh
  have e3 : F_X10_pickedOf n st (some 64) (nI i) (3 : Int32) = _ := C_pickedOf hR hp hi (show 3 < 10 by decide)
  have e4 : F_X10_pickedOf n st (some 64) (nI i) (4 : Int32) = _ := C_pickedOf hR hp hi (show 4 < 10 by decide)
  unfold F_X10_margin
  simp only [↓bnd (o64 S), ↓bnd (e3), ↓bnd (e4), nSubZ]
  rfl
theorem M_mg (hS : Sh st) (hM : ModB (cI st 107) G) (hI : GhI G) {k : Nat} (hk : k < G.cn 3) : F_X11_marginOf n st (some 106) (nI k) = some (zI (mg G k)) := by
  have e3 : F_X11_noteAt n st (some 106) (nI k) (3 : Int32) = _ := M_noteAt hS hM hI hk (show 3 < 10 by decide)
  have e4 : F_X11_noteAt n st (some 106) (nI k) (4 : Int32) = _ := M_noteAt hS hM hI hk (show 4 < 10 by decide)
  unfold F_X11_marginOf
  simp only [↓bnd (o106 hS), ↓bnd (e3), ↓bnd (e4), nSubZ]
  rfl
theorem M_cnt (hS : Sh st) (hM : ModB (cI st 107) G) : aI st (some 107) (3 : Int32) = some (nI (G.cn 3)) := by
  have e : aI st (some 107) (3 : Int32) = some (cI st 107 3) := M_all hS (show 3 < 10250 by decide)
  rw [e, hM.1 3 (by decide)]
end PK

/-! ALL WAYS TO CHOOSE -/
def bn : Nat → Nat → Nat
  | _, 0 => 1
  | 0, _ + 1 => 0
  | n + 1, k + 1 => bn n k + bn n (k + 1)
theorem bn_0 (n : Nat) : bn n 0 = 1 := by cases n <;> rfl
theorem bn_big (n : Nat) : ∀ k, n < k → bn n k = 0 := by
  induction n with
  | zero =>
    intro k hk
    obtain ⟨k, rfl⟩ : ∃ j, k = j + 1 := ⟨k - 1, by omega⟩
    rfl
  | succ n ih =>
    intro k hk
    obtain ⟨k, rfl⟩ : ∃ j, k = j + 1 := ⟨k - 1, by omega⟩
    show bn n k + bn n (k + 1) = 0
    rw [ih k (by omega), ih (k + 1) (by omega)]
theorem bn_self (n : Nat) : bn n n = 1 := by
  induction n with
  | zero => rfl
  | succ n ih =>
    show bn n n + bn n (n + 1) = 1
    rw [ih, bn_big n (n + 1) (by omega)]
theorem bn_mul (n : Nat) : ∀ k, (k + 1) * bn (n + 1) (k + 1) = (n + 1) * bn n k := by
  induction n with
  | zero =>
    intro k
    cases k with
    | zero => rfl
    | succ k =>
      show (k + 2) * (bn 0 (k + 1) + bn 0 (k + 2)) = 1 * bn 0 (k + 1)
      rw [bn_big 0 (k + 1) (by omega), bn_big 0 (k + 2) (by omega)]
      omega
  | succ n ih =>
    intro k
    cases k with
    | zero =>
      show 1 * (bn (n + 1) 0 + bn (n + 1) 1) = (n + 2) * bn (n + 1) 0
      have h : 1 * bn (n + 1) 1 = (n + 1) * bn n 0 := ih 0
      rw [bn_0] at h ⊢
      omega
    | succ k =>
      show (k + 2) * (bn (n + 1) (k + 1) + bn (n + 1) (k + 2)) = (n + 2) * bn (n + 1) (k + 1)
      have h1 := ih k
      have h2 := ih (k + 1)
      have e : bn (n + 1) (k + 1) = bn n k + bn n (k + 1) := rfl
      have h3 : (k + 2) * (bn (n + 1) (k + 1) + bn (n + 1) (k + 2)) = (k + 1) * bn (n + 1) (k + 1) + bn (n + 1) (k + 1) + (k + 1 + 1) * bn (n + 1) (k + 1 + 1) := by
        rw [Nat.mul_add, show k + 2 = k + 1 + 1 from rfl, Nat.add_mul (k + 1) 1, Nat.one_mul]
      have h4 : (n + 2) * bn (n + 1) (k + 1) = (n + 1) * bn n k + (n + 1) * bn n (k + 1) + bn (n + 1) (k + 1) := by
        rw [show n + 2 = n + 1 + 1 from rfl, Nat.add_mul (n + 1) 1, Nat.one_mul, e, Nat.mul_add]
      rw [h3, h4, h1, h2]
      omega
theorem bn_sym (a : Nat) : ∀ b, bn (a + b) a = bn (a + b) b := by
  induction a with
  | zero =>
    intro b
    rw [bn_0, Nat.zero_add, bn_self]
  | succ a ih =>
    intro b
    induction b with
    | zero => rw [bn_0, Nat.add_zero, bn_self]
    | succ b ihb =>
      have h1 := ih (b + 1)
      have e1 : bn (a + 1 + (b + 1)) (a + 1) = bn (a + 1 + b) a + bn (a + 1 + b) (a + 1) := rfl
      have e2 : bn (a + 1 + (b + 1)) (b + 1) = bn (a + 1 + b) b + bn (a + 1 + b) (b + 1) := rfl
      rw [e1, e2, ihb, show a + 1 + b = a + (b + 1) by omega, h1]
      omega
theorem bn_mono (k : Nat) : ∀ n m, n ≤ m → bn n k ≤ bn m k := by
  intro n m h
  obtain ⟨d, rfl⟩ : ∃ d, m = n + d := ⟨m - n, by omega⟩
  clear h
  induction d with
  | zero => exact Nat.le_refl _
  | succ d ih =>
    cases k with
    | zero =>
      rw [bn_0, bn_0]
      exact Nat.le_refl 1
    | succ k =>
      have e : bn (n + (d + 1)) (k + 1) = bn (n + d) k + bn (n + d) (k + 1) := rfl
      omega
/-- those of sixty, by fractions -/
def cb : Nat → Nat
  | 0 => 1
  | k + 1 => cb k * (60 - k) / (k + 1)
theorem bn_step (n k : Nat) (h : k ≤ n) : (k + 1) * bn n (k + 1) = (n - k) * bn n k := by
  have h1 := bn_mul n k
  have e : bn (n + 1) (k + 1) = bn n k + bn n (k + 1) := rfl
  rw [e, Nat.mul_add] at h1
  have h2 : (n + 1) * bn n k = (k + 1) * bn n k + (n - k) * bn n k := by rw [← Nat.add_mul]; congr 1; omega
  omega
theorem bn_cb : ∀ k, k ≤ 60 → bn 60 k = cb k := by
  intro k
  induction k with
  | zero => exact fun _ => bn_0 60
  | succ k ih =>
    intro hk
    have h := bn_step 60 k (by omega)
    show _ = cb k * (60 - k) / (k + 1)
    rw [← ih (by omega), Nat.mul_comm, ← h, Nat.mul_div_cancel_left _ (by omega)]
theorem cb_le : ∀ k : Fin 61, cb k.val ≤ 118264581564861424 := by decide +kernel
theorem bn_le {n k : Nat} (hn : n ≤ 60) : bn n k ≤ 118264581564861424 := by
  rcases Nat.lt_or_ge 60 k with h | h
  · rw [bn_big n k (by omega)]; omega
  · exact Nat.le_trans (bn_mono k n 60 hn) (by rw [bn_cb k h]; exact cb_le ⟨k, by omega⟩)
/-- a term, and a sum of terms -/
def tm (N r m i : Nat) : Nat := bn r i * (if m < i then 0 else bn (N - r) (m - i))
def sT (N r m : Nat) : Nat → Nat → Nat
  | _, 0 => 0
  | i, c + 1 => tm N r m i + sT N r m (i + 1) c
theorem sT_0 (N r m : Nat) : ∀ c i, m < i → sT N r m i c = 0 := by
  intro c
  induction c with
  | zero => exact fun i _ => rfl
  | succ c ih =>
    intro i h
    show tm N r m i + sT N r m (i + 1) c = 0
    rw [ih (i + 1) (by omega)]
    unfold tm
    rw [if_pos h, Nat.mul_zero]
section WY
variable {st st1 : xS} {n : Nat} {G : Gh} {I : Im}
theorem C_ways {N k : Nat} (hN : N ≤ 60) (hk : k < 2147483648) (hn : 3000 ≤ n) : F_X10_ways n st (nI N) (nI k) = some (lZ (bn N k : Nat)) := by
  unfold F_X10_ways
  rw [if_neg (nI_pos (by omega))]
  by_cases h : k ≤ N
  · rw [if_pos (nI_le h (by omega))]
    obtain ⟨f, hf, hf2, hf3⟩ : ∃ f, imin (nI k) (nI N - nI k) = nI f ∧ 2 * f ≤ N ∧ bn N f = bn N k := by
      unfold imin
      rw [nSub h]
      by_cases h2 : N - k < k
      · refine ⟨N - k, if_pos (nI_lt h2 (by omega)), by omega, ?_⟩
        have := bn_sym (N - k) k
        rw [show N - k + k = N by omega] at this
        exact this
      · exact ⟨k, if_neg (nI_nlt (by omega) (by omega)), by omega, rfl⟩
    have hl : F_X10_ways_L24 n n st (nI N) (nI f) (lZ (bn (N - f + 0) 0 : Nat)) (nI (0 + 1)) = some (lZ (bn N k : Nat)) := by
      rw [← hf3]
      refine loop_run (fun m (s : Int64 × Int32) => F_X10_ways_L24 n m st (nI N) (nI f) s.1 s.2) (fun i => (lZ (bn (N - f + i) i : Nat), nI (i + 1))) f _ (fun m i hi => ?_) (fun m => ?_) n (by omega)
      · dsimp only
        have hm := bn_mul (N - f + i) i
        have hb := bn_le (n := N - f + (i + 1)) (k := i + 1) (by omega)
        have e0 : (nI N - nI f) + nI (i + 1) = nI (N - f + i + 1) := by rw [nSub (by omega), nAdd]; rfl
        have e1 : lZ (bn (N - f + i) i : Nat) * lZ ((N - f + i + 1 : Nat) : Int) = lZ (((i + 1) * bn (N - f + (i + 1)) (i + 1) : Nat) : Int) := by
          rw [lZMul, ← Int.natCast_mul, Nat.mul_comm, ← hm]
          rfl
        have hp : (i + 1) * bn (N - f + (i + 1)) (i + 1) ≤ 30 * 118264581564861424 := Nat.mul_le_mul (by omega) hb
        have e2 : dL (lZ (((i + 1) * bn (N - f + (i + 1)) (i + 1) : Nat) : Int)) (lZ ((i + 1 : Nat) : Int)) = some (lZ (bn (N - f + (i + 1)) (i + 1) : Nat)) := by
          rw [dL_z (sN (by omega)) (sN (by omega)) (by omega), Int.natCast_mul, Int.mul_tdiv_cancel_left _ (by omega)]
        rw [F_X10_ways_L24]
        dsimp only
        simp (disch := omega) only [↓reduceIte, nLt_f, e0, nI_64, e1, ↓bnd (e2), Option.bind_some, nI_1]
      · dsimp only
        rw [F_X10_ways_L24]
        dsimp only
        simp (disch := omega) only [↓reduceIte, nLt_t]
        rw [show N - f + f = N by omega]
    rw [bn_0] at hl
    have hl : F_X10_ways_L24 n n st (nI N) (nI f) (1 : Int64) (1 : Int32) = _ := hl
    simp only [hf, Option.bind_some, hl]
  · rw [if_neg (nI_ge (by omega) (by omega)), bn_big N k (by omega)]
    rfl
theorem C_waysN {N x : Int32} (h : x < 0) : F_X10_ways n st N x = some (0 : Int64) := by
  unfold F_X10_ways
  rw [if_pos h]
theorem zLt0 {m : Int} (h1 : -2147483648 ≤ m) (h2 : m < 2147483648) : (zI m < (0 : Int32)) = (m < 0) := zLt (b := 0) h1 h2 (by decide) (by decide)
theorem C_atLeast {N r m a : Nat} (hN : N ≤ 60) (hr : r ≤ N) (hm : m ≤ 60) (ha : a ≤ r + 1) (hn : 3000 ≤ n) : F_X10_waysWithAtLeast n st (nI N) (nI r) (nI m) (nI a) = some (lZ (sT N r m a (r + 1 - a) : Nat)) := by
  have key : ∀ c i, i + c = r + 1 → ∀ k s, c < k → F_X10_waysWithAtLeast_L6 n k st (nI N) (nI r) (nI m) (lZ (s : Nat)) (nI i) = some (lZ ((s + sT N r m i c : Nat) : Int)) := by
    intro c
    induction c with
    | zero =>
      intro i hi k s hk
      obtain ⟨k, rfl⟩ : ∃ j, k = j + 1 := ⟨k - 1, by omega⟩
      rw [F_X10_waysWithAtLeast_L6]
      dsimp only
      simp (disch := omega) only [↓reduceIte, nLt_t]
      rfl
    | succ c ih =>
      intro i hi k s hk
      obtain ⟨k, rfl⟩ : ∃ j, k = j + 1 := ⟨k - 1, by omega⟩
      have w1 := C_ways (n := n) (st := st) (N := r) (k := i) (by omega) (by omega) hn
      have w2 : F_X10_ways n st (nI N - nI r) (nI m - nI i) = some (lZ ((if m < i then 0 else bn (N - r) (m - i) : Nat) : Int)) := by
        by_cases h : m < i
        · rw [if_pos h, nSubZ m i, C_waysN (by rw [zLt0 (by omega) (by omega)]; omega)]
          rfl
        · rw [if_neg h, nSub hr, nSub (by omega)]
          exact C_ways (by omega) (by omega) hn
      have e : lZ (s : Nat) + lZ (bn r i : Nat) * lZ ((if m < i then 0 else bn (N - r) (m - i) : Nat) : Int) = lZ ((s + tm N r m i : Nat) : Int) := by
        rw [lZMul, lZAdd, ← Int.natCast_mul, ← Int.natCast_add]
        rfl
      rw [F_X10_waysWithAtLeast_L6]
      dsimp only
      simp (disch := omega) only [↓reduceIte, nLt_f, ↓bnd (w1), ↓bnd (w2), Option.bind_some, e, nI_1]
      rw [ih (i + 1) (by omega) k (s + tm N r m i) (by omega), Nat.add_assoc]
      rfl
  have k : F_X10_waysWithAtLeast_L6 n n st (nI N) (nI r) (nI m) (0 : Int64) (nI a) = _ := key (r + 1 - a) a (by omega) n 0 (by omega)
  unfold F_X10_waysWithAtLeast
  simp only [↓bnd (k), Nat.zero_add]
/-- the model: the rows of a triangle, one after another -/
def WM (st st' : xS) : Prop := Only (fun a => a = 113) st st'
theorem WM_L (hS : Sh st) (f : Nat → Int64) : WM st (wL st 113 f) := Only.wL hS 113 f
theorem M_choose (hS : Sh st) {N k : Nat} (hN : N ≤ 60) (hk : k < 2147483648) (hn : 3000 ≤ n) : ∃ st', F_X11_choose n st (some 106) (nI N) (nI k) = some (lZ (bn N k : Nat), st') ∧ WM st st' := by
  unfold F_X11_choose
  rw [if_neg (nI_pos (by omega))]
  by_cases h : k ≤ N
  · rw [if_pos (nI_le h (by omega))]
    have l1 : ∃ s1, F_X11_choose_L13 n n st (some 106) (nI N) (nI k) (nI 0) = some s1 ∧ WM st s1 ∧ ∀ j, j ≤ k → cL s1 113 j = lZ (bn 0 j : Nat) := by
      refine loop_ex (fun m (s : xS × Int32) => F_X11_choose_L13 n m s.1 (some 106) (nI N) (nI k) s.2) (fun i s => WM st s.1 ∧ (∀ j, j < i → cL s.1 113 j = lZ (bn 0 j : Nat)) ∧ s.2 = nI i) (k + 1) (fun r => ∃ s1, r = some s1 ∧ WM st s1 ∧ ∀ j, j ≤ k → cL s1 113 j = lZ (bn 0 j : Nat)) ?_ ?_ n (by omega) (st, nI 0) ⟨Only.refl hS, fun j hj => by omega, rfl⟩
      · rintro m i ⟨s, z⟩ hi ⟨h1, h2, h3⟩
        dsimp only at h1 h2 h3 ⊢
        subst h3
        have S := h1.2.2.1
        have q : ((if nI i = (0 : Int32) then some (1 : Int64) else some (0 : Int64)) : Option Int64) = some (lZ (bn 0 i : Nat)) := by
          cases i with
          | zero => rfl
          | succ i => rw [if_neg (nI_ne0 (by omega) (by omega))]; rfl
        have w : sL st (some 113) (nI i) (lZ (bn 0 i : Nat)) = sL st (some 113) (nI i) (lZ (bn 0 i : Nat)) := rfl
        have w1 : sL s (some 113) (nI i) (lZ (bn 0 i : Nat)) = some (wL s 113 (vp_updL (cL s 113) i (lZ (bn 0 i : Nat)))) := by rw [w113 S, if_pos (ixT (by omega) (by decide)), nIc (by omega)]
        refine ⟨(wL s 113 (vp_updL (cL s 113) i (lZ (bn 0 i : Nat))), nI (i + 1)), ⟨h1.trans (WM_L S _), fun j hj => ?_, rfl⟩, ?_⟩
        · dsimp only
          rw [k113 S]
          by_cases hji : j = i
          · rw [hji, pk_uLs]
          · rw [pk_uLn hji]
            exact h2 j (by omega)
        · dsimp only
          rw [F_X11_choose_L13]
          dsimp only
          simp (disch := omega) only [↓reduceIte, ↓Option.bind_some, nLt_f, ↓bnd (g106_27 S), ↓bnd (q), ↓bnd (w1), nI_1]
      · rintro m ⟨s, z⟩ ⟨h1, h2, h3⟩
        dsimp only at h1 h2 h3 ⊢
        subst h3
        refine ⟨s, ?_, h1, fun j hj => h2 j (by omega)⟩
        rw [F_X11_choose_L13]
        dsimp only
        simp (disch := omega) only [↓reduceIte, nLt_t]
    obtain ⟨s1, e1, o1, v1⟩ := l1
    have inner : ∀ row i, i ≤ k → ∀ m s, i < m → WM st s → (∀ j, j ≤ i → cL s 113 j = lZ (bn row j : Nat)) → (∀ j, i < j → j ≤ k → cL s 113 j = lZ (bn (row + 1) j : Nat)) → ∃ s', F_X11_choose_L49 n m s (some 106) (nI N) (nI k) (nI row) (nI i) = some s' ∧ WM st s' ∧ ∀ j, j ≤ k → cL s' 113 j = lZ (bn (row + 1) j : Nat) := by
      intro row i
      induction i with
      | zero =>
        intro _ m s hm o h1 h2
        obtain ⟨m, rfl⟩ : ∃ j, m = j + 1 := ⟨m - 1, by omega⟩
        refine ⟨s, ?_, o, fun j hj => ?_⟩
        · rw [F_X11_choose_L49]
          dsimp only
          rw [if_pos (by decide)]
        · by_cases hj0 : j = 0
          · rw [h1 j (by omega), hj0, bn_0, bn_0]
          · exact h2 j (by omega) hj
      | succ i ih =>
        intro hi m s hm o h1 h2
        obtain ⟨m, rfl⟩ : ∃ j, m = j + 1 := ⟨m - 1, by omega⟩
        have S := o.2.2.1
        have r1 : aL s (some 113) (nI (i + 1)) = some (lZ (bn row (i + 1) : Nat)) := by rw [a113 S, if_pos (ixT (by omega) (by decide)), nIc (by omega), h1 (i + 1) (Nat.le_refl _)]
        have r0 : aL s (some 113) (nI (i + 1) - (1 : Int32)) = some (lZ (bn row i : Nat)) := by rw [nI_pred, a113 S, if_pos (ixT (by omega) (by decide)), nIc (by omega), h1 i (by omega)]
        have e : lZ (bn row (i + 1) : Nat) + lZ (bn row i : Nat) = lZ (bn (row + 1) (i + 1) : Nat) := by
          rw [lZAdd, ← Int.natCast_add, Nat.add_comm]
          rfl
        have w1 : sL s (some 113) (nI (i + 1)) (lZ (bn (row + 1) (i + 1) : Nat)) = some (wL s 113 (vp_updL (cL s 113) (i + 1) (lZ (bn (row + 1) (i + 1) : Nat)))) := by rw [w113 S, if_pos (ixT (by omega) (by decide)), nIc (by omega)]
        have k1 := k113 S (vp_updL (cL s 113) (i + 1) (lZ (bn (row + 1) (i + 1) : Nat)))
        obtain ⟨s', e', q⟩ := ih (by omega) m _ (by omega) (o.trans (WM_L S (vp_updL (cL s 113) (i + 1) (lZ (bn (row + 1) (i + 1) : Nat))))) (fun j hj => by rw [k1, pk_uLn (by omega)]; exact h1 j (by omega)) (fun j hj hj2 => by
          rw [k1]
          by_cases hji : j = i + 1
          · rw [hji, pk_uLs]
          · rw [pk_uLn hji]
            exact h2 j (by omega) hj2)
        refine ⟨s', ?_, q⟩
        rw [← e', F_X11_choose_L49]
        dsimp only
        simp (disch := omega) only [↓reduceIte, ↓Option.bind_some, l0, nLe_f, ↓bnd (g106_27 S), ↓bnd (r1), ↓bnd (r0), e, ↓bnd (w1), nI_pm1]
    have l2 : ∃ s2, F_X11_choose_L41 n n s1 (some 106) (nI N) (nI k) (nI 0) = some s2 ∧ WM st s2 ∧ ∀ j, j ≤ k → cL s2 113 j = lZ (bn N j : Nat) := by
      refine loop_ex (fun m (s : xS × Int32) => F_X11_choose_L41 n m s.1 (some 106) (nI N) (nI k) s.2) (fun row s => WM st s.1 ∧ (∀ j, j ≤ k → cL s.1 113 j = lZ (bn row j : Nat)) ∧ s.2 = nI row) N (fun r => ∃ s2, r = some s2 ∧ WM st s2 ∧ ∀ j, j ≤ k → cL s2 113 j = lZ (bn N j : Nat)) ?_ ?_ n (by omega) (s1, nI 0) ⟨o1, v1, rfl⟩
      · rintro m row ⟨s, z⟩ hrow ⟨h1, h2, h3⟩
        dsimp only at h1 h2 h3 ⊢
        subst h3
        obtain ⟨s', e', o', v'⟩ := inner row k (Nat.le_refl k) n s (by omega) h1 h2 (fun j hj hj2 => by omega)
        refine ⟨(s', nI (row + 1)), ⟨o', v', rfl⟩, ?_⟩
        dsimp only
        rw [F_X11_choose_L41]
        dsimp only
        simp (disch := omega) only [↓reduceIte, ↓Option.bind_some, nLe_f, ↓bnd (e'), nI_1]
      · rintro m ⟨s, z⟩ ⟨h1, h2, h3⟩
        dsimp only at h1 h2 h3 ⊢
        subst h3
        refine ⟨s, ?_, h1, h2⟩
        rw [F_X11_choose_L41]
        dsimp only
        simp (disch := omega) only [↓reduceIte, nLe_t]
    obtain ⟨s2, e2, o2, v2⟩ := l2
    have e1 : F_X11_choose_L13 n n st (some 106) (nI N) (nI k) (0 : Int32) = some s1 := e1
    have e2 : F_X11_choose_L41 n n s1 (some 106) (nI N) (nI k) (0 : Int32) = some s2 := e2
    have S2 := o2.2.2.1
    have r : aL s2 (some 113) (nI k) = some (lZ (bn N k : Nat)) := by rw [a113 S2, if_pos (ixT (by omega) (by decide)), nIc (by omega), v2 k (Nat.le_refl k)]
    exact ⟨s2, by simp only [↓bnd (e1), ↓bnd (e2), ↓bnd (g106_27 S2), ↓bnd (r)], o2⟩
  · rw [if_neg (nI_ge (by omega) (by omega)), bn_big N k (by omega)]
    exact ⟨st, rfl, Only.refl hS⟩
theorem M_atLeast (hS : Sh st) {N r m a : Nat} (hN : N ≤ 60) (hr : r ≤ N) (hm : m ≤ 60) (ha : a ≤ r + 1) (hn : 3000 ≤ n) : ∃ st', F_X11_atLeast n st (some 106) (nI N) (nI r) (nI m) (nI a) = some (lZ (sT N r m a (r + 1 - a) : Nat), st') ∧ WM st st' := by
  have key : ∀ c i, i + c = r + 1 → ∀ k s t, c < k → WM st s → ∃ s', F_X11_atLeast_L7 n k s (some 106) (nI N) (nI r) (nI m) (lZ (t : Nat)) (nI i) = some (lZ ((t + sT N r m i c : Nat) : Int), s') ∧ WM st s' := by
    intro c
    induction c with
    | zero =>
      intro i hi k s t hk o
      obtain ⟨k, rfl⟩ : ∃ j, k = j + 1 := ⟨k - 1, by omega⟩
      refine ⟨s, ?_, o⟩
      rw [F_X11_atLeast_L7]
      dsimp only
      simp (disch := omega) only [↓reduceIte, nLt_t]
      rfl
    | succ c ih =>
      intro i hi k s t hk o
      obtain ⟨k, rfl⟩ : ∃ j, k = j + 1 := ⟨k - 1, by omega⟩
      have S := o.2.2.1
      by_cases h : m < i
      · refine ⟨s, ?_, o⟩
        rw [F_X11_atLeast_L7, sT_0 N r m (c + 1) i h]
        dsimp only
        simp (disch := omega) only [↓reduceIte, nLt_f, nLt_t]
        rfl
      · obtain ⟨s1, e1, o1⟩ := M_choose (n := n) S (N := r) (k := i) (by omega) (by omega) hn
        have S1 := o1.2.2.1
        obtain ⟨s2, e2, o2⟩ := M_choose (n := n) S1 (N := N - r) (k := m - i) (by omega) (by omega) hn
        have e2 : F_X11_choose n s1 (some 106) (nI N - nI r) (nI m - nI i) = some (lZ (bn (N - r) (m - i) : Nat), s2) := by rw [nSub hr, nSub (by omega)]; exact e2
        have b := bn_le (n := r) (k := i) (by omega)
        have q : (lg_cmp (lZ (bn r i : Nat)) (0 : Int64) = (0 : Int32)) = (bn r i = 0) := by
          rw [cmp0 (sN (by omega))]
          exact propext Int.natCast_eq_zero
        rw [F_X11_atLeast_L7]
        dsimp only
        simp (disch := omega) only [↓reduceIte, nLt_f, ↓bnd (o106 S), ↓bnd (e1), q]
        by_cases h0 : bn r i = 0
        · obtain ⟨s3, e3, o3⟩ := ih (i + 1) (by omega) k s1 t (by omega) (o.trans o1)
          refine ⟨s3, ?_, o3⟩
          have e : lZ (t : Nat) + (0 : Int64) = lZ (t : Nat) := by rw [lZ_0, lZAdd, Int.add_zero]
          simp only [h0, if_true, Option.bind_some, nI_1, e, e3]
          have : tm N r m i = 0 := by unfold tm; rw [h0, Nat.zero_mul]
          show _ = some (lZ ((t + (tm N r m i + sT N r m (i + 1) c) : Nat) : Int), s3)
          rw [this, Nat.zero_add]
        · obtain ⟨s3, e3, o3⟩ := ih (i + 1) (by omega) k s2 (t + tm N r m i) (by omega) ((o.trans o1).trans o2)
          refine ⟨s3, ?_, o3⟩
          have e : lZ (t : Nat) + lZ (bn r i : Nat) * lZ (bn (N - r) (m - i) : Nat) = lZ ((t + tm N r m i : Nat) : Int) := by
            unfold tm
            rw [lZMul, lZAdd, ← Int.natCast_mul, ← Int.natCast_add, if_neg h]
          simp only [h0, if_false, ↓bnd (o106 S1), ↓bnd (e2), Option.bind_some, nI_1, e, e3]
          rw [Nat.add_assoc]
          rfl
  obtain ⟨s', e, o⟩ := key (r + 1 - a) a (by omega) n st 0 (by omega) (Only.refl hS)
  have e : F_X11_atLeast_L7 n n st (some 106) (nI N) (nI r) (nI m) (0 : Int64) (nI a) = _ := e
  refine ⟨s', ?_, o⟩
  unfold F_X11_atLeast
  simp only [↓bnd (e), Nat.zero_add]
end WY

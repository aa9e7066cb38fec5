/-! SUMS AND DETERMINANTS, as far as they are needed -/
def zsu : Nat → (Nat → Int) → Int
  | 0, _ => 0
  | n + 1, f => zsu n f + f n
theorem zsu_c {f g : Nat → Int} : ∀ n, (∀ i, i < n → f i = g i) → zsu n f = zsu n g := by
  intro n
  induction n with
  | zero => exact fun _ => rfl
  | succ n ih => intro h; rw [zsu, zsu, ih fun i hi => h i (by omega), h n (by omega)]
theorem zsu_0 : ∀ n, zsu n (fun _ => 0) = 0 := by
  intro n
  induction n with
  | zero => rfl
  | succ n ih => rw [zsu, ih]; rfl
theorem zsu_add {f g : Nat → Int} : ∀ n, zsu n (fun i => f i + g i) = zsu n f + zsu n g := by
  intro n
  induction n with
  | zero => rfl
  | succ n ih => rw [zsu, zsu, zsu, ih]; omega
theorem zsu_neg {f : Nat → Int} : ∀ n, zsu n (fun i => - f i) = - zsu n f := by
  intro n
  induction n with
  | zero => rfl
  | succ n ih => rw [zsu, zsu, ih]; omega
theorem zsu_mul {f : Nat → Int} (c : Int) : ∀ n, zsu n (fun i => c * f i) = c * zsu n f := by
  intro n
  induction n with
  | zero => exact (Int.mul_zero c).symm
  | succ n ih => rw [zsu, zsu, ih, Int.mul_add]
theorem zsu_sw {f : Nat → Nat → Int} (m : Nat) : ∀ n, zsu n (fun i => zsu m (fun j => f i j)) = zsu m (fun j => zsu n (fun i => f i j)) := by
  intro n
  induction n with
  | zero => exact (zsu_0 m).symm
  | succ n ih =>
    show zsu n (fun i => zsu m (fun j => f i j)) + zsu m (fun j => f n j) = _
    rw [ih]
    exact (zsu_add (f := fun j => zsu n (fun i => f i j)) (g := fun j => f n j) m).symm
theorem zsu_ge {f : Nat → Int} : ∀ n, (∀ i, i < n → 0 ≤ f i) → 0 ≤ zsu n f := by
  intro n
  induction n with
  | zero => exact fun _ => Int.le_refl 0
  | succ n ih =>
    intro h
    have a := ih fun i hi => h i (by omega)
    have b := h n (by omega)
    rw [zsu]
    omega
theorem zsu_z {f : Nat → Int} : ∀ n, (∀ i, i < n → 0 ≤ f i) → zsu n f = 0 → ∀ i, i < n → f i = 0 := by
  intro n
  induction n with
  | zero => exact fun _ _ i hi => absurd hi (Nat.not_lt_zero i)
  | succ n ih =>
    intro h e i hi
    have a := zsu_ge n fun i hi => h i (by omega)
    have b := h n (by omega)
    rw [zsu] at e
    by_cases c : i = n
    · rw [c]; omega
    · exact ih (fun i hi => h i (by omega)) (by omega) i (by omega)
theorem sq_ge (a : Int) : 0 ≤ a * a := by
  rcases Int.le_total 0 a with h | h
  · exact Int.mul_nonneg h h
  · exact Int.mul_nonneg_of_nonpos_of_nonpos h h
theorem sq_z {a : Int} (h : a * a = 0) : a = 0 := by
  rcases Int.mul_eq_zero.mp h with h | h <;> exact h

/-! WHAT CLEARING A GRAM MATRIX GIVES -/
def ddu (A : Nat → Nat → Int) (p : Nat) : Int := dEu p A
def mRu (A : Nat → Nat → Int) (p i j : Nat) : Int := dEu (p + 1) fun t c => A (if t = p then i else t) (if c = p then j else c)
def cou (A : Nat → Nat → Int) (p i t : Nat) : Int := sgu (p + t) * dEu p (fun s c => A (if sku t s = p then i else sku t s) c)
theorem mRu_e (A : Nat → Nat → Int) (p i j : Nat) : mRu A p i j = zsu p (fun t => cou A p i t * A t j) + ddu A p * A i j := by
  unfold mRu
  rw [dEu, zsu]
  congr 1
  · refine zsu_c _ fun t ht => ?_
    rw [if_neg (show ¬ t = p by omega), if_pos rfl]
    unfold cou
    have e : dEu p (fun s c => A (if sku t s = p then i else sku t s) (if c = p then j else c)) = dEu p (fun s c => A (if sku t s = p then i else sku t s) c) := dEu_c _ _ _ fun s c _ hc => by rw [if_neg (show ¬ c = p by omega)]
    rw [e]
    exact Int.mul_right_comm _ _ _
  · rw [if_pos rfl, if_pos rfl, sgu_d]
    have e : dEu p (fun s c => A (if sku p s = p then i else sku p s) (if c = p then j else c)) = ddu A p := dEu_c _ _ _ fun s c hs hc => by
      have k : sku p s = s := if_pos hs
      rw [k, if_neg (show ¬ s = p by omega), if_neg (show ¬ c = p by omega)]
    rw [e, Int.one_mul, Int.mul_comm]
theorem mRu_z {A : Nat → Nat → Int} {p i j : Nat} (h : j < p) : mRu A p i j = 0 := by
  unfold mRu
  refine dEu_z (p - j - 1) (p + 1) j _ (by omega) fun t => ?_
  try dsimp only
  rw [if_neg (show ¬ j = p by omega), if_pos (show j + (p - j - 1) + 1 = p by omega)]
theorem mRu_d (A : Nat → Nat → Int) (p : Nat) : mRu A p p p = ddu A (p + 1) := by
  unfold mRu ddu
  refine dEu_c _ _ _ fun t c _ _ => ?_
  have e : ∀ x : Nat, (if x = p then p else x) = x := fun x => by split <;> omega
  rw [e, e]
theorem ddu_0 (A : Nat → Nat → Int) : ddu A 0 = 1 := rfl
theorem mRu_0 (A : Nat → Nat → Int) (i j : Nat) : mRu A 0 i j = A i j := by
  rw [mRu_e, ddu_0, zsu]
  omega
/-- the first row, once it is cleared -/
def uRu (A : Nat → Nat → Int) (q j : Nat) : Int := sgu q * dEu (q + 1) fun t c => A t (if c = q then j else c + 1)
def cwu (A : Nat → Nat → Int) (q t : Nat) : Int := sgu q * (sgu (q + t) * dEu q (fun s c => A (sku t s) (c + 1)))
theorem uRu_e (A : Nat → Nat → Int) (q j : Nat) : uRu A q j = zsu (q + 1) fun t => cwu A q t * A t j := by
  unfold uRu
  rw [dEu, ← zsu_mul]
  refine zsu_c _ fun t ht => ?_
  have e : dEu q (fun s c => A (sku t s) (if c = q then j else c + 1)) = dEu q (fun s c => A (sku t s) (c + 1)) := dEu_c _ _ _ fun s c _ hc => by rw [if_neg (show ¬ c = q by omega)]
  rw [if_pos rfl, e]
  unfold cwu
  generalize dEu q (fun s c => A (sku t s) (c + 1)) = x1
  generalize sgu (q + t) = x2
  generalize sgu q = x3
  generalize A t j = x4
  grind
theorem uRu_z {A : Nat → Nat → Int} {q j : Nat} (h0 : 0 < j) (h : j ≤ q) : uRu A q j = 0 := by
  have z : dEu (q + 1) (fun t c => A t (if c = q then j else c + 1)) = 0 := by
    refine dEu_z (q - j) (q + 1) (j - 1) _ (by omega) fun t => ?_
    try dsimp only
    rw [if_neg (show ¬ j - 1 = q by omega), if_pos (show j - 1 + (q - j) + 1 = q by omega), show j - 1 + 1 = j by omega]
  unfold uRu
  rw [z, Int.mul_zero]
theorem uRu_0 (A : Nat → Nat → Int) (q : Nat) : uRu A q 0 = ddu A (q + 1) := by
  have k := dEu_y q q A (Nat.le_refl q)
  have e : dEu (q + 1) (fun t c => A t (if c = q then 0 else c + 1)) = dEu (q + 1) (fun t c => A t (if c = q then q - q else if c < q - q then c else c + 1)) := dEu_c _ _ _ fun t c _ hc => by rw [Nat.sub_self, if_neg (Nat.not_lt_zero c)]
  unfold uRu ddu
  rw [e, k, ← Int.mul_assoc, sgu_sq, Int.one_mul]
theorem cwu_0 (A : Nat → Nat → Int) (q : Nat) : cwu A q 0 = ddu (fun s c => A (s + 1) (c + 1)) q := by
  have e : dEu q (fun s c => A (sku 0 s) (c + 1)) = dEu q (fun s c => A (s + 1) (c + 1)) := dEu_c _ _ _ fun s c _ _ => by
    rw [show sku 0 s = s + 1 from if_neg (Nat.not_lt_zero s)]
  unfold cwu ddu
  rw [Nat.add_zero, ← Int.mul_assoc, sgu_sq, Int.one_mul, e]
theorem uRu_b (A : Nat → Nat → Int) (j : Nat) : uRu A 0 j = A 0 j := by
  rw [uRu_e, zsu, zsu, cwu_0, ddu_0]
  omega
/-! sums of rows -/
def lcu (A : Nat → Nat → Int) (q : Nat) (f : Nat → Int) : Prop := ∃ c : Nat → Int, ∀ j, f j = zsu q fun t => c t * A t j
section LC
variable {A : Nat → Nat → Int} {q : Nat} {f g : Nat → Int}
theorem lcu_s (h : lcu A q f) : lcu A (q + 1) f := by
  obtain ⟨c, h⟩ := h
  refine ⟨fun t => if t < q then c t else 0, fun j => ?_⟩
  rw [h j, zsu]
  try dsimp only
  rw [if_neg (Nat.lt_irrefl q), Int.zero_mul, Int.add_zero]
  exact zsu_c _ fun t ht => by rw [if_pos ht]
theorem lcu_lin (hf : lcu A q f) (hg : lcu A q g) (a b : Int) : lcu A q (fun j => a * f j + b * g j) := by
  obtain ⟨c, hf⟩ := hf
  obtain ⟨d, hg⟩ := hg
  refine ⟨fun t => a * c t + b * d t, fun j => ?_⟩
  try dsimp only
  rw [hf, hg, ← zsu_mul, ← zsu_mul, ← zsu_add]
  exact zsu_c _ fun t _ => by rw [Int.add_mul, Int.mul_assoc, Int.mul_assoc]
theorem lcu_l (A : Nat → Nat → Int) (q : Nat) : lcu A (q + 1) (A q) := by
  refine ⟨fun t => if t = q then 1 else 0, fun j => ?_⟩
  rw [zsu]
  try dsimp only
  have z : zsu q (fun t => (if t = q then 1 else 0) * A t j) = 0 := by
    rw [zsu_c q (g := fun _ => 0) fun t ht => by rw [if_neg (by omega), Int.zero_mul]]
    exact zsu_0 q
  rw [if_pos rfl, Int.one_mul, z]
  exact (Int.zero_add _).symm
theorem lcu_e (h : lcu A q f) (e : ∀ j, g j = f j) : lcu A q g := by
  obtain ⟨c, h⟩ := h
  exact ⟨c, fun j => by rw [e, h]⟩
end LC
/-- vectors -/
def ipu (K : Nat) (u v : Nat → Int) : Int := zsu K fun k => u k * v k
def gmu (K : Nat) (X : Nat → Nat → Int) (i j : Nat) : Int := ipu K (X i) (X j)
theorem ipu_comm (K : Nat) (u v : Nat → Int) : ipu K u v = ipu K v u := zsu_c _ fun k _ => Int.mul_comm _ _
theorem ipu_ge (K : Nat) (u : Nat → Int) : 0 ≤ ipu K u u := zsu_ge _ fun k _ => sq_ge _
theorem ipu_z {K : Nat} {u : Nat → Int} (h : ipu K u u = 0) : ∀ k, k < K → u k = 0 := fun k hk => sq_z (zsu_z K (fun k _ => sq_ge _) h k hk)
theorem ipu_0 {K : Nat} {u v : Nat → Int} (h : ∀ k, k < K → u k = 0) : ipu K u v = 0 := by
  unfold ipu
  rw [zsu_c K (g := fun _ => 0) fun k hk => by rw [h k hk, Int.zero_mul]]
  exact zsu_0 K
theorem ipu_add {K : Nat} {u v w : Nat → Int} : ipu K (fun k => u k + v k) w = ipu K u w + ipu K v w := by
  unfold ipu
  rw [← zsu_add]
  exact zsu_c _ fun k _ => Int.add_mul _ _ _
theorem ipu_mul {K : Nat} {u w : Nat → Int} (c : Int) : ipu K (fun k => c * u k) w = c * ipu K u w := by
  unfold ipu
  rw [← zsu_mul]
  exact zsu_c _ fun k _ => Int.mul_assoc _ _ _
theorem ipu_zs {K m : Nat} {c : Nat → Int} {X : Nat → Nat → Int} {w : Nat → Int} : ipu K (fun k => zsu m fun t => c t * X t k) w = zsu m fun t => c t * ipu K (X t) w := by
  unfold ipu
  rw [zsu_c K (g := fun k => zsu m fun t => c t * (X t k * w k)) fun k _ => by
    rw [Int.mul_comm, ← zsu_mul]
    exact zsu_c _ fun t _ => by rw [Int.mul_comm, Int.mul_assoc]]
  rw [zsu_sw]
  exact zsu_c _ fun t _ => zsu_mul _ _
theorem ipu_sq {K : Nat} (u v : Nat → Int) (c : Int) : ipu K (fun k => u k + c * v k) (fun k => u k + c * v k) = ipu K u u + (2 * (c * ipu K u v) + c * (c * ipu K v v)) := by
  rw [ipu_add, ipu_mul, ipu_comm K u (fun k => u k + c * v k), ipu_comm K v (fun k => u k + c * v k), ipu_add, ipu_mul, ipu_add, ipu_mul, ipu_comm K v u]
  generalize ipu K u u = x
  generalize ipu K v v = y
  generalize ipu K u v = z
  grind
theorem ipu_cs {K : Nat} (u v : Nat → Int) : ipu K u v * ipu K u v ≤ ipu K u u * ipu K v v := by
  by_cases h : ipu K v v = 0
  · rw [ipu_comm K u v, ipu_0 (ipu_z h), Int.zero_mul]
    exact Int.mul_nonneg (ipu_ge K u) (ipu_ge K v)
  · have e1 : ipu K (fun k => ipu K v v * u k) v = ipu K v v * ipu K u v := ipu_mul _
    have e2 : ipu K (fun k => ipu K v v * u k) (fun k => ipu K v v * u k) = ipu K v v * (ipu K v v * ipu K u u) := by
      rw [ipu_mul, ipu_comm K u (fun k => ipu K v v * u k), ipu_mul]
    have g' := ipu_sq (K := K) (fun k => ipu K v v * u k) v (-(ipu K u v))
    have g := ipu_ge K (fun k => ipu K v v * u k + -(ipu K u v) * v k)
    rw [g', e1, e2] at g
    have hp := ipu_ge K v
    clear g' e1 e2
    generalize ipu K u u = a at *
    generalize ipu K u v = b at *
    generalize ipu K v v = c at *
    have e : c * (c * a) + (2 * (-b * (c * b)) + -b * (-b * c)) = c * (a * c - b * b) := by grind
    rw [e] at g
    have := Int.nonneg_of_mul_nonneg_right g (by omega)
    omega
section GM
variable {K p i j q : Nat} {X : Nat → Nat → Int}
theorem lcu_z {f : Nat → Int} (h : lcu (gmu K X) q f) (z : ∀ j, j < q → f j = 0) (j : Nat) : f j = 0 := by
  obtain ⟨c, h⟩ := h
  have V : ∀ j, ipu K (fun k => zsu q fun t => c t * X t k) (X j) = f j := fun j => by rw [ipu_zs, h j]; rfl
  have N : ipu K (fun k => zsu q fun t => c t * X t k) (fun k => zsu q fun t => c t * X t k) = 0 := by
    rw [ipu_zs, zsu_c q (g := fun _ => 0) fun t ht => by rw [ipu_comm, V, z t ht, Int.mul_zero]]
    exact zsu_0 q
  rw [← V]
  exact ipu_0 (ipu_z N)
/-- what of a column is left -/
def uuu (K : Nat) (X : Nat → Nat → Int) (p i : Nat) : Nat → Int := fun k => zsu p (fun t => cou (gmu K X) p i t * X t k) + ddu (gmu K X) p * X i k
theorem uX (w : Nat → Int) : ipu K (uuu K X p i) w = zsu p (fun t => cou (gmu K X) p i t * ipu K (X t) w) + ddu (gmu K X) p * ipu K (X i) w := by
  unfold uuu
  rw [ipu_add (u := fun k => zsu p (fun t => cou (gmu K X) p i t * X t k)) (v := fun k => ddu (gmu K X) p * X i k), ipu_zs, ipu_mul]
theorem uR (j : Nat) : ipu K (uuu K X p i) (X j) = mRu (gmu K X) p i j := by
  rw [uX, mRu_e]
  rfl
theorem uU (j : Nat) : ipu K (uuu K X p i) (uuu K X p j) = ddu (gmu K X) p * mRu (gmu K X) p i j := by
  rw [ipu_comm, uX, zsu_c p (g := fun _ => 0) fun t ht => by rw [ipu_comm, uR, mRu_z ht, Int.mul_zero], zsu_0, ipu_comm, uR]
  omega
theorem mRu_l (A : Nat → Nat → Int) (p i : Nat) : lcu A p (fun j => mRu A p i j - ddu A p * A i j) := ⟨cou A p i, fun j => by dsimp only; rw [mRu_e]; omega⟩
theorem uRu_l (A : Nat → Nat → Int) (q : Nat) : lcu A (q + 1) (uRu A q) := ⟨cwu A q, uRu_e A q⟩
theorem mRu_s (i j : Nat) : ddu (gmu K X) p * mRu (gmu K X) (p + 1) i j = mRu (gmu K X) p p p * mRu (gmu K X) p i j - mRu (gmu K X) p i p * mRu (gmu K X) p p j := by
  have own := mRu_d (gmu K X) p
  have l1 := lcu_s (mRu_l (gmu K X) p i)
  have l2 := lcu_s (mRu_l (gmu K X) p p)
  have l3 := mRu_l (gmu K X) (p + 1) i
  have l4 := lcu_l (gmu K X) p
  have l5 := lcu_lin (lcu_lin (lcu_lin l1 l2 (mRu (gmu K X) p p p) (-(mRu (gmu K X) p i p))) l4 1 (-(mRu (gmu K X) p i p) * ddu (gmu K X) p)) l3 1 (-(ddu (gmu K X) p))
  have l6 : lcu (gmu K X) (p + 1) (fun j => mRu (gmu K X) p p p * mRu (gmu K X) p i j - mRu (gmu K X) p i p * mRu (gmu K X) p p j - ddu (gmu K X) p * mRu (gmu K X) (p + 1) i j) := lcu_e l5 fun j => by
    try dsimp only
    rw [own]
    generalize mRu (gmu K X) p i j = x1
    generalize mRu (gmu K X) p p j = x2
    generalize mRu (gmu K X) p i p = x3
    generalize mRu (gmu K X) (p + 1) i j = x4
    generalize ddu (gmu K X) (p + 1) = x5
    generalize ddu (gmu K X) p = x6
    generalize gmu K X i j = x7
    generalize gmu K X p j = x8
    grind
  have l7 := lcu_z l6 (fun j hj => by
    try dsimp only
    rw [mRu_z hj]
    by_cases c : j = p
    · rw [c, Int.mul_comm (mRu (gmu K X) p p p) (mRu (gmu K X) p i p)]
      omega
    · rw [mRu_z (show j < p by omega), mRu_z (show j < p by omega)]
      omega) j
  try dsimp only at l7
  omega
theorem uRu_s (q j : Nat) : ddu (gmu K X) (q + 1) * uRu (gmu K X) (q + 1) j = mRu (gmu K X) (q + 1) (q + 1) (q + 1) * uRu (gmu K X) q j - uRu (gmu K X) q (q + 1) * mRu (gmu K X) (q + 1) (q + 1) j := by
  have own := mRu_d (gmu K X) (q + 1)
  have l1 := lcu_s (uRu_l (gmu K X) q)
  have l2 := lcu_s (mRu_l (gmu K X) (q + 1) (q + 1))
  have l3 := uRu_l (gmu K X) (q + 1)
  have l4 := lcu_l (gmu K X) (q + 1)
  have l5 := lcu_lin (lcu_lin (lcu_lin l1 l2 (mRu (gmu K X) (q + 1) (q + 1) (q + 1)) (-(uRu (gmu K X) q (q + 1)))) l4 1 (-(uRu (gmu K X) q (q + 1)) * ddu (gmu K X) (q + 1))) l3 1 (-(ddu (gmu K X) (q + 1)))
  have l6 : lcu (gmu K X) (q + 1 + 1) (fun j => mRu (gmu K X) (q + 1) (q + 1) (q + 1) * uRu (gmu K X) q j - uRu (gmu K X) q (q + 1) * mRu (gmu K X) (q + 1) (q + 1) j - ddu (gmu K X) (q + 1) * uRu (gmu K X) (q + 1) j) := lcu_e l5 fun j => by
    try dsimp only
    rw [own]
    generalize mRu (gmu K X) (q + 1) (q + 1) j = x2
    generalize uRu (gmu K X) q (q + 1) = x3
    generalize uRu (gmu K X) (q + 1) j = x4
    generalize uRu (gmu K X) q j = x1
    generalize ddu (gmu K X) (q + 1 + 1) = x5
    generalize ddu (gmu K X) (q + 1) = x6
    generalize gmu K X (q + 1) j = x8
    grind
  have l7 := lcu_z l6 (fun j hj => by
    try dsimp only
    by_cases c : j = q + 1
    · rw [c, uRu_z (show 0 < q + 1 by omega) (Nat.le_refl _), Int.mul_comm (mRu (gmu K X) (q + 1) (q + 1) (q + 1))]
      omega
    · rw [mRu_z (show j < q + 1 by omega)]
      by_cases c0 : j = 0
      · rw [c0, uRu_0, uRu_0, own, Int.mul_comm (ddu (gmu K X) (q + 1 + 1))]
        omega
      · rw [uRu_z (A := gmu K X) (q := q) (show 0 < j by omega) (by omega), uRu_z (A := gmu K X) (q := q + 1) (show 0 < j by omega) (by omega)]
        omega) j
  try dsimp only at l7
  omega
theorem mRu_n (hd : 0 < ddu (gmu K X) p) (h : mRu (gmu K X) p p p = 0) (i : Nat) : mRu (gmu K X) p i p = 0 := by
  have z : ipu K (uuu K X p p) (uuu K X p p) = 0 := by rw [uU, h, Int.mul_zero]
  have := uU (K := K) (X := X) (p := p) (i := i) p
  rw [ipu_comm, ipu_0 (ipu_z z)] at this
  rcases Int.mul_eq_zero.mp this.symm with q | q
  · omega
  · exact q
theorem mRu_cs (i j : Nat) : 0 ≤ ddu (gmu K X) p * mRu (gmu K X) p i i ∧ mRu (gmu K X) p i j * mRu (gmu K X) p i j ≤ ddu (gmu K X) p * mRu (gmu K X) p i i * gmu K X j j := by
  have g := ipu_cs (K := K) (uuu K X p i) (X j)
  have h := ipu_ge K (uuu K X p i)
  rw [uR, uU] at g
  rw [uU] at h
  exact ⟨h, g⟩
theorem gmu_ge (i : Nat) : 0 ≤ gmu K X i i := ipu_ge K (X i)
theorem hd_st (h : 0 ≤ ddu (gmu K X) p) : 0 ≤ ddu (gmu K X) (p + 1) ∧ ddu (gmu K X) (p + 1) ≤ ddu (gmu K X) p * gmu K X p p := by
  obtain ⟨c1, c2⟩ := mRu_cs (K := K) (X := X) (p := p) p p
  have a := gmu_ge (K := K) (X := X) p
  rw [mRu_d] at c1 c2
  generalize ddu (gmu K X) (p + 1) = f at *
  generalize ddu (gmu K X) p = d at *
  generalize gmu K X p p = x at *
  by_cases h0 : d = 0
  · subst h0
    rw [Int.zero_mul, Int.zero_mul] at c2
    have := sq_z (Int.le_antisymm c2 (sq_ge f))
    rw [this, Int.zero_mul]
    exact ⟨Int.le_refl 0, Int.le_refl 0⟩
  · have hf := Int.nonneg_of_mul_nonneg_right c1 (by omega)
    refine ⟨hf, ?_⟩
    by_cases h1 : f = 0
    · rw [h1]
      exact Int.mul_nonneg h a
    · refine Int.le_of_mul_le_mul_left (a := f) ?_ (by omega)
      have e : f * (d * x) = d * f * x := by grind
      rw [e]
      exact c2
theorem hd_g : ∀ p, 0 ≤ ddu (gmu K X) p := by
  intro p
  induction p with
  | zero => rw [ddu_0]; decide
  | succ p ih => exact (hd_st ih).1
theorem mRu_up (hd : 0 < ddu (gmu K X) p) (i : Nat) : 0 ≤ mRu (gmu K X) p i i ∧ mRu (gmu K X) p i i ≤ ddu (gmu K X) p * gmu K X i i := by
  obtain ⟨c1, c2⟩ := mRu_cs (K := K) (X := X) (p := p) i i
  have a := gmu_ge (K := K) (X := X) i
  generalize mRu (gmu K X) p i i = f at *
  generalize ddu (gmu K X) p = d at *
  generalize gmu K X i i = x at *
  have hf := Int.nonneg_of_mul_nonneg_right c1 hd
  refine ⟨hf, ?_⟩
  by_cases h1 : f = 0
  · rw [h1]
    exact Int.mul_nonneg (by omega) a
  · refine Int.le_of_mul_le_mul_left (a := f) ?_ (by omega)
    have e : f * (d * x) = d * f * x := by grind
    rw [e]
    exact c2
theorem zsu_h {f : Nat → Int} : ∀ n, (∀ t, 0 < t → t < n + 1 → f t = 0) → zsu (n + 1) f = f 0 := by
  intro n
  induction n with
  | zero => intro _; rw [zsu, zsu]; omega
  | succ n ih =>
    intro h
    rw [zsu, ih fun t h1 h2 => h t h1 (by omega), h (n + 1) (by omega) (by omega)]
    omega
theorem uRu_cs (q j : Nat) : uRu (gmu K X) q j * uRu (gmu K X) q j ≤ ddu (gmu K fun i => X (i + 1)) q * ddu (gmu K X) (q + 1) * gmu K X j j := by
  have V : ∀ j, ipu K (fun k => zsu (q + 1) fun t => cwu (gmu K X) q t * X t k) (X j) = uRu (gmu K X) q j := fun j => by rw [ipu_zs, uRu_e]; rfl
  have N : ipu K (fun k => zsu (q + 1) fun t => cwu (gmu K X) q t * X t k) (fun k => zsu (q + 1) fun t => cwu (gmu K X) q t * X t k) = ddu (gmu K fun i => X (i + 1)) q * ddu (gmu K X) (q + 1) := by
    rw [ipu_zs, zsu_h q fun t h1 h2 => by rw [ipu_comm, V, uRu_z h1 (by omega), Int.mul_zero], ipu_comm, V, uRu_0, cwu_0]
    rfl
  have g := ipu_cs (K := K) (fun k => zsu (q + 1) fun t => cwu (gmu K X) q t * X t k) (X j)
  rw [V, N] at g
  exact g
end GM

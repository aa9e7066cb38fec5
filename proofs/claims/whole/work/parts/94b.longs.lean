/-! CLEARING IN LONGS: nothing overflows -/
theorem am2 (a b : Int) : 4 * (a * b) ≤ (a + b) * (a + b) := by
  have h := sq_ge (a - b)
  have e : (a - b) * (a - b) = (a + b) * (a + b) - 4 * (a * b) := by grind
  omega
theorem am4 {a b c d : Int} (ha : 0 ≤ a) (hb : 0 ≤ b) (hc : 0 ≤ c) (hd : 0 ≤ d) : 256 * (a * b * c * d) ≤ (a + b + (c + d)) * (a + b + (c + d)) * ((a + b + (c + d)) * (a + b + (c + d))) := by
  have h1 := am2 a b
  have h2 := am2 c d
  have h3 := am2 (a + b) (c + d)
  have h4 := Int.mul_le_mul h1 h2 (by have := Int.mul_nonneg hc hd; omega) (sq_ge (a + b))
  have h5 := Int.mul_self_le_mul_self (a := 4 * ((a + b) * (c + d))) (by have := Int.mul_nonneg (show 0 ≤ a + b by omega) (show 0 ≤ c + d by omega); omega) h3
  have e1 : 4 * (a * b) * (4 * (c * d)) = 16 * (a * b * c * d) := by grind
  have e2 : 4 * ((a + b) * (c + d)) * (4 * ((a + b) * (c + d))) = 16 * ((a + b) * (a + b) * ((c + d) * (c + d))) := by grind
  rw [e1] at h4
  rw [e2] at h5
  generalize (a + b) * (a + b) * ((c + d) * (c + d)) = z at *
  generalize (a + b + (c + d)) * (a + b + (c + d)) * ((a + b + (c + d)) * (a + b + (c + d))) = w at *
  generalize a * b * c * d = v at *
  omega
theorem top9 (n : Nat) (h : n < 161) : n * n * (n * n) * (n * n * (n * n)) * (160 - n) ≤ 10485760000000000000 := by
  have k : ∀ n : Nat, n < 161 → n * n * (n * n) * (n * n * (n * n)) * (160 - n) ≤ 10485760000000000000 := by decide +kernel
  exact k n h
def prQ (a : Nat → Int) : Nat → Int
  | 0 => 1
  | q + 1 => prQ a q * a q
theorem mlb {x y B : Int} (h0 : 0 ≤ x) (h1 : x ≤ B) (h2 : 0 ≤ y) (h3 : y ≤ 80) : 0 ≤ x * y ∧ x * y ≤ B * 80 := ⟨Int.mul_nonneg h0 h2, Int.mul_le_mul h1 h3 h2 (by omega)⟩
theorem prQ_b {a : Nat → Int} (h : ∀ t, t < 5 → 0 ≤ a t ∧ a t ≤ 80) (hs : a 0 + a 1 + a 2 + a 3 + a 4 ≤ 160) : (0 ≤ prQ a 1 ∧ prQ a 1 ≤ 80) ∧ (0 ≤ prQ a 2 ∧ prQ a 2 ≤ 6400) ∧ (0 ≤ prQ a 3 ∧ prQ a 3 ≤ 512000) ∧ (0 ≤ prQ a 4 ∧ prQ a 4 ≤ 2560000) ∧ (0 ≤ prQ a 5 ∧ prQ a 5 ≤ 204800000) ∧ prQ a 4 * prQ a 5 ≤ 160000000000000 := by
  have h0 := h 0 (by decide)
  have h1 := h 1 (by decide)
  have h2 := h 2 (by decide)
  have h3 := h 3 (by decide)
  have h4 := h 4 (by decide)
  have q1 : 0 ≤ prQ a 1 ∧ prQ a 1 ≤ 80 := by
    rw [prQ, prQ, Int.one_mul]
    exact h0
  have q2 : 0 ≤ prQ a 2 ∧ prQ a 2 ≤ 80 * 80 := mlb q1.1 q1.2 h1.1 h1.2
  have q3 : 0 ≤ prQ a 3 ∧ prQ a 3 ≤ 80 * 80 * 80 := mlb q2.1 q2.2 h2.1 h2.2
  have q4 : 0 ≤ prQ a 4 ∧ prQ a 4 ≤ 80 * 80 * 80 * 80 := mlb q3.1 q3.2 h3.1 h3.2
  have e4 : prQ a 4 = a 0 * a 1 * a 2 * a 3 := by rw [prQ, prQ, prQ, prQ, prQ, Int.one_mul]
  have m4 := am4 h0.1 h1.1 h2.1 h3.1
  rw [← e4] at m4
  obtain ⟨s, hs2⟩ : ∃ s : Nat, a 0 + a 1 + (a 2 + a 3) = s := ⟨(a 0 + a 1 + (a 2 + a 3)).toNat, by omega⟩
  rw [hs2] at m4
  have t1 := Int.mul_self_le_mul_self (a := (s : Int)) (b := 160) (by omega) (by omega)
  have t2 := Int.mul_self_le_mul_self (a := (s : Int) * s) (b := 160 * 160) (sq_ge _) t1
  have q4' : 0 ≤ prQ a 4 ∧ prQ a 4 ≤ 2560000 := ⟨q4.1, by omega⟩
  have q5 : 0 ≤ prQ a 5 ∧ prQ a 5 ≤ 2560000 * 80 := mlb q4'.1 q4'.2 h4.1 h4.2
  refine ⟨q1, ⟨q2.1, by have := q2.2; omega⟩, ⟨q3.1, by have := q3.2; omega⟩, q4', ⟨q5.1, by have := q5.2; omega⟩, ?_⟩
  obtain ⟨r, hr⟩ : ∃ r : Nat, (160 : Int) - s = r := ⟨(160 - (s : Int)).toNat, by omega⟩
  have k := top9 s (by omega)
  rw [show 160 - s = r by omega] at k
  have k2 : ((s * s * (s * s) * (s * s * (s * s)) * r : Nat) : Int) ≤ 10485760000000000000 := Int.ofNat_le.mpr k
  simp only [Int.natCast_mul] at k2
  have m8 := Int.mul_self_le_mul_self (a := 256 * prQ a 4) (by omega) m4
  have m9 := Int.mul_le_mul m8 (show a 4 ≤ r by omega) h4.1 (sq_ge _)
  have e5 : prQ a 5 = prQ a 4 * a 4 := rfl
  have e6 : 256 * prQ a 4 * (256 * prQ a 4) * a 4 = 65536 * (prQ a 4 * (prQ a 4 * a 4)) := by
    generalize prQ a 4 = x
    generalize a 4 = y
    grind
  rw [e5]
  rw [e6] at m9
  generalize prQ a 4 * (prQ a 4 * a 4) = w at *
  generalize (s : Int) * s * (s * s) * (s * s * (s * s)) * r = v at *
  omega
theorem sq_le {f b : Int} (hb : 0 ≤ b) (h : f * f ≤ b * b) : -b ≤ f ∧ f ≤ b := by
  have e1 : ((f.natAbs * f.natAbs : Nat) : Int) = f * f := Int.natAbs_mul_self
  have e2 : ((b.natAbs * b.natAbs : Nat) : Int) = b * b := Int.natAbs_mul_self
  have e : f.natAbs * f.natAbs ≤ b.natAbs * b.natAbs := by
    rw [← e1, ← e2] at h
    exact Int.ofNat_le.mp h
  have := Nat.mul_self_le_mul_self_iff.mp e
  omega
theorem lDivW {c d : Int} (hd : 0 < d) (hd2 : d ≤ 4611686018427387904) (h : -9223372036854775808 < d * c ∧ d * c < 9223372036854775808) : lZ (d * c) / lZ d = lZ c := by
  have e1 : Int64.minValue.toInt = -9223372036854775808 := by decide
  have e2 : Int64.maxValue.toInt = 9223372036854775807 := by decide
  have e : lZ (d * c) / lZ d = lZ ((d * c).tdiv d) := (Int64.ofInt_tdiv (by rw [e1]; omega) (by rw [e2]; omega) (by rw [e1]; omega) (by rw [e2]; omega)).symm
  rw [e, Int.mul_tdiv_cancel_left _ (by omega)]
def HBu (K : Nat) (X : Nat → Nat → Int) : Prop := (∀ i, i < 6 → gmu K X i i ≤ 80) ∧ gmu K X 1 1 + gmu K X 2 2 + gmu K X 3 3 + gmu K X 4 4 + gmu K X 5 5 ≤ 160 ∧ gmu K X 6 6 ≤ 6480
def gst (m k : Nat) (q : Int64) (R : Nat → Nat → Int64) : Nat → Nat → Int64 := fun i j => if i < m ∧ ¬ i = k then (R k k * R i j - R i k * R k j) / q else R i j
def gSu (m : Nat) (R : Nat → Nat → Int64) : Nat → Int64 × (Nat → Nat → Int64)
  | 0 => (1, R)
  | k + 1 => ((gSu m R k).2 k k, gst m k (gSu m R k).1 (gSu m R k).2)
section GB
variable {K p i j q m : Nat} {X : Nat → Nat → Int} {R : Nat → Nat → Int64}
theorem ddu_q : ∀ q, ddu (gmu K fun i => X (i + 1)) q ≤ prQ (fun t => gmu K X (t + 1) (t + 1)) q := by
  intro q
  induction q with
  | zero => exact Int.le_refl 1
  | succ q ih => exact Int.le_trans (hd_st (hd_g q)).2 (Int.mul_le_mul_of_nonneg_right ih (gmu_ge (K := K) (X := X) (q + 1)))
theorem ddu_p (H : HBu K X) : ∀ q, ddu (gmu K X) (q + 1) ≤ 80 * prQ (fun t => gmu K X (t + 1) (t + 1)) q := by
  intro q
  induction q with
  | zero =>
    have h := (hd_st (K := K) (X := X) (p := 0) (hd_g 0)).2
    have a := H.1 0 (by decide)
    rw [ddu_0, Int.one_mul] at h
    rw [prQ]
    omega
  | succ q ih =>
    have h := Int.le_trans (hd_st (K := K) (X := X) (p := q + 1) (hd_g _)).2 (Int.mul_le_mul_of_nonneg_right ih (gmu_ge (K := K) (X := X) (q + 1)))
    rw [prQ, ← Int.mul_assoc]
    exact h
theorem HBu.qs (H : HBu K X) : (0 ≤ prQ (fun t => gmu K X (t + 1) (t + 1)) 1 ∧ prQ (fun t => gmu K X (t + 1) (t + 1)) 1 ≤ 80) ∧ (0 ≤ prQ (fun t => gmu K X (t + 1) (t + 1)) 2 ∧ prQ (fun t => gmu K X (t + 1) (t + 1)) 2 ≤ 6400) ∧ (0 ≤ prQ (fun t => gmu K X (t + 1) (t + 1)) 3 ∧ prQ (fun t => gmu K X (t + 1) (t + 1)) 3 ≤ 512000) ∧ (0 ≤ prQ (fun t => gmu K X (t + 1) (t + 1)) 4 ∧ prQ (fun t => gmu K X (t + 1) (t + 1)) 4 ≤ 2560000) ∧ (0 ≤ prQ (fun t => gmu K X (t + 1) (t + 1)) 5 ∧ prQ (fun t => gmu K X (t + 1) (t + 1)) 5 ≤ 204800000) ∧ prQ (fun t => gmu K X (t + 1) (t + 1)) 4 * prQ (fun t => gmu K X (t + 1) (t + 1)) 5 ≤ 160000000000000 :=
  prQ_b (fun t ht => ⟨gmu_ge (t + 1), H.1 (t + 1) (by omega)⟩) H.2.1
theorem HBu.d (H : HBu K X) : ddu (gmu K X) 0 = 1 ∧ ddu (gmu K X) 1 ≤ 80 ∧ ddu (gmu K X) 2 ≤ 6400 ∧ ddu (gmu K X) 3 ≤ 512000 ∧ ddu (gmu K X) 4 ≤ 40960000 ∧ ddu (gmu K X) 5 ≤ 204800000 ∧ ddu (gmu K X) 6 ≤ 16384000000 := by
  obtain ⟨q1, q2, q3, q4, q5, -⟩ := H.qs
  have d1 : ddu (gmu K X) 1 ≤ 80 * prQ (fun t => gmu K X (t + 1) (t + 1)) 0 := ddu_p H 0
  have d2 : ddu (gmu K X) 2 ≤ 80 * prQ (fun t => gmu K X (t + 1) (t + 1)) 1 := ddu_p H 1
  have d3 : ddu (gmu K X) 3 ≤ 80 * prQ (fun t => gmu K X (t + 1) (t + 1)) 2 := ddu_p H 2
  have d4 : ddu (gmu K X) 4 ≤ 80 * prQ (fun t => gmu K X (t + 1) (t + 1)) 3 := ddu_p H 3
  have d5 : ddu (gmu K X) 5 ≤ 80 * prQ (fun t => gmu K X (t + 1) (t + 1)) 4 := ddu_p H 4
  have d6 : ddu (gmu K X) 6 ≤ 80 * prQ (fun t => gmu K X (t + 1) (t + 1)) 5 := ddu_p H 5
  have e : prQ (fun t => gmu K X (t + 1) (t + 1)) 0 = 1 := rfl
  rw [e] at d1
  refine ⟨rfl, ?_, ?_, ?_, ?_, ?_, ?_⟩ <;> omega
theorem ddu_4 (H : HBu K X) (hp : p ≤ 4) : ddu (gmu K X) p ≤ 40960000 := by
  obtain ⟨d0, d1, d2, d3, d4, d5, d6⟩ := H.d
  rcases (show p = 0 ∨ p = 1 ∨ p = 2 ∨ p = 3 ∨ p = 4 by omega) with rfl | rfl | rfl | rfl | rfl <;> omega
theorem ddu_5 (H : HBu K X) (hp : p ≤ 5) : ddu (gmu K X) p ≤ 204800000 := by
  obtain ⟨d0, d1, d2, d3, d4, d5, d6⟩ := H.d
  rcases (show p = 0 ∨ p = 1 ∨ p = 2 ∨ p = 3 ∨ p = 4 ∨ p = 5 by omega) with rfl | rfl | rfl | rfl | rfl | rfl <;> omega
theorem ddu_6 (H : HBu K X) (hp : p ≤ 6) : ddu (gmu K X) p ≤ 16384000000 := by
  obtain ⟨d0, d1, d2, d3, d4, d5, d6⟩ := H.d
  rcases (show p = 0 ∨ p = 1 ∨ p = 2 ∨ p = 3 ∨ p = 4 ∨ p = 5 ∨ p = 6 by omega) with rfl | rfl | rfl | rfl | rfl | rfl | rfl <;> omega
theorem HBu.a (H : HBu K X) (hj : j < 7) : gmu K X j j ≤ 6480 := by
  by_cases h : j = 6
  · rw [h]; exact H.2.2
  · have := H.1 j (by omega)
    omega
theorem mRu_b (H : HBu K X) (hd : 0 < ddu (gmu K X) p) (hi : i < 6) (hj : j < 7) : -(720 * ddu (gmu K X) p) ≤ mRu (gmu K X) p i j ∧ mRu (gmu K X) p i j ≤ 720 * ddu (gmu K X) p := by
  have c := (mRu_cs (K := K) (X := X) (p := p) i j).2
  have u := mRu_up (K := K) (X := X) (p := p) hd i
  have a := H.a hj
  have b := H.1 i hi
  have a0 := gmu_ge (K := K) (X := X) j
  have b0 := gmu_ge (K := K) (X := X) i
  generalize mRu (gmu K X) p i j = f at *
  generalize mRu (gmu K X) p i i = g at *
  generalize ddu (gmu K X) p = d at *
  generalize gmu K X j j = x at *
  generalize gmu K X i i = y at *
  have h1 : g ≤ d * 80 := Int.le_trans u.2 (Int.mul_le_mul_of_nonneg_left b (by omega))
  have h2 : d * g ≤ d * (d * 80) := Int.mul_le_mul_of_nonneg_left h1 (by omega)
  have h3 : d * g * x ≤ d * (d * 80) * 6480 := Int.mul_le_mul h2 a a0 (Int.mul_nonneg (by omega) (by omega))
  have e : d * (d * 80) * 6480 = 720 * d * (720 * d) := by grind
  rw [e] at h3
  exact sq_le (by omega) (Int.le_trans c h3)
theorem uRu_bd (H : HBu K X) (q : Nat) (hq : 0 ≤ prQ (fun t => gmu K X (t + 1) (t + 1)) q) (hj : j < 7) : -(720 * prQ (fun t => gmu K X (t + 1) (t + 1)) q) ≤ uRu (gmu K X) q j ∧ uRu (gmu K X) q j ≤ 720 * prQ (fun t => gmu K X (t + 1) (t + 1)) q := by
  have c := uRu_cs (K := K) (X := X) q j
  have a := H.a hj
  have a0 := gmu_ge (K := K) (X := X) j
  have d1 := ddu_q (K := K) (X := X) q
  have d2 := ddu_p H q
  have g1 := hd_g (K := K) (X := X) (q + 1)
  generalize uRu (gmu K X) q j = f at *
  generalize prQ (fun t => gmu K X (t + 1) (t + 1)) q = d at *
  generalize ddu (gmu K fun i => X (i + 1)) q = x at *
  generalize ddu (gmu K X) (q + 1) = y at *
  generalize gmu K X j j = z at *
  have h1 : x * y ≤ d * (80 * d) := Int.mul_le_mul d1 d2 g1 hq
  have h2 : x * y * z ≤ d * (80 * d) * 6480 := Int.mul_le_mul h1 a a0 (Int.mul_nonneg hq (by omega))
  have e : d * (80 * d) * 6480 = 720 * d * (720 * d) := by grind
  rw [e] at h2
  exact sq_le (by omega) (Int.le_trans c h2)
theorem mRu_w (H : HBu K X) (h0 : 0 < ddu (gmu K X) p) (h1 : 0 < ddu (gmu K X) (p + 1)) (hp : p ≤ 4) (hi : i < 6) (hj : j < 7) : -9223372036854775808 < ddu (gmu K X) p * mRu (gmu K X) (p + 1) i j ∧ ddu (gmu K X) p * mRu (gmu K X) (p + 1) i j < 9223372036854775808 := by
  have b := mRu_b (p := p + 1) H h1 hi hj
  have d4 := ddu_4 H hp
  have d5 := ddu_5 (p := p + 1) H (by omega)
  have := mul_b (a := ddu (gmu K X) p) (b := mRu (gmu K X) (p + 1) i j) (A := 40960000) (B := 147456000000) ⟨by omega, d4⟩ ⟨by omega, by omega⟩
  omega
theorem uRu_w (H : HBu K X) (h0 : 0 < ddu (gmu K X) (q + 1)) (hq : q ≤ 4) (hj : j < 7) : -9223372036854775808 < ddu (gmu K X) (q + 1) * uRu (gmu K X) (q + 1) j ∧ ddu (gmu K X) (q + 1) * uRu (gmu K X) (q + 1) j < 9223372036854775808 := by
  obtain ⟨q1, q2, q3, q4, q5, q6⟩ := H.qs
  have e0 : prQ (fun t => gmu K X (t + 1) (t + 1)) 0 = 1 := rfl
  have d := ddu_p H q
  have hQ : 0 ≤ prQ (fun t => gmu K X (t + 1) (t + 1)) q ∧ 0 ≤ prQ (fun t => gmu K X (t + 1) (t + 1)) (q + 1) ∧ prQ (fun t => gmu K X (t + 1) (t + 1)) q * prQ (fun t => gmu K X (t + 1) (t + 1)) (q + 1) ≤ 160000000000000 := by
    rcases (show q = 0 ∨ q = 1 ∨ q = 2 ∨ q = 3 ∨ q = 4 by omega) with rfl | rfl | rfl | rfl | rfl
    · rw [e0, Int.one_mul]
      exact ⟨by decide, q1.1, Int.le_trans q1.2 (by decide)⟩
    · exact ⟨q1.1, q2.1, Int.le_trans (Int.mul_le_mul q1.2 q2.2 q2.1 (by decide)) (by decide)⟩
    · exact ⟨q2.1, q3.1, Int.le_trans (Int.mul_le_mul q2.2 q3.2 q3.1 (by decide)) (by decide)⟩
    · exact ⟨q3.1, q4.1, Int.le_trans (Int.mul_le_mul q3.2 q4.2 q4.1 (by decide)) (by decide)⟩
    · exact ⟨q4.1, q5.1, q6⟩
  have b := uRu_bd (j := j) H (q + 1) hQ.2.1 hj
  generalize prQ (fun t => gmu K X (t + 1) (t + 1)) q = x at *
  generalize prQ (fun t => gmu K X (t + 1) (t + 1)) (q + 1) = y at *
  have := mul_b (a := ddu (gmu K X) (q + 1)) (b := uRu (gmu K X) (q + 1) j) (A := 80 * x) (B := 720 * y) ⟨by omega, d⟩ b
  have e : 80 * x * (720 * y) = 57600 * (x * y) := by grind
  rw [e] at this
  omega
theorem gS_ok (H : HBu K X) (hm : m ≤ 6) (h0 : ∀ i j, i < m → j < 7 → R i j = lZ (gmu K X i j)) : ∀ p, p ≤ m → (∀ k, k < p → ¬ (gSu m R k).2 k k = 0) → (gSu m R p).1 = lZ (ddu (gmu K X) p) ∧ 0 < ddu (gmu K X) p ∧ (∀ i j, p ≤ i → i < m → j < 7 → (gSu m R p).2 i j = lZ (mRu (gmu K X) p i j)) ∧ ∀ q j, p = q + 1 → j < 7 → (gSu m R p).2 0 j = lZ (uRu (gmu K X) q j) := by
  intro p
  induction p with
  | zero => exact fun _ _ => ⟨rfl, by rw [ddu_0]; decide, fun i j _ hi hj => by rw [mRu_0]; exact h0 i j hi hj, fun q j e => by omega⟩
  | succ p ih =>
    intro hp hz
    obtain ⟨i1, i2, i3, i4⟩ := ih (by omega) fun k hk => hz k (by omega)
    have own := i3 p p (Nat.le_refl p) (by omega) (by omega)
    have own2 : (gSu m R p).2 p p = lZ (ddu (gmu K X) (p + 1)) := by rw [own, mRu_d]
    have d0 : ddu (gmu K X) (p + 1) ≠ 0 := fun e => hz p (by omega) (by rw [own2, e]; rfl)
    have d1 := hd_g (K := K) (X := X) (p + 1)
    have d6 : ddu (gmu K X) p ≤ 4611686018427387904 := Int.le_trans (ddu_6 H (by omega)) (by decide)
    refine ⟨own2, by omega, fun i j h1 h2 h3 => ?_, fun q j e h3 => ?_⟩
    · show gst m p (gSu m R p).1 (gSu m R p).2 i j = _
      unfold gst
      rw [if_pos ⟨h2, by omega⟩, own, i1, i3 i j (by omega) h2 h3, i3 i p (by omega) h2 (by omega), i3 p j (Nat.le_refl p) (by omega) h3, lZMul, lZMul, lZSub, ← mRu_s]
      exact lDivW i2 d6 (mRu_w H i2 (by omega) (by omega) (by omega) h3)
    · obtain rfl : q = p := by omega
      show gst m q (gSu m R q).1 (gSu m R q).2 0 j = _
      unfold gst
      by_cases c : q = 0
      · subst c
        rw [if_neg (fun h => h.2 rfl), uRu_b]
        exact h0 0 j (by omega) h3
      · obtain ⟨q, rfl⟩ : ∃ r, q = r + 1 := ⟨q - 1, by omega⟩
        rw [if_pos ⟨by omega, by omega⟩, own, i1, i4 q j rfl h3, i4 q (q + 1) rfl (by omega), i3 (q + 1) j (Nat.le_refl _) (by omega) h3, lZMul, lZMul, lZSub, ← uRu_s]
        exact lDivW i2 d6 (uRu_w H i2 (by omega) h3)
theorem gS_z (H : HBu K X) (hm : m ≤ 6) (h0 : ∀ i j, i < m → j < 7 → R i j = lZ (gmu K X i j)) (hp : p < m) (hz : ∀ k, k < p → ¬ (gSu m R k).2 k k = 0) (h : (gSu m R p).2 p p = 0) (hi : p ≤ i) (hi2 : i < m) : (gSu m R p).2 i p = 0 := by
  obtain ⟨i1, i2, i3, i4⟩ := gS_ok H hm h0 p (by omega) hz
  have own := i3 p p (Nat.le_refl p) (by omega) (by omega)
  have d1 := hd_g (K := K) (X := X) (p + 1)
  have d6 : ddu (gmu K X) (p + 1) ≤ 4611686018427387904 := Int.le_trans (ddu_6 H (by omega)) (by decide)
  have z : mRu (gmu K X) p p p = 0 := by
    rw [h, lZ_0, mRu_d, lEq (by omega) (by omega) (by omega) (by omega)] at own
    rw [mRu_d]
    exact own.symm
  rw [i3 i p hi hi2 (by omega), mRu_n i2 z i]
  rfl
theorem gS_e (H : HBu K X) (hm : m ≤ 6) (hm1 : 0 < m) (h0 : ∀ i j, i < m → j < 7 → R i j = lZ (gmu K X i j)) (hz : ∀ k, k < m → ¬ (gSu m R k).2 k k = 0) : ∃ d h, (gSu m R m).1 = lZ d ∧ (gSu m R m).2 0 0 = lZ d ∧ (gSu m R m).2 0 6 = lZ h ∧ 0 < d ∧ d ≤ 16384000000 ∧ -147456000000 ≤ h ∧ h ≤ 147456000000 := by
  obtain ⟨i1, i2, i3, i4⟩ := gS_ok H hm h0 m (Nat.le_refl m) hz
  obtain ⟨q, rfl⟩ : ∃ r, m = r + 1 := ⟨m - 1, by omega⟩
  obtain ⟨q1, q2, q3, q4, q5, q6⟩ := H.qs
  have e0 : prQ (fun t => gmu K X (t + 1) (t + 1)) 0 = 1 := rfl
  have hQ : 0 ≤ prQ (fun t => gmu K X (t + 1) (t + 1)) q ∧ prQ (fun t => gmu K X (t + 1) (t + 1)) q ≤ 204800000 := by
    rcases (show q = 0 ∨ q = 1 ∨ q = 2 ∨ q = 3 ∨ q = 4 ∨ q = 5 by omega) with rfl | rfl | rfl | rfl | rfl | rfl <;> omega
  have b := uRu_bd (j := 6) H q hQ.1 (by decide)
  refine ⟨ddu (gmu K X) (q + 1), uRu (gmu K X) q 6, i1, by rw [i4 q 0 rfl (by decide), uRu_0], i4 q 6 rfl (by decide), i2, ddu_6 H hm, by omega, by omega⟩
end GB

/-! DETERMINANTS, as far as they are needed -/
def sgu (n : Nat) : Int := if n % 2 = 0 then 1 else -1
theorem sgu_s (n : Nat) : sgu (n + 1) = - sgu n := by
  unfold sgu
  by_cases c : n % 2 = 0
  · rw [if_pos c, if_neg (by omega)]
  · rw [if_neg c, if_pos (by omega)]; rfl
theorem sgu_d (n : Nat) : sgu (n + n) = 1 := by
  unfold sgu
  rw [if_pos (by omega)]
def sku (t s : Nat) : Nat := if s < t then s else s + 1
theorem sku_sk {t s : Nat} (h : t ≤ s) (z : Nat) : sku t (sku s z) = sku (s + 1) (sku t z) := by
  unfold sku
  by_cases c1 : z < t
  · rw [if_pos c1, if_pos (show z < s by omega), if_pos c1, if_pos (show z < s + 1 by omega)]
  · rw [if_neg c1]
    by_cases c2 : z < s
    · rw [if_pos c2, if_neg c1, if_pos (show z + 1 < s + 1 by omega)]
    · rw [if_neg c2, if_neg (show ¬ z + 1 < t by omega), if_neg (show ¬ z + 1 < s + 1 by omega)]
theorem sku_le {p t s : Nat} (h : s < p) : sku t s < p + 1 := by unfold sku; split <;> omega
def dEu : Nat → (Nat → Nat → Int) → Int
  | 0, _ => 1
  | p + 1, r => zsu (p + 1) fun t => sgu (p + t) * r t p * dEu p (fun s c => r (sku t s) c)
theorem dEu_c : ∀ p (r r' : Nat → Nat → Int), (∀ t c, t < p → c < p → r t c = r' t c) → dEu p r = dEu p r' := by
  intro p
  induction p with
  | zero => exact fun _ _ _ => rfl
  | succ p ih =>
    intro r r' h
    rw [dEu, dEu]
    exact zsu_c _ fun t ht => by rw [h t p ht (by omega), ih _ _ fun s c hs hc => h _ _ (sku_le hs) (by omega)]
theorem zsu_pi {G : Nat → Nat → Int} : ∀ m, zsu (m + 1) (fun t => zsu m (fun s => G t s)) = zsu (m + 1) (fun t => zsu m (fun s => if t ≤ s then G (s + 1) t else G s (t - 1))) := by
  intro m
  induction m with
  | zero => rfl
  | succ m ih =>
    have L : ∀ F : Nat → Nat → Int, zsu (m + 1 + 1) (fun t => zsu (m + 1) (fun s => F t s)) = zsu (m + 1) (fun t => zsu m (fun s => F t s)) + zsu (m + 1) (fun t => F t m) + zsu (m + 1) (fun s => F (m + 1) s) := by
      intro F
      show zsu (m + 1) (fun t => zsu (m + 1) (fun s => F t s)) + zsu (m + 1) (fun s => F (m + 1) s) = _
      have e : zsu (m + 1) (fun t => zsu (m + 1) (fun s => F t s)) = zsu (m + 1) (fun t => zsu m (fun s => F t s)) + zsu (m + 1) (fun t => F t m) := zsu_add (f := fun t => zsu m (fun s => F t s)) (g := fun t => F t m) (m + 1)
      rw [e]
    rw [L, L, ih]
    have e1 : zsu (m + 1) (fun t => if t ≤ m then G (m + 1) t else G m (t - 1)) = zsu (m + 1) (fun s => G (m + 1) s) := zsu_c _ fun t ht => by rw [if_pos (by omega)]
    have e2 : zsu (m + 1) (fun s => if m + 1 ≤ s then G (s + 1) (m + 1) else G s (m + 1 - 1)) = zsu (m + 1) (fun t => G t m) := zsu_c _ fun t ht => by rw [if_neg (by omega)]; rfl
    rw [e1, e2]
    omega
def swu (a c : Nat) : Nat := if c = a then a + 1 else if c = a + 1 then a else c
theorem swu_1 (a : Nat) : swu a a = a + 1 := if_pos rfl
theorem swu_2 (a : Nat) : swu a (a + 1) = a := by unfold swu; rw [if_neg (by omega), if_pos rfl]
theorem swu_o {a c : Nat} (h1 : c ≠ a) (h2 : c ≠ a + 1) : swu a c = c := by unfold swu; rw [if_neg h1, if_neg h2]
theorem dEu_sw : ∀ p a (r : Nat → Nat → Int), a + 1 < p → dEu p (fun t c => r t (swu a c)) = - dEu p r := by
  intro p
  induction p with
  | zero => exact fun a r h => absurd h (by omega)
  | succ p ih =>
    intro a r h
    by_cases c : a + 1 < p
    · rw [dEu, dEu, ← zsu_neg]
      refine zsu_c _ fun t ht => ?_
      rw [swu_o (show p ≠ a by omega) (show p ≠ a + 1 by omega), ih a (fun s c => r (sku t s) c) c, Int.mul_neg]
    · obtain rfl : p = a + 1 := by omega
      have X : ∀ r : Nat → Nat → Int, dEu (a + 1 + 1) r = zsu (a + 1 + 1) (fun t => zsu (a + 1) (fun s => sgu (a + 1 + t) * sgu (a + s) * (r t (a + 1) * r (sku t s) a) * dEu a (fun z c => r (sku t (sku s z)) c))) := by
        intro r
        rw [dEu]
        refine zsu_c _ fun t ht => ?_
        rw [dEu, ← zsu_mul]
        refine zsu_c _ fun s hs => ?_
        generalize dEu a (fun z c => r (sku t (sku s z)) c) = q
        generalize sgu (a + 1 + t) = x1
        generalize sgu (a + s) = x2
        generalize r t (a + 1) = x3
        generalize r (sku t s) a = x4
        simp only [Int.mul_add, Int.add_mul, Int.mul_sub, Int.sub_mul, Int.neg_mul, Int.mul_neg, Int.neg_neg, Int.mul_assoc, Int.mul_comm, Int.mul_left_comm]
      rw [X, X, zsu_pi, ← zsu_neg]
      refine zsu_c _ fun t ht => ?_
      rw [← zsu_neg]
      refine zsu_c _ fun s hs => ?_
      rw [swu_1, swu_2]
      by_cases ts : t ≤ s
      · rw [if_pos ts]
        have k1 : sku (s + 1) t = t := if_pos (by omega)
        have k2 : sku t s = s + 1 := if_neg (by omega)
        have e : dEu a (fun z c => r (sku (s + 1) (sku t z)) (swu a c)) = dEu a (fun z c => r (sku t (sku s z)) c) := dEu_c _ _ _ fun z c _ hc => by rw [sku_sk ts, swu_o (by omega) (by omega)]
        rw [k1, k2, e, show a + 1 + (s + 1) = a + s + 1 + 1 by omega, show a + 1 + t = a + t + 1 by omega, sgu_s, sgu_s, sgu_s]
        generalize dEu a (fun z c => r (sku t (sku s z)) c) = q
        generalize sgu (a + t) = x1
        generalize sgu (a + s) = x2
        generalize r (s + 1) a = x3
        generalize r t (a + 1) = x4
        simp only [Int.mul_add, Int.add_mul, Int.mul_sub, Int.sub_mul, Int.neg_mul, Int.mul_neg, Int.neg_neg, Int.mul_assoc, Int.mul_comm, Int.mul_left_comm]
      · rw [if_neg ts]
        have k1 : sku s (t - 1) = t := by unfold sku; rw [if_neg (by omega)]; omega
        have k2 : sku t s = s := if_pos (by omega)
        have e : dEu a (fun z c => r (sku s (sku (t - 1) z)) (swu a c)) = dEu a (fun z c => r (sku t (sku s z)) c) := dEu_c _ _ _ fun z c _ hc => by
          rw [sku_sk (show s ≤ t - 1 by omega), swu_o (by omega) (by omega), show t - 1 + 1 = t by omega]
        rw [k1, k2, e]
        have g1 : sgu (a + 1 + s) = - sgu (a + s) := by rw [show a + 1 + s = a + s + 1 by omega, sgu_s]
        have g2 : sgu (a + 1 + t) = sgu (a + (t - 1)) := by rw [show a + 1 + t = a + (t - 1) + 1 + 1 by omega, sgu_s, sgu_s]; omega
        rw [g1, g2]
        generalize dEu a (fun z c => r (sku t (sku s z)) c) = q
        generalize sgu (a + (t - 1)) = x1
        generalize sgu (a + s) = x2
        generalize r s a = x3
        generalize r t (a + 1) = x4
        simp only [Int.mul_add, Int.add_mul, Int.mul_sub, Int.sub_mul, Int.neg_mul, Int.mul_neg, Int.neg_neg, Int.mul_assoc, Int.mul_comm, Int.mul_left_comm]
theorem dEu_z : ∀ d p a (r : Nat → Nat → Int), a + d + 1 < p → (∀ t, r t a = r t (a + d + 1)) → dEu p r = 0 := by
  intro d
  induction d with
  | zero =>
    intro p a r h e
    have s := dEu_sw p a r h
    have i : (fun t c => r t (swu a c)) = r := by
      funext t c
      by_cases c1 : c = a
      · rw [c1, swu_1]; exact (e t).symm
      · by_cases c2 : c = a + 1
        · rw [c2, swu_2]; exact e t
        · rw [swu_o c1 c2]
    rw [i] at s
    omega
  | succ d ih =>
    intro p a r h e
    have s := dEu_sw p (a + d + 1) r (by omega)
    have z := ih p a (fun t c => r t (swu (a + d + 1) c)) (by omega) fun t => by
      rw [swu_1, swu_o (by omega) (by omega)]
      exact e t
    rw [z] at s
    omega
theorem sgu_sq (n : Nat) : sgu n * sgu n = 1 := by
  unfold sgu
  split <;> rfl
theorem dEu_y (q : Nat) : ∀ d (r : Nat → Nat → Int), d ≤ q → dEu (q + 1) (fun t c => r t (if c = q then q - d else if c < q - d then c else c + 1)) = sgu d * dEu (q + 1) r := by
  intro d
  induction d with
  | zero =>
    intro r _
    have e : dEu (q + 1) (fun t c => r t (if c = q then q - 0 else if c < q - 0 then c else c + 1)) = dEu (q + 1) r := dEu_c _ _ _ fun t c _ hc => by
      by_cases h : c = q
      · rw [if_pos h, h]; rfl
      · rw [if_neg h, if_pos (by omega)]
    rw [e]
    exact (Int.one_mul _).symm
  | succ d ih =>
    intro r h
    obtain ⟨i, hi⟩ : ∃ i, i = q - (d + 1) := ⟨_, rfl⟩
    have hd : q - d = i + 1 := by omega
    have s := dEu_sw (q + 1) i r (by omega)
    have k := ih (fun t c => r t (swu i c)) (by omega)
    rw [s, hd] at k
    rw [← hi, sgu_s, Int.neg_mul, ← Int.mul_neg, ← k]
    refine dEu_c _ _ _ fun t c _ hc => ?_
    by_cases h1 : c = q
    · rw [if_pos h1, if_pos h1, swu_2]
    · rw [if_neg h1, if_neg h1]
      by_cases h2 : c < i
      · rw [if_pos h2, if_pos (show c < i + 1 by omega), swu_o (by omega) (by omega)]
      · rw [if_neg h2]
        by_cases h3 : c = i
        · rw [if_pos (show c < i + 1 by omega), h3, swu_1]
        · rw [if_neg (show ¬ c < i + 1 by omega), swu_o (by omega) (by omega)]

/-! BYTES OF WORDS -/
theorem bit255 : ∀ i : Fin 32, 8 ≤ i.val → (255#32)[i.val] = false := by decide
theorem b255 (z : Int32) : z.toInt8.toInt32 &&& 255 = z &&& 255 := by
  apply Int32.toBitVec_inj.1
  rw [Int32.toBitVec_and, Int32.toBitVec_and, Int8.toBitVec_toInt32, Int32.toBitVec_toInt8]
  ext i hi
  rw [BitVec.getElem_and, BitVec.getElem_and]
  by_cases h : i < 8
  · simp [BitVec.getElem_signExtend, h, hi]
  · have : (Int32.toBitVec 255)[i] = false := bit255 ⟨i, hi⟩ (by show 8 ≤ i; omega)
    rw [this]
    simp
theorem and255 (z : Int32) : z &&& 255 = nI (z.toBitVec.toNat % 256) := by
  apply Int32.toBitVec_inj.1
  apply BitVec.eq_of_toNat_eq
  rw [Int32.toBitVec_and, BitVec.toNat_and, pk_tn (by omega)]
  exact Nat.and_two_pow_sub_one_eq_mod _ 8
/-- the byte of a word -/
def bv (w : Int32) (r : Nat) : Nat := w.toBitVec.toNat / 2 ^ (24 - 8 * r) % 256
theorem bv_lt (w : Int32) (r : Nat) : bv w r < 256 := Nat.mod_lt _ (by decide)
theorem ush_b (w : Int32) {r : Nat} (hr : r < 4) : (ush w (zI (24 - 8 * r))).toInt8.toInt32.toInt8.toInt32 &&& 255 = nI (bv w r) := by
  have e : ∀ z : Int32, z.toInt8.toInt32.toInt8.toInt32 = z.toInt8.toInt32 := fun z => by simp
  rw [e, b255, and255]
  unfold bv ush
  rcases (show r = 0 ∨ r = 1 ∨ r = 2 ∨ r = 3 by omega) with rfl | rfl | rfl | rfl
  · rw [pk_ushr w _ 24 (by decide)]
  · rw [pk_ushr w _ 16 (by decide)]
  · rw [pk_ushr w _ 8 (by decide)]
  · rw [pk_ushr w _ 0 (by decide)]
theorem ash_u (w : Int32) (s : Nat) (hs : s ≤ 24) : (w.toBitVec.sshiftRight s &&& 255#32).toNat = w.toBitVec.toNat / 2 ^ s % 256 := by
  have e : w.toBitVec.sshiftRight s &&& 255#32 = w.toBitVec >>> s &&& 255#32 := by
    ext i hi
    rw [BitVec.getElem_and, BitVec.getElem_and]
    by_cases h : i < 8
    · rw [BitVec.getElem_sshiftRight, BitVec.getElem_ushiftRight]
      simp [show s + i < 32 by omega]
    · have : (255#32)[i] = false := bit255 ⟨i, hi⟩ (by show 8 ≤ i; omega)
      rw [this]
      simp
  rw [e, BitVec.toNat_and, BitVec.toNat_ushiftRight, Nat.shiftRight_eq_div_pow]
  exact Nat.and_two_pow_sub_one_eq_mod _ 8
theorem ash_b (w : Int32) {r : Nat} (hr : r < 4) : (w >>> (((24 : Int32) - (8 : Int32) * nI r) &&& 31)) &&& 255 = nI (bv w r) := by
  apply Int32.toBitVec_inj.1
  apply BitVec.eq_of_toNat_eq
  have hb := bv_lt w r
  rw [Int32.toBitVec_and, Int32.toBitVec_shiftRight, pk_tn (by omega)]
  unfold bv
  rcases (show r = 0 ∨ r = 1 ∨ r = 2 ∨ r = 3 by omega) with rfl | rfl | rfl | rfl
  · exact ash_u w 24 (by decide)
  · exact ash_u w 16 (by decide)
  · exact ash_u w 8 (by decide)
  · exact ash_u w 0 (by decide)

/-! WHAT A LINE TELLS, of each kind -/
def lgCk (D : LgD) (f : Nat) (v : Nat → Nat) : Nat × Nat × LgD := if lgFull D f then (3, 0, D) else match fbR (fun _ => 0) (lgMo D f) (f = 2) v (mnO f) 0 with
  | some k => (2, k, D)
  | none => (0, 0, lgTk D f v)
def lwCk (W : LwD) (f : Nat) (v : Nat → Nat) : Nat × Nat × LwD := match fbR lwLe (lwMo f) False v (mnO f) 0 with
  | some k => (2, k, W)
  | none => (0, 0, lwTk W f v)
def plCk (X : PlX) (f : Nat) (v : Nat → Nat) : Nat × Nat × PlX := if plFull X f then (3, 0, X) else match fbR (plLe X f) (plMo f) (f = 26) v (mnO f) 0 with
  | some k => (2, k, X)
  | none => (0, 0, plTk X f v)
theorem lgCk_le : CkO lgCk := by
  intro D f v
  unfold lgCk
  split
  · exact Nat.le_refl 3
  · split
    · exact (by decide : 2 ≤ 3)
    · exact (by decide : 0 ≤ 3)
theorem lwCk_le : CkO lwCk := by
  intro D f v
  unfold lwCk
  split
  · exact (by decide : 2 ≤ 3)
  · exact (by decide : 0 ≤ 3)
theorem plCk_le : CkO plCk := by
  intro D f v
  unfold plCk
  split
  · exact Nat.le_refl 3
  · split
    · exact (by decide : 2 ≤ 3)
    · exact (by decide : 0 ≤ 3)
section KD
variable {st st1 st2 s s1 : xS} {n m0 : Nat}
theorem LgN_h {D : LgD} (h : ∀ a, m0 ≤ a → s1.2.2 a = s.2.2 a) (k : LgN s m0 D) : LgN s1 m0 D := by
  obtain ⟨c0, f, g, c1, c2, h1, h2⟩ := k
  exact ⟨(h _ (by omega)).trans c0, f, g, (h _ (by omega)).trans c1, (h _ (by omega)).trans c2, h1, h2⟩
theorem LwN_h {D : LwD} (h : ∀ a, m0 ≤ a → s1.2.2 a = s.2.2 a) (k : LwN s m0 D) : LwN s1 m0 D := by
  obtain ⟨c0, f, c1, h1⟩ := k
  exact ⟨(h _ (by omega)).trans c0, f, (h _ (by omega)).trans c1, h1⟩
theorem PlN_h {D : PlX} (h : ∀ a, m0 ≤ a → s1.2.2 a = s.2.2 a) (k : PlN s m0 D) : PlN s1 m0 D := by
  obtain ⟨c0, f, c1, h1⟩ := k
  exact ⟨(h _ (by omega)).trans c0, f, (h _ (by omega)).trans c1, h1⟩
theorem C_coup {f : Nat} (hf : f ≤ 26) : F_X7_isCouple n s (nI f) = some (bI (f = 2 ∨ f = 26)) := by
  have e1 : (nI f = (2 : Int32)) = (f = 2) := nEq (b := 2) (by omega) (by decide)
  have e2 : (nI f = (26 : Int32)) = (f = 26) := nEq (b := 26) (by omega) (by decide)
  unfold F_X7_isCouple
  simp only [e1, e2]
  by_cases c1 : f = 2
  · rw [if_pos c1, bI_t (Or.inl c1)]; rfl
  · by_cases c2 : f = 26
    · rw [if_neg c1, if_pos c2, bI_t (Or.inr c2)]; rfl
    · rw [if_neg c1, if_neg c2, bI_f (fun h => h.elim c1 c2)]; rfl
theorem xf_fail (h116 : 116 ≤ m0) (o : Only (fun a => a = 75) s s1) : XF m0 s s1 := ⟨o.1, o.2.1, o.2.2.1, fun a _ h2 => o.2.2.2 a fun q => h2 (Or.inl q)⟩
theorem nf_v (h116 : 116 ≤ m0) (h : NF m0 s s1) (k : Nat) : fV s1 75 k = fV s 75 k := by
  unfold fV
  rw [h.2.2.2 75 (by omega)]
theorem CkH_lg (h116 : 116 ≤ m0) (hn : 3000 ≤ n) : CkH n 0 m0 (fun s D => LgN s m0 D) LgI lgCk := by
  refine ⟨fun s s' D h k => LgN_h h k, fun s D f c v q w fi S K hI hg hv hq bv h8 h9 => ?_⟩
  have f3 : f < 3 := by have := gFo_r (by decide) hg; omega
  have g10 := hI.1
  have s8 := hI.2.1
  have m3 := mnO_le f
  have cp : F_X7_isCouple n s (nI f) = some (bI (f = 2)) := by
    rw [C_coup (by omega)]
    congr 1
    by_cases c2 : f = 2
    · rw [bI_t (Or.inl c2), bI_t c2]
    · rw [bI_f (fun h => h.elim c2 (by omega)), bI_f c2]
  have mb : ∀ k, -10000 ≤ lgMo D f k ∧ lgMo D f k ≤ 10000 := fun k => by unfold lgMo; split <;> split <;> omega
  have ck := C_chk4 (n := n) (fi := fi) (le := fun _ => 0) (mo := lgMo D f) (cpl := f = 2) (full := lgFull D f) S hv hq K.1 m3 bv (fun _ => by decide) mb (C_full4 K g10 s8 f3) (fun k hk => rfl) (fun k hk => C_most4 K f3 hk) cp hn
  rw [ck]
  unfold lgCk
  by_cases hF : lgFull D f
  · rw [if_pos hF, if_pos hF]
    obtain ⟨s', e', o', v', y8, y9⟩ := C_failX (n := n) S 3 fi
    exact ⟨s', e', xf_fail h116 o', v', LgN_h (fun a ha => o'.2.2.2 a (by omega)) K, hI, y8, y9⟩
  · rw [if_neg hF, if_neg hF]
    cases hb : fbR (fun _ => 0) (lgMo D f) (f = 2) v (mnO f) 0 with
    | some k =>
      obtain ⟨s', e', o', v', y8, y9⟩ := C_failX (n := n) S 2 (nI (q k))
      exact ⟨s', e', xf_fail h116 o', v', LgN_h (fun a ha => o'.2.2.2 a (by omega)) K, hI, y8, y9⟩
    | none =>
      have hm : mnO f = if f = 1 then 2 else 3 := by
        rcases (show f = 0 ∨ f = 1 ∨ f = 2 by omega) with rfl | rfl | rfl <;> rfl
      have tI : LgI (lgTk D f v) := lgTk_I hI f3 hF (by rw [← hm]; exact hb)
      have hv2 : f = 2 → v 0 < 10 ∧ v 1 < 10 := by
        intro h2
        subst h2
        have nb := fbR_none _ _ hb
        have b0 := nb 0 (by decide) (by decide)
        have b1 := nb 1 (by decide) (by decide)
        have v0 : v 0 < D.g := by have : ¬ (D.g : Int) - 1 < (v 0 : Int) := fun h => b0 (Or.inr (Or.inr h)); omega
        have v1 : v 1 < D.g := by have : ¬ (D.g : Int) - 1 < (v 1 : Int) := fun h => b1 (Or.inr (Or.inr h)); omega
        omega
      obtain ⟨s', e', nf, k'⟩ := C_take4 (n := n) (v := v) S K h116 g10 s8 f3 hF hv2
      exact ⟨s', e', nf.xf, fun k _ => nf_v h116 nf k, k', tI, (fI_c (nf.2.2.2 75 (by omega)) 8).trans h8, (fI_c (nf.2.2.2 75 (by omega)) 9).trans h9⟩
theorem CkH_lw (h116 : 116 ≤ m0) (hn : 3000 ≤ n) : CkH n 1 m0 (fun s D => LwN s m0 D) LwI lwCk := by
  refine ⟨fun s s' D h k => LwN_h h k, fun s D f c v q w fi S K hI hg hv hq bv h8 h9 => ?_⟩
  have f3 : 10 ≤ f ∧ f ≤ 16 := by have := gFo_r (by decide) hg; omega
  have m3 := mnO_le f
  have cp : F_X7_isCouple n s (nI f) = some (bI False) := by
    rw [C_coup (by omega)]
    congr 1
    rw [bI_f (fun h => by omega), bI_f (fun h => h)]
  have lb : ∀ k, -10000 ≤ lwLe k ∧ lwLe k ≤ 10000 := fun k => by unfold lwLe; split <;> omega
  have mb : ∀ k, -10000 ≤ lwMo f k ∧ lwMo f k ≤ 10000 := fun k => by unfold lwMo; (repeat (first | omega | split)) 
  have ck := C_chk3 (n := n) (fi := fi) (le := lwLe) (mo := lwMo f) (cpl := False) (full := False) S hv hq K.1 m3 bv lb mb C_full3 (fun k hk => C_least3 hk) (fun k hk => C_most3 f3.1 f3.2 hk) cp hn
  rw [ck, if_neg (fun h => h)]
  unfold lwCk
  cases hb : fbR lwLe (lwMo f) False v (mnO f) 0 with
  | some k =>
    obtain ⟨s', e', o', v', y8, y9⟩ := C_failX (n := n) S 2 (nI (q k))
    exact ⟨s', e', xf_fail h116 o', v', LwN_h (fun a ha => o'.2.2.2 a (by omega)) K, hI, y8, y9⟩
  | none =>
    have hm : mnO f = lwMany f := by
      rcases (show f = 10 ∨ f = 11 ∨ f = 12 ∨ f = 13 ∨ f = 14 ∨ f = 15 ∨ f = 16 by omega) with rfl | rfl | rfl | rfl | rfl | rfl | rfl <;> rfl
    have tI : LwI (lwTk D f v) := lwTk_I hI f3.1 f3.2 (by rw [← hm]; exact hb)
    obtain ⟨s', e', nf, k'⟩ := C_take3 (n := n) (v := v) S K h116 f3.1 f3.2
    exact ⟨s', e', nf.xf, fun k _ => nf_v h116 nf k, k', tI, (fI_c (nf.2.2.2 75 (by omega)) 8).trans h8, (fI_c (nf.2.2.2 75 (by omega)) 9).trans h9⟩
theorem CkH_pl (h116 : 116 ≤ m0) (hn : 3000 ≤ n) : CkH n 2 m0 (fun s D => PlN s m0 D) PlXI plCk := by
  refine ⟨fun s s' D h k => PlN_h h k, fun s D f c v q w fi S K hI hg hv hq bv h8 h9 => ?_⟩
  have f3 : 20 ≤ f ∧ f ≤ 26 := by have := gFo_r (by decide) hg; omega
  have n40 := hI.1.1
  have y999 := hI.2.1
  have m3 := mnO_le f
  have cp : F_X7_isCouple n s (nI f) = some (bI (f = 26)) := by
    rw [C_coup (by omega)]
    congr 1
    by_cases c2 : f = 26
    · rw [bI_t (Or.inr c2), bI_t c2]
    · rw [bI_f (fun h => h.elim (by omega) c2), bI_f c2]
  have lb : ∀ k, -10000 ≤ plLe D f k ∧ plLe D f k ≤ 10000 := fun k => by unfold plLe; split <;> omega
  have mb : ∀ k, -10000 ≤ plMo f k ∧ plMo f k ≤ 10000 := fun k => by unfold plMo; (repeat (first | omega | split))
  have ck := C_chk6 (n := n) (fi := fi) (le := plLe D f) (mo := plMo f) (cpl := f = 26) (full := plFull D f) S hv hq K.1 m3 bv lb mb (C_full6 K n40 f3.1 f3.2) (fun k hk => C_least6 K f3.1 f3.2 k) (fun k hk => C_most6 f3.1 f3.2 k) cp hn
  rw [ck]
  unfold plCk
  by_cases hF : plFull D f
  · rw [if_pos hF, if_pos hF]
    obtain ⟨s', e', o', v', y8, y9⟩ := C_failX (n := n) S 3 fi
    exact ⟨s', e', xf_fail h116 o', v', PlN_h (fun a ha => o'.2.2.2 a (by omega)) K, hI, y8, y9⟩
  · rw [if_neg hF, if_neg hF]
    cases hb : fbR (plLe D f) (plMo f) (f = 26) v (mnO f) 0 with
    | some k =>
      obtain ⟨s', e', o', v', y8, y9⟩ := C_failX (n := n) S 2 (nI (q k))
      exact ⟨s', e', xf_fail h116 o', v', PlN_h (fun a ha => o'.2.2.2 a (by omega)) K, hI, y8, y9⟩
    | none =>
      have hm : mnO f = plMany f := by
        rcases (show f = 20 ∨ f = 21 ∨ f = 22 ∨ f = 23 ∨ f = 24 ∨ f = 25 ∨ f = 26 by omega) with rfl | rfl | rfl | rfl | rfl | rfl | rfl <;> rfl
      have tI : PlXI (plTk D f v) := plTk_I hI f3.1 f3.2 hF (by rw [← hm]; exact hb)
      have hv2 : f = 26 → v 0 < 8 ∧ v 1 < 8 := by
        intro h2
        subst h2
        have nb := fbR_none _ _ hb
        have b0 := nb 0 (by decide) (by decide)
        have b1 := nb 1 (by decide) (by decide)
        have v0 : v 0 ≤ 7 := by have : ¬ (7 : Int) < (v 0 : Int) := fun h => b0 (Or.inr (Or.inr h)); omega
        have v1 : v 1 ≤ 7 := by have : ¬ (7 : Int) < (v 1 : Int) := fun h => b1 (Or.inr (Or.inr h)); omega
        omega
      obtain ⟨s', e', nf, k'⟩ := C_take6 (n := n) (v := v) S K hI h116 f3.1 f3.2 hF hv2
      exact ⟨s', e', nf.xf, fun k _ => nf_v h116 nf k, k', tI, (fI_c (nf.2.2.2 75 (by omega)) 8).trans h8, (fI_c (nf.2.2.2 75 (by omega)) 9).trans h9⟩
end KD

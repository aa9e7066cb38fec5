/-! PRIMITIVES of the methods as functions: what they read and write of a pure state; a reference is an Option Nat -/
def gV (st : xS) (o : Option Nat) (ci k : Nat) : Option Value := o.bind fun a => match st.2.2 a with
  | .inr (c, fs) => if c = ci then fs[k]? else none
  | _ => none
/-- an int, a long, a reference out of a value -/
def vI : Value → Option Int32
  | .int v => some v
  | _ => none
def vL : Value → Option Int64
  | .long v => some v
  | _ => none
def vR : Value → Option (Option Nat)
  | .null => some none
  | .ref a => some (some a)
  | _ => none
def gI (st : xS) (o : Option Nat) (ci k : Nat) : Option Int32 := (gV st o ci k).bind vI
def gL (st : xS) (o : Option Nat) (ci k : Nat) : Option Int64 := (gV st o ci k).bind vL
def gR (st : xS) (o : Option Nat) (ci k : Nat) : Option (Option Nat) := (gV st o ci k).bind vR
theorem gV_inv {st : xS} {o : Option Nat} {ci k : Nat} {v : Value} (h : gV st o ci k = some v) : ∃ a fs, o = some a ∧ st.2.2 a = .inr (ci, fs) ∧ fs[k]? = some v := by
  cases o with
  | none => cases h
  | some a =>
    replace h : (match st.2.2 a with | .inr (c, fs) => if c = ci then fs[k]? else none | _ => none) = some v := h
    split at h
    · rename_i c fs e
      by_cases hc : c = ci
      · rw [if_pos hc] at h
        subst hc
        exact ⟨a, fs, rfl, e, h⟩
      · rw [if_neg hc] at h
        cases h
    · cases h
theorem vI_inv {v : Value} {x : Int32} (h : vI v = some x) : v = .int x := by
  cases v <;> simp [vI] at h
  rw [h]
theorem vL_inv {v : Value} {x : Int64} (h : vL v = some x) : v = .long x := by
  cases v <;> simp [vL] at h
  rw [h]
theorem vR_inv {v : Value} {x : Option Nat} (h : vR v = some x) : v = va_rf x := by
  cases v <;> simp [vR] at h <;> subst h <;> rfl
theorem gI_inv {st : xS} {o : Option Nat} {ci k : Nat} {x : Int32} (h : gI st o ci k = some x) : ∃ a fs, o = some a ∧ st.2.2 a = .inr (ci, fs) ∧ fs[k]? = some (.int x) := by
  obtain ⟨v, h1, h2⟩ := Option.bind_eq_some_iff.mp h
  rw [vI_inv h2] at h1
  exact gV_inv h1
theorem gL_inv {st : xS} {o : Option Nat} {ci k : Nat} {x : Int64} (h : gL st o ci k = some x) : ∃ a fs, o = some a ∧ st.2.2 a = .inr (ci, fs) ∧ fs[k]? = some (.long x) := by
  obtain ⟨v, h1, h2⟩ := Option.bind_eq_some_iff.mp h
  rw [vL_inv h2] at h1
  exact gV_inv h1
theorem gR_inv {st : xS} {o : Option Nat} {ci k : Nat} {x : Option Nat} (h : gR st o ci k = some x) : ∃ a fs, o = some a ∧ st.2.2 a = .inr (ci, fs) ∧ fs[k]? = some (va_rf x) := by
  obtain ⟨v, h1, h2⟩ := Option.bind_eq_some_iff.mp h
  rw [vR_inv h2] at h1
  exact gV_inv h1
/-- a field is stored -/
def pF (st : xS) (o : Option Nat) (ci k : Nat) (v : Value) : Option xS := o.bind fun a => match st.2.2 a with
  | .inr (c, fs) => if c = ci ∧ k < fs.length then some (xup st a (.inr (ci, fs.set k v))) else none
  | _ => none
theorem pF_inv {st st1 : xS} {o : Option Nat} {ci k : Nat} {v : Value} (h : pF st o ci k v = some st1) : ∃ a fs, o = some a ∧ st.2.2 a = .inr (ci, fs) ∧ k < fs.length ∧ st1 = xup st a (.inr (ci, fs.set k v)) := by
  cases o with
  | none => cases h
  | some a =>
    replace h : (match st.2.2 a with | .inr (c, fs) => if c = ci ∧ k < fs.length then some (xup st a (.inr (ci, fs.set k v))) else none | _ => none) = some st1 := h
    split at h
    · rename_i c fs e
      by_cases hc : c = ci ∧ k < fs.length
      · rw [if_pos hc] at h
        obtain ⟨rfl, h2⟩ := hc
        exact ⟨a, fs, rfl, e, h2, (Option.some.inj h).symm⟩
      · rw [if_neg hc] at h
        cases h
    · cases h
/-- a boolean is 0 or 1 -/
def rz (v : Int32) : Option Int32 := if v = 0 ∨ v = 1 then some v else none
theorem rz_inv {v x : Int32} (h : rz v = some x) : x = v ∧ (v = 0 ∨ v = 1) := by
  unfold rz at h
  by_cases hc : v = 0 ∨ v = 1
  · rw [if_pos hc] at h
    exact ⟨(Option.some.inj h).symm, hc⟩
  · rw [if_neg hc] at h
    cases h
/-- is an index within -/
def ix (i : Int32) (n : Nat) : Bool := !(decide (i < 0)) && decide (i.toNatClampNeg < n)
theorem ix_in {i : Int32} {n : Nat} (h : ix i n = true) : vp_in i n := by
  simp [ix] at h
  rintro (q | q)
  · exact absurd q (by simpa using h.1)
  · omega
/-- ints: the array's kind 0; the script 9 -/
def aI (st : xS) (o : Option Nat) (i : Int32) : Option Int32 := o.bind fun a => match st.2.2 a with
  | .inl (t, n, .inl f) => if (t = 0 ∨ t = 9 ∧ a = 40) ∧ ix i n = true then some (f i.toNatClampNeg) else none
  | _ => none
theorem aI_inv {st : xS} {o : Option Nat} {i x : Int32} (h : aI st o i = some x) : ∃ a t n f, o = some a ∧ st.2.2 a = .inl (t, n, .inl f) ∧ (t = 0 ∨ t = 9 ∧ a = 40) ∧ vp_in i n ∧ x = f i.toNatClampNeg := by
  cases o with
  | none => cases h
  | some a =>
    replace h : (match st.2.2 a with | .inl (t, n, .inl f) => if (t = 0 ∨ t = 9 ∧ a = 40) ∧ ix i n = true then some (f i.toNatClampNeg) else none | _ => none) = some x := h
    split at h
    · rename_i t n f e
      by_cases hc : (t = 0 ∨ t = 9 ∧ a = 40) ∧ ix i n = true
      · rw [if_pos hc] at h
        exact ⟨a, t, n, f, rfl, e, hc.1, ix_in hc.2, (Option.some.inj h).symm⟩
      · rw [if_neg hc] at h
        cases h
    · cases h
/-- small ones: bytes 2, booleans 3 -/
def aS (t : Nat) (st : xS) (o : Option Nat) (i : Int32) : Option Int32 := o.bind fun a => match st.2.2 a with
  | .inl (t', n, .inl f) => if t' = t ∧ ix i n = true then some (f i.toNatClampNeg) else none
  | _ => none
theorem aS_inv {t : Nat} {st : xS} {o : Option Nat} {i x : Int32} (h : aS t st o i = some x) : ∃ a n f, o = some a ∧ st.2.2 a = .inl (t, n, .inl f) ∧ vp_in i n ∧ x = f i.toNatClampNeg := by
  cases o with
  | none => cases h
  | some a =>
    replace h : (match st.2.2 a with | .inl (t', n, .inl f) => if t' = t ∧ ix i n = true then some (f i.toNatClampNeg) else none | _ => none) = some x := h
    split at h
    · rename_i t' n f e
      by_cases hc : t' = t ∧ ix i n = true
      · rw [if_pos hc] at h
        obtain ⟨rfl, h2⟩ := hc
        exact ⟨a, n, f, rfl, e, ix_in h2, (Option.some.inj h).symm⟩
      · rw [if_neg hc] at h
        cases h
    · cases h
def aL (st : xS) (o : Option Nat) (i : Int32) : Option Int64 := o.bind fun a => match st.2.2 a with
  | .inl (t, n, .inr (.inl f)) => if t = 1 ∧ ix i n = true then some (f i.toNatClampNeg) else none
  | _ => none
theorem aL_inv {st : xS} {o : Option Nat} {i : Int32} {x : Int64} (h : aL st o i = some x) : ∃ a n f, o = some a ∧ st.2.2 a = .inl (1, n, .inr (.inl f)) ∧ vp_in i n ∧ x = f i.toNatClampNeg := by
  cases o with
  | none => cases h
  | some a =>
    replace h : (match st.2.2 a with | .inl (t, n, .inr (.inl f)) => if t = 1 ∧ ix i n = true then some (f i.toNatClampNeg) else none | _ => none) = some x := h
    split at h
    · rename_i t n f e
      by_cases hc : t = 1 ∧ ix i n = true
      · rw [if_pos hc] at h
        obtain ⟨rfl, h2⟩ := hc
        exact ⟨a, n, f, rfl, e, ix_in h2, (Option.some.inj h).symm⟩
      · rw [if_neg hc] at h
        cases h
    · cases h
/-- references: kinds 4 .. 8 -/
def aR (st : xS) (o : Option Nat) (i : Int32) : Option (Option Nat) := o.bind fun a => match st.2.2 a with
  | .inl (t, n, .inr (.inr (.inr (.inr f)))) => if (4 ≤ t ∧ t < 9) ∧ ix i n = true then some (f i.toNatClampNeg) else none
  | _ => none
theorem aR_inv {st : xS} {o : Option Nat} {i : Int32} {x : Option Nat} (h : aR st o i = some x) : ∃ a t n f, o = some a ∧ st.2.2 a = .inl (t, n, .inr (.inr (.inr (.inr f)))) ∧ (4 ≤ t ∧ t < 9) ∧ vp_in i n ∧ x = f i.toNatClampNeg := by
  cases o with
  | none => cases h
  | some a =>
    replace h : (match st.2.2 a with | .inl (t, n, .inr (.inr (.inr (.inr f)))) => if (4 ≤ t ∧ t < 9) ∧ ix i n = true then some (f i.toNatClampNeg) else none | _ => none) = some x := h
    split at h
    · rename_i t n f e
      by_cases hc : (4 ≤ t ∧ t < 9) ∧ ix i n = true
      · rw [if_pos hc] at h
        exact ⟨a, t, n, f, rfl, e, hc.1, ix_in hc.2, (Option.some.inj h).symm⟩
      · rw [if_neg hc] at h
        cases h
    · cases h
def aN (st : xS) (o : Option Nat) : Option Int32 := o.bind fun a => match st.2.2 a with
  | .inl (t, x) => if t < 9 ∨ t = 9 ∧ a = 40 then some (nI x.1) else none
  | _ => none
theorem aN_inv {st : xS} {o : Option Nat} {v : Int32} (h : aN st o = some v) : ∃ a t x, o = some a ∧ st.2.2 a = .inl (t, x) ∧ (t < 9 ∨ t = 9 ∧ a = 40) ∧ v = nI x.1 := by
  cases o with
  | none => cases h
  | some a =>
    replace h : (match st.2.2 a with | .inl (t, x) => if t < 9 ∨ t = 9 ∧ a = 40 then some (nI x.1) else none | _ => none) = some v := h
    split at h
    · rename_i t x e
      by_cases hc : t < 9 ∨ t = 9 ∧ a = 40
      · rw [if_pos hc] at h
        exact ⟨a, t, x, rfl, e, hc, (Option.some.inj h).symm⟩
      · rw [if_neg hc] at h
        cases h
    · cases h
/-! stores -/
def sS (t : Nat) (st : xS) (o : Option Nat) (i x : Int32) : Option xS := o.bind fun a => match st.2.2 a with
  | .inl (t', n, .inl f) => if t' = t ∧ ix i n = true then some (xup st a (.inl (t, n, .inl (upd f i.toNatClampNeg x)))) else none
  | _ => none
theorem sS_inv {t : Nat} {st st1 : xS} {o : Option Nat} {i x : Int32} (h : sS t st o i x = some st1) : ∃ a n f, o = some a ∧ st.2.2 a = .inl (t, n, .inl f) ∧ vp_in i n ∧ st1 = xup st a (.inl (t, n, .inl (upd f i.toNatClampNeg x))) := by
  cases o with
  | none => cases h
  | some a =>
    replace h : (match st.2.2 a with | .inl (t', n, .inl f) => if t' = t ∧ ix i n = true then some (xup st a (.inl (t, n, .inl (upd f i.toNatClampNeg x)))) else none | _ => none) = some st1 := h
    split at h
    · rename_i t' n f e
      by_cases hc : t' = t ∧ ix i n = true
      · rw [if_pos hc] at h
        obtain ⟨rfl, h2⟩ := hc
        exact ⟨a, n, f, rfl, e, ix_in h2, (Option.some.inj h).symm⟩
      · rw [if_neg hc] at h
        cases h
    · cases h
def sL (st : xS) (o : Option Nat) (i : Int32) (x : Int64) : Option xS := o.bind fun a => match st.2.2 a with
  | .inl (t, n, .inr (.inl f)) => if t = 1 ∧ ix i n = true then some (xup st a (.inl (1, n, .inr (.inl (vp_updL f i.toNatClampNeg x))))) else none
  | _ => none
theorem sL_inv {st st1 : xS} {o : Option Nat} {i : Int32} {x : Int64} (h : sL st o i x = some st1) : ∃ a n f, o = some a ∧ st.2.2 a = .inl (1, n, .inr (.inl f)) ∧ vp_in i n ∧ st1 = xup st a (.inl (1, n, .inr (.inl (vp_updL f i.toNatClampNeg x)))) := by
  cases o with
  | none => cases h
  | some a =>
    replace h : (match st.2.2 a with | .inl (t, n, .inr (.inl f)) => if t = 1 ∧ ix i n = true then some (xup st a (.inl (1, n, .inr (.inl (vp_updL f i.toNatClampNeg x))))) else none | _ => none) = some st1 := h
    split at h
    · rename_i t n f e
      by_cases hc : t = 1 ∧ ix i n = true
      · rw [if_pos hc] at h
        obtain ⟨rfl, h2⟩ := hc
        exact ⟨a, n, f, rfl, e, ix_in h2, (Option.some.inj h).symm⟩
      · rw [if_neg hc] at h
        cases h
    · cases h
/-- a reference into an array of kind t, whose objects are of class number ci -/
def xkc : Nat → Nat
  | 4 => 4 | 5 => 3 | 6 => 6 | 7 => 9 | _ => 99
def okR (st : xS) (t : Nat) : Option Nat → Bool
  | none => decide (4 ≤ t ∧ t < 8)
  | some v => match st.2.2 v with
    | .inr (ci, _) => decide (4 ≤ t ∧ t < 8) && decide (ci = xkc t)
    | _ => false
def sR (st : xS) (o : Option Nat) (i : Int32) (x : Option Nat) : Option xS := o.bind fun a => match st.2.2 a with
  | .inl (t, n, .inr (.inr (.inr (.inr f)))) => if ix i n = true ∧ okR st t x = true then some (xup st a (.inl (t, n, .inr (.inr (.inr (.inr (va_up f i.toNatClampNeg x))))))) else none
  | _ => none
theorem sR_inv {st st1 : xS} {o x : Option Nat} {i : Int32} (h : sR st o i x = some st1) : ∃ a t n f, o = some a ∧ st.2.2 a = .inl (t, n, .inr (.inr (.inr (.inr f)))) ∧ vp_in i n ∧ okR st t x = true ∧ st1 = xup st a (.inl (t, n, .inr (.inr (.inr (.inr (va_up f i.toNatClampNeg x)))))) := by
  cases o with
  | none => cases h
  | some a =>
    replace h : (match st.2.2 a with | .inl (t, n, .inr (.inr (.inr (.inr f)))) => if ix i n = true ∧ okR st t x = true then some (xup st a (.inl (t, n, .inr (.inr (.inr (.inr (va_up f i.toNatClampNeg x))))))) else none | _ => none) = some st1 := h
    split at h
    · rename_i t n f e
      by_cases hc : ix i n = true ∧ okR st t x = true
      · rw [if_pos hc] at h
        exact ⟨a, t, n, f, rfl, e, ix_in hc.1, hc.2, (Option.some.inj h).symm⟩
      · rw [if_neg hc] at h
        cases h
    · cases h
def dI (a b : Int32) : Option Int32 := if b = 0 then none else some (a / b)
def dR (a b : Int32) : Option Int32 := if b = 0 then none else some (a - a / b * b)
def dL (a b : Int64) : Option Int64 := if b = 0 then none else some (a / b)
def dM (a b : Int64) : Option Int64 := if b = 0 then none else some (a - a / b * b)
theorem ite_none {α : Type} {c : Prop} [Decidable c] {v x : α} (h : (if c then none else some v) = some x) : ¬ c ∧ v = x := by
  by_cases hc : c
  · rw [if_pos hc] at h
    cases h
  · rw [if_neg hc] at h
    exact ⟨hc, Option.some.inj h⟩
def ush (a b : Int32) : Int32 := (a.toUInt32 >>> (b.toUInt32 &&& Int32.toUInt32 31)).toInt32
/-- System.arraycopy, of numbers of kind t -/
def cpS (t : Nat) (st : xS) (o0 : Option Nat) (sp : Int32) (o : Option Nat) (dp n : Int32) : Option xS := o0.bind fun a0 => o.bind fun a => match st.2.2 a0, st.2.2 a with
  | .inl (t0, n0, .inl f), .inl (t1, n1, .inl g) => if (t0 = t ∧ t1 = t) ∧ (¬ sp < 0 ∧ ¬ dp < 0 ∧ ¬ n < 0) ∧ (sp.toNatClampNeg + n.toNatClampNeg ≤ n0 ∧ dp.toNatClampNeg + n.toNatClampNeg ≤ n1) ∧ (∀ i, i < n.toNatClampNeg → fits (xty t) (.int (f (sp.toNatClampNeg + i))) = true) then some (xup st a (.inl (t, n1, .inl (va_cpy f g sp.toNatClampNeg dp.toNatClampNeg n.toNatClampNeg)))) else none
  | _, _ => none
theorem cpS_inv {t : Nat} {st st1 : xS} {o0 o : Option Nat} {sp dp n : Int32} (h : cpS t st o0 sp o dp n = some st1) : ∃ a0 a n0 n1 f g, o0 = some a0 ∧ o = some a ∧ st.2.2 a0 = .inl (t, n0, .inl f) ∧ st.2.2 a = .inl (t, n1, .inl g) ∧ ¬ sp < 0 ∧ ¬ dp < 0 ∧ ¬ n < 0 ∧ sp.toNatClampNeg + n.toNatClampNeg ≤ n0 ∧ dp.toNatClampNeg + n.toNatClampNeg ≤ n1 ∧ (∀ i, i < n.toNatClampNeg → fits (xty t) (.int (f (sp.toNatClampNeg + i))) = true) ∧ st1 = xup st a (.inl (t, n1, .inl (va_cpy f g sp.toNatClampNeg dp.toNatClampNeg n.toNatClampNeg))) := by
  cases o0 with
  | none => cases h
  | some a0 =>
    cases o with
    | none => cases h
    | some a =>
      unfold cpS at h
      simp only [Option.bind_some] at h
      split at h
      · rename_i t0 n0 f t1 n1 g e0 e1
        split at h
        · rename_i hc
          obtain ⟨⟨rfl, h1⟩, ⟨h2, h3, h4⟩, ⟨h5, h6⟩, h7⟩ := hc
          subst h1
          exact ⟨a0, a, n0, n1, f, g, rfl, rfl, e0, e1, h2, h3, h4, h5, h6, h7, (Option.some.inj h).symm⟩
        · cases h
      · cases h

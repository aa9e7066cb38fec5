/-! THE STATIC OBJECTS: what the law makes first stands at 64 .. 115: their shapes, and what is read and written there -/
def okV (p : Nat × Nat) (v : Value) : Prop := match p.1 with
  | 0 => v = .ref p.2
  | 1 => ∃ x, v = .int x
  | 2 => v = .null ∨ ∃ a, v = .ref a
  | _ => ∃ x, v = .long x
def isA (t n : Nat) (c : xC) : Prop := ∃ f : Nat → Int32, c = .inl (t, n, .inl f)
def isL (n : Nat) (c : xC) : Prop := ∃ f : Nat → Int64, c = .inl (1, n, .inr (.inl f))
def isR (t n : Nat) (c : xC) : Prop := ∃ f : Nat → Option Nat, c = .inl (t, n, .inr (.inr (.inr (.inr f))))
def isM (c : xC) : Prop := c = .inl (8, 6, .inr (.inr (.inr (.inr fun i => if i < 6 then some (93 + i) else none))))
def isOb (ci : Nat) (ps : List (Nat × Nat)) (c : xC) : Prop := ∃ fs : List Value, c = .inr (ci, fs) ∧ fs.length = ps.length ∧ ∀ (k : Nat) (p : Nat × Nat), ps[k]? = some p → ∃ v, fs[k]? = some v ∧ okV p v
abbrev sc : Type := Nat × Nat × Nat × List (Nat × Nat)
def shP (c : sc) (x : xC) : Prop := match c.1 with
  | 0 => isA c.2.1 c.2.2.1 x
  | 1 => isL c.2.2.1 x
  | 2 => isR c.2.1 c.2.2.1 x
  | 3 => isOb c.2.1 c.2.2.2 x
  | _ => isM x
def shT : List sc := [(3, 10, 0, [(0, 65), (0, 74), (0, 75), (0, 79), (0, 90), (0, 99), (0, 104), (0, 105)]), (3, 9, 0, [(0, 66), (0, 67), (0, 68), (0, 69), (0, 70), (0, 71), (0, 72), (0, 73), (1, 0), (1, 0), (1, 0)]), (2, 4, 3, []), (2, 5, 3, []), (2, 6, 3, []), (0, 0, 4, []), (0, 0, 800, []), (0, 0, 16, []), (0, 0, 16, []), (0, 2, 500, []), (2, 7, 3, []), (3, 7, 0, [(2, 0), (1, 0), (1, 0), (1, 0), (1, 0), (1, 0), (0, 77), (0, 78), (1, 0), (1, 0)]), (0, 2, 0, []), (0, 0, 3, []), (0, 0, 3, []), (3, 5, 0, [(2, 0), (2, 0), (2, 0), (0, 87), (1, 0), (1, 0), (1, 0), (1, 0), (0, 88), (0, 89)]), (3, 4, 0, [(0, 81), (0, 82), (1, 0), (1, 0)]), (0, 0, 60, []), (0, 0, 100, []), (3, 3, 0, [(0, 84)]), (0, 0, 26, []), (3, 6, 0, [(0, 86), (1, 0), (1, 0), (1, 0), (1, 0), (1, 0), (1, 0), (1, 0)]), (0, 0, 240, []), (0, 0, 6, []), (0, 0, 8, []), (0, 0, 8, []), (3, 1, 0, [(0, 91), (0, 92), (1, 0)]), (0, 0, 8, []), (4, 0, 0, []), (1, 1, 7, []), (1, 1, 7, []), (1, 1, 7, []), (1, 1, 7, []), (1, 1, 7, []), (1, 1, 7, []), (3, 8, 0, [(0, 100), (0, 101), (0, 102), (0, 103)]), (0, 0, 8, []), (0, 0, 8, []), (0, 0, 8, []), (0, 0, 8, []), (0, 0, 80, []), (0, 0, 40, []), (3, 11, 0, [(0, 107), (0, 108), (1, 0), (1, 0), (1, 0), (1, 0), (1, 0), (1, 0), (1, 0), (0, 109), (1, 0), (1, 0), (1, 0), (1, 0), (0, 110), (1, 0), (1, 0), (1, 0), (1, 0), (1, 0), (1, 0), (0, 111), (0, 112), (1, 0), (1, 0), (3, 0), (3, 0), (0, 113), (0, 114), (1, 0), (0, 115)]), (0, 0, 10250, []), (0, 3, 3, []), (0, 0, 242, []), (0, 0, 6, []), (1, 1, 42, []), (0, 0, 8, []), (1, 1, 61, []), (0, 0, 80, []), (0, 0, 40, [])]
def Sh (st : xS) : Prop := 52 ≤ st.1 ∧ ∀ (i : Nat) (c : sc), shT[i]? = some c → shP c (st.2.2 (64 + i))
/-- contents -/
def cI (st : xS) (a : Nat) : Nat → Int32 := match st.2.2 a with
  | .inl (_, _, .inl f) => f
  | _ => fun _ => 0
def cL (st : xS) (a : Nat) : Nat → Int64 := match st.2.2 a with
  | .inl (_, _, .inr (.inl f)) => f
  | _ => fun _ => 0
def cR (st : xS) (a : Nat) : Nat → Option Nat := match st.2.2 a with
  | .inl (_, _, .inr (.inr (.inr (.inr f)))) => f
  | _ => fun _ => none
def fV (st : xS) (a k : Nat) : Value := match st.2.2 a with
  | .inr (_, fs) => (fs[k]?).getD .null
  | _ => .null
def fI (st : xS) (a k : Nat) : Int32 := (vI (fV st a k)).getD 0
def fL (st : xS) (a k : Nat) : Int64 := (vL (fV st a k)).getD 0
def fR (st : xS) (a k : Nat) : Option Nat := (vR (fV st a k)).getD none
/-- an array's content, a field are others -/
def wA (st : xS) (a : Nat) (f : Nat → Int32) : xS := match st.2.2 a with
  | .inl (t, n, .inl _) => xup st a (.inl (t, n, .inl f))
  | _ => st
def wL (st : xS) (a : Nat) (f : Nat → Int64) : xS := match st.2.2 a with
  | .inl (t, n, .inr (.inl _)) => xup st a (.inl (t, n, .inr (.inl f)))
  | _ => st
def wR (st : xS) (a : Nat) (f : Nat → Option Nat) : xS := match st.2.2 a with
  | .inl (t, n, .inr (.inr (.inr (.inr _)))) => xup st a (.inl (t, n, .inr (.inr (.inr (.inr f)))))
  | _ => st
def uV (st : xS) (a k : Nat) (v : Value) : xS := match st.2.2 a with
  | .inr (c, fs) => xup st a (.inr (c, fs.set k v))
  | _ => st
section ST
variable {st : xS}
theorem xup_1 (st : xS) (a : Nat) (c : xC) : (xup st a c).1 = st.1 := rfl
theorem xup_2 (st : xS) (a : Nat) (c : xC) : (xup st a c).2.1 = st.2.1 := rfl
theorem xup_s (st : xS) (a : Nat) (c : xC) : (xup st a c).2.2 a = c := if_pos rfl
theorem xup_n {a b : Nat} (h : b ≠ a) (st : xS) (c : xC) : (xup st a c).2.2 b = st.2.2 b := if_neg h
theorem wA_at (st : xS) (a : Nat) (f : Nat → Int32) : (∃ t n g, st.2.2 a = .inl (t, n, .inl g) ∧ wA st a f = xup st a (.inl (t, n, .inl f))) ∨ ((∀ t n g, st.2.2 a ≠ .inl (t, n, .inl g)) ∧ wA st a f = st) := by
  unfold wA
  split
  · rename_i t n g e
    exact Or.inl ⟨t, n, g, e, rfl⟩
  · rename_i h
    exact Or.inr ⟨fun t n g e => h t n g e, rfl⟩
theorem wL_at (st : xS) (a : Nat) (f : Nat → Int64) : (∃ t n g, st.2.2 a = .inl (t, n, .inr (.inl g)) ∧ wL st a f = xup st a (.inl (t, n, .inr (.inl f)))) ∨ ((∀ t n g, st.2.2 a ≠ .inl (t, n, .inr (.inl g))) ∧ wL st a f = st) := by
  unfold wL
  split
  · rename_i t n g e
    exact Or.inl ⟨t, n, g, e, rfl⟩
  · rename_i h
    exact Or.inr ⟨fun t n g e => h t n g e, rfl⟩
theorem wR_at (st : xS) (a : Nat) (f : Nat → Option Nat) : (∃ t n g, st.2.2 a = .inl (t, n, .inr (.inr (.inr (.inr g)))) ∧ wR st a f = xup st a (.inl (t, n, .inr (.inr (.inr (.inr f)))))) ∨ ((∀ t n g, st.2.2 a ≠ .inl (t, n, .inr (.inr (.inr (.inr g))))) ∧ wR st a f = st) := by
  unfold wR
  split
  · rename_i t n g e
    exact Or.inl ⟨t, n, g, e, rfl⟩
  · rename_i h
    exact Or.inr ⟨fun t n g e => h t n g e, rfl⟩
theorem uV_at (st : xS) (a k : Nat) (v : Value) : (∃ c fs, st.2.2 a = .inr (c, fs) ∧ uV st a k v = xup st a (.inr (c, fs.set k v))) ∨ ((∀ c fs, st.2.2 a ≠ .inr (c, fs)) ∧ uV st a k v = st) := by
  unfold uV
  split
  · rename_i c fs e
    exact Or.inl ⟨c, fs, e, rfl⟩
  · rename_i h
    exact Or.inr ⟨fun c fs e => h c fs e, rfl⟩
theorem wA_n {a b : Nat} (h : b ≠ a) (st : xS) (f : Nat → Int32) : (wA st a f).2.2 b = st.2.2 b := by
  rcases wA_at st a f with ⟨t, n, g, -, e⟩ | ⟨-, e⟩ <;> rw [e]
  exact xup_n h _ _
theorem wL_n {a b : Nat} (h : b ≠ a) (st : xS) (f : Nat → Int64) : (wL st a f).2.2 b = st.2.2 b := by
  rcases wL_at st a f with ⟨t, n, g, -, e⟩ | ⟨-, e⟩ <;> rw [e]
  exact xup_n h _ _
theorem wR_n {a b : Nat} (h : b ≠ a) (st : xS) (f : Nat → Option Nat) : (wR st a f).2.2 b = st.2.2 b := by
  rcases wR_at st a f with ⟨t, n, g, -, e⟩ | ⟨-, e⟩ <;> rw [e]
  exact xup_n h _ _
theorem uV_n {a b : Nat} (h : b ≠ a) (st : xS) (k : Nat) (v : Value) : (uV st a k v).2.2 b = st.2.2 b := by
  rcases uV_at st a k v with ⟨c, fs, -, e⟩ | ⟨-, e⟩ <;> rw [e]
  exact xup_n h _ _
theorem wA_1 (st : xS) (a : Nat) (f : Nat → Int32) : (wA st a f).1 = st.1 ∧ (wA st a f).2.1 = st.2.1 := by
  rcases wA_at st a f with ⟨t, n, g, -, e⟩ | ⟨-, e⟩ <;> rw [e] <;> exact ⟨rfl, rfl⟩
theorem wL_1 (st : xS) (a : Nat) (f : Nat → Int64) : (wL st a f).1 = st.1 ∧ (wL st a f).2.1 = st.2.1 := by
  rcases wL_at st a f with ⟨t, n, g, -, e⟩ | ⟨-, e⟩ <;> rw [e] <;> exact ⟨rfl, rfl⟩
theorem wR_1 (st : xS) (a : Nat) (f : Nat → Option Nat) : (wR st a f).1 = st.1 ∧ (wR st a f).2.1 = st.2.1 := by
  rcases wR_at st a f with ⟨t, n, g, -, e⟩ | ⟨-, e⟩ <;> rw [e] <;> exact ⟨rfl, rfl⟩
theorem uV_1 (st : xS) (a k : Nat) (v : Value) : (uV st a k v).1 = st.1 ∧ (uV st a k v).2.1 = st.2.1 := by
  rcases uV_at st a k v with ⟨c, fs, -, e⟩ | ⟨-, e⟩ <;> rw [e] <;> exact ⟨rfl, rfl⟩
/-- one more write of the same array -/
theorem wA_w (st : xS) (a : Nat) (f g : Nat → Int32) : wA (wA st a f) a g = wA st a g := by
  rcases wA_at st a f with ⟨t, n, q, h, e⟩ | ⟨h, e⟩
  · rw [e]
    unfold wA
    rw [xup_s, h]
    show xup (xup st a _) a _ = xup st a _
    unfold xup
    simp only
    congr 2
    funext q
    by_cases hq : q = a <;> simp [hq]
  · rw [e]
theorem wL_w (st : xS) (a : Nat) (f g : Nat → Int64) : wL (wL st a f) a g = wL st a g := by
  rcases wL_at st a f with ⟨t, n, q, h, e⟩ | ⟨h, e⟩
  · rw [e]
    unfold wL
    rw [xup_s, h]
    show xup (xup st a _) a _ = xup st a _
    unfold xup
    simp only
    congr 2
    funext q
    by_cases hq : q = a <;> simp [hq]
  · rw [e]
/-- reading an array, knowing its cell -/
theorem aI_of {a n : Nat} {f : Nat → Int32} (h : st.2.2 a = .inl (0, n, .inl f)) (i : Int32) : aI st (some a) i = if ix i n = true then some (f i.toNatClampNeg) else none := by
  unfold aI
  simp only [Option.bind_some, h, true_or, true_and]
theorem aS_of {a n t : Nat} {f : Nat → Int32} (h : st.2.2 a = .inl (t, n, .inl f)) (i : Int32) : aS t st (some a) i = if ix i n = true then some (f i.toNatClampNeg) else none := by
  unfold aS
  simp only [Option.bind_some, h, true_and]
theorem aL_of {a n : Nat} {f : Nat → Int64} (h : st.2.2 a = .inl (1, n, .inr (.inl f))) (i : Int32) : aL st (some a) i = if ix i n = true then some (f i.toNatClampNeg) else none := by
  unfold aL
  simp only [Option.bind_some, h, true_and]
theorem aR_of {a n t : Nat} {f : Nat → Option Nat} (h : st.2.2 a = .inl (t, n, .inr (.inr (.inr (.inr f))))) (h4 : 4 ≤ t) (h9 : t < 9) (i : Int32) : aR st (some a) i = if ix i n = true then some (f i.toNatClampNeg) else none := by
  unfold aR
  simp only [Option.bind_some, h, h4, h9, true_and]
theorem aN_of {a t : Nat} {x : vp_A} (h : st.2.2 a = .inl (t, x)) (h9 : t < 9) : aN st (some a) = some (nI x.1) := by
  unfold aN
  simp only [Option.bind_some, h, h9, true_or, if_true]
theorem sS_of {a n t : Nat} {f : Nat → Int32} (h : st.2.2 a = .inl (t, n, .inl f)) (i x : Int32) : sS t st (some a) i x = if ix i n = true then some (wA st a (upd f i.toNatClampNeg x)) else none := by
  unfold sS wA
  simp only [Option.bind_some, h, true_and]
theorem sL_of {a n : Nat} {f : Nat → Int64} (h : st.2.2 a = .inl (1, n, .inr (.inl f))) (i : Int32) (x : Int64) : sL st (some a) i x = if ix i n = true then some (wL st a (vp_updL f i.toNatClampNeg x)) else none := by
  unfold sL wL
  simp only [Option.bind_some, h, true_and]
theorem sR_of {a n t : Nat} {f : Nat → Option Nat} (h : st.2.2 a = .inl (t, n, .inr (.inr (.inr (.inr f))))) (i : Int32) (x : Option Nat) : sR st (some a) i x = if ix i n = true ∧ okR st t x = true then some (wR st a (va_up f i.toNatClampNeg x)) else none := by
  unfold sR wR
  simp only [Option.bind_some, h]
theorem gV_of {a ci k : Nat} {fs : List Value} (h : st.2.2 a = .inr (ci, fs)) : gV st (some a) ci k = fs[k]? := by
  unfold gV
  simp only [Option.bind_some, h, if_true]
theorem isO_of {a ci : Nat} {fs : List Value} (h : st.2.2 a = .inr (ci, fs)) : isO st (some a) ci = some ci := by
  unfold isO ckO
  simp only [Option.bind_some, h, if_true]
theorem ckO_of {a ci : Nat} {fs : List Value} (h : st.2.2 a = .inr (ci, fs)) : ckO st (some a) = some ci := by
  unfold ckO
  simp only [Option.bind_some, h]
theorem pF_of {a ci k : Nat} {fs : List Value} {v : Value} (h : st.2.2 a = .inr (ci, fs)) (hk : k < fs.length) : pF st (some a) ci k v = some (uV st a k v) := by
  unfold pF uV
  simp only [Option.bind_some, h, hk, true_and, if_true]
/-- the static ones -/
theorem shc_A (hS : Sh st) (i : Nat) {t n : Nat} (h : shT[i]? = some (0, t, n, [])) : st.2.2 (64 + i) = .inl (t, n, .inl (cI st (64 + i))) := by
  obtain ⟨f, e⟩ := hS.2 i _ h
  unfold cI
  rw [e]
theorem shc_L (hS : Sh st) (i : Nat) {n : Nat} (h : shT[i]? = some (1, 1, n, [])) : st.2.2 (64 + i) = .inl (1, n, .inr (.inl (cL st (64 + i)))) := by
  obtain ⟨f, e⟩ := hS.2 i _ h
  unfold cL
  rw [e]
theorem shc_R (hS : Sh st) (i : Nat) {t n : Nat} (h : shT[i]? = some (2, t, n, [])) : st.2.2 (64 + i) = .inl (t, n, .inr (.inr (.inr (.inr (cR st (64 + i)))))) := by
  obtain ⟨f, e⟩ := hS.2 i _ h
  unfold cR
  rw [e]
theorem shc_O (hS : Sh st) (i : Nat) {ci : Nat} {ps : List (Nat × Nat)} (h : shT[i]? = some (3, ci, 0, ps)) : ∃ fs : List Value, st.2.2 (64 + i) = .inr (ci, fs) ∧ fs.length = ps.length ∧ ∀ (k : Nat) (p : Nat × Nat), ps[k]? = some p → ∃ v, fs[k]? = some v ∧ okV p v := hS.2 i _ h
theorem shg_R (hS : Sh st) (i k : Nat) {ci r : Nat} {ps : List (Nat × Nat)} (h : shT[i]? = some (3, ci, 0, ps)) (hk : ps[k]? = some (0, r)) : gR st (some (64 + i)) ci k = some (some r) := by
  obtain ⟨fs, e, -, hp⟩ := shc_O hS i h
  obtain ⟨v, hv, hok⟩ := hp k _ hk
  have hok : v = .ref r := hok
  subst hok
  unfold gR
  rw [gV_of e, hv]
  rfl
theorem shg_Q (hS : Sh st) (i k : Nat) {ci : Nat} {ps : List (Nat × Nat)} (h : shT[i]? = some (3, ci, 0, ps)) (hk : ps[k]? = some (2, 0)) : gR st (some (64 + i)) ci k = some (fR st (64 + i) k) := by
  obtain ⟨fs, e, -, hp⟩ := shc_O hS i h
  obtain ⟨v, hv, hok⟩ := hp k _ hk
  have hok : v = .null ∨ ∃ a, v = .ref a := hok
  unfold gR fR fV
  rw [gV_of e, hv, e]
  simp only [hv, Option.bind_some, Option.getD_some]
  rcases hok with rfl | ⟨a, rfl⟩ <;> rfl
theorem shg_I (hS : Sh st) (i k : Nat) {ci : Nat} {ps : List (Nat × Nat)} (h : shT[i]? = some (3, ci, 0, ps)) (hk : ps[k]? = some (1, 0)) : gI st (some (64 + i)) ci k = some (fI st (64 + i) k) := by
  obtain ⟨fs, e, -, hp⟩ := shc_O hS i h
  obtain ⟨v, hv, hok⟩ := hp k _ hk
  have hok : ∃ x, v = .int x := hok
  unfold gI fI fV
  rw [gV_of e, hv, e]
  simp only [hv, Option.bind_some, Option.getD_some]
  obtain ⟨x, rfl⟩ := hok
  rfl
theorem shg_L (hS : Sh st) (i k : Nat) {ci : Nat} {ps : List (Nat × Nat)} (h : shT[i]? = some (3, ci, 0, ps)) (hk : ps[k]? = some (3, 0)) : gL st (some (64 + i)) ci k = some (fL st (64 + i) k) := by
  obtain ⟨fs, e, -, hp⟩ := shc_O hS i h
  obtain ⟨v, hv, hok⟩ := hp k _ hk
  have hok : ∃ x, v = .long x := hok
  unfold gL fL fV
  rw [gV_of e, hv, e]
  simp only [hv, Option.bind_some, Option.getD_some]
  obtain ⟨x, rfl⟩ := hok
  rfl
theorem shg_O (hS : Sh st) (i : Nat) {ci : Nat} {ps : List (Nat × Nat)} (h : shT[i]? = some (3, ci, 0, ps)) : isO st (some (64 + i)) ci = some ci := by
  obtain ⟨fs, e, -, -⟩ := shc_O hS i h
  exact isO_of e
theorem shg_P (hS : Sh st) (i k : Nat) {ci : Nat} {ps : List (Nat × Nat)} (h : shT[i]? = some (3, ci, 0, ps)) (hk : k < ps.length) (v : Value) : pF st (some (64 + i)) ci k v = some (uV st (64 + i) k v) := by
  obtain ⟨fs, e, hl, -⟩ := shc_O hS i h
  exact pF_of e (by rw [hl]; exact hk)
/-- shapes stay -/
theorem shw_A (hS : Sh st) (a : Nat) (f : Nat → Int32) : Sh (wA st a f) := by
  rcases wA_at st a f with ⟨t, n, g, h, e⟩ | ⟨-, e⟩
  · rw [e]
    refine ⟨hS.1, fun i c hP => ?_⟩
    have h0 := hS.2 i c hP
    by_cases hi : 64 + i = a
    · subst hi
      rw [xup_s]
      rw [h] at h0
      unfold shP at h0 ⊢
      split at h0
      · obtain ⟨g', e'⟩ := h0
        injection e' with e'
        injection e' with e1 e2
        injection e2 with e2 e3
        rename_i hc
        rw [e1, e2]
        exact ⟨f, rfl⟩
      · obtain ⟨g', e'⟩ := h0
        cases e'
      · obtain ⟨g', e'⟩ := h0
        cases e'
      · obtain ⟨g', e', -⟩ := h0
        cases e'
      · cases h0
    · rw [xup_n hi]
      exact h0
  · rw [e]
    exact hS
theorem shw_L (hS : Sh st) (a : Nat) (f : Nat → Int64) : Sh (wL st a f) := by
  rcases wL_at st a f with ⟨t, n, g, h, e⟩ | ⟨-, e⟩
  · rw [e]
    refine ⟨hS.1, fun i c hP => ?_⟩
    have h0 := hS.2 i c hP
    by_cases hi : 64 + i = a
    · subst hi
      rw [xup_s]
      rw [h] at h0
      unfold shP at h0 ⊢
      split at h0
      · obtain ⟨g', e'⟩ := h0
        cases e'
      · obtain ⟨g', e'⟩ := h0
        injection e' with e'
        injection e' with e1 e2
        injection e2 with e2 e3
        rw [e1, e2]
        exact ⟨f, rfl⟩
      · obtain ⟨g', e'⟩ := h0
        cases e'
      · obtain ⟨g', e', -⟩ := h0
        cases e'
      · cases h0
    · rw [xup_n hi]
      exact h0
  · rw [e]
    exact hS
theorem shw_R (hS : Sh st) (a : Nat) (f : Nat → Option Nat) (ha : a ≠ 92) : Sh (wR st a f) := by
  rcases wR_at st a f with ⟨t, n, g, h, e⟩ | ⟨-, e⟩
  · rw [e]
    refine ⟨hS.1, fun i c hP => ?_⟩
    have h0 := hS.2 i c hP
    by_cases hi : 64 + i = a
    · subst hi
      rw [xup_s]
      rw [h] at h0
      have hi92 : i ≠ 28 := by omega
      have hlt : i < 52 := (List.getElem?_eq_some_iff.mp hP).1
      have key : ∀ i, i < 52 → i ≠ 28 → ∀ c ∈ shT[i]?, c.1 < 4 := by decide +kernel
      have hk := key i hlt hi92 c hP
      obtain ⟨k, t0, n0, ps⟩ := c
      match k, hk, h0 with
      | 0, _, h0 => obtain ⟨g', e'⟩ := h0; cases e'
      | 1, _, h0 => obtain ⟨g', e'⟩ := h0; cases e'
      | 2, _, h0 =>
        obtain ⟨g', e'⟩ := h0
        injection e' with e'
        injection e' with e1 e2
        injection e2 with e2 e3
        refine ⟨f, ?_⟩
        rw [e1, e2]
      | 3, _, h0 => obtain ⟨g', e', -⟩ := h0; cases e'
    · rw [xup_n hi]
      exact h0
  · rw [e]
    exact hS
/-- an int into a field that holds one (static objects); any other object's fields are free -/
theorem shw_V (hS : Sh st) (a k : Nat) (v : Value) (hp : ∀ (i : Nat) (c : sc), shT[i]? = some c → 64 + i = a → ∀ p, c.2.2.2[k]? = some p → okV p v) : Sh (uV st a k v) := by
  rcases uV_at st a k v with ⟨c0, fs, h, e⟩ | ⟨-, e⟩
  · rw [e]
    refine ⟨hS.1, fun i c hP => ?_⟩
    have h0 := hS.2 i c hP
    by_cases hi : 64 + i = a
    · have hp2 := hp i c hP hi
      subst hi
      rw [xup_s]
      rw [h] at h0
      unfold shP at h0 ⊢
      split at h0
      · obtain ⟨g', e'⟩ := h0
        cases e'
      · obtain ⟨g', e'⟩ := h0
        cases e'
      · obtain ⟨g', e'⟩ := h0
        cases e'
      · obtain ⟨fs', e', hl, hq⟩ := h0
        injection e' with e'
        injection e' with e1 e2
        subst e2
        rw [e1]
        refine ⟨fs.set k v, rfl, by rw [List.length_set]; exact hl, fun j p hj => ?_⟩
        by_cases hjk : j = k
        · subst hjk
          have hlt : j < fs.length := by
            rw [hl]
            exact (List.getElem?_eq_some_iff.mp hj).1
          exact ⟨v, by rw [List.getElem?_set_self hlt], hp2 p hj⟩
        · obtain ⟨w, hw, hok⟩ := hq j p hj
          exact ⟨w, by rw [List.getElem?_set_ne (fun q => hjk q.symm)]; exact hw, hok⟩
      · cases h0
    · rw [xup_n hi]
      exact h0
  · rw [e]
    exact hS
theorem shw_new (hS : Sh st) (sl : Nat) (c0 : xC) : Sh (xnew st sl c0) := by
  refine ⟨Nat.le_succ_of_le hS.1, fun i c hP => ?_⟩
  have hlt : i < 52 := (List.getElem?_eq_some_iff.mp hP).1
  have h1 := hS.1
  have : ¬ 64 + i = 64 + st.1 := by omega
  show shP c (if 64 + i = 64 + st.1 then c0 else st.2.2 (64 + i))
  rw [if_neg this]
  exact hS.2 i c hP
/-- what is read behind a write -/
theorem cI_s {a t n : Nat} {g : Nat → Int32} (h : st.2.2 a = .inl (t, n, .inl g)) (f : Nat → Int32) : cI (wA st a f) a = f := by
  unfold cI wA
  rw [h]
  show (match (xup st a (.inl (t, n, .inl f))).2.2 a with | .inl (_, _, .inl f) => f | _ => fun _ => 0) = f
  rw [xup_s]
theorem cI_c {st st2 : xS} {a : Nat} (h : st2.2.2 a = st.2.2 a) : cI st2 a = cI st a := by unfold cI; rw [h]
theorem cL_c {st st2 : xS} {a : Nat} (h : st2.2.2 a = st.2.2 a) : cL st2 a = cL st a := by unfold cL; rw [h]
theorem cR_c {st st2 : xS} {a : Nat} (h : st2.2.2 a = st.2.2 a) : cR st2 a = cR st a := by unfold cR; rw [h]
theorem fV_c {st st2 : xS} {a : Nat} (h : st2.2.2 a = st.2.2 a) (k : Nat) : fV st2 a k = fV st a k := by unfold fV; rw [h]
theorem fI_c {st st2 : xS} {a : Nat} (h : st2.2.2 a = st.2.2 a) (k : Nat) : fI st2 a k = fI st a k := by unfold fI; rw [fV_c h]
theorem fL_c {st st2 : xS} {a : Nat} (h : st2.2.2 a = st.2.2 a) (k : Nat) : fL st2 a k = fL st a k := by unfold fL; rw [fV_c h]
theorem fR_c {st st2 : xS} {a : Nat} (h : st2.2.2 a = st.2.2 a) (k : Nat) : fR st2 a k = fR st a k := by unfold fR; rw [fV_c h]
theorem cL_s {a n : Nat} {g : Nat → Int64} (h : st.2.2 a = .inl (1, n, .inr (.inl g))) (f : Nat → Int64) : cL (wL st a f) a = f := by
  unfold cL wL
  rw [h]
  show (match (xup st a (.inl (1, n, .inr (.inl f)))).2.2 a with | .inl (_, _, .inr (.inl f)) => f | _ => fun _ => 0) = f
  rw [xup_s]
theorem fV_s {a c : Nat} {fs : List Value} (h : st.2.2 a = .inr (c, fs)) (k : Nat) (hk : k < fs.length) (v : Value) : fV (uV st a k v) a k = v := by
  unfold fV uV
  rw [h]
  show (match (xup st a (.inr (c, fs.set k v))).2.2 a with | .inr (_, fs) => (fs[k]?).getD .null | _ => .null) = v
  rw [xup_s]
  show ((fs.set k v)[k]?).getD .null = v
  rw [List.getElem?_set_self hk]
  rfl
theorem fV_o {a j k : Nat} (h : j ≠ k) (v : Value) : fV (uV st a k v) a j = fV st a j := by
  rcases uV_at st a k v with ⟨c, fs, h1, e⟩ | ⟨-, e⟩
  · rw [e]
    unfold fV
    rw [xup_s, h1]
    show ((fs.set k v)[j]?).getD .null = (fs[j]?).getD .null
    rw [List.getElem?_set_ne (fun q => h q.symm)]
  · rw [e]
end ST
theorem o64 {st : xS} (hS : Sh st) : isO st (some 64) 10 = some 10 := shg_O hS 0 rfl
theorem g64_0 {st : xS} (hS : Sh st) : gR st (some 64) 10 0 = some (some 65) := shg_R hS 0 0 rfl rfl
theorem g64_1 {st : xS} (hS : Sh st) : gR st (some 64) 10 1 = some (some 74) := shg_R hS 0 1 rfl rfl
theorem g64_2 {st : xS} (hS : Sh st) : gR st (some 64) 10 2 = some (some 75) := shg_R hS 0 2 rfl rfl
theorem g64_3 {st : xS} (hS : Sh st) : gR st (some 64) 10 3 = some (some 79) := shg_R hS 0 3 rfl rfl
theorem g64_4 {st : xS} (hS : Sh st) : gR st (some 64) 10 4 = some (some 90) := shg_R hS 0 4 rfl rfl
theorem g64_5 {st : xS} (hS : Sh st) : gR st (some 64) 10 5 = some (some 99) := shg_R hS 0 5 rfl rfl
theorem g64_6 {st : xS} (hS : Sh st) : gR st (some 64) 10 6 = some (some 104) := shg_R hS 0 6 rfl rfl
theorem g64_7 {st : xS} (hS : Sh st) : gR st (some 64) 10 7 = some (some 105) := shg_R hS 0 7 rfl rfl
theorem o65 {st : xS} (hS : Sh st) : isO st (some 65) 9 = some 9 := shg_O hS 1 rfl
theorem g65_0 {st : xS} (hS : Sh st) : gR st (some 65) 9 0 = some (some 66) := shg_R hS 1 0 rfl rfl
theorem g65_1 {st : xS} (hS : Sh st) : gR st (some 65) 9 1 = some (some 67) := shg_R hS 1 1 rfl rfl
theorem g65_2 {st : xS} (hS : Sh st) : gR st (some 65) 9 2 = some (some 68) := shg_R hS 1 2 rfl rfl
theorem g65_3 {st : xS} (hS : Sh st) : gR st (some 65) 9 3 = some (some 69) := shg_R hS 1 3 rfl rfl
theorem g65_4 {st : xS} (hS : Sh st) : gR st (some 65) 9 4 = some (some 70) := shg_R hS 1 4 rfl rfl
theorem g65_5 {st : xS} (hS : Sh st) : gR st (some 65) 9 5 = some (some 71) := shg_R hS 1 5 rfl rfl
theorem g65_6 {st : xS} (hS : Sh st) : gR st (some 65) 9 6 = some (some 72) := shg_R hS 1 6 rfl rfl
theorem g65_7 {st : xS} (hS : Sh st) : gR st (some 65) 9 7 = some (some 73) := shg_R hS 1 7 rfl rfl
theorem g65_8 {st : xS} (hS : Sh st) : gI st (some 65) 9 8 = some (fI st 65 8) := shg_I hS 1 8 rfl rfl
theorem p65_8 {st : xS} (hS : Sh st) (v : Int32) : pF st (some 65) 9 8 (.int v) = some (uV st 65 8 (.int v)) := shg_P hS 1 8 rfl (by decide) _
theorem s65_8 {st : xS} (hS : Sh st) (v : Int32) : Sh (uV st 65 8 (.int v)) := shw_V hS 65 8 _ (fun i c hc hi p hp => by
  obtain rfl : i = 1 := by omega
  cases hc
  cases hp
  exact ⟨v, rfl⟩)
theorem f65_8 {st : xS} (hS : Sh st) (v : Int32) : fI (uV st 65 8 (.int v)) 65 8 = v := by
  obtain ⟨fs, e, hl, -⟩ := shc_O hS 1 rfl
  unfold fI
  rw [fV_s e 8 (by rw [hl]; decide)]
  rfl
theorem g65_9 {st : xS} (hS : Sh st) : gI st (some 65) 9 9 = some (fI st 65 9) := shg_I hS 1 9 rfl rfl
theorem p65_9 {st : xS} (hS : Sh st) (v : Int32) : pF st (some 65) 9 9 (.int v) = some (uV st 65 9 (.int v)) := shg_P hS 1 9 rfl (by decide) _
theorem s65_9 {st : xS} (hS : Sh st) (v : Int32) : Sh (uV st 65 9 (.int v)) := shw_V hS 65 9 _ (fun i c hc hi p hp => by
  obtain rfl : i = 1 := by omega
  cases hc
  cases hp
  exact ⟨v, rfl⟩)
theorem f65_9 {st : xS} (hS : Sh st) (v : Int32) : fI (uV st 65 9 (.int v)) 65 9 = v := by
  obtain ⟨fs, e, hl, -⟩ := shc_O hS 1 rfl
  unfold fI
  rw [fV_s e 9 (by rw [hl]; decide)]
  rfl
theorem g65_10 {st : xS} (hS : Sh st) : gI st (some 65) 9 10 = some (fI st 65 10) := shg_I hS 1 10 rfl rfl
theorem p65_10 {st : xS} (hS : Sh st) (v : Int32) : pF st (some 65) 9 10 (.int v) = some (uV st 65 10 (.int v)) := shg_P hS 1 10 rfl (by decide) _
theorem s65_10 {st : xS} (hS : Sh st) (v : Int32) : Sh (uV st 65 10 (.int v)) := shw_V hS 65 10 _ (fun i c hc hi p hp => by
  obtain rfl : i = 1 := by omega
  cases hc
  cases hp
  exact ⟨v, rfl⟩)
theorem f65_10 {st : xS} (hS : Sh st) (v : Int32) : fI (uV st 65 10 (.int v)) 65 10 = v := by
  obtain ⟨fs, e, hl, -⟩ := shc_O hS 1 rfl
  unfold fI
  rw [fV_s e 10 (by rw [hl]; decide)]
  rfl
theorem c66 {st : xS} (hS : Sh st) : st.2.2 66 = .inl (4, 3, .inr (.inr (.inr (.inr (cR st 66))))) := shc_R hS 2 rfl
theorem a66 {st : xS} (hS : Sh st) (i : Int32) : aR st (some 66) i = if ix i 3 = true then some (cR st 66 i.toNatClampNeg) else none := aR_of (c66 hS) (by decide) (by decide) i
theorem n66 {st : xS} (hS : Sh st) : aN st (some 66) = some (nI 3) := aN_of (c66 hS) (by decide)
theorem w66 {st : xS} (hS : Sh st) (i : Int32) (x : Option Nat) : sR st (some 66) i x = if ix i 3 = true ∧ okR st 4 x = true then some (wR st 66 (va_up (cR st 66) i.toNatClampNeg x)) else none := sR_of (c66 hS) i x
theorem c67 {st : xS} (hS : Sh st) : st.2.2 67 = .inl (5, 3, .inr (.inr (.inr (.inr (cR st 67))))) := shc_R hS 3 rfl
theorem a67 {st : xS} (hS : Sh st) (i : Int32) : aR st (some 67) i = if ix i 3 = true then some (cR st 67 i.toNatClampNeg) else none := aR_of (c67 hS) (by decide) (by decide) i
theorem n67 {st : xS} (hS : Sh st) : aN st (some 67) = some (nI 3) := aN_of (c67 hS) (by decide)
theorem w67 {st : xS} (hS : Sh st) (i : Int32) (x : Option Nat) : sR st (some 67) i x = if ix i 3 = true ∧ okR st 5 x = true then some (wR st 67 (va_up (cR st 67) i.toNatClampNeg x)) else none := sR_of (c67 hS) i x
theorem c68 {st : xS} (hS : Sh st) : st.2.2 68 = .inl (6, 3, .inr (.inr (.inr (.inr (cR st 68))))) := shc_R hS 4 rfl
theorem a68 {st : xS} (hS : Sh st) (i : Int32) : aR st (some 68) i = if ix i 3 = true then some (cR st 68 i.toNatClampNeg) else none := aR_of (c68 hS) (by decide) (by decide) i
theorem n68 {st : xS} (hS : Sh st) : aN st (some 68) = some (nI 3) := aN_of (c68 hS) (by decide)
theorem w68 {st : xS} (hS : Sh st) (i : Int32) (x : Option Nat) : sR st (some 68) i x = if ix i 3 = true ∧ okR st 6 x = true then some (wR st 68 (va_up (cR st 68) i.toNatClampNeg x)) else none := sR_of (c68 hS) i x
theorem c69 {st : xS} (hS : Sh st) : st.2.2 69 = .inl (0, 4, .inl (cI st 69)) := shc_A hS 5 rfl
theorem a69 {st : xS} (hS : Sh st) (i : Int32) : aI st (some 69) i = if ix i 4 = true then some (cI st 69 i.toNatClampNeg) else none := aI_of (c69 hS) i
theorem n69 {st : xS} (hS : Sh st) : aN st (some 69) = some (nI 4) := aN_of (c69 hS) (by decide)
theorem w69 {st : xS} (hS : Sh st) (i x : Int32) : sS 0 st (some 69) i x = if ix i 4 = true then some (wA st 69 (upd (cI st 69) i.toNatClampNeg x)) else none := sS_of (c69 hS) i x
theorem k69 {st : xS} (hS : Sh st) (f : Nat → Int32) : cI (wA st 69 f) 69 = f := cI_s (c69 hS) f
theorem c70 {st : xS} (hS : Sh st) : st.2.2 70 = .inl (0, 800, .inl (cI st 70)) := shc_A hS 6 rfl
theorem a70 {st : xS} (hS : Sh st) (i : Int32) : aI st (some 70) i = if ix i 800 = true then some (cI st 70 i.toNatClampNeg) else none := aI_of (c70 hS) i
theorem n70 {st : xS} (hS : Sh st) : aN st (some 70) = some (nI 800) := aN_of (c70 hS) (by decide)
theorem w70 {st : xS} (hS : Sh st) (i x : Int32) : sS 0 st (some 70) i x = if ix i 800 = true then some (wA st 70 (upd (cI st 70) i.toNatClampNeg x)) else none := sS_of (c70 hS) i x
theorem k70 {st : xS} (hS : Sh st) (f : Nat → Int32) : cI (wA st 70 f) 70 = f := cI_s (c70 hS) f
theorem c71 {st : xS} (hS : Sh st) : st.2.2 71 = .inl (0, 16, .inl (cI st 71)) := shc_A hS 7 rfl
theorem a71 {st : xS} (hS : Sh st) (i : Int32) : aI st (some 71) i = if ix i 16 = true then some (cI st 71 i.toNatClampNeg) else none := aI_of (c71 hS) i
theorem n71 {st : xS} (hS : Sh st) : aN st (some 71) = some (nI 16) := aN_of (c71 hS) (by decide)
theorem w71 {st : xS} (hS : Sh st) (i x : Int32) : sS 0 st (some 71) i x = if ix i 16 = true then some (wA st 71 (upd (cI st 71) i.toNatClampNeg x)) else none := sS_of (c71 hS) i x
theorem k71 {st : xS} (hS : Sh st) (f : Nat → Int32) : cI (wA st 71 f) 71 = f := cI_s (c71 hS) f
theorem c72 {st : xS} (hS : Sh st) : st.2.2 72 = .inl (0, 16, .inl (cI st 72)) := shc_A hS 8 rfl
theorem a72 {st : xS} (hS : Sh st) (i : Int32) : aI st (some 72) i = if ix i 16 = true then some (cI st 72 i.toNatClampNeg) else none := aI_of (c72 hS) i
theorem n72 {st : xS} (hS : Sh st) : aN st (some 72) = some (nI 16) := aN_of (c72 hS) (by decide)
theorem w72 {st : xS} (hS : Sh st) (i x : Int32) : sS 0 st (some 72) i x = if ix i 16 = true then some (wA st 72 (upd (cI st 72) i.toNatClampNeg x)) else none := sS_of (c72 hS) i x
theorem k72 {st : xS} (hS : Sh st) (f : Nat → Int32) : cI (wA st 72 f) 72 = f := cI_s (c72 hS) f
theorem c73 {st : xS} (hS : Sh st) : st.2.2 73 = .inl (2, 500, .inl (cI st 73)) := shc_A hS 9 rfl
theorem a73 {st : xS} (hS : Sh st) (i : Int32) : aS 2 st (some 73) i = if ix i 500 = true then some (cI st 73 i.toNatClampNeg) else none := aS_of (c73 hS) i
theorem n73 {st : xS} (hS : Sh st) : aN st (some 73) = some (nI 500) := aN_of (c73 hS) (by decide)
theorem w73 {st : xS} (hS : Sh st) (i x : Int32) : sS 2 st (some 73) i x = if ix i 500 = true then some (wA st 73 (upd (cI st 73) i.toNatClampNeg x)) else none := sS_of (c73 hS) i x
theorem k73 {st : xS} (hS : Sh st) (f : Nat → Int32) : cI (wA st 73 f) 73 = f := cI_s (c73 hS) f
theorem c74 {st : xS} (hS : Sh st) : st.2.2 74 = .inl (7, 3, .inr (.inr (.inr (.inr (cR st 74))))) := shc_R hS 10 rfl
theorem a74 {st : xS} (hS : Sh st) (i : Int32) : aR st (some 74) i = if ix i 3 = true then some (cR st 74 i.toNatClampNeg) else none := aR_of (c74 hS) (by decide) (by decide) i
theorem n74 {st : xS} (hS : Sh st) : aN st (some 74) = some (nI 3) := aN_of (c74 hS) (by decide)
theorem w74 {st : xS} (hS : Sh st) (i : Int32) (x : Option Nat) : sR st (some 74) i x = if ix i 3 = true ∧ okR st 7 x = true then some (wR st 74 (va_up (cR st 74) i.toNatClampNeg x)) else none := sR_of (c74 hS) i x
theorem o75 {st : xS} (hS : Sh st) : isO st (some 75) 7 = some 7 := shg_O hS 11 rfl
theorem g75_0 {st : xS} (hS : Sh st) : gR st (some 75) 7 0 = some (fR st 75 0) := shg_Q hS 11 0 rfl rfl
theorem p75_0 {st : xS} (hS : Sh st) (v : Option Nat) : pF st (some 75) 7 0 (va_rf v) = some (uV st 75 0 (va_rf v)) := shg_P hS 11 0 rfl (by decide) _
theorem s75_0 {st : xS} (hS : Sh st) (v : Option Nat) : Sh (uV st 75 0 (va_rf v)) := shw_V hS 75 0 _ (fun i c hc hi p hp => by
  obtain rfl : i = 11 := by omega
  cases hc
  cases hp
  cases v with
  | none => exact Or.inl rfl
  | some a => exact Or.inr ⟨a, rfl⟩)
theorem f75_0 {st : xS} (hS : Sh st) (v : Option Nat) : fR (uV st 75 0 (va_rf v)) 75 0 = v := by
  obtain ⟨fs, e, hl, -⟩ := shc_O hS 11 rfl
  unfold fR
  rw [fV_s e 0 (by rw [hl]; decide)]
  cases v <;> rfl
theorem g75_1 {st : xS} (hS : Sh st) : gI st (some 75) 7 1 = some (fI st 75 1) := shg_I hS 11 1 rfl rfl
theorem p75_1 {st : xS} (hS : Sh st) (v : Int32) : pF st (some 75) 7 1 (.int v) = some (uV st 75 1 (.int v)) := shg_P hS 11 1 rfl (by decide) _
theorem s75_1 {st : xS} (hS : Sh st) (v : Int32) : Sh (uV st 75 1 (.int v)) := shw_V hS 75 1 _ (fun i c hc hi p hp => by
  obtain rfl : i = 11 := by omega
  cases hc
  cases hp
  exact ⟨v, rfl⟩)
theorem f75_1 {st : xS} (hS : Sh st) (v : Int32) : fI (uV st 75 1 (.int v)) 75 1 = v := by
  obtain ⟨fs, e, hl, -⟩ := shc_O hS 11 rfl
  unfold fI
  rw [fV_s e 1 (by rw [hl]; decide)]
  rfl
theorem g75_2 {st : xS} (hS : Sh st) : gI st (some 75) 7 2 = some (fI st 75 2) := shg_I hS 11 2 rfl rfl
theorem p75_2 {st : xS} (hS : Sh st) (v : Int32) : pF st (some 75) 7 2 (.int v) = some (uV st 75 2 (.int v)) := shg_P hS 11 2 rfl (by decide) _
theorem s75_2 {st : xS} (hS : Sh st) (v : Int32) : Sh (uV st 75 2 (.int v)) := shw_V hS 75 2 _ (fun i c hc hi p hp => by
  obtain rfl : i = 11 := by omega
  cases hc
  cases hp
  exact ⟨v, rfl⟩)
theorem f75_2 {st : xS} (hS : Sh st) (v : Int32) : fI (uV st 75 2 (.int v)) 75 2 = v := by
  obtain ⟨fs, e, hl, -⟩ := shc_O hS 11 rfl
  unfold fI
  rw [fV_s e 2 (by rw [hl]; decide)]
  rfl
theorem g75_3 {st : xS} (hS : Sh st) : gI st (some 75) 7 3 = some (fI st 75 3) := shg_I hS 11 3 rfl rfl
theorem p75_3 {st : xS} (hS : Sh st) (v : Int32) : pF st (some 75) 7 3 (.int v) = some (uV st 75 3 (.int v)) := shg_P hS 11 3 rfl (by decide) _
theorem s75_3 {st : xS} (hS : Sh st) (v : Int32) : Sh (uV st 75 3 (.int v)) := shw_V hS 75 3 _ (fun i c hc hi p hp => by
  obtain rfl : i = 11 := by omega
  cases hc
  cases hp
  exact ⟨v, rfl⟩)
theorem f75_3 {st : xS} (hS : Sh st) (v : Int32) : fI (uV st 75 3 (.int v)) 75 3 = v := by
  obtain ⟨fs, e, hl, -⟩ := shc_O hS 11 rfl
  unfold fI
  rw [fV_s e 3 (by rw [hl]; decide)]
  rfl
theorem g75_4 {st : xS} (hS : Sh st) : gI st (some 75) 7 4 = some (fI st 75 4) := shg_I hS 11 4 rfl rfl
theorem p75_4 {st : xS} (hS : Sh st) (v : Int32) : pF st (some 75) 7 4 (.int v) = some (uV st 75 4 (.int v)) := shg_P hS 11 4 rfl (by decide) _
theorem s75_4 {st : xS} (hS : Sh st) (v : Int32) : Sh (uV st 75 4 (.int v)) := shw_V hS 75 4 _ (fun i c hc hi p hp => by
  obtain rfl : i = 11 := by omega
  cases hc
  cases hp
  exact ⟨v, rfl⟩)
theorem f75_4 {st : xS} (hS : Sh st) (v : Int32) : fI (uV st 75 4 (.int v)) 75 4 = v := by
  obtain ⟨fs, e, hl, -⟩ := shc_O hS 11 rfl
  unfold fI
  rw [fV_s e 4 (by rw [hl]; decide)]
  rfl
theorem g75_5 {st : xS} (hS : Sh st) : gI st (some 75) 7 5 = some (fI st 75 5) := shg_I hS 11 5 rfl rfl
theorem p75_5 {st : xS} (hS : Sh st) (v : Int32) : pF st (some 75) 7 5 (.int v) = some (uV st 75 5 (.int v)) := shg_P hS 11 5 rfl (by decide) _
theorem s75_5 {st : xS} (hS : Sh st) (v : Int32) : Sh (uV st 75 5 (.int v)) := shw_V hS 75 5 _ (fun i c hc hi p hp => by
  obtain rfl : i = 11 := by omega
  cases hc
  cases hp
  exact ⟨v, rfl⟩)
theorem f75_5 {st : xS} (hS : Sh st) (v : Int32) : fI (uV st 75 5 (.int v)) 75 5 = v := by
  obtain ⟨fs, e, hl, -⟩ := shc_O hS 11 rfl
  unfold fI
  rw [fV_s e 5 (by rw [hl]; decide)]
  rfl
theorem g75_6 {st : xS} (hS : Sh st) : gR st (some 75) 7 6 = some (some 77) := shg_R hS 11 6 rfl rfl
theorem g75_7 {st : xS} (hS : Sh st) : gR st (some 75) 7 7 = some (some 78) := shg_R hS 11 7 rfl rfl
theorem g75_8 {st : xS} (hS : Sh st) : gI st (some 75) 7 8 = some (fI st 75 8) := shg_I hS 11 8 rfl rfl
theorem p75_8 {st : xS} (hS : Sh st) (v : Int32) : pF st (some 75) 7 8 (.int v) = some (uV st 75 8 (.int v)) := shg_P hS 11 8 rfl (by decide) _
theorem s75_8 {st : xS} (hS : Sh st) (v : Int32) : Sh (uV st 75 8 (.int v)) := shw_V hS 75 8 _ (fun i c hc hi p hp => by
  obtain rfl : i = 11 := by omega
  cases hc
  cases hp
  exact ⟨v, rfl⟩)
theorem f75_8 {st : xS} (hS : Sh st) (v : Int32) : fI (uV st 75 8 (.int v)) 75 8 = v := by
  obtain ⟨fs, e, hl, -⟩ := shc_O hS 11 rfl
  unfold fI
  rw [fV_s e 8 (by rw [hl]; decide)]
  rfl
theorem g75_9 {st : xS} (hS : Sh st) : gI st (some 75) 7 9 = some (fI st 75 9) := shg_I hS 11 9 rfl rfl
theorem p75_9 {st : xS} (hS : Sh st) (v : Int32) : pF st (some 75) 7 9 (.int v) = some (uV st 75 9 (.int v)) := shg_P hS 11 9 rfl (by decide) _
theorem s75_9 {st : xS} (hS : Sh st) (v : Int32) : Sh (uV st 75 9 (.int v)) := shw_V hS 75 9 _ (fun i c hc hi p hp => by
  obtain rfl : i = 11 := by omega
  cases hc
  cases hp
  exact ⟨v, rfl⟩)
theorem f75_9 {st : xS} (hS : Sh st) (v : Int32) : fI (uV st 75 9 (.int v)) 75 9 = v := by
  obtain ⟨fs, e, hl, -⟩ := shc_O hS 11 rfl
  unfold fI
  rw [fV_s e 9 (by rw [hl]; decide)]
  rfl
theorem c76 {st : xS} (hS : Sh st) : st.2.2 76 = .inl (2, 0, .inl (cI st 76)) := shc_A hS 12 rfl
theorem a76 {st : xS} (hS : Sh st) (i : Int32) : aS 2 st (some 76) i = if ix i 0 = true then some (cI st 76 i.toNatClampNeg) else none := aS_of (c76 hS) i
theorem n76 {st : xS} (hS : Sh st) : aN st (some 76) = some (nI 0) := aN_of (c76 hS) (by decide)
theorem w76 {st : xS} (hS : Sh st) (i x : Int32) : sS 2 st (some 76) i x = if ix i 0 = true then some (wA st 76 (upd (cI st 76) i.toNatClampNeg x)) else none := sS_of (c76 hS) i x
theorem k76 {st : xS} (hS : Sh st) (f : Nat → Int32) : cI (wA st 76 f) 76 = f := cI_s (c76 hS) f
theorem c77 {st : xS} (hS : Sh st) : st.2.2 77 = .inl (0, 3, .inl (cI st 77)) := shc_A hS 13 rfl
theorem a77 {st : xS} (hS : Sh st) (i : Int32) : aI st (some 77) i = if ix i 3 = true then some (cI st 77 i.toNatClampNeg) else none := aI_of (c77 hS) i
theorem n77 {st : xS} (hS : Sh st) : aN st (some 77) = some (nI 3) := aN_of (c77 hS) (by decide)
theorem w77 {st : xS} (hS : Sh st) (i x : Int32) : sS 0 st (some 77) i x = if ix i 3 = true then some (wA st 77 (upd (cI st 77) i.toNatClampNeg x)) else none := sS_of (c77 hS) i x
theorem k77 {st : xS} (hS : Sh st) (f : Nat → Int32) : cI (wA st 77 f) 77 = f := cI_s (c77 hS) f
theorem c78 {st : xS} (hS : Sh st) : st.2.2 78 = .inl (0, 3, .inl (cI st 78)) := shc_A hS 14 rfl
theorem a78 {st : xS} (hS : Sh st) (i : Int32) : aI st (some 78) i = if ix i 3 = true then some (cI st 78 i.toNatClampNeg) else none := aI_of (c78 hS) i
theorem n78 {st : xS} (hS : Sh st) : aN st (some 78) = some (nI 3) := aN_of (c78 hS) (by decide)
theorem w78 {st : xS} (hS : Sh st) (i x : Int32) : sS 0 st (some 78) i x = if ix i 3 = true then some (wA st 78 (upd (cI st 78) i.toNatClampNeg x)) else none := sS_of (c78 hS) i x
theorem k78 {st : xS} (hS : Sh st) (f : Nat → Int32) : cI (wA st 78 f) 78 = f := cI_s (c78 hS) f
theorem o79 {st : xS} (hS : Sh st) : isO st (some 79) 5 = some 5 := shg_O hS 15 rfl
theorem g79_0 {st : xS} (hS : Sh st) : gR st (some 79) 5 0 = some (fR st 79 0) := shg_Q hS 15 0 rfl rfl
theorem p79_0 {st : xS} (hS : Sh st) (v : Option Nat) : pF st (some 79) 5 0 (va_rf v) = some (uV st 79 0 (va_rf v)) := shg_P hS 15 0 rfl (by decide) _
theorem s79_0 {st : xS} (hS : Sh st) (v : Option Nat) : Sh (uV st 79 0 (va_rf v)) := shw_V hS 79 0 _ (fun i c hc hi p hp => by
  obtain rfl : i = 15 := by omega
  cases hc
  cases hp
  cases v with
  | none => exact Or.inl rfl
  | some a => exact Or.inr ⟨a, rfl⟩)
theorem f79_0 {st : xS} (hS : Sh st) (v : Option Nat) : fR (uV st 79 0 (va_rf v)) 79 0 = v := by
  obtain ⟨fs, e, hl, -⟩ := shc_O hS 15 rfl
  unfold fR
  rw [fV_s e 0 (by rw [hl]; decide)]
  cases v <;> rfl
theorem g79_1 {st : xS} (hS : Sh st) : gR st (some 79) 5 1 = some (fR st 79 1) := shg_Q hS 15 1 rfl rfl
theorem p79_1 {st : xS} (hS : Sh st) (v : Option Nat) : pF st (some 79) 5 1 (va_rf v) = some (uV st 79 1 (va_rf v)) := shg_P hS 15 1 rfl (by decide) _
theorem s79_1 {st : xS} (hS : Sh st) (v : Option Nat) : Sh (uV st 79 1 (va_rf v)) := shw_V hS 79 1 _ (fun i c hc hi p hp => by
  obtain rfl : i = 15 := by omega
  cases hc
  cases hp
  cases v with
  | none => exact Or.inl rfl
  | some a => exact Or.inr ⟨a, rfl⟩)
theorem f79_1 {st : xS} (hS : Sh st) (v : Option Nat) : fR (uV st 79 1 (va_rf v)) 79 1 = v := by
  obtain ⟨fs, e, hl, -⟩ := shc_O hS 15 rfl
  unfold fR
  rw [fV_s e 1 (by rw [hl]; decide)]
  cases v <;> rfl
theorem g79_2 {st : xS} (hS : Sh st) : gR st (some 79) 5 2 = some (fR st 79 2) := shg_Q hS 15 2 rfl rfl
theorem p79_2 {st : xS} (hS : Sh st) (v : Option Nat) : pF st (some 79) 5 2 (va_rf v) = some (uV st 79 2 (va_rf v)) := shg_P hS 15 2 rfl (by decide) _
theorem s79_2 {st : xS} (hS : Sh st) (v : Option Nat) : Sh (uV st 79 2 (va_rf v)) := shw_V hS 79 2 _ (fun i c hc hi p hp => by
  obtain rfl : i = 15 := by omega
  cases hc
  cases hp
  cases v with
  | none => exact Or.inl rfl
  | some a => exact Or.inr ⟨a, rfl⟩)
theorem f79_2 {st : xS} (hS : Sh st) (v : Option Nat) : fR (uV st 79 2 (va_rf v)) 79 2 = v := by
  obtain ⟨fs, e, hl, -⟩ := shc_O hS 15 rfl
  unfold fR
  rw [fV_s e 2 (by rw [hl]; decide)]
  cases v <;> rfl
theorem g79_3 {st : xS} (hS : Sh st) : gR st (some 79) 5 3 = some (some 87) := shg_R hS 15 3 rfl rfl
theorem g79_4 {st : xS} (hS : Sh st) : gI st (some 79) 5 4 = some (fI st 79 4) := shg_I hS 15 4 rfl rfl
theorem p79_4 {st : xS} (hS : Sh st) (v : Int32) : pF st (some 79) 5 4 (.int v) = some (uV st 79 4 (.int v)) := shg_P hS 15 4 rfl (by decide) _
theorem s79_4 {st : xS} (hS : Sh st) (v : Int32) : Sh (uV st 79 4 (.int v)) := shw_V hS 79 4 _ (fun i c hc hi p hp => by
  obtain rfl : i = 15 := by omega
  cases hc
  cases hp
  exact ⟨v, rfl⟩)
theorem f79_4 {st : xS} (hS : Sh st) (v : Int32) : fI (uV st 79 4 (.int v)) 79 4 = v := by
  obtain ⟨fs, e, hl, -⟩ := shc_O hS 15 rfl
  unfold fI
  rw [fV_s e 4 (by rw [hl]; decide)]
  rfl
theorem g79_5 {st : xS} (hS : Sh st) : gI st (some 79) 5 5 = some (fI st 79 5) := shg_I hS 15 5 rfl rfl
theorem p79_5 {st : xS} (hS : Sh st) (v : Int32) : pF st (some 79) 5 5 (.int v) = some (uV st 79 5 (.int v)) := shg_P hS 15 5 rfl (by decide) _
theorem s79_5 {st : xS} (hS : Sh st) (v : Int32) : Sh (uV st 79 5 (.int v)) := shw_V hS 79 5 _ (fun i c hc hi p hp => by
  obtain rfl : i = 15 := by omega
  cases hc
  cases hp
  exact ⟨v, rfl⟩)
theorem f79_5 {st : xS} (hS : Sh st) (v : Int32) : fI (uV st 79 5 (.int v)) 79 5 = v := by
  obtain ⟨fs, e, hl, -⟩ := shc_O hS 15 rfl
  unfold fI
  rw [fV_s e 5 (by rw [hl]; decide)]
  rfl
theorem g79_6 {st : xS} (hS : Sh st) : gI st (some 79) 5 6 = some (fI st 79 6) := shg_I hS 15 6 rfl rfl
theorem p79_6 {st : xS} (hS : Sh st) (v : Int32) : pF st (some 79) 5 6 (.int v) = some (uV st 79 6 (.int v)) := shg_P hS 15 6 rfl (by decide) _
theorem s79_6 {st : xS} (hS : Sh st) (v : Int32) : Sh (uV st 79 6 (.int v)) := shw_V hS 79 6 _ (fun i c hc hi p hp => by
  obtain rfl : i = 15 := by omega
  cases hc
  cases hp
  exact ⟨v, rfl⟩)
theorem f79_6 {st : xS} (hS : Sh st) (v : Int32) : fI (uV st 79 6 (.int v)) 79 6 = v := by
  obtain ⟨fs, e, hl, -⟩ := shc_O hS 15 rfl
  unfold fI
  rw [fV_s e 6 (by rw [hl]; decide)]
  rfl
theorem g79_7 {st : xS} (hS : Sh st) : gI st (some 79) 5 7 = some (fI st 79 7) := shg_I hS 15 7 rfl rfl
theorem p79_7 {st : xS} (hS : Sh st) (v : Int32) : pF st (some 79) 5 7 (.int v) = some (uV st 79 7 (.int v)) := shg_P hS 15 7 rfl (by decide) _
theorem s79_7 {st : xS} (hS : Sh st) (v : Int32) : Sh (uV st 79 7 (.int v)) := shw_V hS 79 7 _ (fun i c hc hi p hp => by
  obtain rfl : i = 15 := by omega
  cases hc
  cases hp
  exact ⟨v, rfl⟩)
theorem f79_7 {st : xS} (hS : Sh st) (v : Int32) : fI (uV st 79 7 (.int v)) 79 7 = v := by
  obtain ⟨fs, e, hl, -⟩ := shc_O hS 15 rfl
  unfold fI
  rw [fV_s e 7 (by rw [hl]; decide)]
  rfl
theorem g79_8 {st : xS} (hS : Sh st) : gR st (some 79) 5 8 = some (some 88) := shg_R hS 15 8 rfl rfl
theorem g79_9 {st : xS} (hS : Sh st) : gR st (some 79) 5 9 = some (some 89) := shg_R hS 15 9 rfl rfl
theorem o80 {st : xS} (hS : Sh st) : isO st (some 80) 4 = some 4 := shg_O hS 16 rfl
theorem g80_0 {st : xS} (hS : Sh st) : gR st (some 80) 4 0 = some (some 81) := shg_R hS 16 0 rfl rfl
theorem g80_1 {st : xS} (hS : Sh st) : gR st (some 80) 4 1 = some (some 82) := shg_R hS 16 1 rfl rfl
theorem g80_2 {st : xS} (hS : Sh st) : gI st (some 80) 4 2 = some (fI st 80 2) := shg_I hS 16 2 rfl rfl
theorem p80_2 {st : xS} (hS : Sh st) (v : Int32) : pF st (some 80) 4 2 (.int v) = some (uV st 80 2 (.int v)) := shg_P hS 16 2 rfl (by decide) _
theorem s80_2 {st : xS} (hS : Sh st) (v : Int32) : Sh (uV st 80 2 (.int v)) := shw_V hS 80 2 _ (fun i c hc hi p hp => by
  obtain rfl : i = 16 := by omega
  cases hc
  cases hp
  exact ⟨v, rfl⟩)
theorem f80_2 {st : xS} (hS : Sh st) (v : Int32) : fI (uV st 80 2 (.int v)) 80 2 = v := by
  obtain ⟨fs, e, hl, -⟩ := shc_O hS 16 rfl
  unfold fI
  rw [fV_s e 2 (by rw [hl]; decide)]
  rfl
theorem g80_3 {st : xS} (hS : Sh st) : gI st (some 80) 4 3 = some (fI st 80 3) := shg_I hS 16 3 rfl rfl
theorem p80_3 {st : xS} (hS : Sh st) (v : Int32) : pF st (some 80) 4 3 (.int v) = some (uV st 80 3 (.int v)) := shg_P hS 16 3 rfl (by decide) _
theorem s80_3 {st : xS} (hS : Sh st) (v : Int32) : Sh (uV st 80 3 (.int v)) := shw_V hS 80 3 _ (fun i c hc hi p hp => by
  obtain rfl : i = 16 := by omega
  cases hc
  cases hp
  exact ⟨v, rfl⟩)
theorem f80_3 {st : xS} (hS : Sh st) (v : Int32) : fI (uV st 80 3 (.int v)) 80 3 = v := by
  obtain ⟨fs, e, hl, -⟩ := shc_O hS 16 rfl
  unfold fI
  rw [fV_s e 3 (by rw [hl]; decide)]
  rfl
theorem c81 {st : xS} (hS : Sh st) : st.2.2 81 = .inl (0, 60, .inl (cI st 81)) := shc_A hS 17 rfl
theorem a81 {st : xS} (hS : Sh st) (i : Int32) : aI st (some 81) i = if ix i 60 = true then some (cI st 81 i.toNatClampNeg) else none := aI_of (c81 hS) i
theorem n81 {st : xS} (hS : Sh st) : aN st (some 81) = some (nI 60) := aN_of (c81 hS) (by decide)
theorem w81 {st : xS} (hS : Sh st) (i x : Int32) : sS 0 st (some 81) i x = if ix i 60 = true then some (wA st 81 (upd (cI st 81) i.toNatClampNeg x)) else none := sS_of (c81 hS) i x
theorem k81 {st : xS} (hS : Sh st) (f : Nat → Int32) : cI (wA st 81 f) 81 = f := cI_s (c81 hS) f
theorem c82 {st : xS} (hS : Sh st) : st.2.2 82 = .inl (0, 100, .inl (cI st 82)) := shc_A hS 18 rfl
theorem a82 {st : xS} (hS : Sh st) (i : Int32) : aI st (some 82) i = if ix i 100 = true then some (cI st 82 i.toNatClampNeg) else none := aI_of (c82 hS) i
theorem n82 {st : xS} (hS : Sh st) : aN st (some 82) = some (nI 100) := aN_of (c82 hS) (by decide)
theorem w82 {st : xS} (hS : Sh st) (i x : Int32) : sS 0 st (some 82) i x = if ix i 100 = true then some (wA st 82 (upd (cI st 82) i.toNatClampNeg x)) else none := sS_of (c82 hS) i x
theorem k82 {st : xS} (hS : Sh st) (f : Nat → Int32) : cI (wA st 82 f) 82 = f := cI_s (c82 hS) f
theorem o83 {st : xS} (hS : Sh st) : isO st (some 83) 3 = some 3 := shg_O hS 19 rfl
theorem g83_0 {st : xS} (hS : Sh st) : gR st (some 83) 3 0 = some (some 84) := shg_R hS 19 0 rfl rfl
theorem c84 {st : xS} (hS : Sh st) : st.2.2 84 = .inl (0, 26, .inl (cI st 84)) := shc_A hS 20 rfl
theorem a84 {st : xS} (hS : Sh st) (i : Int32) : aI st (some 84) i = if ix i 26 = true then some (cI st 84 i.toNatClampNeg) else none := aI_of (c84 hS) i
theorem n84 {st : xS} (hS : Sh st) : aN st (some 84) = some (nI 26) := aN_of (c84 hS) (by decide)
theorem w84 {st : xS} (hS : Sh st) (i x : Int32) : sS 0 st (some 84) i x = if ix i 26 = true then some (wA st 84 (upd (cI st 84) i.toNatClampNeg x)) else none := sS_of (c84 hS) i x
theorem k84 {st : xS} (hS : Sh st) (f : Nat → Int32) : cI (wA st 84 f) 84 = f := cI_s (c84 hS) f
theorem o85 {st : xS} (hS : Sh st) : isO st (some 85) 6 = some 6 := shg_O hS 21 rfl
theorem g85_0 {st : xS} (hS : Sh st) : gR st (some 85) 6 0 = some (some 86) := shg_R hS 21 0 rfl rfl
theorem g85_1 {st : xS} (hS : Sh st) : gI st (some 85) 6 1 = some (fI st 85 1) := shg_I hS 21 1 rfl rfl
theorem p85_1 {st : xS} (hS : Sh st) (v : Int32) : pF st (some 85) 6 1 (.int v) = some (uV st 85 1 (.int v)) := shg_P hS 21 1 rfl (by decide) _
theorem s85_1 {st : xS} (hS : Sh st) (v : Int32) : Sh (uV st 85 1 (.int v)) := shw_V hS 85 1 _ (fun i c hc hi p hp => by
  obtain rfl : i = 21 := by omega
  cases hc
  cases hp
  exact ⟨v, rfl⟩)
theorem f85_1 {st : xS} (hS : Sh st) (v : Int32) : fI (uV st 85 1 (.int v)) 85 1 = v := by
  obtain ⟨fs, e, hl, -⟩ := shc_O hS 21 rfl
  unfold fI
  rw [fV_s e 1 (by rw [hl]; decide)]
  rfl
theorem g85_2 {st : xS} (hS : Sh st) : gI st (some 85) 6 2 = some (fI st 85 2) := shg_I hS 21 2 rfl rfl
theorem p85_2 {st : xS} (hS : Sh st) (v : Int32) : pF st (some 85) 6 2 (.int v) = some (uV st 85 2 (.int v)) := shg_P hS 21 2 rfl (by decide) _
theorem s85_2 {st : xS} (hS : Sh st) (v : Int32) : Sh (uV st 85 2 (.int v)) := shw_V hS 85 2 _ (fun i c hc hi p hp => by
  obtain rfl : i = 21 := by omega
  cases hc
  cases hp
  exact ⟨v, rfl⟩)
theorem f85_2 {st : xS} (hS : Sh st) (v : Int32) : fI (uV st 85 2 (.int v)) 85 2 = v := by
  obtain ⟨fs, e, hl, -⟩ := shc_O hS 21 rfl
  unfold fI
  rw [fV_s e 2 (by rw [hl]; decide)]
  rfl
theorem g85_3 {st : xS} (hS : Sh st) : gI st (some 85) 6 3 = some (fI st 85 3) := shg_I hS 21 3 rfl rfl
theorem p85_3 {st : xS} (hS : Sh st) (v : Int32) : pF st (some 85) 6 3 (.int v) = some (uV st 85 3 (.int v)) := shg_P hS 21 3 rfl (by decide) _
theorem s85_3 {st : xS} (hS : Sh st) (v : Int32) : Sh (uV st 85 3 (.int v)) := shw_V hS 85 3 _ (fun i c hc hi p hp => by
  obtain rfl : i = 21 := by omega
  cases hc
  cases hp
  exact ⟨v, rfl⟩)
theorem f85_3 {st : xS} (hS : Sh st) (v : Int32) : fI (uV st 85 3 (.int v)) 85 3 = v := by
  obtain ⟨fs, e, hl, -⟩ := shc_O hS 21 rfl
  unfold fI
  rw [fV_s e 3 (by rw [hl]; decide)]
  rfl
theorem g85_4 {st : xS} (hS : Sh st) : gI st (some 85) 6 4 = some (fI st 85 4) := shg_I hS 21 4 rfl rfl
theorem p85_4 {st : xS} (hS : Sh st) (v : Int32) : pF st (some 85) 6 4 (.int v) = some (uV st 85 4 (.int v)) := shg_P hS 21 4 rfl (by decide) _
theorem s85_4 {st : xS} (hS : Sh st) (v : Int32) : Sh (uV st 85 4 (.int v)) := shw_V hS 85 4 _ (fun i c hc hi p hp => by
  obtain rfl : i = 21 := by omega
  cases hc
  cases hp
  exact ⟨v, rfl⟩)
theorem f85_4 {st : xS} (hS : Sh st) (v : Int32) : fI (uV st 85 4 (.int v)) 85 4 = v := by
  obtain ⟨fs, e, hl, -⟩ := shc_O hS 21 rfl
  unfold fI
  rw [fV_s e 4 (by rw [hl]; decide)]
  rfl
theorem g85_5 {st : xS} (hS : Sh st) : gI st (some 85) 6 5 = some (fI st 85 5) := shg_I hS 21 5 rfl rfl
theorem p85_5 {st : xS} (hS : Sh st) (v : Int32) : pF st (some 85) 6 5 (.int v) = some (uV st 85 5 (.int v)) := shg_P hS 21 5 rfl (by decide) _
theorem s85_5 {st : xS} (hS : Sh st) (v : Int32) : Sh (uV st 85 5 (.int v)) := shw_V hS 85 5 _ (fun i c hc hi p hp => by
  obtain rfl : i = 21 := by omega
  cases hc
  cases hp
  exact ⟨v, rfl⟩)
theorem f85_5 {st : xS} (hS : Sh st) (v : Int32) : fI (uV st 85 5 (.int v)) 85 5 = v := by
  obtain ⟨fs, e, hl, -⟩ := shc_O hS 21 rfl
  unfold fI
  rw [fV_s e 5 (by rw [hl]; decide)]
  rfl
theorem g85_6 {st : xS} (hS : Sh st) : gI st (some 85) 6 6 = some (fI st 85 6) := shg_I hS 21 6 rfl rfl
theorem p85_6 {st : xS} (hS : Sh st) (v : Int32) : pF st (some 85) 6 6 (.int v) = some (uV st 85 6 (.int v)) := shg_P hS 21 6 rfl (by decide) _
theorem s85_6 {st : xS} (hS : Sh st) (v : Int32) : Sh (uV st 85 6 (.int v)) := shw_V hS 85 6 _ (fun i c hc hi p hp => by
  obtain rfl : i = 21 := by omega
  cases hc
  cases hp
  exact ⟨v, rfl⟩)
theorem f85_6 {st : xS} (hS : Sh st) (v : Int32) : fI (uV st 85 6 (.int v)) 85 6 = v := by
  obtain ⟨fs, e, hl, -⟩ := shc_O hS 21 rfl
  unfold fI
  rw [fV_s e 6 (by rw [hl]; decide)]
  rfl
theorem g85_7 {st : xS} (hS : Sh st) : gI st (some 85) 6 7 = some (fI st 85 7) := shg_I hS 21 7 rfl rfl
theorem p85_7 {st : xS} (hS : Sh st) (v : Int32) : pF st (some 85) 6 7 (.int v) = some (uV st 85 7 (.int v)) := shg_P hS 21 7 rfl (by decide) _
theorem s85_7 {st : xS} (hS : Sh st) (v : Int32) : Sh (uV st 85 7 (.int v)) := shw_V hS 85 7 _ (fun i c hc hi p hp => by
  obtain rfl : i = 21 := by omega
  cases hc
  cases hp
  exact ⟨v, rfl⟩)
theorem f85_7 {st : xS} (hS : Sh st) (v : Int32) : fI (uV st 85 7 (.int v)) 85 7 = v := by
  obtain ⟨fs, e, hl, -⟩ := shc_O hS 21 rfl
  unfold fI
  rw [fV_s e 7 (by rw [hl]; decide)]
  rfl
theorem c86 {st : xS} (hS : Sh st) : st.2.2 86 = .inl (0, 240, .inl (cI st 86)) := shc_A hS 22 rfl
theorem a86 {st : xS} (hS : Sh st) (i : Int32) : aI st (some 86) i = if ix i 240 = true then some (cI st 86 i.toNatClampNeg) else none := aI_of (c86 hS) i
theorem n86 {st : xS} (hS : Sh st) : aN st (some 86) = some (nI 240) := aN_of (c86 hS) (by decide)
theorem w86 {st : xS} (hS : Sh st) (i x : Int32) : sS 0 st (some 86) i x = if ix i 240 = true then some (wA st 86 (upd (cI st 86) i.toNatClampNeg x)) else none := sS_of (c86 hS) i x
theorem k86 {st : xS} (hS : Sh st) (f : Nat → Int32) : cI (wA st 86 f) 86 = f := cI_s (c86 hS) f
theorem c87 {st : xS} (hS : Sh st) : st.2.2 87 = .inl (0, 6, .inl (cI st 87)) := shc_A hS 23 rfl
theorem a87 {st : xS} (hS : Sh st) (i : Int32) : aI st (some 87) i = if ix i 6 = true then some (cI st 87 i.toNatClampNeg) else none := aI_of (c87 hS) i
theorem n87 {st : xS} (hS : Sh st) : aN st (some 87) = some (nI 6) := aN_of (c87 hS) (by decide)
theorem w87 {st : xS} (hS : Sh st) (i x : Int32) : sS 0 st (some 87) i x = if ix i 6 = true then some (wA st 87 (upd (cI st 87) i.toNatClampNeg x)) else none := sS_of (c87 hS) i x
theorem k87 {st : xS} (hS : Sh st) (f : Nat → Int32) : cI (wA st 87 f) 87 = f := cI_s (c87 hS) f
theorem c88 {st : xS} (hS : Sh st) : st.2.2 88 = .inl (0, 8, .inl (cI st 88)) := shc_A hS 24 rfl
theorem a88 {st : xS} (hS : Sh st) (i : Int32) : aI st (some 88) i = if ix i 8 = true then some (cI st 88 i.toNatClampNeg) else none := aI_of (c88 hS) i
theorem n88 {st : xS} (hS : Sh st) : aN st (some 88) = some (nI 8) := aN_of (c88 hS) (by decide)
theorem w88 {st : xS} (hS : Sh st) (i x : Int32) : sS 0 st (some 88) i x = if ix i 8 = true then some (wA st 88 (upd (cI st 88) i.toNatClampNeg x)) else none := sS_of (c88 hS) i x
theorem k88 {st : xS} (hS : Sh st) (f : Nat → Int32) : cI (wA st 88 f) 88 = f := cI_s (c88 hS) f
theorem c89 {st : xS} (hS : Sh st) : st.2.2 89 = .inl (0, 8, .inl (cI st 89)) := shc_A hS 25 rfl
theorem a89 {st : xS} (hS : Sh st) (i : Int32) : aI st (some 89) i = if ix i 8 = true then some (cI st 89 i.toNatClampNeg) else none := aI_of (c89 hS) i
theorem n89 {st : xS} (hS : Sh st) : aN st (some 89) = some (nI 8) := aN_of (c89 hS) (by decide)
theorem w89 {st : xS} (hS : Sh st) (i x : Int32) : sS 0 st (some 89) i x = if ix i 8 = true then some (wA st 89 (upd (cI st 89) i.toNatClampNeg x)) else none := sS_of (c89 hS) i x
theorem k89 {st : xS} (hS : Sh st) (f : Nat → Int32) : cI (wA st 89 f) 89 = f := cI_s (c89 hS) f
theorem o90 {st : xS} (hS : Sh st) : isO st (some 90) 1 = some 1 := shg_O hS 26 rfl
theorem g90_0 {st : xS} (hS : Sh st) : gR st (some 90) 1 0 = some (some 91) := shg_R hS 26 0 rfl rfl
theorem g90_1 {st : xS} (hS : Sh st) : gR st (some 90) 1 1 = some (some 92) := shg_R hS 26 1 rfl rfl
theorem g90_2 {st : xS} (hS : Sh st) : gI st (some 90) 1 2 = some (fI st 90 2) := shg_I hS 26 2 rfl rfl
theorem p90_2 {st : xS} (hS : Sh st) (v : Int32) : pF st (some 90) 1 2 (.int v) = some (uV st 90 2 (.int v)) := shg_P hS 26 2 rfl (by decide) _
theorem s90_2 {st : xS} (hS : Sh st) (v : Int32) : Sh (uV st 90 2 (.int v)) := shw_V hS 90 2 _ (fun i c hc hi p hp => by
  obtain rfl : i = 26 := by omega
  cases hc
  cases hp
  exact ⟨v, rfl⟩)
theorem f90_2 {st : xS} (hS : Sh st) (v : Int32) : fI (uV st 90 2 (.int v)) 90 2 = v := by
  obtain ⟨fs, e, hl, -⟩ := shc_O hS 26 rfl
  unfold fI
  rw [fV_s e 2 (by rw [hl]; decide)]
  rfl
theorem c91 {st : xS} (hS : Sh st) : st.2.2 91 = .inl (0, 8, .inl (cI st 91)) := shc_A hS 27 rfl
theorem a91 {st : xS} (hS : Sh st) (i : Int32) : aI st (some 91) i = if ix i 8 = true then some (cI st 91 i.toNatClampNeg) else none := aI_of (c91 hS) i
theorem n91 {st : xS} (hS : Sh st) : aN st (some 91) = some (nI 8) := aN_of (c91 hS) (by decide)
theorem w91 {st : xS} (hS : Sh st) (i x : Int32) : sS 0 st (some 91) i x = if ix i 8 = true then some (wA st 91 (upd (cI st 91) i.toNatClampNeg x)) else none := sS_of (c91 hS) i x
theorem k91 {st : xS} (hS : Sh st) (f : Nat → Int32) : cI (wA st 91 f) 91 = f := cI_s (c91 hS) f
theorem c93 {st : xS} (hS : Sh st) : st.2.2 93 = .inl (1, 7, .inr (.inl (cL st 93))) := shc_L hS 29 rfl
theorem a93 {st : xS} (hS : Sh st) (i : Int32) : aL st (some 93) i = if ix i 7 = true then some (cL st 93 i.toNatClampNeg) else none := aL_of (c93 hS) i
theorem w93 {st : xS} (hS : Sh st) (i : Int32) (x : Int64) : sL st (some 93) i x = if ix i 7 = true then some (wL st 93 (vp_updL (cL st 93) i.toNatClampNeg x)) else none := sL_of (c93 hS) i x
theorem k93 {st : xS} (hS : Sh st) (f : Nat → Int64) : cL (wL st 93 f) 93 = f := cL_s (c93 hS) f
theorem c94 {st : xS} (hS : Sh st) : st.2.2 94 = .inl (1, 7, .inr (.inl (cL st 94))) := shc_L hS 30 rfl
theorem a94 {st : xS} (hS : Sh st) (i : Int32) : aL st (some 94) i = if ix i 7 = true then some (cL st 94 i.toNatClampNeg) else none := aL_of (c94 hS) i
theorem w94 {st : xS} (hS : Sh st) (i : Int32) (x : Int64) : sL st (some 94) i x = if ix i 7 = true then some (wL st 94 (vp_updL (cL st 94) i.toNatClampNeg x)) else none := sL_of (c94 hS) i x
theorem k94 {st : xS} (hS : Sh st) (f : Nat → Int64) : cL (wL st 94 f) 94 = f := cL_s (c94 hS) f
theorem c95 {st : xS} (hS : Sh st) : st.2.2 95 = .inl (1, 7, .inr (.inl (cL st 95))) := shc_L hS 31 rfl
theorem a95 {st : xS} (hS : Sh st) (i : Int32) : aL st (some 95) i = if ix i 7 = true then some (cL st 95 i.toNatClampNeg) else none := aL_of (c95 hS) i
theorem w95 {st : xS} (hS : Sh st) (i : Int32) (x : Int64) : sL st (some 95) i x = if ix i 7 = true then some (wL st 95 (vp_updL (cL st 95) i.toNatClampNeg x)) else none := sL_of (c95 hS) i x
theorem k95 {st : xS} (hS : Sh st) (f : Nat → Int64) : cL (wL st 95 f) 95 = f := cL_s (c95 hS) f
theorem c96 {st : xS} (hS : Sh st) : st.2.2 96 = .inl (1, 7, .inr (.inl (cL st 96))) := shc_L hS 32 rfl
theorem a96 {st : xS} (hS : Sh st) (i : Int32) : aL st (some 96) i = if ix i 7 = true then some (cL st 96 i.toNatClampNeg) else none := aL_of (c96 hS) i
theorem w96 {st : xS} (hS : Sh st) (i : Int32) (x : Int64) : sL st (some 96) i x = if ix i 7 = true then some (wL st 96 (vp_updL (cL st 96) i.toNatClampNeg x)) else none := sL_of (c96 hS) i x
theorem k96 {st : xS} (hS : Sh st) (f : Nat → Int64) : cL (wL st 96 f) 96 = f := cL_s (c96 hS) f
theorem c97 {st : xS} (hS : Sh st) : st.2.2 97 = .inl (1, 7, .inr (.inl (cL st 97))) := shc_L hS 33 rfl
theorem a97 {st : xS} (hS : Sh st) (i : Int32) : aL st (some 97) i = if ix i 7 = true then some (cL st 97 i.toNatClampNeg) else none := aL_of (c97 hS) i
theorem w97 {st : xS} (hS : Sh st) (i : Int32) (x : Int64) : sL st (some 97) i x = if ix i 7 = true then some (wL st 97 (vp_updL (cL st 97) i.toNatClampNeg x)) else none := sL_of (c97 hS) i x
theorem k97 {st : xS} (hS : Sh st) (f : Nat → Int64) : cL (wL st 97 f) 97 = f := cL_s (c97 hS) f
theorem c98 {st : xS} (hS : Sh st) : st.2.2 98 = .inl (1, 7, .inr (.inl (cL st 98))) := shc_L hS 34 rfl
theorem a98 {st : xS} (hS : Sh st) (i : Int32) : aL st (some 98) i = if ix i 7 = true then some (cL st 98 i.toNatClampNeg) else none := aL_of (c98 hS) i
theorem w98 {st : xS} (hS : Sh st) (i : Int32) (x : Int64) : sL st (some 98) i x = if ix i 7 = true then some (wL st 98 (vp_updL (cL st 98) i.toNatClampNeg x)) else none := sL_of (c98 hS) i x
theorem k98 {st : xS} (hS : Sh st) (f : Nat → Int64) : cL (wL st 98 f) 98 = f := cL_s (c98 hS) f
theorem o99 {st : xS} (hS : Sh st) : isO st (some 99) 8 = some 8 := shg_O hS 35 rfl
theorem g99_0 {st : xS} (hS : Sh st) : gR st (some 99) 8 0 = some (some 100) := shg_R hS 35 0 rfl rfl
theorem g99_1 {st : xS} (hS : Sh st) : gR st (some 99) 8 1 = some (some 101) := shg_R hS 35 1 rfl rfl
theorem g99_2 {st : xS} (hS : Sh st) : gR st (some 99) 8 2 = some (some 102) := shg_R hS 35 2 rfl rfl
theorem g99_3 {st : xS} (hS : Sh st) : gR st (some 99) 8 3 = some (some 103) := shg_R hS 35 3 rfl rfl
theorem c100 {st : xS} (hS : Sh st) : st.2.2 100 = .inl (0, 8, .inl (cI st 100)) := shc_A hS 36 rfl
theorem a100 {st : xS} (hS : Sh st) (i : Int32) : aI st (some 100) i = if ix i 8 = true then some (cI st 100 i.toNatClampNeg) else none := aI_of (c100 hS) i
theorem n100 {st : xS} (hS : Sh st) : aN st (some 100) = some (nI 8) := aN_of (c100 hS) (by decide)
theorem w100 {st : xS} (hS : Sh st) (i x : Int32) : sS 0 st (some 100) i x = if ix i 8 = true then some (wA st 100 (upd (cI st 100) i.toNatClampNeg x)) else none := sS_of (c100 hS) i x
theorem k100 {st : xS} (hS : Sh st) (f : Nat → Int32) : cI (wA st 100 f) 100 = f := cI_s (c100 hS) f
theorem c101 {st : xS} (hS : Sh st) : st.2.2 101 = .inl (0, 8, .inl (cI st 101)) := shc_A hS 37 rfl
theorem a101 {st : xS} (hS : Sh st) (i : Int32) : aI st (some 101) i = if ix i 8 = true then some (cI st 101 i.toNatClampNeg) else none := aI_of (c101 hS) i
theorem n101 {st : xS} (hS : Sh st) : aN st (some 101) = some (nI 8) := aN_of (c101 hS) (by decide)
theorem w101 {st : xS} (hS : Sh st) (i x : Int32) : sS 0 st (some 101) i x = if ix i 8 = true then some (wA st 101 (upd (cI st 101) i.toNatClampNeg x)) else none := sS_of (c101 hS) i x
theorem k101 {st : xS} (hS : Sh st) (f : Nat → Int32) : cI (wA st 101 f) 101 = f := cI_s (c101 hS) f
theorem c102 {st : xS} (hS : Sh st) : st.2.2 102 = .inl (0, 8, .inl (cI st 102)) := shc_A hS 38 rfl
theorem a102 {st : xS} (hS : Sh st) (i : Int32) : aI st (some 102) i = if ix i 8 = true then some (cI st 102 i.toNatClampNeg) else none := aI_of (c102 hS) i
theorem n102 {st : xS} (hS : Sh st) : aN st (some 102) = some (nI 8) := aN_of (c102 hS) (by decide)
theorem w102 {st : xS} (hS : Sh st) (i x : Int32) : sS 0 st (some 102) i x = if ix i 8 = true then some (wA st 102 (upd (cI st 102) i.toNatClampNeg x)) else none := sS_of (c102 hS) i x
theorem k102 {st : xS} (hS : Sh st) (f : Nat → Int32) : cI (wA st 102 f) 102 = f := cI_s (c102 hS) f
theorem c103 {st : xS} (hS : Sh st) : st.2.2 103 = .inl (0, 8, .inl (cI st 103)) := shc_A hS 39 rfl
theorem a103 {st : xS} (hS : Sh st) (i : Int32) : aI st (some 103) i = if ix i 8 = true then some (cI st 103 i.toNatClampNeg) else none := aI_of (c103 hS) i
theorem n103 {st : xS} (hS : Sh st) : aN st (some 103) = some (nI 8) := aN_of (c103 hS) (by decide)
theorem w103 {st : xS} (hS : Sh st) (i x : Int32) : sS 0 st (some 103) i x = if ix i 8 = true then some (wA st 103 (upd (cI st 103) i.toNatClampNeg x)) else none := sS_of (c103 hS) i x
theorem k103 {st : xS} (hS : Sh st) (f : Nat → Int32) : cI (wA st 103 f) 103 = f := cI_s (c103 hS) f
theorem c104 {st : xS} (hS : Sh st) : st.2.2 104 = .inl (0, 80, .inl (cI st 104)) := shc_A hS 40 rfl
theorem a104 {st : xS} (hS : Sh st) (i : Int32) : aI st (some 104) i = if ix i 80 = true then some (cI st 104 i.toNatClampNeg) else none := aI_of (c104 hS) i
theorem n104 {st : xS} (hS : Sh st) : aN st (some 104) = some (nI 80) := aN_of (c104 hS) (by decide)
theorem w104 {st : xS} (hS : Sh st) (i x : Int32) : sS 0 st (some 104) i x = if ix i 80 = true then some (wA st 104 (upd (cI st 104) i.toNatClampNeg x)) else none := sS_of (c104 hS) i x
theorem k104 {st : xS} (hS : Sh st) (f : Nat → Int32) : cI (wA st 104 f) 104 = f := cI_s (c104 hS) f
theorem c105 {st : xS} (hS : Sh st) : st.2.2 105 = .inl (0, 40, .inl (cI st 105)) := shc_A hS 41 rfl
theorem a105 {st : xS} (hS : Sh st) (i : Int32) : aI st (some 105) i = if ix i 40 = true then some (cI st 105 i.toNatClampNeg) else none := aI_of (c105 hS) i
theorem n105 {st : xS} (hS : Sh st) : aN st (some 105) = some (nI 40) := aN_of (c105 hS) (by decide)
theorem w105 {st : xS} (hS : Sh st) (i x : Int32) : sS 0 st (some 105) i x = if ix i 40 = true then some (wA st 105 (upd (cI st 105) i.toNatClampNeg x)) else none := sS_of (c105 hS) i x
theorem k105 {st : xS} (hS : Sh st) (f : Nat → Int32) : cI (wA st 105 f) 105 = f := cI_s (c105 hS) f
theorem o106 {st : xS} (hS : Sh st) : isO st (some 106) 11 = some 11 := shg_O hS 42 rfl
theorem g106_0 {st : xS} (hS : Sh st) : gR st (some 106) 11 0 = some (some 107) := shg_R hS 42 0 rfl rfl
theorem g106_1 {st : xS} (hS : Sh st) : gR st (some 106) 11 1 = some (some 108) := shg_R hS 42 1 rfl rfl
theorem g106_2 {st : xS} (hS : Sh st) : gI st (some 106) 11 2 = some (fI st 106 2) := shg_I hS 42 2 rfl rfl
theorem p106_2 {st : xS} (hS : Sh st) (v : Int32) : pF st (some 106) 11 2 (.int v) = some (uV st 106 2 (.int v)) := shg_P hS 42 2 rfl (by decide) _
theorem s106_2 {st : xS} (hS : Sh st) (v : Int32) : Sh (uV st 106 2 (.int v)) := shw_V hS 106 2 _ (fun i c hc hi p hp => by
  obtain rfl : i = 42 := by omega
  cases hc
  cases hp
  exact ⟨v, rfl⟩)
theorem f106_2 {st : xS} (hS : Sh st) (v : Int32) : fI (uV st 106 2 (.int v)) 106 2 = v := by
  obtain ⟨fs, e, hl, -⟩ := shc_O hS 42 rfl
  unfold fI
  rw [fV_s e 2 (by rw [hl]; decide)]
  rfl
theorem g106_3 {st : xS} (hS : Sh st) : gI st (some 106) 11 3 = some (fI st 106 3) := shg_I hS 42 3 rfl rfl
theorem p106_3 {st : xS} (hS : Sh st) (v : Int32) : pF st (some 106) 11 3 (.int v) = some (uV st 106 3 (.int v)) := shg_P hS 42 3 rfl (by decide) _
theorem s106_3 {st : xS} (hS : Sh st) (v : Int32) : Sh (uV st 106 3 (.int v)) := shw_V hS 106 3 _ (fun i c hc hi p hp => by
  obtain rfl : i = 42 := by omega
  cases hc
  cases hp
  exact ⟨v, rfl⟩)
theorem f106_3 {st : xS} (hS : Sh st) (v : Int32) : fI (uV st 106 3 (.int v)) 106 3 = v := by
  obtain ⟨fs, e, hl, -⟩ := shc_O hS 42 rfl
  unfold fI
  rw [fV_s e 3 (by rw [hl]; decide)]
  rfl
theorem g106_4 {st : xS} (hS : Sh st) : gI st (some 106) 11 4 = some (fI st 106 4) := shg_I hS 42 4 rfl rfl
theorem p106_4 {st : xS} (hS : Sh st) (v : Int32) : pF st (some 106) 11 4 (.int v) = some (uV st 106 4 (.int v)) := shg_P hS 42 4 rfl (by decide) _
theorem s106_4 {st : xS} (hS : Sh st) (v : Int32) : Sh (uV st 106 4 (.int v)) := shw_V hS 106 4 _ (fun i c hc hi p hp => by
  obtain rfl : i = 42 := by omega
  cases hc
  cases hp
  exact ⟨v, rfl⟩)
theorem f106_4 {st : xS} (hS : Sh st) (v : Int32) : fI (uV st 106 4 (.int v)) 106 4 = v := by
  obtain ⟨fs, e, hl, -⟩ := shc_O hS 42 rfl
  unfold fI
  rw [fV_s e 4 (by rw [hl]; decide)]
  rfl
theorem g106_5 {st : xS} (hS : Sh st) : gI st (some 106) 11 5 = some (fI st 106 5) := shg_I hS 42 5 rfl rfl
theorem p106_5 {st : xS} (hS : Sh st) (v : Int32) : pF st (some 106) 11 5 (.int v) = some (uV st 106 5 (.int v)) := shg_P hS 42 5 rfl (by decide) _
theorem s106_5 {st : xS} (hS : Sh st) (v : Int32) : Sh (uV st 106 5 (.int v)) := shw_V hS 106 5 _ (fun i c hc hi p hp => by
  obtain rfl : i = 42 := by omega
  cases hc
  cases hp
  exact ⟨v, rfl⟩)
theorem f106_5 {st : xS} (hS : Sh st) (v : Int32) : fI (uV st 106 5 (.int v)) 106 5 = v := by
  obtain ⟨fs, e, hl, -⟩ := shc_O hS 42 rfl
  unfold fI
  rw [fV_s e 5 (by rw [hl]; decide)]
  rfl
theorem g106_6 {st : xS} (hS : Sh st) : gI st (some 106) 11 6 = some (fI st 106 6) := shg_I hS 42 6 rfl rfl
theorem p106_6 {st : xS} (hS : Sh st) (v : Int32) : pF st (some 106) 11 6 (.int v) = some (uV st 106 6 (.int v)) := shg_P hS 42 6 rfl (by decide) _
theorem s106_6 {st : xS} (hS : Sh st) (v : Int32) : Sh (uV st 106 6 (.int v)) := shw_V hS 106 6 _ (fun i c hc hi p hp => by
  obtain rfl : i = 42 := by omega
  cases hc
  cases hp
  exact ⟨v, rfl⟩)
theorem f106_6 {st : xS} (hS : Sh st) (v : Int32) : fI (uV st 106 6 (.int v)) 106 6 = v := by
  obtain ⟨fs, e, hl, -⟩ := shc_O hS 42 rfl
  unfold fI
  rw [fV_s e 6 (by rw [hl]; decide)]
  rfl
theorem g106_7 {st : xS} (hS : Sh st) : gI st (some 106) 11 7 = some (fI st 106 7) := shg_I hS 42 7 rfl rfl
theorem p106_7 {st : xS} (hS : Sh st) (v : Int32) : pF st (some 106) 11 7 (.int v) = some (uV st 106 7 (.int v)) := shg_P hS 42 7 rfl (by decide) _
theorem s106_7 {st : xS} (hS : Sh st) (v : Int32) : Sh (uV st 106 7 (.int v)) := shw_V hS 106 7 _ (fun i c hc hi p hp => by
  obtain rfl : i = 42 := by omega
  cases hc
  cases hp
  exact ⟨v, rfl⟩)
theorem f106_7 {st : xS} (hS : Sh st) (v : Int32) : fI (uV st 106 7 (.int v)) 106 7 = v := by
  obtain ⟨fs, e, hl, -⟩ := shc_O hS 42 rfl
  unfold fI
  rw [fV_s e 7 (by rw [hl]; decide)]
  rfl
theorem g106_8 {st : xS} (hS : Sh st) : gI st (some 106) 11 8 = some (fI st 106 8) := shg_I hS 42 8 rfl rfl
theorem p106_8 {st : xS} (hS : Sh st) (v : Int32) : pF st (some 106) 11 8 (.int v) = some (uV st 106 8 (.int v)) := shg_P hS 42 8 rfl (by decide) _
theorem s106_8 {st : xS} (hS : Sh st) (v : Int32) : Sh (uV st 106 8 (.int v)) := shw_V hS 106 8 _ (fun i c hc hi p hp => by
  obtain rfl : i = 42 := by omega
  cases hc
  cases hp
  exact ⟨v, rfl⟩)
theorem f106_8 {st : xS} (hS : Sh st) (v : Int32) : fI (uV st 106 8 (.int v)) 106 8 = v := by
  obtain ⟨fs, e, hl, -⟩ := shc_O hS 42 rfl
  unfold fI
  rw [fV_s e 8 (by rw [hl]; decide)]
  rfl
theorem g106_9 {st : xS} (hS : Sh st) : gR st (some 106) 11 9 = some (some 109) := shg_R hS 42 9 rfl rfl
theorem g106_10 {st : xS} (hS : Sh st) : gI st (some 106) 11 10 = some (fI st 106 10) := shg_I hS 42 10 rfl rfl
theorem p106_10 {st : xS} (hS : Sh st) (v : Int32) : pF st (some 106) 11 10 (.int v) = some (uV st 106 10 (.int v)) := shg_P hS 42 10 rfl (by decide) _
theorem s106_10 {st : xS} (hS : Sh st) (v : Int32) : Sh (uV st 106 10 (.int v)) := shw_V hS 106 10 _ (fun i c hc hi p hp => by
  obtain rfl : i = 42 := by omega
  cases hc
  cases hp
  exact ⟨v, rfl⟩)
theorem f106_10 {st : xS} (hS : Sh st) (v : Int32) : fI (uV st 106 10 (.int v)) 106 10 = v := by
  obtain ⟨fs, e, hl, -⟩ := shc_O hS 42 rfl
  unfold fI
  rw [fV_s e 10 (by rw [hl]; decide)]
  rfl
theorem g106_11 {st : xS} (hS : Sh st) : gI st (some 106) 11 11 = some (fI st 106 11) := shg_I hS 42 11 rfl rfl
theorem p106_11 {st : xS} (hS : Sh st) (v : Int32) : pF st (some 106) 11 11 (.int v) = some (uV st 106 11 (.int v)) := shg_P hS 42 11 rfl (by decide) _
theorem s106_11 {st : xS} (hS : Sh st) (v : Int32) : Sh (uV st 106 11 (.int v)) := shw_V hS 106 11 _ (fun i c hc hi p hp => by
  obtain rfl : i = 42 := by omega
  cases hc
  cases hp
  exact ⟨v, rfl⟩)
theorem f106_11 {st : xS} (hS : Sh st) (v : Int32) : fI (uV st 106 11 (.int v)) 106 11 = v := by
  obtain ⟨fs, e, hl, -⟩ := shc_O hS 42 rfl
  unfold fI
  rw [fV_s e 11 (by rw [hl]; decide)]
  rfl
theorem g106_12 {st : xS} (hS : Sh st) : gI st (some 106) 11 12 = some (fI st 106 12) := shg_I hS 42 12 rfl rfl
theorem p106_12 {st : xS} (hS : Sh st) (v : Int32) : pF st (some 106) 11 12 (.int v) = some (uV st 106 12 (.int v)) := shg_P hS 42 12 rfl (by decide) _
theorem s106_12 {st : xS} (hS : Sh st) (v : Int32) : Sh (uV st 106 12 (.int v)) := shw_V hS 106 12 _ (fun i c hc hi p hp => by
  obtain rfl : i = 42 := by omega
  cases hc
  cases hp
  exact ⟨v, rfl⟩)
theorem f106_12 {st : xS} (hS : Sh st) (v : Int32) : fI (uV st 106 12 (.int v)) 106 12 = v := by
  obtain ⟨fs, e, hl, -⟩ := shc_O hS 42 rfl
  unfold fI
  rw [fV_s e 12 (by rw [hl]; decide)]
  rfl
theorem g106_13 {st : xS} (hS : Sh st) : gI st (some 106) 11 13 = some (fI st 106 13) := shg_I hS 42 13 rfl rfl
theorem p106_13 {st : xS} (hS : Sh st) (v : Int32) : pF st (some 106) 11 13 (.int v) = some (uV st 106 13 (.int v)) := shg_P hS 42 13 rfl (by decide) _
theorem s106_13 {st : xS} (hS : Sh st) (v : Int32) : Sh (uV st 106 13 (.int v)) := shw_V hS 106 13 _ (fun i c hc hi p hp => by
  obtain rfl : i = 42 := by omega
  cases hc
  cases hp
  exact ⟨v, rfl⟩)
theorem f106_13 {st : xS} (hS : Sh st) (v : Int32) : fI (uV st 106 13 (.int v)) 106 13 = v := by
  obtain ⟨fs, e, hl, -⟩ := shc_O hS 42 rfl
  unfold fI
  rw [fV_s e 13 (by rw [hl]; decide)]
  rfl
theorem g106_14 {st : xS} (hS : Sh st) : gR st (some 106) 11 14 = some (some 110) := shg_R hS 42 14 rfl rfl
theorem g106_15 {st : xS} (hS : Sh st) : gI st (some 106) 11 15 = some (fI st 106 15) := shg_I hS 42 15 rfl rfl
theorem p106_15 {st : xS} (hS : Sh st) (v : Int32) : pF st (some 106) 11 15 (.int v) = some (uV st 106 15 (.int v)) := shg_P hS 42 15 rfl (by decide) _
theorem s106_15 {st : xS} (hS : Sh st) (v : Int32) : Sh (uV st 106 15 (.int v)) := shw_V hS 106 15 _ (fun i c hc hi p hp => by
  obtain rfl : i = 42 := by omega
  cases hc
  cases hp
  exact ⟨v, rfl⟩)
theorem f106_15 {st : xS} (hS : Sh st) (v : Int32) : fI (uV st 106 15 (.int v)) 106 15 = v := by
  obtain ⟨fs, e, hl, -⟩ := shc_O hS 42 rfl
  unfold fI
  rw [fV_s e 15 (by rw [hl]; decide)]
  rfl
theorem g106_16 {st : xS} (hS : Sh st) : gI st (some 106) 11 16 = some (fI st 106 16) := shg_I hS 42 16 rfl rfl
theorem p106_16 {st : xS} (hS : Sh st) (v : Int32) : pF st (some 106) 11 16 (.int v) = some (uV st 106 16 (.int v)) := shg_P hS 42 16 rfl (by decide) _
theorem s106_16 {st : xS} (hS : Sh st) (v : Int32) : Sh (uV st 106 16 (.int v)) := shw_V hS 106 16 _ (fun i c hc hi p hp => by
  obtain rfl : i = 42 := by omega
  cases hc
  cases hp
  exact ⟨v, rfl⟩)
theorem f106_16 {st : xS} (hS : Sh st) (v : Int32) : fI (uV st 106 16 (.int v)) 106 16 = v := by
  obtain ⟨fs, e, hl, -⟩ := shc_O hS 42 rfl
  unfold fI
  rw [fV_s e 16 (by rw [hl]; decide)]
  rfl
theorem g106_17 {st : xS} (hS : Sh st) : gI st (some 106) 11 17 = some (fI st 106 17) := shg_I hS 42 17 rfl rfl
theorem p106_17 {st : xS} (hS : Sh st) (v : Int32) : pF st (some 106) 11 17 (.int v) = some (uV st 106 17 (.int v)) := shg_P hS 42 17 rfl (by decide) _
theorem s106_17 {st : xS} (hS : Sh st) (v : Int32) : Sh (uV st 106 17 (.int v)) := shw_V hS 106 17 _ (fun i c hc hi p hp => by
  obtain rfl : i = 42 := by omega
  cases hc
  cases hp
  exact ⟨v, rfl⟩)
theorem f106_17 {st : xS} (hS : Sh st) (v : Int32) : fI (uV st 106 17 (.int v)) 106 17 = v := by
  obtain ⟨fs, e, hl, -⟩ := shc_O hS 42 rfl
  unfold fI
  rw [fV_s e 17 (by rw [hl]; decide)]
  rfl
theorem g106_18 {st : xS} (hS : Sh st) : gI st (some 106) 11 18 = some (fI st 106 18) := shg_I hS 42 18 rfl rfl
theorem p106_18 {st : xS} (hS : Sh st) (v : Int32) : pF st (some 106) 11 18 (.int v) = some (uV st 106 18 (.int v)) := shg_P hS 42 18 rfl (by decide) _
theorem s106_18 {st : xS} (hS : Sh st) (v : Int32) : Sh (uV st 106 18 (.int v)) := shw_V hS 106 18 _ (fun i c hc hi p hp => by
  obtain rfl : i = 42 := by omega
  cases hc
  cases hp
  exact ⟨v, rfl⟩)
theorem f106_18 {st : xS} (hS : Sh st) (v : Int32) : fI (uV st 106 18 (.int v)) 106 18 = v := by
  obtain ⟨fs, e, hl, -⟩ := shc_O hS 42 rfl
  unfold fI
  rw [fV_s e 18 (by rw [hl]; decide)]
  rfl
theorem g106_19 {st : xS} (hS : Sh st) : gI st (some 106) 11 19 = some (fI st 106 19) := shg_I hS 42 19 rfl rfl
theorem p106_19 {st : xS} (hS : Sh st) (v : Int32) : pF st (some 106) 11 19 (.int v) = some (uV st 106 19 (.int v)) := shg_P hS 42 19 rfl (by decide) _
theorem s106_19 {st : xS} (hS : Sh st) (v : Int32) : Sh (uV st 106 19 (.int v)) := shw_V hS 106 19 _ (fun i c hc hi p hp => by
  obtain rfl : i = 42 := by omega
  cases hc
  cases hp
  exact ⟨v, rfl⟩)
theorem f106_19 {st : xS} (hS : Sh st) (v : Int32) : fI (uV st 106 19 (.int v)) 106 19 = v := by
  obtain ⟨fs, e, hl, -⟩ := shc_O hS 42 rfl
  unfold fI
  rw [fV_s e 19 (by rw [hl]; decide)]
  rfl
theorem g106_20 {st : xS} (hS : Sh st) : gI st (some 106) 11 20 = some (fI st 106 20) := shg_I hS 42 20 rfl rfl
theorem p106_20 {st : xS} (hS : Sh st) (v : Int32) : pF st (some 106) 11 20 (.int v) = some (uV st 106 20 (.int v)) := shg_P hS 42 20 rfl (by decide) _
theorem s106_20 {st : xS} (hS : Sh st) (v : Int32) : Sh (uV st 106 20 (.int v)) := shw_V hS 106 20 _ (fun i c hc hi p hp => by
  obtain rfl : i = 42 := by omega
  cases hc
  cases hp
  exact ⟨v, rfl⟩)
theorem f106_20 {st : xS} (hS : Sh st) (v : Int32) : fI (uV st 106 20 (.int v)) 106 20 = v := by
  obtain ⟨fs, e, hl, -⟩ := shc_O hS 42 rfl
  unfold fI
  rw [fV_s e 20 (by rw [hl]; decide)]
  rfl
theorem g106_21 {st : xS} (hS : Sh st) : gR st (some 106) 11 21 = some (some 111) := shg_R hS 42 21 rfl rfl
theorem g106_22 {st : xS} (hS : Sh st) : gR st (some 106) 11 22 = some (some 112) := shg_R hS 42 22 rfl rfl
theorem g106_23 {st : xS} (hS : Sh st) : gI st (some 106) 11 23 = some (fI st 106 23) := shg_I hS 42 23 rfl rfl
theorem p106_23 {st : xS} (hS : Sh st) (v : Int32) : pF st (some 106) 11 23 (.int v) = some (uV st 106 23 (.int v)) := shg_P hS 42 23 rfl (by decide) _
theorem s106_23 {st : xS} (hS : Sh st) (v : Int32) : Sh (uV st 106 23 (.int v)) := shw_V hS 106 23 _ (fun i c hc hi p hp => by
  obtain rfl : i = 42 := by omega
  cases hc
  cases hp
  exact ⟨v, rfl⟩)
theorem f106_23 {st : xS} (hS : Sh st) (v : Int32) : fI (uV st 106 23 (.int v)) 106 23 = v := by
  obtain ⟨fs, e, hl, -⟩ := shc_O hS 42 rfl
  unfold fI
  rw [fV_s e 23 (by rw [hl]; decide)]
  rfl
theorem g106_24 {st : xS} (hS : Sh st) : gI st (some 106) 11 24 = some (fI st 106 24) := shg_I hS 42 24 rfl rfl
theorem p106_24 {st : xS} (hS : Sh st) (v : Int32) : pF st (some 106) 11 24 (.int v) = some (uV st 106 24 (.int v)) := shg_P hS 42 24 rfl (by decide) _
theorem s106_24 {st : xS} (hS : Sh st) (v : Int32) : Sh (uV st 106 24 (.int v)) := shw_V hS 106 24 _ (fun i c hc hi p hp => by
  obtain rfl : i = 42 := by omega
  cases hc
  cases hp
  exact ⟨v, rfl⟩)
theorem f106_24 {st : xS} (hS : Sh st) (v : Int32) : fI (uV st 106 24 (.int v)) 106 24 = v := by
  obtain ⟨fs, e, hl, -⟩ := shc_O hS 42 rfl
  unfold fI
  rw [fV_s e 24 (by rw [hl]; decide)]
  rfl
theorem g106_25 {st : xS} (hS : Sh st) : gL st (some 106) 11 25 = some (fL st 106 25) := shg_L hS 42 25 rfl rfl
theorem p106_25 {st : xS} (hS : Sh st) (v : Int64) : pF st (some 106) 11 25 (.long v) = some (uV st 106 25 (.long v)) := shg_P hS 42 25 rfl (by decide) _
theorem s106_25 {st : xS} (hS : Sh st) (v : Int64) : Sh (uV st 106 25 (.long v)) := shw_V hS 106 25 _ (fun i c hc hi p hp => by
  obtain rfl : i = 42 := by omega
  cases hc
  cases hp
  exact ⟨v, rfl⟩)
theorem f106_25 {st : xS} (hS : Sh st) (v : Int64) : fL (uV st 106 25 (.long v)) 106 25 = v := by
  obtain ⟨fs, e, hl, -⟩ := shc_O hS 42 rfl
  unfold fL
  rw [fV_s e 25 (by rw [hl]; decide)]
  rfl
theorem g106_26 {st : xS} (hS : Sh st) : gL st (some 106) 11 26 = some (fL st 106 26) := shg_L hS 42 26 rfl rfl
theorem p106_26 {st : xS} (hS : Sh st) (v : Int64) : pF st (some 106) 11 26 (.long v) = some (uV st 106 26 (.long v)) := shg_P hS 42 26 rfl (by decide) _
theorem s106_26 {st : xS} (hS : Sh st) (v : Int64) : Sh (uV st 106 26 (.long v)) := shw_V hS 106 26 _ (fun i c hc hi p hp => by
  obtain rfl : i = 42 := by omega
  cases hc
  cases hp
  exact ⟨v, rfl⟩)
theorem f106_26 {st : xS} (hS : Sh st) (v : Int64) : fL (uV st 106 26 (.long v)) 106 26 = v := by
  obtain ⟨fs, e, hl, -⟩ := shc_O hS 42 rfl
  unfold fL
  rw [fV_s e 26 (by rw [hl]; decide)]
  rfl
theorem g106_27 {st : xS} (hS : Sh st) : gR st (some 106) 11 27 = some (some 113) := shg_R hS 42 27 rfl rfl
theorem g106_28 {st : xS} (hS : Sh st) : gR st (some 106) 11 28 = some (some 114) := shg_R hS 42 28 rfl rfl
theorem g106_29 {st : xS} (hS : Sh st) : gI st (some 106) 11 29 = some (fI st 106 29) := shg_I hS 42 29 rfl rfl
theorem p106_29 {st : xS} (hS : Sh st) (v : Int32) : pF st (some 106) 11 29 (.int v) = some (uV st 106 29 (.int v)) := shg_P hS 42 29 rfl (by decide) _
theorem s106_29 {st : xS} (hS : Sh st) (v : Int32) : Sh (uV st 106 29 (.int v)) := shw_V hS 106 29 _ (fun i c hc hi p hp => by
  obtain rfl : i = 42 := by omega
  cases hc
  cases hp
  exact ⟨v, rfl⟩)
theorem f106_29 {st : xS} (hS : Sh st) (v : Int32) : fI (uV st 106 29 (.int v)) 106 29 = v := by
  obtain ⟨fs, e, hl, -⟩ := shc_O hS 42 rfl
  unfold fI
  rw [fV_s e 29 (by rw [hl]; decide)]
  rfl
theorem g106_30 {st : xS} (hS : Sh st) : gR st (some 106) 11 30 = some (some 115) := shg_R hS 42 30 rfl rfl
theorem c107 {st : xS} (hS : Sh st) : st.2.2 107 = .inl (0, 10250, .inl (cI st 107)) := shc_A hS 43 rfl
theorem a107 {st : xS} (hS : Sh st) (i : Int32) : aI st (some 107) i = if ix i 10250 = true then some (cI st 107 i.toNatClampNeg) else none := aI_of (c107 hS) i
theorem n107 {st : xS} (hS : Sh st) : aN st (some 107) = some (nI 10250) := aN_of (c107 hS) (by decide)
theorem w107 {st : xS} (hS : Sh st) (i x : Int32) : sS 0 st (some 107) i x = if ix i 10250 = true then some (wA st 107 (upd (cI st 107) i.toNatClampNeg x)) else none := sS_of (c107 hS) i x
theorem k107 {st : xS} (hS : Sh st) (f : Nat → Int32) : cI (wA st 107 f) 107 = f := cI_s (c107 hS) f
theorem c108 {st : xS} (hS : Sh st) : st.2.2 108 = .inl (3, 3, .inl (cI st 108)) := shc_A hS 44 rfl
theorem a108 {st : xS} (hS : Sh st) (i : Int32) : aS 3 st (some 108) i = if ix i 3 = true then some (cI st 108 i.toNatClampNeg) else none := aS_of (c108 hS) i
theorem n108 {st : xS} (hS : Sh st) : aN st (some 108) = some (nI 3) := aN_of (c108 hS) (by decide)
theorem w108 {st : xS} (hS : Sh st) (i x : Int32) : sS 3 st (some 108) i x = if ix i 3 = true then some (wA st 108 (upd (cI st 108) i.toNatClampNeg x)) else none := sS_of (c108 hS) i x
theorem k108 {st : xS} (hS : Sh st) (f : Nat → Int32) : cI (wA st 108 f) 108 = f := cI_s (c108 hS) f
theorem c109 {st : xS} (hS : Sh st) : st.2.2 109 = .inl (0, 242, .inl (cI st 109)) := shc_A hS 45 rfl
theorem a109 {st : xS} (hS : Sh st) (i : Int32) : aI st (some 109) i = if ix i 242 = true then some (cI st 109 i.toNatClampNeg) else none := aI_of (c109 hS) i
theorem n109 {st : xS} (hS : Sh st) : aN st (some 109) = some (nI 242) := aN_of (c109 hS) (by decide)
theorem w109 {st : xS} (hS : Sh st) (i x : Int32) : sS 0 st (some 109) i x = if ix i 242 = true then some (wA st 109 (upd (cI st 109) i.toNatClampNeg x)) else none := sS_of (c109 hS) i x
theorem k109 {st : xS} (hS : Sh st) (f : Nat → Int32) : cI (wA st 109 f) 109 = f := cI_s (c109 hS) f
theorem c110 {st : xS} (hS : Sh st) : st.2.2 110 = .inl (0, 6, .inl (cI st 110)) := shc_A hS 46 rfl
theorem a110 {st : xS} (hS : Sh st) (i : Int32) : aI st (some 110) i = if ix i 6 = true then some (cI st 110 i.toNatClampNeg) else none := aI_of (c110 hS) i
theorem n110 {st : xS} (hS : Sh st) : aN st (some 110) = some (nI 6) := aN_of (c110 hS) (by decide)
theorem w110 {st : xS} (hS : Sh st) (i x : Int32) : sS 0 st (some 110) i x = if ix i 6 = true then some (wA st 110 (upd (cI st 110) i.toNatClampNeg x)) else none := sS_of (c110 hS) i x
theorem k110 {st : xS} (hS : Sh st) (f : Nat → Int32) : cI (wA st 110 f) 110 = f := cI_s (c110 hS) f
theorem c111 {st : xS} (hS : Sh st) : st.2.2 111 = .inl (1, 42, .inr (.inl (cL st 111))) := shc_L hS 47 rfl
theorem a111 {st : xS} (hS : Sh st) (i : Int32) : aL st (some 111) i = if ix i 42 = true then some (cL st 111 i.toNatClampNeg) else none := aL_of (c111 hS) i
theorem w111 {st : xS} (hS : Sh st) (i : Int32) (x : Int64) : sL st (some 111) i x = if ix i 42 = true then some (wL st 111 (vp_updL (cL st 111) i.toNatClampNeg x)) else none := sL_of (c111 hS) i x
theorem k111 {st : xS} (hS : Sh st) (f : Nat → Int64) : cL (wL st 111 f) 111 = f := cL_s (c111 hS) f
theorem c112 {st : xS} (hS : Sh st) : st.2.2 112 = .inl (0, 8, .inl (cI st 112)) := shc_A hS 48 rfl
theorem a112 {st : xS} (hS : Sh st) (i : Int32) : aI st (some 112) i = if ix i 8 = true then some (cI st 112 i.toNatClampNeg) else none := aI_of (c112 hS) i
theorem n112 {st : xS} (hS : Sh st) : aN st (some 112) = some (nI 8) := aN_of (c112 hS) (by decide)
theorem w112 {st : xS} (hS : Sh st) (i x : Int32) : sS 0 st (some 112) i x = if ix i 8 = true then some (wA st 112 (upd (cI st 112) i.toNatClampNeg x)) else none := sS_of (c112 hS) i x
theorem k112 {st : xS} (hS : Sh st) (f : Nat → Int32) : cI (wA st 112 f) 112 = f := cI_s (c112 hS) f
theorem c113 {st : xS} (hS : Sh st) : st.2.2 113 = .inl (1, 61, .inr (.inl (cL st 113))) := shc_L hS 49 rfl
theorem a113 {st : xS} (hS : Sh st) (i : Int32) : aL st (some 113) i = if ix i 61 = true then some (cL st 113 i.toNatClampNeg) else none := aL_of (c113 hS) i
theorem w113 {st : xS} (hS : Sh st) (i : Int32) (x : Int64) : sL st (some 113) i x = if ix i 61 = true then some (wL st 113 (vp_updL (cL st 113) i.toNatClampNeg x)) else none := sL_of (c113 hS) i x
theorem k113 {st : xS} (hS : Sh st) (f : Nat → Int64) : cL (wL st 113 f) 113 = f := cL_s (c113 hS) f
theorem c114 {st : xS} (hS : Sh st) : st.2.2 114 = .inl (0, 80, .inl (cI st 114)) := shc_A hS 50 rfl
theorem a114 {st : xS} (hS : Sh st) (i : Int32) : aI st (some 114) i = if ix i 80 = true then some (cI st 114 i.toNatClampNeg) else none := aI_of (c114 hS) i
theorem n114 {st : xS} (hS : Sh st) : aN st (some 114) = some (nI 80) := aN_of (c114 hS) (by decide)
theorem w114 {st : xS} (hS : Sh st) (i x : Int32) : sS 0 st (some 114) i x = if ix i 80 = true then some (wA st 114 (upd (cI st 114) i.toNatClampNeg x)) else none := sS_of (c114 hS) i x
theorem k114 {st : xS} (hS : Sh st) (f : Nat → Int32) : cI (wA st 114 f) 114 = f := cI_s (c114 hS) f
theorem c115 {st : xS} (hS : Sh st) : st.2.2 115 = .inl (0, 40, .inl (cI st 115)) := shc_A hS 51 rfl
theorem a115 {st : xS} (hS : Sh st) (i : Int32) : aI st (some 115) i = if ix i 40 = true then some (cI st 115 i.toNatClampNeg) else none := aI_of (c115 hS) i
theorem n115 {st : xS} (hS : Sh st) : aN st (some 115) = some (nI 40) := aN_of (c115 hS) (by decide)
theorem w115 {st : xS} (hS : Sh st) (i x : Int32) : sS 0 st (some 115) i x = if ix i 40 = true then some (wA st 115 (upd (cI st 115) i.toNatClampNeg x)) else none := sS_of (c115 hS) i x
theorem k115 {st : xS} (hS : Sh st) (f : Nat → Int32) : cI (wA st 115 f) 115 = f := cI_s (c115 hS) f

/-! WHAT IS TOLD, as data; how class and model hold it -/
def zI (x : Int) : Int32 := Int32.ofInt x
theorem zI_toInt {x : Int} (h1 : -2147483648 ≤ x) (h2 : x < 2147483648) : (zI x).toInt = x := Int32.toInt_ofInt_of_le (by simpa using h1) (by simpa using h2)
theorem nZ (k : Nat) : nI k = zI (k : Int) := rfl
theorem zAdd (a b : Int) : zI a + zI b = zI (a + b) := (Int32.ofInt_add a b).symm
theorem zSub (a b : Int) : zI a - zI b = zI (a - b) := (Int32.ofInt_sub a b).symm
theorem zMul (a b : Int) : zI a * zI b = zI (a * b) := (Int32.ofInt_mul a b).symm
theorem zNeg (a : Int) : -(zI a) = zI (-a) := (Int32.ofInt_neg a).symm
theorem nSubZ (a b : Nat) : nI a - nI b = zI ((a : Int) - (b : Int)) := by rw [nZ, nZ, zSub]
theorem zLt {a b : Int} (h1 : -2147483648 ≤ a) (h2 : a < 2147483648) (h3 : -2147483648 ≤ b) (h4 : b < 2147483648) : (zI a < zI b) = (a < b) := by
  rw [Int32.lt_iff_toInt_lt, zI_toInt h1 h2, zI_toInt h3 h4]
theorem zLe {a b : Int} (h1 : -2147483648 ≤ a) (h2 : a < 2147483648) (h3 : -2147483648 ≤ b) (h4 : b < 2147483648) : (zI a ≤ zI b) = (a ≤ b) := by
  rw [Int32.le_iff_toInt_le, zI_toInt h1 h2, zI_toInt h3 h4]
theorem zEq {a b : Int} (h1 : -2147483648 ≤ a) (h2 : a < 2147483648) (h3 : -2147483648 ≤ b) (h4 : b < 2147483648) : (zI a = zI b) = (a = b) := by
  rw [← Int32.toInt_inj, zI_toInt h1 h2, zI_toInt h3 h4]
/-- an int is one of the first N numbers, or none of them -/
theorem nCut (x : Int32) (N : Nat) : (∃ j, j < N ∧ x = nI j) ∨ ∀ j, j < N → ¬ x = nI j := by
  rcases Classical.em (∃ j, j < N ∧ x = nI j) with h | h
  · exact Or.inl h
  · exact Or.inr fun j h1 h2 => h ⟨j, h1, h2⟩
theorem nOut {x : Int32} {N : Nat} (hN : N < 2147483648) (h : ∀ j, j < N → ¬ x = nI j) : x < 0 ∨ nI N ≤ x := by
  rcases pk_ix x (n := N) hN with h1 | h1 | ⟨j, h1, h2⟩
  · exact Or.inl h1
  · exact Or.inr h1
  · exact absurd h2 (h j h1)
theorem in_t {j N : Nat} (h : j < N) (hN : N < 2147483648) : 0 ≤ nI j ∧ nI j ≤ nI N - 1 := by
  refine ⟨nI_pos' (by omega), ?_⟩
  obtain ⟨M, rfl⟩ : ∃ M, N = M + 1 := ⟨N - 1, by omega⟩
  rw [nI_pred]
  exact nI_le (by omega) (by omega)
theorem in_f {x : Int32} {N : Nat} (hN : N < 2147483648) (h : ∀ j, j < N → ¬ x = nI j) : ¬ (0 ≤ x ∧ x ≤ nI N - 1) := by
  rintro ⟨h1, h2⟩
  rcases nOut hN h with h3 | h3
  · exact absurd h3 (Int32.not_lt.mpr h1)
  · have e : (nI N - 1).toInt = (N : Int) - 1 := by
      have : nI N - 1 = zI ((N : Int) - 1) := by
        show nI N - nI 1 = _
        rw [nSubZ]
        rfl
      rw [this, zI_toInt (by omega) (by omega)]
    rw [Int32.le_iff_toInt_le, e] at h2
    rw [Int32.le_iff_toInt_le, nI_toInt (by omega)] at h3
    omega
theorem in_f2 {x : Int32} {N : Nat} (hN : N + 1 < 2147483648) (h : ∀ j, j < N + 1 → ¬ x = nI j) : ¬ (0 ≤ x ∧ x ≤ nI N) := by
  have := in_f hN h
  rw [nI_pred] at this
  exact this
theorem in_t2 {j N : Nat} (h : j ≤ N) (hN : N < 2147483648) : 0 ≤ nI j ∧ nI j ≤ nI N := ⟨nI_pos' (by omega), nI_le h (by omega)⟩
/-- what a league, a law, a plan tell -/
abbrev LgD : Type := Nat × Nat × (Nat → Nat) × (Nat → Nat)
def LgD.g (D : LgD) : Nat := D.1
def LgD.s (D : LgD) : Nat := D.2.1
def LgD.r (D : LgD) : Nat → Nat := D.2.2.1
def LgD.d (D : LgD) : Nat → Nat := D.2.2.2
abbrev LwD : Type := Nat → Nat
abbrev PlD : Type := Nat × (Nat → Nat → Nat) × (Nat → Option Nat) × Nat × Nat
def PlD.n (D : PlD) : Nat := D.1
def PlD.c (D : PlD) : Nat → Nat → Nat := D.2.1
def PlD.e (D : PlD) : Nat → Option Nat := D.2.2.1
def PlD.ts (D : PlD) : Nat := D.2.2.2.1
def PlD.tg (D : PlD) : Nat := D.2.2.2.2
def eI : Option Nat → Int32
  | none => -1
  | some x => nI x
/-- all that is told -/
abbrev Gh : Type := (Nat → Nat) × Nat × Nat × Int32 × (Nat → Nat) × (Nat → LgD) × (Nat → LwD) × (Nat → PlD) × (Nat → Nat → Nat) × (Nat → Nat) × (Nat → Nat)
def Gh.cn (G : Gh) : Nat → Nat := G.1
def Gh.tl (G : Gh) : Nat := G.2.1
def Gh.fl (G : Gh) : Nat := G.2.2.1
def Gh.pl (G : Gh) : Int32 := G.2.2.2.1
def Gh.tp (G : Gh) : Nat → Nat := G.2.2.2.2.1
def Gh.L (G : Gh) : Nat → LgD := G.2.2.2.2.2.1
def Gh.W (G : Gh) : Nat → LwD := G.2.2.2.2.2.2.1
def Gh.P (G : Gh) : Nat → PlD := G.2.2.2.2.2.2.2.1
def Gh.nt (G : Gh) : Nat → Nat → Nat := G.2.2.2.2.2.2.2.2.1
def Gh.fm (G : Gh) : Nat → Nat := G.2.2.2.2.2.2.2.2.2.1
def Gh.fg (G : Gh) : Nat → Nat := G.2.2.2.2.2.2.2.2.2.2
/-- what can be told -/
def LgI (D : LgD) : Prop := D.g ≤ 10 ∧ D.s ≤ 8 ∧ (∀ i, D.r i ≤ 999) ∧ (∀ i, D.d i ≤ 9999) ∧ (∀ a, a < 10 → D.d (10 * a + a) = 0) ∧ (∀ i, i < 8 → D.r (50 + i) ≤ 50) ∧ (∀ i, i < 8 → D.r (40 + i) < 10) ∧ (∀ i, i < D.s → D.r (40 + i) < D.g) ∧ ∀ i, i < 10 → D.r (20 + i) ≤ 99
def LwI (D : LwD) : Prop := D 0 ≤ 100 ∧ (∀ p, p < 6 → D (10 + p) ≤ 50) ∧ (∀ p, p < 6 → D (20 + p) ≤ 9999) ∧ ∀ p, 1 ≤ p → p < 6 → 1 ≤ D (20 + p)
def PlI (D : PlD) : Prop := D.n ≤ 40 ∧ (∀ g, g < D.n → D.c g 0 < 8 ∧ D.c g 1 < 8 ∧ D.c g 0 ≠ D.c g 1 ∧ D.c g 2 ≤ 999 ∧ D.c g 3 ≤ 1 ∧ D.c g 4 ≤ 1 ∧ ∀ x, D.e g = some x → x < 10) ∧
  (∀ S, D.ts ≤ S ↔ ∀ g, g < D.n → D.c g 0 < S ∧ D.c g 1 < S) ∧ (∀ S, D.tg ≤ S ↔ ∀ g, g < D.n → ∀ x, D.e g = some x → x < S) ∧ D.ts ≤ 100 ∧ D.tg ≤ 100
def NtI (f : Nat → Nat) : Prop := f 0 < 8 ∧ f 1 < 8 ∧ f 0 ≠ f 1 ∧ f 2 < 60 ∧ f 3 ≤ 9 ∧ f 4 ≤ 9 ∧ f 5 ≤ 9 ∧ f 6 ≤ 9 ∧ f 7 ≤ 19 ∧ f 8 ≤ 999 ∧ f 9 < 8
def GhI (G : Gh) : Prop := G.cn 0 ≤ 3 ∧ G.cn 1 ≤ 3 ∧ G.cn 2 ≤ 3 ∧ G.cn 3 ≤ 80 ∧ G.tl ≤ 500 ∧ G.fl ≤ 3 ∧ (∀ i, G.tp i < 256) ∧ (∀ k, k < G.cn 0 → LgI (G.L k)) ∧ (∀ k, k < G.cn 1 → LwI (G.W k)) ∧ (∀ k, k < G.cn 2 → PlI (G.P k)) ∧ (∀ k, k < G.cn 3 → NtI (G.nt k)) ∧
  ∀ i, i < 16 → G.fm i ≤ 30 ∧ G.fg i ≤ G.fm i
/-- how the model holds it -/
def LgM (B : Nat → Int32) (b : Nat) (D : LgD) : Prop := B b = nI D.g ∧ B (b + 1) = nI D.s ∧ (∀ i, i < 10 → B (b + 2 + i) = nI (D.r (10 + i))) ∧ (∀ i, i < 10 → B (b + 12 + i) = nI (D.r (20 + i))) ∧ (∀ i, i < 10 → B (b + 22 + i) = nI (D.r (30 + i))) ∧
  (∀ i, i < 8 → B (b + 32 + i) = nI (D.r (40 + i))) ∧ (∀ i, i < 8 → B (b + 40 + i) = nI (D.r (50 + i))) ∧ ∀ x y, x < 10 → y < 10 → B (b + 50 + 10 * x + y) = nI (D.d (10 * x + y))
def LwM (B : Nat → Int32) (b : Nat) (D : LwD) : Prop := B b = nI (D 0) ∧ (∀ p, p < 6 → B (b + 1 + p) = nI (D (10 + p))) ∧ ∀ p, p < 6 → B (b + 7 + p) = nI (D (20 + p))
def PlM (B : Nat → Int32) (b : Nat) (D : PlD) : Prop := B b = nI D.n ∧ (∀ g w, g < D.n → w < 5 → B (b + 1 + 6 * g + w) = nI (D.c g w)) ∧ ∀ g, g < D.n → B (b + 1 + 6 * g + 5) = eI (D.e g)
def ModB (B : Nat → Int32) (G : Gh) : Prop := (∀ w, w < 4 → B w = nI (G.cn w)) ∧ B 4 = nI G.tl ∧ B 5 = nI G.fl ∧ B 6 = G.pl ∧ (∀ i, i < 500 → B (10 + i) = nI (G.tp i)) ∧ (∀ k, k < G.cn 0 → LgM B (510 + 150 * k) (G.L k)) ∧ (∀ k, k < G.cn 1 → LwM B (960 + 14 * k) (G.W k)) ∧
  (∀ k, k < G.cn 2 → PlM B (1002 + 242 * k) (G.P k)) ∧ (∀ k w, k < G.cn 3 → w < 10 → B (1730 + 10 * k + w) = nI (G.nt k w)) ∧ ∀ j, j < 8 → B (2530 + 4 * j) = nI (G.fm (2 * j)) ∧ B (2530 + 4 * j + 1) = nI (G.fg (2 * j)) ∧ B (2530 + 4 * j + 2) = nI (G.fm (2 * j + 1)) ∧ B (2530 + 4 * j + 3) = nI (G.fg (2 * j + 1))
/-- how the class holds it -/
def dyn (st : xS) (a : Nat) : Prop := 116 ≤ a ∧ a < 64 + st.1
def LgR (st : xS) (a : Nat) (D : LgD) : Prop := ∃ r q : Nat, ∃ f h : Nat → Int32, st.2.2 a = .inr (4, [.ref r, .ref q, .int (nI D.g), .int (nI D.s)]) ∧ st.2.2 r = .inl (0, 60, .inl f) ∧ st.2.2 q = .inl (0, 100, .inl h) ∧ (∀ i, i < 60 → f i = nI (D.r i)) ∧ (∀ i, i < 100 → h i = nI (D.d i)) ∧ dyn st a ∧ dyn st r ∧ dyn st q
def LwR (st : xS) (a : Nat) (D : LwD) : Prop := ∃ r : Nat, ∃ f : Nat → Int32, st.2.2 a = .inr (3, [.ref r]) ∧ st.2.2 r = .inl (0, 26, .inl f) ∧ (∀ i, i = 0 ∨ 10 ≤ i ∧ i < 16 ∨ 20 ≤ i ∧ i < 26 → f i = nI (D i)) ∧ dyn st a ∧ dyn st r
def PlR (st : xS) (a : Nat) (D : PlD) : Prop := ∃ r : Nat, ∃ f : Nat → Int32, ∃ x1 x2 x3 x4 : Int32, st.2.2 a = .inr (6, [.ref r, .int (nI D.n), .int (zI (D.ts - 1)), .int (zI (D.tg - 1)), .int x1, .int x2, .int x3, .int x4]) ∧ st.2.2 r = .inl (0, 240, .inl f) ∧
  (∀ g w, g < D.n → w < 5 → f (6 * g + w) = nI (D.c g w)) ∧ (∀ g, g < D.n → f (6 * g + 5) = eI (D.e g)) ∧ dyn st a ∧ dyn st r
def TolR (st : xS) (t : Nat) (G : Gh) : Prop := (∀ k, k < 3 → (k < G.cn 0 → ∃ a, cR st (t + 1) k = some a ∧ LgR st a (G.L k)) ∧ (¬ k < G.cn 0 → cR st (t + 1) k = none)) ∧ (∀ k, k < 3 → (k < G.cn 1 → ∃ a, cR st (t + 2) k = some a ∧ LwR st a (G.W k)) ∧ (¬ k < G.cn 1 → cR st (t + 2) k = none)) ∧
  (∀ k, k < 3 → (k < G.cn 2 → ∃ a, cR st (t + 3) k = some a ∧ PlR st a (G.P k)) ∧ (¬ k < G.cn 2 → cR st (t + 3) k = none)) ∧ (∀ w, w < 4 → cI st (t + 4) w = nI (G.cn w)) ∧ (∀ k w, k < G.cn 3 → w < 10 → cI st (t + 5) (10 * k + w) = nI (G.nt k w)) ∧
  (∀ i, i < 16 → cI st (t + 6) i = nI (G.fm i)) ∧ (∀ i, i < 16 → cI st (t + 7) i = nI (G.fg i)) ∧ (∀ i, i < 500 → cI st (t + 8) i &&& 255 = nI (G.tp i) ∧ fits .byte (.int (cI st (t + 8) i)) = true) ∧ fI st t 8 = nI G.tl ∧ fI st t 9 = nI G.fl ∧ fI st t 10 = G.pl
/-- the cells of an image, made when it was first kept -/
def TolS (st : xS) (t : Nat) : Prop := (∃ x y z : Int32, st.2.2 t = .inr (9, [.ref (t + 1), .ref (t + 2), .ref (t + 3), .ref (t + 4), .ref (t + 5), .ref (t + 6), .ref (t + 7), .ref (t + 8), .int x, .int y, .int z])) ∧ isR 4 3 (st.2.2 (t + 1)) ∧ isR 5 3 (st.2.2 (t + 2)) ∧ isR 6 3 (st.2.2 (t + 3)) ∧
  isA 0 4 (st.2.2 (t + 4)) ∧ isA 0 800 (st.2.2 (t + 5)) ∧ isA 0 16 (st.2.2 (t + 6)) ∧ isA 0 16 (st.2.2 (t + 7)) ∧ isA 2 500 (st.2.2 (t + 8)) ∧ 116 ≤ t ∧ t + 8 < 64 + st.1
/-- an image is apart from what a league, a law, a plan are: for arrays by their lengths, for objects by their classes -/
abbrev Im : Type := Nat → Option Gh
def RelC (st : xS) (G : Gh) (I : Im) : Prop := TolR st 65 G ∧ ∀ k, k < 3 → (I k = none → cR st 74 k = none) ∧ ∀ g, I k = some g → ∃ t, cR st 74 k = some t ∧ TolS st t ∧ TolR st t g
def RelM (st : xS) (G : Gh) (I : Im) : Prop := ModB (cI st 107) G ∧ fI st 106 15 = -1 ∧ ∀ k, k < 3 → (I k = none → cI st 108 k = 0) ∧ ∀ g, I k = some g → cI st 108 k = 1 ∧ ModB (fun i => cI st 107 (2562 * (k + 1) + i)) g
def Rel (st : xS) (G : Gh) (I : Im) : Prop := Sh st ∧ GhI G ∧ (∀ k g, I k = some g → GhI g) ∧ (∀ j k, j < 3 → k < 3 → j ≠ k → cR st 74 j = cR st 74 k → cR st 74 j = none) ∧ RelC st G I ∧ RelM st G I

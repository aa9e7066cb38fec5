/-! small rows for the printed proofs -/
theorem xrf_cat (o : Option Nat) : (va_rf o).category = 1 := by cases o <;> rfl
theorem lvA_R (i : Nat) (o : Option Nat) (t : List Value) : lv_args i (va_rf o :: t) = (i, va_rf o) :: lv_args (i + 1) t := by
  show (i, va_rf o) :: lv_args (if (va_rf o).category = 2 then i + 2 else i + 1) t = _
  rw [xrf_cat]
  rfl
theorem lgL_R (o : Option Nat) (t : List Value) : (lg_sl (va_rf o :: t)).length = (lg_sl t).length + 1 := by
  simp [lg_sl, xrf_cat]
theorem lgL_I (v : Int32) (t : List Value) : (lg_sl (.int v :: t)).length = (lg_sl t).length + 1 := by
  simp [lg_sl, Value.category]
theorem lgL_L (v : Int64) (t : List Value) : (lg_sl (.long v :: t)).length = (lg_sl t).length + 2 := by
  simp [lg_sl, Value.category]
theorem lgL_0 : (lg_sl []).length = 0 := rfl
theorem xk1 (j i : Nat) (o : Option Nat) : (!(j == i) && !(j + 1 == i && (va_rf o).category == 2)) = !(j == i) := by
  rw [xrf_cat]
  simp
theorem xk2 (j i : Nat) (o : Option Nat) : (!(j == i) && (!(j == i + 1) && !(j + 1 == i && (va_rf o).category == 2))) = (!(j == i) && !(j == i + 1)) := by
  rw [xrf_cat]
  simp
theorem xfY {p : Nat × Value → Bool} {q : Nat × Value} {t t' : List (Nat × Value)} (hq : p q = true) (ht : t.filter p = t') : (q :: t).filter p = q :: t' := by rw [List.filter_cons_of_pos hq, ht]
theorem xfN {p : Nat × Value → Bool} {q : Nat × Value} {t t' : List (Nat × Value)} (hq : p q = false) (ht : t.filter p = t') : (q :: t).filter p = t' := by rw [List.filter_cons_of_neg (by simp [hq]), ht]
theorem xb {α β : Type} {o : Option α} {f : α → Option β} {b : β} (h : o.bind f = some b) : ∃ a, o = some a ∧ f a = some b := Option.bind_eq_some_iff.mp h
section XR8
variable {y : xM} {pc : Nat} {lv lv' : List (Nat × Value)} {stk stk0 stk2 : List Value} {st st1 : xS} {r : Option Value} {st' : xS} {d : Nat} {o : Option Nat}
theorem x_eqI {a b : Int32} (h : a = b) (kk : Rn y pc lv (.int b :: stk) st r st' d) : Rn y pc lv (.int a :: stk) st r st' d := h ▸ kk
theorem x_eqL {a b : Int64} (h : a = b) (kk : Rn y pc lv (.long b :: stk) st r st' d) : Rn y pc lv (.long a :: stk) st r st' d := h ▸ kk
theorem x_eqR {a b : Option Nat} (h : a = b) (kk : Rn y pc lv (va_rf b :: stk) st r st' d) : Rn y pc lv (va_rf a :: stk) st r st' d := h ▸ kk
theorem z_callS {yc : xM} {as : List Value} {r1 : Option Value} {d' index : Nat} (hd : decode y.2.1 pc = .ok (.invokestatic index, 3)) (hL : xlkS y.1.cls index yc as.length) (hdd : d' + 1 ≤ d) (hs : (stk.map fun v => v.category).sum ≤ 8) (he : stk0 = as.reverse ++ stk) (he2 : r1.toList ++ stk = stk2)
    (hc : Ct yc as st r1 st1 d') (kk : Rn y (pc + 3) lv stk2 st1 r st' d) : Rn y pc lv stk0 st r st' d := x_callS hd hL hdd hs he hc (he2 ▸ kk)
theorem z_callV {yc : xM} {as : List Value} {r1 : Option Value} {d' index ci q : Nat} (hd : decode y.2.1 pc = .ok (.invokevirtual index, 3)) (hL : xlkV y.1.cls index yc as.length ci) (ho : isO st o ci = some q) (hdd : d' + 1 ≤ d) (hs : (stk.map fun v => v.category).sum ≤ 8) (he : stk0 = as.reverse ++ va_rf o :: stk) (he2 : r1.toList ++ stk = stk2)
    (hc : Ct yc (va_rf o :: as) st r1 st1 d') (kk : Rn y (pc + 3) lv stk2 st1 r st' d) : Rn y pc lv stk0 st r st' d := x_callV hd hL ho hdd hs he hc (he2 ▸ kk)
theorem z_callU {yc : xM} {x : MethodName} {as : List Value} {r1 : Option Value} {d' index ci : Nat} (hd : decode y.2.1 pc = .ok (.invokevirtual index, 3)) (hL : xlkU y.1.cls index x yc as.length ci) (ho : ckO st o = some ci) (hdd : d' + 1 ≤ d) (hs : (stk.map fun v => v.category).sum ≤ 8) (he : stk0 = as.reverse ++ va_rf o :: stk) (he2 : r1.toList ++ stk = stk2)
    (hc : Ct yc (va_rf o :: as) st r1 st1 d') (kk : Rn y (pc + 3) lv stk2 st1 r st' d) : Rn y pc lv stk0 st r st' d := x_callU hd hL ho hdd hs he hc (he2 ▸ kk)
theorem x_new {ci index N : Nat} {fs : List Value} {C : String} {T : u_T} (hd : decode y.2.1 pc = .ok (.new index, 3)) (hC : xcls ci C T N) (ty : Nat → FieldType) (hty : ∀ k, k < N → parseFieldDescriptor (T k).2.2.1 = some (ty k)) (hw : Cond.classLink y.1.cls index C ∈ xT) (hi : Cond.instantiable C N ∈ xT) (hini : Cond.initialized C ∈ xT) (hfs : ∀ j, j < N → fs[j]? = some (defaultValue (ty j))) (h : xnew st N (.inr (ci, fs)) = st1) (ho : some (64 + st.1) = o)
    (kk : Rn y (pc + 3) lv (va_rf o :: stk) st1 r st' d) : Rn y pc lv stk st r st' d := by
  subst h; subst ho
  exact r_new hd hC ty hty hw hi hini hfs kk
theorem x_newarray {t N : Nat} {n : Int32} {atype : ArrayType} (hd : decode y.2.1 pc = .ok (.newarray atype, 2)) (ht : t < 4) (hty : newarray.typeOf atype = xty t) (hw : Cond.arrayClass (xty t) ∈ xT) (hn : ¬ n < 0) (hN : n.toNatClampNeg = N) (hb2 : N ≤ 20000) (h : xnew st N (.inl (t, N, xzero (xty t))) = st1) (ho : some (64 + st.1) = o)
    (kk : Rn y (pc + 2) lv (va_rf o :: stk) st1 r st' d) : Rn y pc lv (.int n :: stk) st r st' d := by
  subst h; subst ho
  exact r_newarray hd ht hty hw hn hN hb2 kk
theorem x_anewarray {t N index : Nat} {n : Int32} {C : String} (hd : decode y.2.1 pc = .ok (.anewarray index, 3)) (ht : t < 9) (hty : xty t = .object C) (hw : Cond.classLink y.1.cls index C ∈ xT) (hov : Cond.arrayOver (.object C) ∈ xTN) (hn : ¬ n < 0) (hN : n.toNatClampNeg = N) (hb2 : N ≤ 20000) (h : xnew st N (.inl (t, N, .inr (.inr (.inr (.inr fun _ => none))))) = st1) (ho : some (64 + st.1) = o)
    (kk : Rn y (pc + 3) lv (va_rf o :: stk) st1 r st' d) : Rn y pc lv (.int n :: stk) st r st' d := by
  subst h; subst ho
  exact r_anewarray hd ht hty hw hov hn hN hb2 kk
theorem x_objInit {a idx : Nat} (hd : decode y.2.1 pc = .ok (.invokespecial idx, 3)) (hw : Cond.methodLink y.1.cls idx Lib.objectInit ∈ xT) (hi : Cond.instanceMethod Lib.objectInit ∈ xT) (hc : Cond.code Lib.objectInit ⟨#[0xb1]⟩ 1 none ∈ xT) (hd1 : 1 ≤ d) (hs : (stk.map fun v => v.category).sum ≤ 8) (hob : o = some a)
    (kk : Rn y (pc + 3) lv stk st r st' d) : Rn y pc lv (va_rf o :: stk) st r st' d := by
  subst hob
  exact r_objInit hd hw hi hc hd1 hs kk
end XR8
theorem rz_inv2 {v x : Int32} (h : rz v = some x) : v = x ∧ (x = 0 ∨ x = 1) := by
  obtain ⟨rfl, h2⟩ := rz_inv h
  exact ⟨rfl, h2⟩
def imax (a b : Int32) : Int32 := if a < b then b else a
def imin (a b : Int32) : Int32 := if b < a then b else a
def labs (a : Int64) : Int64 := if 0 < a then a else -a
theorem xs0 : (([] : List Value).map fun v => v.category).sum ≤ 0 := Nat.le_refl _
theorem xsI {l : List Value} {n : Nat} {v : Int32} (h : (l.map fun v => v.category).sum ≤ n) : ((Value.int v :: l).map fun v => v.category).sum ≤ n + 1 := by
  have e : (Value.int v).category = 1 := rfl
  simp only [List.map_cons, List.sum_cons, e]
  omega
theorem xsJ {l : List Value} {n : Nat} {v : Int64} (h : (l.map fun v => v.category).sum ≤ n) : ((Value.long v :: l).map fun v => v.category).sum ≤ n + 2 := by
  have e : (Value.long v).category = 2 := rfl
  simp only [List.map_cons, List.sum_cons, e]
  omega
theorem xsA {l : List Value} {n : Nat} {v : Option Nat} (h : (l.map fun v => v.category).sum ≤ n) : ((va_rf v :: l).map fun v => v.category).sum ≤ n + 1 := by
  simp only [List.map_cons, List.sum_cons, xrf_cat]
  omega
theorem xswD {x : Int32} {lo hi : Int} (h : ∀ k : Int, lo ≤ k → k ≤ hi → ¬ x = Int32.ofInt k) : x.toInt < lo ∨ hi < x.toInt := by
  rcases Int.lt_or_le x.toInt lo with h1 | h1
  · exact Or.inl h1
  · rcases Int.lt_or_le hi x.toInt with h2 | h2
    · exact Or.inr h2
    · exact absurd (Int32.ofInt_toInt x).symm (h x.toInt h1 h2)
theorem xlkD2 {x : Int32} {a b : Int} {oa ob df : Int} (h1 : ¬ x = Int32.ofInt a) (h2 : ¬ x = Int32.ofInt b) : Op.lookupswitch.offset [(a, oa), (b, ob)] df x.toInt = df := by
  have e1 : ¬ a = x.toInt := fun e => h1 (by rw [e, Int32.ofInt_toInt])
  have e2 : ¬ b = x.toInt := fun e => h2 (by rw [e, Int32.ofInt_toInt])
  have e3 : ¬ x.toInt = a := fun e => e1 e.symm
  have e4 : ¬ x.toInt = b := fun e => e2 e.symm
  simp [Op.lookupswitch.offset, e1, e2, e3, e4]
/-- the texts: length() and charAt -/
def sLen (o : Option Nat) : Option Int32 := o.bind fun a => if a < 17 then some (nI (xlen.getD a 0)) else none
def sCh (o : Option Nat) (i : Int32) : Option Int32 := o.bind fun a => if a < 17 ∧ ix i (xlen.getD a 0) = true then some ((xbyt.getD a []).getD i.toNatClampNeg 0) else none
section XR9
variable {y : xM} {pc : Nat} {lv lv' : List (Nat × Value)} {stk stk0 stk2 : List Value} {st st1 : xS} {r : Option Value} {st' : xS} {d : Nat} {o : Option Nat}
theorem x_iinc {i : Nat} {n : Int} {c x v : Int32} (hd : decode y.2.1 pc = .ok (.iinc i n, 3)) (hv : lv.lookup i = some (.int x)) (hc : Int32.ofInt n = c) (hw : x + c = v) (hn : i < y.2.2.1) (hl' : (i, Value.int v) :: lv.filter (fun q => !(q.1 == i) && !(q.1 + 1 == i && q.2.category == 2)) = lv') (kk : Rn y (pc + 3) lv' stk st r st' d) : Rn y pc lv stk st r st' d :=
  r_iinc hd hv (by rw [hc]; exact hw) hn hl' kk
theorem x_ldcS {i index : Nat} {tx : String} (hd : decode y.2.1 pc = .ok (.ldc index, 2)) (hi : xtx[i]? = some (index, tx)) (hy : y.1.cls = "HomeGround$Reader") (kk : Rn y (pc + 2) lv (va_rf (some i) :: stk) st r st' d) : Rn y pc lv stk st r st' d :=
  kk.lift fun G p l e R s m args below meth c H locs cells slots Q hx hb hown hts hK hW kk ls hl => va_ldcS (own := "HomeGround$Reader") (tx := tx) hx hb (by rw [← hy]; exact hown) (hK.2.2.2.1 i _ hi) hd (kk ls hl)
end XR9

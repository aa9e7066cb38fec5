/-! THE ROWS of what is made: objects, arrays; arraycopy; Object's constructor; Math -/
section XR5
variable {y : xM} {pc pc2 : Nat} {lv lv2 : List (Nat × Value)} {stk stk2 : List Value} {st st2 : xS} {r : Option Value} {st' : xS} {d : Nat}
/-- a pure state with one more cell, of so many slots -/
def xnew (st : xS) (sl : Nat) (c : xC) : xS := (st.1 + 1, st.2.1 + sl, fun q => if q = 64 + st.1 then c else st.2.2 q)
theorem xW.new {st : xS} {G : xG} {H H1 : Heap} {sl : Nat} {c : xC} (hK : ∀ i : Nat, G.ad (64 + i) = G.H0.size + i) (hW : xW G st H) (hz : H1.size = H.size + 1) (ho : ∀ q : Nat, q < H.size → H1[q]? = H[q]?) (hc : va_at G.D xcl (H.size, xE G c) H1) : xW G (xnew st sl c) H1 := by
  obtain ⟨w1, w2, w3, w4⟩ := hW
  have hn : G.ad (64 + st.1) = H.size := by rw [hK, w2]
  refine ⟨fun q hq => ?_, by rw [hz, w2]; rfl, fun j hj => ?_, fun a ha => ?_⟩
  · rw [ho q (by omega)]
    exact w1 q hq
  · by_cases hji : j = st.1
    · subst hji
      simp only [xnew, if_pos]
      rw [hn]
      exact hc
    · have h2 : ¬ (64 + j = 64 + st.1) := by omega
      have hj2 : j < st.1 := by
        have : j < st.1 + 1 := hj
        omega
      simp only [xnew, if_neg h2]
      exact (w3 j hj2).kept (ho _ (by show G.ad (64 + j) < _; rw [hK]; omega))
  · have hb : ¬ (64 ≤ a ∧ a < 64 + (st.1 + 1)) := ha
    have h2 : ¬ a = 64 + st.1 := by omega
    have h3 : ¬ 40 = 64 + st.1 := by omega
    simp only [xnew, if_neg h2, if_neg h3]
    exact w4 a (by omega)
theorem Rn.liftN {sl : Nat} {c0 : xC} (k : Rn y pc2 lv stk2 (xnew st sl c0) r st' d) (h : ∀ (G : xG) (p : Program) (l : Launch) (e : Env) (R : Room) (s : State) (m : MethodId) (args : Array Value) (below : List Frame) (meth : Method) (c : Code) (H : Heap) (locs : List Loc) (cells slots : Nat) (Q : State → Prop),
      xCtx y d G p R s m args meth c → cells + 1 ≤ R.cells → slots + sl ≤ R.slots → xW G st H →
      ∀ ls : Array Slot, lv_has ls y.2.2.1 (xlv G lv) → (∀ (H1 : Heap), xW G (xnew st sl c0) H1 → W p l e R s m args below meth c H1 locs (cells + 1) (slots + sl) Q (F0 m pc2 ls (xst G stk2))) →
      W p l e R s m args below meth c H locs cells slots Q (F0 m pc ls (xst G stk))) : Rn y pc lv stk st r st' d := by
  have k1 : st.1 + 1 ≤ st'.1 := k.1
  have k2 : st.2.1 + sl ≤ st'.2.1 := k.2.1
  refine ⟨by omega, by omega, fun G p l e R s m args below meth c H locs cells slots Q C g1 g2 hW hL hE ls hl => h G p l e R s m args below meth c H locs cells slots Q C (by omega) (by omega) hW ls hl (fun H1 hW1 => ?_)⟩
  exact k.2.2 G p l e R s m args below meth c H1 locs (cells + 1) (slots + sl) Q C (by show cells + 1 + st'.1 ≤ R.cells + (st.1 + 1); omega) (by show slots + sl + st'.2.1 ≤ R.slots + (st.2.1 + sl); omega) hW1 hL hE ls hl
theorem xcv_def (ad : Nat → Nat) (t : FieldType) : xcv ad (defaultValue t) = defaultValue t := by cases t <;> rfl
theorem r_new {ci index N : Nat} {C : String} {T : u_T} {fs : List Value} (hd : decode y.2.1 pc = .ok (.new index, 3)) (hC : xcls ci C T N) (ty : Nat → FieldType) (hty : ∀ k, k < N → parseFieldDescriptor (T k).2.2.1 = some (ty k)) (hw : Cond.classLink y.1.cls index C ∈ xT) (hi : Cond.instantiable C N ∈ xT) (hini : Cond.initialized C ∈ xT) (hfs : ∀ j, j < N → fs[j]? = some (defaultValue (ty j)))
    (kk : Rn y (pc + 3) lv (.ref (64 + st.1) :: stk) (xnew st N (.inr (ci, fs))) r st' d) : Rn y pc lv stk st r st' d := by
  refine Rn.liftN kk fun G p l e R s m args below meth c H locs cells slots Q X hc1 hc2 hW ls hl kk => ?_
  obtain ⟨⟨hx, hb, hml, hown, hts⟩, -, hK, -, -⟩ := X
  have hKn := hK.1.1 ci _ hC.1
  refine W.newcK hx hb hown (hts _ hw) (hts _ hi) (hts _ hini) rfl hd hc1 hc2 hKn.2.1 rfl fun H1 kC hkC e1 z1 o1 => ?_
  have e2 : Value.ref H.size = xcv G.ad (.ref (64 + st.1)) := by
    show _ = Value.ref (G.ad (64 + st.1))
    rw [hK.2.1, hW.2.1]
  rw [e2]
  refine kk H1 (hW.new hK.2.1 z1 o1 ⟨_, hC.1, (u_born ty hts hC.2.1 hKn hkC e1 hty).to (fun j hj => ?_)⟩)
  show _ = vp_V (fs.map (xcv G.ad)) j
  have h1 := xfs_get G (hfs j hj)
  rw [xcv_def] at h1
  simp only [vp_V]
  rw [List.getD_eq_getElem?_getD, h1]
  rfl
theorem xdA {G : xG} {s : State} {t : Nat} {ty : FieldType} {cA : ClassId} (hK : xK G s) (ht : t < 9) (hty : xty t = ty) (hno : ∀ C, ty ≠ .object C) (h : s.vm.findClass ("[" ++ ty.toString) = some cA) : cA = G.dA t := by
  have h1 := (hK.1.2 t _ (xtys_at G ht)).2
  rw [hty] at h1
  have h2 : s.vm.findClass ("[" ++ ty.toString) = some (G.dA t) := by
    cases ty <;> first | exact h1 | exact absurd rfl (hno _)
  exact Option.some.inj (h.symm.trans h2)
/-- the content of a new array of numbers -/
def xzero : FieldType → ((Nat → Int32) ⊕ (Nat → Int64) ⊕ (Nat → UInt32) ⊕ (Nat → UInt64) ⊕ (Nat → Option Nat))
  | .long => .inr (.inl fun _ => 0)
  | _ => .inl fun _ => 0
theorem r_newarray {t N : Nat} {n : Int32} {atype : ArrayType} (hd : decode y.2.1 pc = .ok (.newarray atype, 2)) (ht : t < 4) (hty : newarray.typeOf atype = xty t) (hw : Cond.arrayClass (xty t) ∈ xT) (hn : ¬ n < 0) (hN : n.toNatClampNeg = N) (hb2 : N ≤ 20000)
    (kk : Rn y (pc + 2) lv (.ref (64 + st.1) :: stk) (xnew st N (.inl (t, N, xzero (xty t)))) r st' d) : Rn y pc lv (.int n :: stk) st r st' d := by
  refine Rn.liftN kk fun G p l e R s m args below meth c H locs cells slots Q X hc1 hc2 hW ls hl kk => ?_
  obtain ⟨⟨hx, hb, hml, hown, hts⟩, -, hK, -, -⟩ := X
  have hcb : ∀ ty : FieldType, componentBytes ty ≤ 8 := by intro ty; cases ty <;> exact Nat.le_of_ble_eq_true rfl
  have hbytes : N * componentBytes (newarray.typeOf atype) ≤ 536870912 := by
    have h1 := Nat.mul_le_mul hb2 (hcb (newarray.typeOf atype))
    exact Nat.le_trans h1 (Nat.le_of_ble_eq_true rfl)
  refine va_newaK hx hb (by rw [hty]; exact hts _ hw) rfl hd rfl hn hN hbytes hc1 hc2 rfl fun H1 cA e1 z1 o1 hAr hNm => ?_
  have e2 : Value.ref H.size = xcv G.ad (.ref (64 + st.1)) := by
    show _ = Value.ref (G.ad (64 + st.1))
    rw [hK.2.1, hW.2.1]
  rw [e2]
  refine kk H1 (hW.new hK.2.1 z1 o1 ?_)
  rw [hty] at e1 hNm
  have hcA : cA = G.dA t := xdA hK (by omega) rfl (by intro C; match t, ht with | 0, _ => (intro h; cases h) | 1, _ => (intro h; cases h) | 2, _ => (intro h; cases h) | 3, _ => (intro h; cases h)) hNm
  subst hcA
  show H1[H.size]? = some (vp_cell (G.dA t) (xcA G.ad (N, xzero (xty t))))
  rw [e1]
  match t, ht with
  | 0, _ => rfl
  | 1, _ => rfl
  | 2, _ => rfl
  | 3, _ => rfl
theorem r_anewarray {t N index : Nat} {n : Int32} {C : String} (hd : decode y.2.1 pc = .ok (.anewarray index, 3)) (ht : t < 9) (hty : xty t = .object C) (hw : Cond.classLink y.1.cls index C ∈ xT) (ho : Cond.arrayOver (.object C) ∈ xTN) (hn : ¬ n < 0) (hN : n.toNatClampNeg = N) (hb2 : N ≤ 20000)
    (kk : Rn y (pc + 3) lv (.ref (64 + st.1) :: stk) (xnew st N (.inl (t, N, .inr (.inr (.inr (.inr fun _ => none)))))) r st' d) : Rn y pc lv (.int n :: stk) st r st' d := by
  refine Rn.liftN kk fun G p l e R s m args below meth c H locs cells slots Q X hc1 hc2 hW ls hl kk => ?_
  obtain ⟨⟨hx, hb, hml, hown, hts⟩, -, hK, -, -⟩ := X
  subst hN
  refine W.anew hx hb hown (hts _ hw) (va_AO.use (hK.nw ho)) rfl hd rfl hn (Nat.le_trans (Nat.mul_le_mul_right 4 hb2) (Nat.le_of_ble_eq_true rfl)) hc1 hc2 fun cA kA comp f1 f2 f3 f4 => ?_
  generalize hH1 : H.push ({ cls := cA, slots := Array.replicate n.toNatClampNeg .null, vm := .none } : Cell) = H1
  have z1 : H1.size = H.size + 1 := by rw [← hH1, Array.size_push]
  have e1 : H1[H.size]? = some (arrV cA n.toNatClampNeg (fun _ => .null)) := by rw [← hH1, Array.getElem?_push_size, ← arrV_new]
  have o1 : ∀ q : Nat, q < H.size → H1[q]? = H[q]? := fun q hq => by rw [← hH1, Array.getElem?_push, if_neg (Nat.ne_of_lt hq)]
  have e2 : Value.ref H.size = xcv G.ad (.ref (64 + st.1)) := by
    show _ = Value.ref (G.ad (64 + st.1))
    rw [hK.2.1, hW.2.1]
  show W p l e R s m args below meth c H1 locs (cells + 1) (slots + n.toNatClampNeg) Q (F0 m (pc + 3) ls (.ref H.size :: xst G stk))
  rw [e2]
  refine kk H1 (hW.new hK.2.1 z1 o1 ?_)
  have hcA : cA = G.dA t := by
    have h1 := (hK.1.2 t _ (xtys_at G ht)).2
    rw [hty] at h1
    obtain ⟨-, -, -, -, -, h4⟩ := h1
    exact Option.some.inj (f1.symm.trans h4)
  subst hcA
  show H1[H.size]? = some (vp_cell (G.dA t) (n.toNatClampNeg, .inr (.inr (.inr (.inr (fun _ => none))))))
  rw [vp_cell_q]
  exact e1
theorem xsum (G : xG) (l : List Value) : ((xst G l).map fun v => v.category).sum = (l.map fun v => v.category).sum := by
  simp only [List.map_map]
  congr 2
  funext v
  exact xcv_cat _ _
theorem r_objInit {a idx : Nat} (hd : decode y.2.1 pc = .ok (.invokespecial idx, 3)) (hw : Cond.methodLink y.1.cls idx Lib.objectInit ∈ xT) (hi : Cond.instanceMethod Lib.objectInit ∈ xT) (hc : Cond.code Lib.objectInit ⟨#[0xb1]⟩ 1 none ∈ xT) (hd1 : 1 ≤ d) (hs : (stk.map fun v => v.category).sum ≤ 8)
    (kk : Rn y (pc + 3) lv stk st r st' d) : Rn y pc lv (.ref a :: stk) st r st' d := by
  refine Rn.liftH (st2 := st) rfl rfl kk fun G p l e R s m args below meth c H locs cells slots Q X hc1 hc2 hW ls hl kk => ?_
  obtain ⟨⟨hx, hb, hml, hown, hts⟩, -, hK, hf, hlo⟩ := X
  refine W.objInit hx hb hown (hts _ hw) (hts _ hi) (hts _ hc) rfl (by rw [hml]; exact hl.1) rfl hd (by omega) (by show 2 * 0 + ((xst G stk).map fun v => v.category).sum + 12 ≤ R.locals; rw [xsum]; omega) ?_
  have := kk H [] hW (fun q hq => by cases hq)
  rw [List.append_nil] at this
  exact this
theorem r_mmax {a b : Int32} {index : Nat} (hd : decode y.2.1 pc = .ok (.invokestatic index, 3)) (hw : Cond.methodLink y.1.cls index Lib.Math.max.name ∈ xT) (h1 : Cond.static Lib.Math.max.name ∈ xT) (h2 : Cond.initialized "java/lang/Math" ∈ xT) (h3 : Cond.code Lib.Math.max.name Lib.Math.max.code 2 (some .int) ∈ xT) (hd1 : 1 ≤ d) (hs : (stk.map fun v => v.category).sum ≤ 8)
    (kk : Rn y (pc + 3) lv (.int (if a < b then b else a) :: stk) st r st' d) : Rn y pc lv (.int b :: .int a :: stk) st r st' d := by
  refine Rn.liftH (st2 := st) rfl rfl kk fun G p l e R s m args below meth c H locs cells slots Q X hc1 hc2 hW ls hl kk => ?_
  obtain ⟨⟨hx, hb, hml, hown, hts⟩, -, hK, hf, hlo⟩ := X
  refine va_mmax hx hb (hml.trans hl.1.symm) hown (hts _ hw) (hts _ h1) (hts _ h2) (hts _ h3) (by omega) (by rw [xsum]; omega) hc1 hc2 hd ?_
  have := kk H [] hW (fun q hq => by cases hq)
  rw [List.append_nil] at this
  exact this
theorem r_mmin {a b : Int32} {index : Nat} (hd : decode y.2.1 pc = .ok (.invokestatic index, 3)) (hw : Cond.methodLink y.1.cls index Lib.Math.min.name ∈ xT) (h1 : Cond.static Lib.Math.min.name ∈ xT) (h2 : Cond.initialized "java/lang/Math" ∈ xT) (h3 : Cond.code Lib.Math.min.name Lib.Math.min.code 2 (some .int) ∈ xT) (hd1 : 1 ≤ d) (hs : (stk.map fun v => v.category).sum ≤ 8)
    (kk : Rn y (pc + 3) lv (.int (if b < a then b else a) :: stk) st r st' d) : Rn y pc lv (.int b :: .int a :: stk) st r st' d := by
  refine Rn.liftH (st2 := st) rfl rfl kk fun G p l e R s m args below meth c H locs cells slots Q X hc1 hc2 hW ls hl kk => ?_
  obtain ⟨⟨hx, hb, hml, hown, hts⟩, -, hK, hf, hlo⟩ := X
  refine va_mmin hx hb (hml.trans hl.1.symm) hown (hts _ hw) (hts _ h1) (hts _ h2) (hts _ h3) (by omega) (by rw [xsum]; omega) hc1 hc2 hd ?_
  have := kk H [] hW (fun q hq => by cases hq)
  rw [List.append_nil] at this
  exact this
theorem r_mabsL {a : Int64} {index : Nat} (hd : decode y.2.1 pc = .ok (.invokestatic index, 3)) (hw : Cond.methodLink y.1.cls index Lib.MathLoose.abs_long.x ∈ xT) (h1 : Cond.static Lib.MathLoose.abs_long.x ∈ xT) (h2 : Cond.initialized "java/lang/Math" ∈ xT) (h3 : Cond.code Lib.MathLoose.abs_long.x Lib.MathLoose.abs_long.code 2 (some .long) ∈ xT) (hd1 : 1 ≤ d) (hs : (stk.map fun v => v.category).sum ≤ 8)
    (kk : Rn y (pc + 3) lv (.long (if 0 < a then a else -a) :: stk) st r st' d) : Rn y pc lv (.long a :: stk) st r st' d := by
  refine Rn.liftH (st2 := st) rfl rfl kk fun G p l e R s m args below meth c H locs cells slots Q X hc1 hc2 hW ls hl kk => ?_
  obtain ⟨⟨hx, hb, hml, hown, hts⟩, -, hK, hf, hlo⟩ := X
  refine va_mabs_long hx hb (hml.trans hl.1.symm) hown (hts _ hw) (hts _ h1) (hts _ h2) (hts _ h3) (by omega) (by rw [xsum]; omega) hc1 hc2 hd ?_
  have := kk H [] hW (fun q hq => by cases hq)
  rw [List.append_nil] at this
  exact this
theorem xnn {z : Int32} (hz : ¬ z < 0) : z.toInt = (z.toNatClampNeg : Int) := by
  have hz0 : (0 : Int) ≤ z.toInt := by
    have := Int32.not_lt.mp hz
    simpa using Int32.le_iff_toInt_le.mp this
  show z.toInt = ((z.toInt.toNat : Nat) : Int)
  omega
theorem r_arraycopy {a0 a t n0 n1 index : Nat} {f g : Nat → Int32} {sp dp n : Int32} (hd : decode y.2.1 pc = .ok (.invokestatic index, 3)) (hw : Cond.methodLink y.1.cls index arraycopyName ∈ xT) (w1 : Cond.native arraycopyName ∈ xT) (w2 : Cond.static arraycopyName ∈ xT) (w3 : Cond.initialized "java/lang/System" ∈ xT) (ht : t < 4) (hp : refKind (xty t) = false)
    (ha0 : st.2.2 a0 = .inl (t, n0, .inl f)) (ha1 : st.2.2 a = .inl (t, n1, .inl g)) (h1 : ¬ sp < 0) (h2 : ¬ dp < 0) (h3 : ¬ n < 0) (h4 : sp.toNatClampNeg + n.toNatClampNeg ≤ n0) (h5 : dp.toNatClampNeg + n.toNatClampNeg ≤ n1) (hfit : ∀ i, i < n.toNatClampNeg → fits (xty t) (.int (f (sp.toNatClampNeg + i))) = true) (hd1 : 1 ≤ d) (hs : (stk.map fun v => v.category).sum ≤ 8)
    (kk : Rn y (pc + 3) lv stk (xup st a (.inl (t, n1, .inl (va_cpy f g sp.toNatClampNeg dp.toNatClampNeg n.toNatClampNeg)))) r st' d) : Rn y pc lv (.int n :: .int dp :: .ref a :: .int sp :: .ref a0 :: stk) st r st' d := by
  refine Rn.liftH (st2 := xup st a (.inl (t, n1, .inl (va_cpy f g sp.toNatClampNeg dp.toNatClampNeg n.toNatClampNeg)))) rfl rfl kk fun G p l e R s m args below meth c H locs cells slots Q X hc1 hc2 hW ls hl kk => ?_
  obtain ⟨⟨hx, hb, hml, hown, hts⟩, -, hK, hf, hlo⟩ := X
  obtain ⟨j0, hj0, rfl⟩ := xJ_arr hW ha0 (by omega)
  obtain ⟨j, hj, rfl⟩ := xJ_arr hW ha1 (by omega)
  have hc0 : H[G.ad (64 + j0)]? = some (vp_cell (G.dA t) (n0, .inl f)) := by
    have := hW.2.2.1 j0 hj0
    rw [ha0] at this
    exact this
  have hcc : H[G.ad (64 + j)]? = some (vp_cell (G.dA t) (n1, .inl g)) := by
    have := hW.2.2.1 j hj
    rw [ha1] at this
    exact this
  intro T hT X
  obtain ⟨-, k0, hk0, cm0, hkk0⟩ := (hK.1.2 t _ (xtys_at G (by omega))).1 n0 (fun j => .int (f j))
  obtain ⟨-, k1, hk1, cm1, hkk1⟩ := (hK.1.2 t _ (xtys_at G (by omega))).1 n1 (fun j => .int (g j))
  obtain ⟨vm', X', step⟩ := X.arraycopy hx hown (hts _ hw) (hts _ w1) (hts _ w2) (hts _ w3) (src := G.ad (64 + j0)) (dst := G.ad (64 + j)) (cs := vp_cell (G.dA t) (n0, .inl f)) (cd := vp_cell (G.dA t) (n1, .inl g)) (srcPos := sp) (destPos := dp) (n := n) (by rw [hT]; exact hc0) (by rw [hT]; exact hcc)
    (fun _ h => by cases h) (fun _ h => by cases h) (fun h => by cases h) (fun h => by cases h) hk0 hk1 hkk0 hkk1 (by simp [hp]) h1 h2 h3
    (by rw [xnn h1, xnn h3]; show ¬ _ > ((arrV (G.dA t) n0 (fun j => .int (f j))).slots.size : Int); rw [arrV_size]; omega)
    (by rw [xnn h2, xnn h3]; show ¬ _ > ((arrV (G.dA t) n1 (fun j => .int (g j))).slots.size : Int); rw [arrV_size]; omega)
    (fun vm₁ _ i hi => by
      have e : (vp_cell (G.dA t) (n0, .inl f)).slots.getD (sp.toNatClampNeg + i) .null = .int (f (sp.toNatClampNeg + i)) := by
        show (arrV (G.dA t) n0 (fun j => .int (f j))).slots.getD _ _ = _
        rw [Array.getD_eq_getD_getElem?, arrV_read _ _ (by omega)]
        rfl
      refine ⟨?_, ?_⟩
      · rw [e]
        exact hfit i hi
      · rw [e]
        exact trivial)
    (g := F0 m pc ls (xst G (.int n :: .int dp :: .ref (64 + j) :: .int sp :: .ref (64 + j0) :: stk))) rfl (by rw [hml]; exact hl.1) (rest := xst G stk) rfl (by rw [hb]; exact hd) (by omega) (by
      have hn : nativeFrameWords "java/lang/System" "arraycopy" 5 + 11 ≤ 30 := by decide
      show 2 * 0 + ((xst G stk).map fun v => v.category).sum + (nativeFrameWords "java/lang/System" "arraycopy" 5 + 11) ≤ R.locals
      rw [xsum]
      omega)
  have e1 : copied (vp_cell (G.dA t) (n0, .inl f)) (vp_cell (G.dA t) (n1, .inl g)) sp dp n = vp_cell (G.dA t) (n1, .inl (va_cpy f g sp.toNatClampNeg dp.toNatClampNeg n.toNatClampNeg)) := va_copied (fun z => .int z) (G.dA t) (G.dA t) f g h4
  rw [e1] at X' step
  have hlt : G.ad (64 + j) < H.size := (Array.getElem?_eq_some_iff.mp hcc).1
  generalize hnc : vp_cell (G.dA t) (n1, .inl (va_cpy f g sp.toNatClampNeg dp.toNatClampNeg n.toNatClampNeg)) = nc at X' step
  have hheap : ((T.setVm vm').setCell (G.ad (64 + j)) nc).heap = H.setIfInBounds (G.ad (64 + j)) nc := by rw [← hT]; rfl
  obtain ⟨t', a1, b1⟩ := kk (H.setIfInBounds (G.ad (64 + j)) nc) _ (hW.put hK.2.1 hj (by simp) (fun q hq => by simp [Array.getElem?_setIfInBounds, Ne.symm hq]) (by
    show (H.setIfInBounds (G.ad (64 + j)) nc)[G.ad (64 + j)]? = some _
    rw [Array.getElem?_setIfInBounds, if_pos rfl, if_pos hlt, ← hnc]
    rfl)) (fun q hq => by
      obtain ⟨z, -, hz⟩ := List.mem_map.mp hq
      rw [← hz]
      show G.H0.size ≤ G.ad (64 + j)
      rw [hK.2.1]
      exact Nat.le_add_right _ _) _ hheap X'
  exact ⟨t', step t' a1, b1⟩
end XR5

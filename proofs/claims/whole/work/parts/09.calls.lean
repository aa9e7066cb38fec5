/-! A method's contract out of its run; THE ROWS of calls -/
theorem xgood : ∀ w ∈ xT, goodWord w = true := fun w hw => (List.mem_filter.mp hw).2
theorem xgoodIn {yc : xM} (h : Cond.code yc.1 yc.2.1 yc.2.2.1 yc.2.2.2 ∈ xT) : GoodIn xT (xws yc) := by
  have hm : ∀ w ∈ xws yc, w ∈ xT := fun w hw => by
    rcases List.mem_cons.mp hw with e | e
    · rw [e]; exact h
    · exact e
  exact fun w hw => ⟨hm w hw, good_of_word (xgood w (hm w hw))⟩
section XR6
variable {y : xM} {pc : Nat} {lv : List (Nat × Value)} {stk stk0 : List Value} {st : xS} {r : Option Value} {st' : xS} {d : Nat}
theorem xsl_len (G : xG) (as : List Value) : (lg_sl (as.map (xcv G.ad))).length = (lg_sl as).length := by
  induction as with
  | nil => rfl
  | cons v t ih =>
    simp only [List.map_cons, lg_sl, List.flatMap_cons, List.length_append] at ih ⊢
    rw [ih, xcv_cat]
    split <;> rfl
theorem xlv_args (G : xG) (as : List Value) : ∀ i : Nat, lv_args i (as.map (xcv G.ad)) = xlv G (lv_args i as) := by
  induction as with
  | nil => intro i; rfl
  | cons v t ih =>
    intro i
    show (i, xcv G.ad v) :: lv_args (if (xcv G.ad v).category = 2 then i + 2 else i + 1) (t.map (xcv G.ad)) = _
    rw [ih, xcv_cat]
    rfl
theorem Ct.of {as : List Value} (hy : plainName y.1.cls = true) (hn : (lg_sl as).length ≤ y.2.2.1) (k : Rn y 0 (lv_args 0 as) [] st r st' d) : Ct y as st r st' d := by
  refine ⟨k.1, k.2.1, fun G l C S h1 h2 => ?_⟩
  refine Met.ofW (cc := y.2.1) (maxL := y.2.2.1) (ret := y.2.2.2) hy rfl ?_
  intro p e s m args below meth c s₁ B hml hv
  obtain ⟨rfl, hW, hK⟩ := hv
  have hx := B.exec
  have hb := B.bytes
  have hr := B.returns
  have hts0 := atoms_spec (ws := xws y) B.pre
  have hts : ∀ w ∈ xT, w.before (as.map (xcv G.ad)).toArray s = true := fun w hw => hts0 w (List.mem_cons_of_mem _ hw)
  have hown : s.vm.findClass y.1.cls = some m.cls := findClass_of_methodNamed B.named
  have hlocks := B.notSynchronized
  have hin : y.1.name = "<init>" → meth.name = "<init>" := fun q => by rw [← q]; exact (name_of_methodNamed B.named B.method).1
  have hl := lv_entry (as.map (xcv G.ad)) (n := y.2.2.1) (by rw [xsl_len]; exact hn)
  rw [lg_entry_eq]
  generalize (lg_sl (as.map (xcv G.ad)) ++ List.replicate (y.2.2.1 - (lg_sl (as.map (xcv G.ad))).length) Slot.unset).toArray = ls at hl ⊢
  rw [xlv_args] at hl
  refine k.2.2 G p l e _ s m _ below meth c s.heap [] 0 0 _ ⟨⟨hx, hb, hml, hown, hts⟩, hin, hK, Nat.le_refl _, Nat.le_refl _⟩ (by show 0 + st'.1 ≤ C + st.1; omega) (by show 0 + st'.2.1 ≤ S + st.2.1; omega) hW (fun q hq => by cases hq) ?_ ls hl
  intro pcE lsE H locs cells slots hdE hro hWE hLE hcE hsE
  refine W.widen (k := C) (n := S) hcE hsE ?_
  cases r with
  | none =>
    have hr' : meth.sig.returnType = none := hr.trans hro
    exact W.vret hx hb hr' (fun t ht hW => ⟨rfl, by rw [ht]; exact hWE⟩) hLE hdE
  | some v =>
    cases v with
    | int v =>
      obtain ⟨ty, e1, e2⟩ := hro
      have hr' : meth.sig.returnType = some ty := hr.trans e1
      exact W.zret hx hb hr' e2 (fun t ht hW => ⟨rfl, by rw [ht]; exact hWE⟩) hLE hdE
    | long v =>
      have hr' : meth.sig.returnType = some .long := hr.trans hro
      exact W.lret hx hb hr' (fun t ht hW => ⟨rfl, by rw [ht]; exact hWE⟩) hLE hdE
    | null =>
      obtain ⟨rt, e1, e2⟩ := hro
      have hr' : meth.sig.returnType = some rt := hr.trans e1
      exact W.aret hx hb hr' e2 (Or.inl rfl) (fun t ht hW => ⟨rfl, by rw [ht]; exact hWE⟩) hLE hdE
    | ref a =>
      obtain ⟨rt, e1, e2⟩ := hro
      have hr' : meth.sig.returnType = some rt := hr.trans e1
      exact W.aret hx hb hr' e2 (Or.inr ⟨_, rfl⟩) (fun t ht hW => ⟨rfl, by rw [ht]; exact hWE⟩) hLE hdE
    | float v => exact absurd hro (by intro h; exact h)
    | double v => exact absurd hro (by intro h; exact h)
    | retAddr v => exact absurd hro (by intro h; exact h)
/-- a return -/
theorem r_end (hd : decode y.2.1 pc = .ok (xRet r, 1)) (hro : xRetOk y.2.2.2 r) : Rn y pc lv r.toList st r st d :=
  ⟨Nat.le_refl _, Nat.le_refl _, fun G p l e R s m args below meth c H locs cells slots Q C h1 h2 hW hL hE ls hl => hE pc ls H locs cells slots hd hro hW hL (by omega) (by omega)⟩
theorem r_ireturn {v : Int32} (hd : decode y.2.1 pc = .ok (.ireturn, 1)) (ty : FieldType) (hy : y.2.2.2 = some ty) (hn : narrow ty (.int v) = .int v) : Rn y pc lv [.int v] st (some (.int v)) st d := r_end (r := some (.int v)) hd ⟨ty, hy, hn⟩
theorem r_lreturn {v : Int64} (hd : decode y.2.1 pc = .ok (.lreturn, 1)) (hy : y.2.2.2 = some .long) : Rn y pc lv [.long v] st (some (.long v)) st d := r_end (r := some (.long v)) hd hy
theorem r_return (hd : decode y.2.1 pc = .ok (.return_, 1)) (hy : y.2.2.2 = none) : Rn y pc lv [] st none st d := r_end (r := none) hd hy
theorem r_areturn {v : Nat} (hd : decode y.2.1 pc = .ok (.areturn, 1)) (rt : FieldType) (hy : y.2.2.2 = some rt) (ho : (∃ n, rt = .object n) ∨ ∃ t, rt = .array t) : Rn y pc lv [.ref v] st (some (.ref v)) st d := r_end (r := some (.ref v)) hd ⟨rt, hy, ho⟩
theorem r_areturnN (hd : decode y.2.1 pc = .ok (.areturn, 1)) (rt : FieldType) (hy : y.2.2.2 = some rt) (ho : (∃ n, rt = .object n) ∨ ∃ t, rt = .array t) : Rn y pc lv [.null] st (some .null) st d := r_end (r := some .null) hd ⟨rt, hy, ho⟩
/-- what every call of it asks of the tables -/
def xcal (yc : xM) (n : Nat) : Prop := Cond.code yc.1 yc.2.1 yc.2.2.1 yc.2.2.2 ∈ xT ∧ Cond.initialized yc.1.cls ∈ xT ∧ (yc.1.cls ≠ "java/lang/invoke/MethodHandle" ∧ yc.1.cls ≠ "java/lang/invoke/VarHandle" ∧ (parseMethodDescriptor yc.1.desc).map (fun d => d.parameters.length) = some n) ∧ yc.2.2.1 ≤ 26
theorem xblind (G : xG) (as : List Value) (st : xS) : FrameBlind (va_Pc (as.map (xcv G.ad)) (fun U => xW G st U.heap ∧ xK G U)) := by
  intro a U g mk h
  obtain ⟨h1, h2, h3⟩ := h
  exact ⟨h1, h2, xK.same (u := U) rfl h3⟩
theorem xpreS {G : xG} {s : State} {H : Heap} {as : List Value} (hW : xW G st H) (hK : xK G s) : PreS s H (va_Pc (as.map (xcv G.ad)) (fun U => xW G st U.heap ∧ xK G U)) (as.map (xcv G.ad)) :=
  ⟨xblind G as st, fun U hU hWU => ⟨rfl, by show xW G st U.heap; rw [hU]; exact hW, hK.warm hWU⟩⟩
/-- behind a call -/
theorem xrun {st1 : xS} {r1 : Option Value} {pc0 : Nat} {G : xG} {p : Program} {l : Launch} {e : Env} {R : Room} {s : State} {m : MethodId} {args : Array Value} {below : List Frame} {meth : Method} {c : Code} {H : Heap} {locs : List Loc} {cells slots : Nat} {Q : State → Prop} {ls : Array Slot} {st0 : List Value} {a : Array Value} {mc ms : Nat}
    (h1 : st.1 + mc = st1.1) (h2 : st.2.1 + ms = st1.2.1) (hr : va_Run p l e R s m args below meth c H locs cells slots mc ms (F0 m pc0 ls st0) (xst G stk) (xQc G r1 st1 a) (fun q => G.H0.size ≤ q))
    (kk : Rn y (pc0 + 3) lv (r1.toList ++ stk) st1 r st' d) (X : xCtx y d G p R s m args meth c) (g1 : cells + st'.1 ≤ R.cells + st.1) (g2 : slots + st'.2.1 ≤ R.slots + st.2.1) (hL : ∀ q ∈ locs, G.H0.size ≤ q.base) (hE : xEnd y G r st' p l e R s m args below meth c Q) (hl : lv_has ls y.2.2.1 (xlv G lv)) :
    W p l e R s m args below meth c H locs cells slots Q (F0 m pc0 ls st0) := by
  intro T hT XT
  obtain ⟨v, st₀, t, T', L, e0, X', hL', e1, e2, ⟨hv, hW1⟩, st9⟩ := hr T hT XT
  have hv' : v = r1.map (xcv G.ad) := Outcome.returned.inj hv
  subst hv'
  rw [← e1] at hW1
  obtain ⟨t2, a1, b1⟩ := kk.2.2 G p l e R s m args below meth c T'.heap (locs ++ L) (cells + mc) (slots + ms) Q X (by omega) (by omega) hW1 (fun q hq => by
    rcases List.mem_append.mp hq with h | h
    · exact hL q h
    · exact hL' q h) hE ls hl T' rfl X'
  refine ⟨t2, st9 t2 ?_, b1⟩
  have e3 : (r1.map (xcv G.ad)).toList ++ xst G stk = xst G (r1.toList ++ stk) := by cases r1 <;> simp
  show Steps p.tables e below (T'.setTop (F0 m (pc0 + 3) ls ((r1.map (xcv G.ad)).toList ++ xst G stk))) t2
  rw [e3]
  exact a1
theorem xroom {yc : xM} {d' : Nat} {R : Room} (hd : d' + 1 ≤ d) (hL : yc.2.2.1 ≤ 26) (h1 : d ≤ R.frames) (h2 : 45 * d ≤ R.locals) : d' + 1 ≤ R.frames ∧ 8 + (yc.2.2.1 + 11) + 45 * d' ≤ R.locals := by omega
theorem xgW {G : xG} (hs : (stk.map fun v => v.category).sum ≤ 8) (m : MethodId) (ls : Array Slot) (q : List Value) : 2 * (F0 m pc ls q).monitorRoom + ((xst G stk).map fun v => v.category).sum ≤ 8 := by
  rw [xsum]
  show 2 * 0 + _ ≤ 8
  omega
theorem xstack (G : xG) (as stk : List Value) : xst G (as.reverse ++ stk) = (as.map (xcv G.ad)).reverse ++ xst G stk := by simp [List.map_reverse]
theorem r_callS {yc : xM} {as : List Value} {r1 : Option Value} {st1 : xS} {d' index : Nat} (hd : decode y.2.1 pc = .ok (.invokestatic index, 3)) (hw : Cond.methodLink y.1.cls index yc.1 ∈ xT) (hst : Cond.static yc.1 ∈ xT) (hB : xcal yc as.length) (hdd : d' + 1 ≤ d) (hs : (stk.map fun v => v.category).sum ≤ 8) (he : stk0 = as.reverse ++ stk)
    (hc : Ct yc as st r1 st1 d') (kk : Rn y (pc + 3) lv (r1.toList ++ stk) st1 r st' d) : Rn y pc lv stk0 st r st' d := by
  subst he
  obtain ⟨b1, b2, b3, b4⟩ := hB
  have c1 := hc.1
  have c2 := hc.2.1
  refine ⟨Nat.le_trans hc.1 kk.1, Nat.le_trans hc.2.1 kk.2.1, fun G p l e R s m args below meth c H locs cells slots Q X g1 g2 hW hL hE ls hl => ?_⟩
  have k1 := kk.1
  have k2 := kk.2.1
  have X0 := X
  obtain ⟨S, -, hK, hf, hlo⟩ := X0
  rw [xstack]
  refine xrun (a := (as.map (xcv G.ad)).toArray) (mc := st1.1 - st.1) (ms := st1.2.1 - st.2.1) (by omega) (by omega) (va_runS S (hc.2.2 G l (st1.1 - st.1) (st1.2.1 - st.2.1) (by omega) (by omega)) (ws := xws yc) (rm := { frames := d', cells := st1.1 - st.1, slots := st1.2.1 - st.2.1, locals := 45 * d' }) (n := as.length) (bytes := yc.2.1) (maxL := yc.2.2.1) (ret := yc.2.2.2)
    ⟨callB_of as.length S.2.2.2.2 (xgoodIn b1) rfl rfl rfl (S.2.2.2.2 _ b2) (S.2.2.2.2 _ hw) b3 (xroom hdd b4 hf hlo), S.2.2.2.2 _ hst⟩ (xpreS hW hK) rfl (by rw [List.length_map]) hl.1 rfl (xgW hs m ls _) hd ⟨by omega, by omega⟩) kk X g1 g2 hL hE hl
theorem xrecv {G : xG} {s : State} {H : Heap} {b ci : Nat} {fs : List Value} {q : vw_C} (hW : xW G st H) (hK : xK G s) (hb : st.2.2 b = .inr (ci, fs)) (hq : xcl[ci]? = some q) (hc : ci < 12) : ∃ cell : Cell, H[G.ad b]? = some cell ∧ cell.vm.isStatics = false ∧ s.vm.findClass q.1 = some cell.cls := by
  obtain ⟨i, hi, rfl⟩ := xJ_obj hW hb hc
  have hat := hW.2.2.1 i hi
  rw [hb] at hat
  exact va_recv hK.1 (xone hat) hq (q0 := 0) rfl
/-- invokevirtual of a method of the receiver's own class -/
theorem r_callV {yc : xM} {b ci : Nat} {q : vw_C} {fs as : List Value} {r1 : Option Value} {st1 : xS} {d' index : Nat} (hd : decode y.2.1 pc = .ok (.invokevirtual index, 3)) (hw : Cond.methodLink y.1.cls index yc.1 ∈ xT) (hin : Cond.instanceMethod yc.1 ∈ xT) (hse : Cond.selects yc.1.cls yc.1 yc.1 ∈ xT) (hB : xcal yc as.length) (hdd : d' + 1 ≤ d) (hs : (stk.map fun v => v.category).sum ≤ 8) (he : stk0 = as.reverse ++ .ref b :: stk)
    (hb : st.2.2 b = .inr (ci, fs)) (hq : xcl[ci]? = some q) (hc12 : ci < 12) (hcl : yc.1.cls = q.1) (hc : Ct yc (.ref b :: as) st r1 st1 d') (kk : Rn y (pc + 3) lv (r1.toList ++ stk) st1 r st' d) : Rn y pc lv stk0 st r st' d := by
  subst he
  obtain ⟨b1, b2, b3, b4⟩ := hB
  have c1 := hc.1
  have c2 := hc.2.1
  refine ⟨Nat.le_trans hc.1 kk.1, Nat.le_trans hc.2.1 kk.2.1, fun G p l e R s m args below meth c H locs cells slots Q X g1 g2 hW hL hE ls hl => ?_⟩
  have k1 := kk.1
  have k2 := kk.2.1
  have X0 := X
  obtain ⟨S, -, hK, hf, hlo⟩ := X0
  rw [xstack]
  have hpre := xpreS (as := .ref b :: as) hW hK
  have hrc := xrecv hW hK hb hq hc12
  rw [← hcl] at hrc
  refine xrun (a := (Value.ref (G.ad b) :: as.map (xcv G.ad)).toArray) (mc := st1.1 - st.1) (ms := st1.2.1 - st.2.1) (by omega) (by omega) (va_runV S (hc.2.2 G l (st1.1 - st.1) (st1.2.1 - st.2.1) (by omega) (by omega)) (ws := xws yc) (rm := { frames := d', cells := st1.1 - st.1, slots := st1.2.1 - st.2.1, locals := 45 * d' }) (n := as.length) (bytes := yc.2.1) (maxL := yc.2.2.1) (ret := yc.2.2.2) (C := yc.1.cls)
    ⟨callB_of as.length S.2.2.2.2 (xgoodIn b1) rfl rfl rfl (S.2.2.2.2 _ b2) (S.2.2.2.2 _ hw) b3 (xroom hdd b4 hf hlo), S.2.2.2.2 _ hin, S.2.2.2.2 _ hse⟩ ⟨hpre.1, hrc, hpre.2⟩ rfl (by rw [List.length_map]) hl.1 rfl (xgW hs m ls _) hd ⟨by omega, by omega⟩) kk X g1 g2 hL hE hl
/-- invokespecial of a constructor -/
theorem r_callI {yc : xM} {b : Nat} {as : List Value} {st1 : xS} {d' index : Nat} (hd : decode y.2.1 pc = .ok (.invokespecial index, 3)) (hw : Cond.methodLink y.1.cls index yc.1 ∈ xT) (hin : Cond.instanceMethod yc.1 ∈ xT) (hnm : yc.1.name = "<init>") (hret : yc.2.2.2 = none) (hB : xcal yc as.length) (hdd : d' + 1 ≤ d) (hs : (stk.map fun v => v.category).sum ≤ 8) (he : stk0 = as.reverse ++ .ref b :: stk)
    (hc : Ct yc (.ref b :: as) st none st1 d') (kk : Rn y (pc + 3) lv stk st1 r st' d) : Rn y pc lv stk0 st r st' d := by
  subst he
  obtain ⟨b1, b2, b3, b4⟩ := hB
  have c1 := hc.1
  have c2 := hc.2.1
  refine ⟨Nat.le_trans hc.1 kk.1, Nat.le_trans hc.2.1 kk.2.1, fun G p l e R s m args below meth c H locs cells slots Q X g1 g2 hW hL hE ls hl => ?_⟩
  have k1 := kk.1
  have k2 := kk.2.1
  have X0 := X
  obtain ⟨S, -, hK, hf, hlo⟩ := X0
  rw [xstack]
  have hpre := xpreS (as := .ref b :: as) hW hK
  have hcode := xgoodIn b1
  have hwsE : xws yc = Cond.code yc.1 yc.2.1 yc.2.2.1 none :: xT := by unfold xws; rw [hret]
  refine xrun (a := (Value.ref (G.ad b) :: as.map (xcv G.ad)).toArray) (r1 := none) (mc := st1.1 - st.1) (ms := st1.2.1 - st.2.1) (by omega) (by omega) (va_runI S (hc.2.2 G l (st1.1 - st.1) (st1.2.1 - st.2.1) (by omega) (by omega)) (ws := xws yc) (rm := { frames := d', cells := st1.1 - st.1, slots := st1.2.1 - st.2.1, locals := 45 * d' }) (n := as.length) (bytes := yc.2.1) (maxL := yc.2.2.1)
    ⟨callB_of as.length S.2.2.2.2 hcode hwsE rfl rfl (S.2.2.2.2 _ b2) (S.2.2.2.2 _ hw) b3 (xroom hdd b4 hf hlo), hnm, S.2.2.2.2 _ hin⟩ hpre rfl (by rw [List.length_map]) hl.1 rfl (xgW hs m ls _) hd ⟨by omega, by omega⟩) kk X g1 g2 hL hE hl
/-- the same, of nest mates -/
theorem r_callSN {yc : xM} {as : List Value} {r1 : Option Value} {st1 : xS} {d' index : Nat} {host : String} (hd : decode y.2.1 pc = .ok (.invokestatic index, 3)) (hw : Cond.methodLinkNest y.1.cls index yc.1 host ∈ xTN) (hst : Cond.static yc.1 ∈ xT) (hB : xcal yc as.length) (hdd : d' + 1 ≤ d) (hs : (stk.map fun v => v.category).sum ≤ 8) (he : stk0 = as.reverse ++ stk)
    (hc : Ct yc as st r1 st1 d') (kk : Rn y (pc + 3) lv (r1.toList ++ stk) st1 r st' d) : Rn y pc lv stk0 st r st' d := by
  subst he
  obtain ⟨b1, b2, b3, b4⟩ := hB
  have c1 := hc.1
  have c2 := hc.2.1
  refine ⟨Nat.le_trans hc.1 kk.1, Nat.le_trans hc.2.1 kk.2.1, fun G p l e R s m args below meth c H locs cells slots Q X g1 g2 hW hL hE ls hl => ?_⟩
  have k1 := kk.1
  have k2 := kk.2.1
  have X0 := X
  obtain ⟨S, -, hK, hf, hlo⟩ := X0
  rw [xstack]
  refine xrun (a := (as.map (xcv G.ad)).toArray) (mc := st1.1 - st.1) (ms := st1.2.1 - st.2.1) (by omega) (by omega) (va_runSN S (hc.2.2 G l (st1.1 - st.1) (st1.2.1 - st.2.1) (by omega) (by omega)) (ws := xws yc) (rm := { frames := d', cells := st1.1 - st.1, slots := st1.2.1 - st.2.1, locals := 45 * d' }) (n := as.length) (bytes := yc.2.1) (maxL := yc.2.2.1) (ret := yc.2.2.2) (host := host)
    ⟨va_cnB as.length S.2.2.2.2 (xgoodIn b1) rfl rfl rfl (hK.nw hw) (S.2.2.2.2 _ b2) b3 (xroom hdd b4 hf hlo), S.2.2.2.2 _ hst, trivial⟩ (xpreS hW hK) rfl (by rw [List.length_map]) hl.1 rfl (xgW hs m ls _) hd ⟨by omega, by omega⟩) kk X g1 g2 hL hE hl
theorem r_callVN {yc : xM} {b ci : Nat} {q : vw_C} {fs as : List Value} {r1 : Option Value} {st1 : xS} {d' index : Nat} {host : String} (hd : decode y.2.1 pc = .ok (.invokevirtual index, 3)) (hw : Cond.methodLinkNest y.1.cls index yc.1 host ∈ xTN) (hin : Cond.instanceMethod yc.1 ∈ xT) (hse : Cond.selects yc.1.cls yc.1 yc.1 ∈ xT) (hB : xcal yc as.length) (hdd : d' + 1 ≤ d) (hs : (stk.map fun v => v.category).sum ≤ 8) (he : stk0 = as.reverse ++ .ref b :: stk)
    (hb : st.2.2 b = .inr (ci, fs)) (hq : xcl[ci]? = some q) (hc12 : ci < 12) (hcl : yc.1.cls = q.1) (hc : Ct yc (.ref b :: as) st r1 st1 d') (kk : Rn y (pc + 3) lv (r1.toList ++ stk) st1 r st' d) : Rn y pc lv stk0 st r st' d := by
  subst he
  obtain ⟨b1, b2, b3, b4⟩ := hB
  have c1 := hc.1
  have c2 := hc.2.1
  refine ⟨Nat.le_trans hc.1 kk.1, Nat.le_trans hc.2.1 kk.2.1, fun G p l e R s m args below meth c H locs cells slots Q X g1 g2 hW hL hE ls hl => ?_⟩
  have k1 := kk.1
  have k2 := kk.2.1
  have X0 := X
  obtain ⟨S, -, hK, hf, hlo⟩ := X0
  rw [xstack]
  have hpre := xpreS (as := .ref b :: as) hW hK
  have hrc := xrecv hW hK hb hq hc12
  rw [← hcl] at hrc
  refine xrun (a := (Value.ref (G.ad b) :: as.map (xcv G.ad)).toArray) (mc := st1.1 - st.1) (ms := st1.2.1 - st.2.1) (by omega) (by omega) (va_runVN S (hc.2.2 G l (st1.1 - st.1) (st1.2.1 - st.2.1) (by omega) (by omega)) (ws := xws yc) (rm := { frames := d', cells := st1.1 - st.1, slots := st1.2.1 - st.2.1, locals := 45 * d' }) (n := as.length) (bytes := yc.2.1) (maxL := yc.2.2.1) (ret := yc.2.2.2) (C := yc.1.cls) (host := host)
    ⟨va_cnB as.length S.2.2.2.2 (xgoodIn b1) rfl rfl rfl (hK.nw hw) (S.2.2.2.2 _ b2) b3 (xroom hdd b4 hf hlo), S.2.2.2.2 _ hin, S.2.2.2.2 _ hse⟩ ⟨hpre.1, hrc, hpre.2⟩ rfl (by rw [List.length_map]) hl.1 rfl (xgW hs m ls _) hd ⟨by omega, by omega⟩) kk X g1 g2 hL hE hl
theorem r_callIN {yc : xM} {b : Nat} {as : List Value} {st1 : xS} {d' index : Nat} {host : String} (hd : decode y.2.1 pc = .ok (.invokespecial index, 3)) (hw : Cond.methodLinkNest y.1.cls index yc.1 host ∈ xTN) (hin : Cond.instanceMethod yc.1 ∈ xT) (hnm : yc.1.name = "<init>") (hret : yc.2.2.2 = none) (hB : xcal yc as.length) (hdd : d' + 1 ≤ d) (hs : (stk.map fun v => v.category).sum ≤ 8) (he : stk0 = as.reverse ++ .ref b :: stk)
    (hc : Ct yc (.ref b :: as) st none st1 d') (kk : Rn y (pc + 3) lv stk st1 r st' d) : Rn y pc lv stk0 st r st' d := by
  subst he
  obtain ⟨b1, b2, b3, b4⟩ := hB
  have c1 := hc.1
  have c2 := hc.2.1
  refine ⟨Nat.le_trans hc.1 kk.1, Nat.le_trans hc.2.1 kk.2.1, fun G p l e R s m args below meth c H locs cells slots Q X g1 g2 hW hL hE ls hl => ?_⟩
  have k1 := kk.1
  have k2 := kk.2.1
  have X0 := X
  obtain ⟨S, -, hK, hf, hlo⟩ := X0
  rw [xstack]
  have hpre := xpreS (as := .ref b :: as) hW hK
  have hcode := xgoodIn b1
  have hwsE : xws yc = Cond.code yc.1 yc.2.1 yc.2.2.1 none :: xT := by unfold xws; rw [hret]
  refine xrun (a := (Value.ref (G.ad b) :: as.map (xcv G.ad)).toArray) (r1 := none) (mc := st1.1 - st.1) (ms := st1.2.1 - st.2.1) (by omega) (by omega) (va_runIN S (hc.2.2 G l (st1.1 - st.1) (st1.2.1 - st.2.1) (by omega) (by omega)) (ws := xws yc) (rm := { frames := d', cells := st1.1 - st.1, slots := st1.2.1 - st.2.1, locals := 45 * d' }) (n := as.length) (bytes := yc.2.1) (maxL := yc.2.2.1) (host := host)
    ⟨va_cnB as.length S.2.2.2.2 hcode hwsE rfl rfl (hK.nw hw) (S.2.2.2.2 _ b2) b3 (xroom hdd b4 hf hlo), hnm, S.2.2.2.2 _ hin⟩ hpre rfl (by rw [List.length_map]) hl.1 rfl (xgW hs m ls _) hd ⟨by omega, by omega⟩) kk X g1 g2 hL hE hl
end XR6

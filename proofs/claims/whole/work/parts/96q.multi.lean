/-! AN ARRAY OF ARRAYS: six rows of seven longs each -/
def mgO (cA : ClassId) (h i : Nat) : Cell := arrV cA 6 (fun j => if j < i then .ref (h + 1 + j) else .null)
def mgI (cI : ClassId) : Cell := arrV cI 7 (fun _ => .long 0)
/-- the machine once i of the rows are made -/
def mgS (T : State) (cA cI : ClassId) : Nat → State
  | 0 => T.pushCell (mgO cA T.heap.size 0)
  | i + 1 => ((mgS T cA cI i).pushCell (mgI cI)).setCell T.heap.size (mgO cA T.heap.size (i + 1))
theorem mgO_n (cA : ClassId) (h i : Nat) : (mgO cA h i).setSlot i (.ref (h + 1 + i)) = mgO cA h (i + 1) := by
  unfold mgO
  rw [arrV_store]
  congr 1
  funext j
  unfold updV
  by_cases q : j = i
  · rw [if_pos q, if_pos (by omega), q]
  · rw [if_neg q]
    dsimp only
    by_cases q2 : j < i
    · rw [if_pos q2, if_pos (by omega)]
    · rw [if_neg q2, if_neg (by omega)]
theorem mgO_z (cA : ClassId) (h : Nat) : ({ cls := cA, slots := Array.replicate 6 .null, vm := .none } : Cell) = mgO cA h 0 := by
  rw [arrV_new]
  unfold mgO
  congr 1
theorem mgI_z (cI : ClassId) : ({ cls := cI, slots := Array.replicate 7 (.long 0), vm := .none } : Cell) = mgI cI := arrV_new cI 7 (.long 0)
section MG
variable {T : State} {cA cI : ClassId}
theorem mgS_f : ∀ i, (mgS T cA cI i).heap.size = T.heap.size + 1 + i ∧ (mgS T cA cI i).heap[T.heap.size]? = some (mgO cA T.heap.size i) ∧ (mgS T cA cI i).vm = T.vm ∧ (mgS T cA cI i).slotsUsed = T.slotsUsed + 6 + 7 * i := by
  intro i
  induction i with
  | zero => exact ⟨by simp [mgS], by simp [mgS], rfl, by simp [mgS, mgO, arrV_size]⟩
  | succ i ih =>
    obtain ⟨a, b, c, d⟩ := ih
    have lt : T.heap.size < (mgS T cA cI i).heap.size := by omega
    have b' : ((mgS T cA cI i).pushCell (mgI cI)).heap[T.heap.size]? = some (mgO cA T.heap.size i) := by
      rw [State.heap_pushCell_of_lt (h := lt)]
      exact b
    refine ⟨?_, State.heap_setCell_self b', by simp [mgS, c], ?_⟩
    · simp [mgS, State.setCell, a]
      omega
    · simp [mgS, d, mgI, arrV_size]
      omega
theorem mgS_old {q : Nat} (hq : q < T.heap.size) : ∀ i, (mgS T cA cI i).heap[q]? = T.heap[q]? := by
  intro i
  induction i with
  | zero => exact State.heap_pushCell_of_lt _ _ hq
  | succ i ih =>
    have f := (mgS_f (T := T) (cA := cA) (cI := cI) i).1
    have lt : q < (mgS T cA cI i).heap.size := by omega
    show (((mgS T cA cI i).pushCell (mgI cI)).setCell T.heap.size _).heap[q]? = _
    rw [State.heap_setCell_other (show T.heap.size ≠ q by omega), State.heap_pushCell_of_lt (h := lt)]
    exact ih
theorem mgS_in : ∀ i j, j < i → (mgS T cA cI i).heap[T.heap.size + 1 + j]? = some (mgI cI) := by
  intro i
  induction i with
  | zero => exact fun j h => absurd h (Nat.not_lt_zero j)
  | succ i ih =>
    intro j h
    have f := (mgS_f (T := T) (cA := cA) (cI := cI) i).1
    show (((mgS T cA cI i).pushCell (mgI cI)).setCell T.heap.size _).heap[T.heap.size + 1 + j]? = _
    rw [State.heap_setCell_other (show T.heap.size ≠ T.heap.size + 1 + j by omega)]
    by_cases q : j < i
    · have lt : T.heap.size + 1 + j < (mgS T cA cI i).heap.size := by omega
      rw [State.heap_pushCell_of_lt (h := lt)]
      exact ih j q
    · obtain rfl : j = i := by omega
      rw [← f]
      exact State.heap_pushCell_size _ _
theorem mgS_top (f : JFrame) : ∀ i, mgS (T.setTop f) cA cI i = (mgS T cA cI i).setTop f := by
  intro i
  induction i with
  | zero => rfl
  | succ i ih => simp only [mgS, ih, State.heap_setTop, State.pushCell_setTop, State.setCell_setTop]
end MG
section MW
variable {E : CtlPost} {e : Env} {d : Bool} {acts : List Action} {s : State}
theorem mg_row {cI cc : ClassId} {kC : Class} (hk : s.vm.classes[cI]? = some kC) (hkind : kC.kind = .array cc .long) (hl : 7 ≤ e.platform.arrayLengthLimit) (hh : 56 ≤ e.platform.maxHeapBytes) (h1 : s.heap.size < e.platform.maxCells) (h2 : s.slotsUsed + 7 ≤ e.platform.maxSlots)
    {Q : Addr → Pre} (hq : ∀ acts', Q s.heap.size d acts' (s.pushCell (mgI cI))) : wp (Op.multianewarray.make cI [(7 : Int32)]) Q E e d acts s := by
  rw [Op.multianewarray.make]
  simp only [wp_bind', W.ite, show ¬ (7 : Int32) < 0 by decide, if_false, wp_pure', W.theClass, hk, hkind, Option.some.injEq, exists_eq_left']
  refine W.newArray_of hk hkind (by show ¬ 7 > _; omega) (by show ¬ 7 * 8 > _; omega) h1 h2 rfl fun acts' => ?_
  show Q s.heap.size d acts' (s.pushCell { cls := cI, slots := Array.replicate 7 (.long 0), vm := .none })
  rw [mgI_z]
  exact hq acts'
theorem mg_make {cA cI cc : ClassId} {kA kC : Class} (hk : s.vm.classes[cA]? = some kA) (hkind : kA.kind = .array cI (.array .long)) (hkc : s.vm.classes[cI]? = some kC) (hkindc : kC.kind = .array cc .long) (hl : 7 ≤ e.platform.arrayLengthLimit) (hh : 56 ≤ e.platform.maxHeapBytes)
    (hc : s.heap.size + 7 ≤ e.platform.maxCells) (hs : s.slotsUsed + 48 ≤ e.platform.maxSlots) {Q : Addr → Pre} (hq : ∀ d' acts', Q s.heap.size d' acts' (mgS s cA cI 6)) : wp (Op.multianewarray.make cA [(6 : Int32), (7 : Int32)]) Q E e d acts s := by
  have hfind : ([(7 : Int32)].find? (· < 0)) = none := by decide
  rw [Op.multianewarray.make]
  simp only [wp_bind', W.ite, show ¬ (6 : Int32) < 0 by decide, if_false, wp_pure', W.theClass, hk, hkind, Option.some.injEq, exists_eq_left']
  refine W.newArray_of hk hkind (by show ¬ 6 > _; omega) (by show ¬ 6 * 4 > _; omega) (by omega) (by show s.slotsUsed + 6 ≤ _; omega) rfl fun acts' => ?_
  show wp _ _ E e d acts' (s.pushCell { cls := cA, slots := Array.replicate 6 .null, vm := .none })
  rw [mgO_z cA s.heap.size]
  simp only [hfind]
  rw [ite_self, wp_bind', Std.Legacy.Range.forIn_eq_forIn_range']
  show wp (forIn (List.range' 0 6 1) PUnit.unit _) _ E e d acts' _
  refine wp_forIn_inv (fun rest s' => ∃ i, i ≤ 6 ∧ rest = List.range' i (6 - i) ∧ s' = mgS s cA cI i) _ _ ⟨0, by decide, rfl, rfl⟩ ?_ ?_
  · rintro x rest s' d' acts'' Q' ⟨i, hi, hr, rfl⟩ next
    have lt : i < 6 := by
      by_cases q : i < 6
      · exact q
      · rw [show 6 - i = 0 by omega] at hr
        cases hr
    rw [show 6 - i = (6 - (i + 1)) + 1 by omega, List.range'_succ] at hr
    obtain ⟨rfl, hr⟩ := List.cons.inj hr
    obtain ⟨f1, f2, f3, f4⟩ := mgS_f (T := s) (cA := cA) (cI := cI) x
    have lt0 : s.heap.size < (mgS s cA cI x).heap.size := by omega
    simp only [wp_bind']
    refine mg_row (by rw [f3]; exact hkc) hkindc hl hh (by omega) (by omega) fun acts3 => ?_
    simp only [wp_bind', W.writeLoc, wp_pure']
    refine ⟨mgO cA s.heap.size x, by rw [State.heap_pushCell_of_lt (h := lt0)]; exact f2, by unfold mgO arrV; simp, by unfold mgO; rw [arrV_size]; exact lt, ?_, next _ _ _ ⟨x + 1, lt, hr, ?_⟩⟩
    · unfold mgO arrV
      simp [State.fitsSlot, State.slotType?, f3, hk, hkind, fits]
    · rw [f1, mgO_n]
      rfl
  · rintro s' d' acts'' ⟨i, hi, hr, rfl⟩
    have h6 : i = 6 := by
      by_cases q : i < 6
      · rw [show 6 - i = (6 - (i + 1)) + 1 by omega, List.range'_succ] at hr
        cases hr
      · omega
    subst h6
    simp only [wp_pure']
    exact hq _ _
end MW
section MX
variable {p : Program} {l : Launch} {e : Env} {R : Room} {s : State} {m : MethodId} {args : Array Value} {below : List Frame} {meth : Method} {c : Code} {H : Heap} {locs : List Loc} {cells slots : Nat} {Q : State → Prop} {T : State}
theorem mg_stand (X : Stand p l e R s m args below meth c T locs cells slots) (cA cI : ClassId) : ∀ i, Stand p l e R s m args below meth c (mgS T cA cI i) (locs ++ (List.range i).map fun j => ⟨T.heap.size, j⟩) (cells + 1 + i) (slots + 6 + 7 * i) := by
  intro i
  induction i with
  | zero =>
    have h := X.pushed (mgO cA T.heap.size 0)
    rw [show (mgO cA T.heap.size 0).slots.size = 6 from arrV_size _ _ _] at h
    simpa [mgS] using h
  | succ i ih =>
    obtain ⟨f1, f2, f3, f4⟩ := mgS_f (T := T) (cA := cA) (cI := cI) i
    have lt0 : T.heap.size < (mgS T cA cI i).heap.size := by omega
    have hcell : ((mgS T cA cI i).pushCell (mgI cI)).heap[T.heap.size]? = some (mgO cA T.heap.size i) := by
      rw [State.heap_pushCell_of_lt (h := lt0)]
      exact f2
    have h := (ih.pushed (mgI cI)).stored hcell i (.ref (T.heap.size + 1 + i))
    rw [show (mgI cI).slots.size = 7 from arrV_size _ _ _, mgO_n] at h
    have e2 : (locs ++ (List.range (i + 1)).map fun j => (⟨T.heap.size, j⟩ : Loc)) = (locs ++ (List.range i).map fun j => (⟨T.heap.size, j⟩ : Loc)) ++ [⟨T.heap.size, i⟩] := by
      rw [List.range_succ, List.map_append, ← List.append_assoc]
      rfl
    rw [e2, show slots + 6 + 7 * (i + 1) = slots + 6 + 7 * i + 7 by omega]
    exact h
theorem W_mg {cc : ByteArray} (hexec : p.tables.exec = Jvm.exec) (hb : c.code = cc) {own : String} {index : Nat} (hown : s.vm.findClass own = some m.cls) (hclink : (Cond.classLink own index ("[" ++ (FieldType.array .long).toString)).before args s = true)
    (hover : (Cond.arrayOver (.array .long)).before args s = true) (harr : (Cond.arrayClass .long).before args s = true) {g : JFrame} (hg : g.method = m) (hdg : decode cc g.pc = .ok (.multianewarray index 2, 4)) {rest : List Value} (hstack : g.stack = .int 7 :: .int 6 :: rest)
    (hcells : cells + 7 ≤ R.cells) (hslots : slots + 48 ≤ R.slots)
    (kk : ∀ (cA cI : ClassId) (L : List Loc) (H1 : Heap), s.vm.findClass ("[" ++ (FieldType.array .long).toString) = some cA → s.vm.findClass ("[" ++ FieldType.long.toString) = some cI → H1.size = H.size + 7 → (∀ q, q < H.size → H1[q]? = H[q]?) → H1[H.size]? = some (mgO cA H.size 6) →
      (∀ j, j < 6 → H1[H.size + 1 + j]? = some (mgI cI)) → (∀ q ∈ L, H.size ≤ q.base) → W p l e R s m args below meth c H1 (locs ++ L) (cells + 7) (slots + 48) Q { g with pc := g.pc + 4, stack := .ref H.size :: rest }) : W p l e R s m args below meth c H locs cells slots Q g := by
  intro T hT X
  subst hT; subst hb; subst hg
  have hpl : e.platform.magicAccessors = ({} : Platform).magicAccessors := by rw [X.admits.platform]
  obtain ⟨comp, cA, kA, hcomp, -, hkA, hkindA, hnameA⟩ := arrayOverA_spec hover
  obtain ⟨comp', kC, cc', hcomp', hkC, hkindC⟩ := Cond.arrayClass_spec harr
  have ec : comp' = comp := Option.some.inj (hcomp'.symm.trans hcomp)
  subst ec
  obtain ⟨c0, hfc0, hcl⟩ := Cond.classLink_spec hown hclink e.platform hpl
  cases hnameA.symm.trans hfc0
  obtain ⟨hg₁, hwarm₁, hready₁⟩ := State.classEntry (e := e) X.warmed hcl
  generalize T.vm.noted g.method.cls index (.cls cA) = vm₁ at hg₁ hwarm₁ hready₁
  obtain ⟨kA₁, hkA₁, heA⟩ := hwarm₁.alike.2.2 _ _ hkA
  obtain ⟨kC₁, hkC₁, heC⟩ := hwarm₁.alike.2.2 _ _ hkC
  have hkindA₁ : kA₁.kind = .array comp' (.array .long) := by rw [heA]; exact hkindA
  have hkindC₁ : kC₁.kind = .array cc' .long := by rw [heC]; exact hkindC
  have X₁ := X.noted hwarm₁
  have XF := mg_stand X₁ cA comp' 6
  obtain ⟨hr1, hr2⟩ := X.roomAbove hcells hslots
  obtain ⟨f1, f2, f3, f4⟩ := mgS_f (T := T.setVm vm₁) (cA := cA) (cI := comp') 6
  obtain ⟨t', a1, b1⟩ := kk cA comp' _ (mgS (T.setVm vm₁) cA comp' 6).heap hnameA hcomp (by rw [f1]; rfl) (fun q hq => mgS_old (T := T.setVm vm₁) hq 6) f2 (fun j hj => mgS_in (T := T.setVm vm₁) 6 j hj) (fun q hq => by
    obtain ⟨j, -, hj⟩ := List.mem_map.mp hq
    rw [← hj]
    exact Nat.le_refl _) _ rfl XF
  refine ⟨t', ?_, b1⟩
  have hl1 : 7 ≤ e.platform.arrayLengthLimit := by rw [Launch.admits_arrayLengthLimit X.admits]; omega
  have hh1 : 56 ≤ e.platform.maxHeapBytes := by rw [Launch.admits_maxHeapBytes X.admits]; omega
  jvm_step X.here [hexec, hdg]
  simp only [Op.multianewarray.sem, wp_bind', W.resolveClassAt_links (State.method?_setTop g X.here.top) hg₁]
  rw [W.popN, if_neg (by decide)]
  refine ⟨g, State.topJava?_setTop' (s := T.setVm vm₁) g X.here.top, [.int 6, .int 7], rest, rfl, hstack, ?_⟩
  simp only [List.mapM_cons, List.mapM_nil, wp_bind', wp_pure']
  refine mg_make (kA := kA₁) (kC := kC₁) (cI := comp') (cc := cc') hkA₁ hkindA₁ hkC₁ hkindC₁ hl1 hh1 (by show T.heap.size + 7 ≤ _; omega) (by show T.slotsUsed + 48 ≤ _; omega) (fun d' acts' => ?_)
  have eS : ((T.setTop g).setVm vm₁).setTop { g with stack := rest } = (T.setVm vm₁).setTop { g with stack := rest } := by
    show ((T.setVm vm₁).setTop g).setTop _ = _
    rw [State.setTop_setTop]
  rw [eS, mgS_top]
  simp only [wp_bind', W.mark, W.pushRef, State.topJava?_setTop' _ XF.here.top, Option.some.injEq, exists_eq_left', State.setTop_setTop, State.heap_setTop]
  intro acts
  simp [jvm, XF.here.top]
  exact a1
end MX
/-- the row -/
def xmul (st : xS) : xS := (st.1 + 7, st.2.1 + 48, fun q => if q = 64 + st.1 then .inl (8, 6, .inr (.inr (.inr (.inr fun i => if i < 6 then some (64 + st.1 + 1 + i) else none)))) else if 64 + st.1 < q ∧ q ≤ 64 + st.1 + 6 then .inl (1, 7, .inr (.inl fun _ => 0)) else st.2.2 q)
theorem xW.mul {st : xS} {G : xG} {H H1 : Heap} (hK : ∀ i : Nat, G.ad (64 + i) = G.H0.size + i) (hW : xW G st H) (hz : H1.size = H.size + 7) (ho : ∀ q : Nat, q < H.size → H1[q]? = H[q]?) (h0 : H1[H.size]? = some (mgO (G.dA 8) H.size 6)) (h1 : ∀ j, j < 6 → H1[H.size + 1 + j]? = some (mgI (G.dA 1))) : xW G (xmul st) H1 := by
  obtain ⟨w1, w2, w3, w4⟩ := hW
  refine ⟨fun q hq => ?_, ?_, fun j hj => ?_, fun a ha => ?_⟩
  · rw [ho q (by omega)]
    exact w1 q hq
  · rw [hz, w2]
    show _ = G.H0.size + (st.1 + 7)
    omega
  · have hj : j < st.1 + 7 := hj
    by_cases c0 : j < st.1
    · have e : (xmul st).2.2 (64 + j) = st.2.2 (64 + j) := by
        show (if 64 + j = 64 + st.1 then _ else if 64 + st.1 < 64 + j ∧ 64 + j ≤ 64 + st.1 + 6 then _ else st.2.2 (64 + j)) = _
        rw [if_neg (by omega), if_neg (by omega)]
      rw [e]
      exact (w3 j c0).kept (ho _ (by show G.ad (64 + j) < _; rw [hK]; omega))
    · by_cases c1 : j = st.1
      · subst c1
        have e : (xmul st).2.2 (64 + st.1) = .inl (8, 6, .inr (.inr (.inr (.inr fun i => if i < 6 then some (64 + st.1 + 1 + i) else none)))) := if_pos rfl
        rw [e]
        show H1[G.ad (64 + st.1)]? = some (vp_cell (G.dA 8) (6, .inr (.inr (.inr (.inr fun k => ((if k < 6 then some (64 + st.1 + 1 + k) else none).map G.ad))))))
        rw [vp_cell_q, hK, ← w2, h0]
        unfold mgO arrV
        congr 2
        congr 1
        funext k
        have hk := k.isLt
        dsimp only
        rw [if_pos hk, if_pos hk]
        have e9 : (H.size + 1 + k.val : Nat) = G.ad (64 + st.1 + 1 + k.val) := by
          rw [show 64 + st.1 + 1 + k.val = 64 + (st.1 + 1 + k.val) by omega, hK, w2]
          omega
        exact congrArg Value.ref e9
      · obtain ⟨k, hk⟩ : ∃ k, j = st.1 + 1 + k := ⟨j - (st.1 + 1), by omega⟩
        have e : (xmul st).2.2 (64 + j) = .inl (1, 7, .inr (.inl fun _ => 0)) := by
          show (if 64 + j = 64 + st.1 then _ else if 64 + st.1 < 64 + j ∧ 64 + j ≤ 64 + st.1 + 6 then _ else st.2.2 (64 + j)) = _
          rw [if_neg (by omega), if_pos (by omega)]
        rw [e]
        show H1[G.ad (64 + j)]? = some (vp_cell (G.dA 1) (7, .inr (.inl fun _ => 0)))
        rw [vp_cell_l, hK, show G.H0.size + j = H.size + 1 + k by omega]
        exact h1 k (by omega)
  · have ha : ¬ (64 ≤ a ∧ a < 64 + (st.1 + 7)) := ha
    have e : ∀ b, b = a ∨ b = 40 → (xmul st).2.2 b = st.2.2 b := fun b hb => by
      show (if b = 64 + st.1 then _ else if 64 + st.1 < b ∧ b ≤ 64 + st.1 + 6 then _ else st.2.2 b) = _
      rw [if_neg (by omega), if_neg (by omega)]
    rw [e a (Or.inl rfl), e 40 (Or.inr rfl)]
    exact w4 a (by omega)
section MR
variable {y : xM} {pc : Nat} {lv : List (Nat × Value)} {stk : List Value} {st : xS} {r : Option Value} {st' : xS} {d : Nat}
theorem r_multi {index : Nat} (hd : decode y.2.1 pc = .ok (.multianewarray index 2, 4)) (hw : Cond.classLink y.1.cls index ("[" ++ (FieldType.array .long).toString) ∈ xT) (ho : Cond.arrayOver (.array .long) ∈ xTN) (ha : Cond.arrayClass .long ∈ xT)
    (kk : Rn y (pc + 4) lv (.ref (64 + st.1) :: stk) (xmul st) r st' d) : Rn y pc lv (.int 7 :: .int 6 :: stk) st r st' d := by
  have k1 : st.1 + 7 ≤ st'.1 := kk.1
  have k2 : st.2.1 + 48 ≤ st'.2.1 := kk.2.1
  refine ⟨by omega, by omega, fun G p l e R s m args below meth c H locs cells slots Q C g1 g2 hW hL hE ls hl => ?_⟩
  have C' := C
  obtain ⟨⟨hx, hb, hml, hown, hts⟩, -, hK, -, -⟩ := C
  refine W_mg hx hb hown (hts _ hw) (show (Cond.arrayOver (.array .long)).before args s = true from hK.nw ho) (hts _ ha) rfl hd rfl (by omega) (by omega) fun cA cI L H1 f1 f2 z1 o1 b0 b1 hLL => ?_
  have hA : cA = G.dA 8 := xdA hK (by decide) (ty := .array .long) rfl (fun C h => by cases h) f1
  have hI : cI = G.dA 1 := xdA hK (by decide) (ty := .long) rfl (fun C h => by cases h) f2
  subst hA hI
  have e2 : Value.ref H.size = xcv G.ad (.ref (64 + st.1)) := by
    show _ = Value.ref (G.ad (64 + st.1))
    rw [hK.2.1, hW.2.1]
  have hW1 : xW G (xmul st) H1 := xW.mul hK.2.1 hW z1 o1 b0 b1
  rw [e2]
  refine kk.2.2 G p l e R s m args below meth c H1 (locs ++ L) (cells + 7) (slots + 48) Q C' (by show cells + 7 + st'.1 ≤ R.cells + (st.1 + 7); omega) (by show slots + 48 + st'.2.1 ≤ R.slots + (st.2.1 + 48); omega) hW1 (fun q hq => ?_) hE ls hl
  rcases List.mem_append.mp hq with h | h
  · exact hL q h
  · have := hLL q h
    have := hW.2.1
    omega
end MR

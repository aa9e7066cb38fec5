/-! THE CORE: a pure machine. A pure heap: cells by number (64 and on: those made since the law began, in their order; below: what was there: 0 .. 16 the texts, 20 .. 36 their bytes, 40 the script, 41 the formatter);
    Rn: from this pure state the method runs on to its end with that answer and that pure state; Ct: a method's contract. Every row below is an instruction. -/
abbrev xC : Type := (Nat × vp_A) ⊕ (Nat × List Value)
abbrev xS : Type := Nat × Nat × (Nat → xC)
abbrev xM : Type := MethodName × ByteArray × Nat × Option FieldType
/-- the tables' words that every frame keeps -/
def xT : List Cond := lw_tbl.filter goodWord
theorem xin {w : Cond} (i : Nat) (h : lw_tbl[i]? = some w) (hg : goodWord w = true) : w ∈ xT := List.mem_filter.mpr ⟨List.mem_of_getElem? h, hg⟩
/-- those of nest mates, of abstract methods and of arrays of references, which are kept as what a frame knows -/
def xnw : Cond → Bool
  | .fieldLinkNest .. => true
  | .methodLinkNest .. => true
  | .declares _ => true
  | .arrayOver (.object _) => true
  | .arrayOver (.array _) => true
  | _ => false
/-- arrays of arrays: their word stays, too -/
theorem xAA {t : FieldType} {u U : State} (hvm : u.vm.Alike U.vm) (h : (Cond.arrayOver (.array t)).before #[] u = true) : (Cond.arrayOver (.array t)).before #[] U = true := by
  obtain ⟨comp, c, k, h1, h2, h3, h4, h5⟩ := arrayOverA_spec h
  obtain ⟨k', hk', he⟩ := hvm.2.2 _ _ h3
  have hi : (U.vm.classes.findIdx? fun (x : Class) => match x.kind with | .array component _ => component == comp | _ => false) = some c := by
    rw [hvm.findIdx?_eq _ (fun _ => rfl)]
    exact h2
  have hkind : k'.kind = .array comp (.array t) := by rw [he]; exact h4
  have f1 : U.vm.findClass (FieldType.array t).toString = some comp := by rw [hvm.findClass]; exact h1
  have f2 : U.vm.findClass ("[" ++ (FieldType.array t).toString) = some c := by rw [hvm.findClass]; exact h5
  unfold Cond.before Cond.holds
  simp only [Cond.value]
  rw [f1, Option.bind_some]
  refine (congrArg (fun o : Option Nat => (o.bind (fun c => (U.vm.classes[c]?).map fun (k : Class) => match k.kind with | .array _ ty => decide (ty = FieldType.array t) && decide (U.vm.findClass ("[" ++ (FieldType.array t).toString) = some c) | _ => false) == some true)) hi).trans ?_
  simp [hk', hkind, f2]
def xTN : List Cond := lw_tbl.filter xnw
theorem xinN {w : Cond} (i : Nat) (h : lw_tbl[i]? = some w) (hg : xnw w = true) : w ∈ xTN := List.mem_filter.mpr ⟨List.mem_of_getElem? h, hg⟩
def xN (s : State) : Prop := ∀ w ∈ xTN, w.before #[] s = true
theorem xN.warm {s U : State} (hW : s.WarmedH U.vm) (h : xN s) : xN U := fun w hw => by
  have h1 := h w hw
  have h2 := (List.mem_filter.mp hw).2
  match w, h2, h1 with
  | .fieldLinkNest .., _, h1 => exact va_Nw.warmF hW h1
  | .methodLinkNest .., _, h1 => exact va_Nw.warmM hW h1
  | .declares _, _, h1 => exact va_Nw.warmD hW h1
  | .arrayOver (.object _), _, h1 => exact va_AO.moved hW.alike h1
  | .arrayOver (.array _), _, h1 => exact xAA hW.alike h1
theorem xN.same {u U : State} (hv : U.vm = u.vm) (h : xN u) : xN U := fun w hw => by
  have h1 := h w hw
  have h2 := (List.mem_filter.mp hw).2
  match w, h2, h1 with
  | .fieldLinkNest .., _, h1 => exact va_Nw.same rfl hv.symm h1
  | .methodLinkNest .., _, h1 => exact va_Nw.same rfl hv.symm h1
  | .declares _, _, h1 => exact va_Nw.same rfl hv.symm h1
  | .arrayOver (.object _), _, h1 => exact va_AO.moved (by rw [hv]; exact Vm.Alike.refl _) h1
  | .arrayOver (.array _), _, h1 => exact xAA (by rw [hv]; exact Vm.Alike.refl _) h1
/-- the launch's data: class numbers and slots, array classes, addresses, addresses of the texts' bytes, the heap at the law's begin, the script -/
abbrev xG : Type := va_G × (Nat → ClassId) × (Nat → Nat) × (Nat → Nat) × Heap × Nat × (Nat → Int32)
abbrev xG.D (G : xG) : va_G := G.1
abbrev xG.dA (G : xG) : Nat → ClassId := G.2.1
abbrev xG.ad (G : xG) : Nat → Nat := G.2.2.1
abbrev xG.aV (G : xG) : Nat → Nat := G.2.2.2.1
abbrev xG.H0 (G : xG) : Heap := G.2.2.2.2.1
abbrev xG.L (G : xG) : Nat := G.2.2.2.2.2.1
abbrev xG.xs (G : xG) : Nat → Int32 := G.2.2.2.2.2.2
def xcl : List vw_C := [(RX0, TX0, 1), (RX1, TX1, 3), (RX2, TX2, 0), (RX3, TX3, 1), (RX4, TX4, 4), (RX5, TX5, 10), (RX6, TX6, 8), (RX7, TX7, 10), (RX8, TX8, 4), (RX9, TX9, 11), (RX10, TX10, 8), (RX11, TX11, 31)]
def xty : Nat → FieldType
  | 0 => .int | 1 => .long | 2 => .byte | 3 => .boolean | 4 => .object "HomeGround$League" | 5 => .object "HomeGround$Law" | 6 => .object "HomeGround$Plan" | 7 => .object "HomeGround$Told" | _ => .array .long
def xtys (G : xG) : List (ClassId × FieldType) := (List.range 9).map (fun t => (G.dA t, xty t))
/-- a pure value as the machine has it -/
def xcv (ad : Nat → Nat) : Value → Value
  | .ref a => .ref (ad a)
  | v => v
def xcA (ad : Nat → Nat) (x : vp_A) : vp_A := match x.2 with
  | .inr (.inr (.inr (.inr f))) => (x.1, .inr (.inr (.inr (.inr (fun k => (f k).map ad)))))
  | _ => x
def xE (G : xG) : xC → va_E
  | .inl x => .inl (G.dA x.1, xcA G.ad x.2)
  | .inr o => .inr (o.1, o.2.map (xcv G.ad))
/-- the machine's heap holds the pure heap; what was there before the law began is as it was -/
def xJ : xC := .inr (99, [])
def xW (G : xG) (st : xS) (H : Heap) : Prop := (∀ q : Nat, q < G.H0.size → H[q]? = G.H0[q]?) ∧ H.size = G.H0.size + st.1 ∧ (∀ i : Nat, i < st.1 → va_at G.D xcl (G.ad (64 + i), xE G (st.2.2 (64 + i))) H) ∧
  ∀ a : Nat, ¬ (64 ≤ a ∧ a < 64 + st.1) → st.2.2 a = xJ ∨ (a = 40 ∧ st.2.2 40 = .inl (9, G.L, .inl G.xs))
/-- the texts of the class Reader: their entries of the constant pool and their words; their lengths, their bytes -/
def xtx : List (Nat × String) := [(91, "ground"), (93, "side"), (95, "miles"), (97, "base"), (99, "known"), (101, "rest"), (103, "sung"), (105, "judged"), (107, "height"), (109, "day"), (111, "people"), (113, "empty"), (115, "soft"), (117, "strict"), (119, "at"), (121, "game"), (123, "")]
def xlen : List Nat := [6, 4, 5, 4, 5, 4, 4, 6, 6, 3, 6, 5, 4, 6, 2, 4, 0]
def xbyt : List (List Int32) := [[103, 114, 111, 117, 110, 100], [115, 105, 100, 101], [109, 105, 108, 101, 115], [98, 97, 115, 101], [107, 110, 111, 119, 110], [114, 101, 115, 116], [115, 117, 110, 103], [106, 117, 100, 103, 101, 100], [104, 101, 105, 103, 104, 116], [100, 97, 121], [112, 101, 111, 112, 108, 101], [101, 109, 112, 116, 121], [115, 111, 102, 116], [115, 116, 114, 105, 99, 116], [97, 116], [103, 97, 109, 101], []]
/-- what a frame knows of the launch -/
def xK (G : xG) (s : State) : Prop := va_K G.D xcl (xtys G) s ∧ (∀ i : Nat, G.ad (64 + i) = G.H0.size + i) ∧ va_X (G.ad 40) G.L G.xs s G.H0 ∧
  (∀ (i : Nat) (q : Nat × String), xtx[i]? = some q → vk_R "HomeGround$Reader" q.1 q.2 (G.ad i) s) ∧ vk_S 17 xlen xbyt G.ad G.aV (fun q => G.H0.size ≤ q) s G.H0 ∧ (∀ i : Nat, i < 17 → G.ad (20 + i) = G.aV i) ∧
  va_Z "java/lang/String" "COMPACT_STRINGS" "Z" (.int 1) (fun q => G.H0.size ≤ q) s G.H0 ∧
  (va_Z "jdk/internal/util/Preconditions" "SIOOBE_FORMATTER" "Ljava/util/function/BiFunction;" .null (fun q => G.H0.size ≤ q) s G.H0 ∨ va_Z "jdk/internal/util/Preconditions" "SIOOBE_FORMATTER" "Ljava/util/function/BiFunction;" (.ref (G.ad 41)) (fun q => G.H0.size ≤ q) s G.H0) ∧ xN s
theorem xK.warm {G : xG} {s U : State} (hW : s.WarmedH U.vm) (h : xK G s) : xK G U := by
  obtain ⟨h1, h2, h3, h4, h5, h6, h7, h8, h9⟩ := h
  exact ⟨h1.moved hW.alike, h2, h3.moved hW.alike, fun i q hq => (h4 i q hq).warm hW, h5.moved hW.alike, h6, h7.moved hW.alike, h8.imp (fun h => h.moved hW.alike) (fun h => h.moved hW.alike), h9.warm hW⟩
theorem xK.nw {G : xG} {s : State} (h : xK G s) {w : Cond} (hw : w ∈ xTN) : w.before #[] s = true := h.2.2.2.2.2.2.2.2 w hw
theorem xK.same {G : xG} {u U : State} (hv : U.vm = u.vm) (h : xK G u) : xK G U := by
  have ha : u.vm.Alike U.vm := by rw [hv]; exact Vm.Alike.refl _
  obtain ⟨h1, h2, h3, h4, h5, h6, h7, h8, h9⟩ := h
  exact ⟨h1.moved ha, h2, h3.moved ha, fun i q hq => (h4 i q hq).same hv, h5.moved ha, h6, h7.moved ha, h8.imp (fun h => h.moved ha) (fun h => h.moved ha), h9.same hv⟩
abbrev xst (G : xG) (stk : List Value) : List Value := stk.map (xcv G.ad)
abbrev xlv (G : xG) (lv : List (Nat × Value)) : List (Nat × Value) := lv.map (fun q => (q.1, xcv G.ad q.2))
def xCtx (y : xM) (d : Nat) (G : xG) (p : Program) (R : Room) (s : State) (m : MethodId) (args : Array Value) (meth : Method) (c : Code) : Prop :=
  CallFix p m c y.2.1 y.2.2.1 s args xT y.1.cls ∧ (y.1.name = "<init>" → meth.name = "<init>") ∧ xK G s ∧ d ≤ R.frames ∧ 45 * d ≤ R.locals
def xRet : Option Value → Instr
  | none => .return_
  | some (.int _) => .ireturn
  | some (.long _) => .lreturn
  | _ => .areturn
/-- an answer that the method's head allows -/
def xRetOk (ret : Option FieldType) : Option Value → Prop
  | none => ret = none
  | some (.int v) => ∃ ty, ret = some ty ∧ narrow ty (.int v) = .int v
  | some (.long _) => ret = some .long
  | some .null => ∃ rt, ret = some rt ∧ ((∃ n, rt = .object n) ∨ ∃ t, rt = .array t)
  | some (.ref _) => ∃ rt, ret = some rt ∧ ((∃ n, rt = .object n) ∨ ∃ t, rt = .array t)
  | _ => False
def xEnd (y : xM) (G : xG) (r : Option Value) (st' : xS) (p : Program) (l : Launch) (e : Env) (R : Room) (s : State) (m : MethodId) (args : Array Value) (below : List Frame) (meth : Method) (c : Code) (Q : State → Prop) : Prop :=
  ∀ (pc : Nat) (ls : Array Slot) (H : Heap) (locs : List Loc) (cells slots : Nat), decode y.2.1 pc = .ok (xRet r, 1) → xRetOk y.2.2.2 r → xW G st' H → (∀ q ∈ locs, G.H0.size ≤ q.base) → cells ≤ R.cells → slots ≤ R.slots →
    W p l e R s m args below meth c H locs cells slots Q (F0 m pc ls (xst G r.toList))
def Rn (y : xM) (pc : Nat) (lv : List (Nat × Value)) (stk : List Value) (st : xS) (r : Option Value) (st' : xS) (d : Nat) : Prop :=
  st.1 ≤ st'.1 ∧ st.2.1 ≤ st'.2.1 ∧ ∀ (G : xG) (p : Program) (l : Launch) (e : Env) (R : Room) (s : State) (m : MethodId) (args : Array Value) (below : List Frame) (meth : Method) (c : Code) (H : Heap) (locs : List Loc) (cells slots : Nat) (Q : State → Prop),
    xCtx y d G p R s m args meth c → cells + st'.1 ≤ R.cells + st.1 → slots + st'.2.1 ≤ R.slots + st.2.1 → xW G st H → (∀ q ∈ locs, G.H0.size ≤ q.base) →
    xEnd y G r st' p l e R s m args below meth c Q → ∀ ls : Array Slot, lv_has ls y.2.2.1 (xlv G lv) → W p l e R s m args below meth c H locs cells slots Q (F0 m pc ls (xst G stk))
def xws (y : xM) : List Cond := Cond.code y.1 y.2.1 y.2.2.1 y.2.2.2 :: xT
def xQc (G : xG) (r : Option Value) (st' : xS) : Array Value → State → Outcome → State → Prop := fun _ _ o t => o = .returned (r.map (xcv G.ad)) ∧ xW G st' t.heap
def Ct (y : xM) (as : List Value) (st : xS) (r : Option Value) (st' : xS) (d : Nat) : Prop :=
  st.1 ≤ st'.1 ∧ st.2.1 ≤ st'.2.1 ∧ ∀ (G : xG) (l : Launch) (C S : Nat), st'.1 ≤ C + st.1 → st'.2.1 ≤ S + st.2.1 →
    Met l y.1 (xws y) ({ frames := d, cells := C, slots := S, locals := 45 * d } : Room) (va_Pc (as.map (xcv G.ad)) (fun U => xW G st U.heap ∧ xK G U)) (xQc G r st') C S (fun q => G.H0.size ≤ q)
section XR
variable {y : xM} {pc pc2 : Nat} {lv lv2 : List (Nat × Value)} {stk stk2 : List Value} {st st2 : xS} {r : Option Value} {st' : xS} {d : Nat}
/-- an instruction that leaves the heap -/
theorem Rn.lift (k : Rn y pc2 lv2 stk2 st r st' d) (h : ∀ (G : xG) {p : Program} {l : Launch} {e : Env} {R : Room} {s : State} {m : MethodId} {args : Array Value} {below : List Frame} {meth : Method} {c : Code} {H : Heap} {locs : List Loc} {cells slots : Nat} {Q : State → Prop},
      p.tables.exec = Jvm.exec → c.code = y.2.1 → s.vm.findClass y.1.cls = some m.cls → (∀ w ∈ xT, w.before args s = true) → xK G s → xW G st H →
      (∀ ls : Array Slot, lv_has ls y.2.2.1 (xlv G lv2) → W p l e R s m args below meth c H locs cells slots Q (F0 m pc2 ls (xst G stk2))) →
      ∀ ls : Array Slot, lv_has ls y.2.2.1 (xlv G lv) → W p l e R s m args below meth c H locs cells slots Q (F0 m pc ls (xst G stk))) : Rn y pc lv stk st r st' d :=
  ⟨k.1, k.2.1, fun G p l e R s m args below meth c H locs cells slots Q C h1 h2 hW hL hE => h G C.1.1 C.1.2.1 C.1.2.2.2.1 C.1.2.2.2.2 C.2.2.1 hW (k.2.2 G p l e R s m args below meth c H locs cells slots Q C h1 h2 hW hL hE)⟩
theorem xlv_at {G : xG} {ls : Array Slot} {nL i : Nat} {v : Value} (h : lv_has ls nL (xlv G lv)) (hv : lv.lookup i = some v) : ls[i]? = some (.val (xcv G.ad v)) := by
  have hm : (i, v) ∈ lv := by
    clear h
    induction lv with
    | nil => cases hv
    | cons q t ih =>
      obtain ⟨j, w⟩ := q
      rw [List.lookup_cons] at hv
      by_cases hij : i = j
      · subst hij
        simp at hv
        subst hv
        exact List.mem_cons_self
      · have : (i == j) = false := by simpa using hij
        rw [this] at hv
        exact List.mem_cons_of_mem _ (ih hv)
  exact h.2.2 (i, xcv G.ad v) (List.mem_map.mpr ⟨(i, v), hm, rfl⟩)
end XR

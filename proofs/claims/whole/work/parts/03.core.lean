/-! THE CORE: a pure machine. A pure heap: cells by number (32 and on: those made since the law began, in their order; below: constants of old);
    Rn: from this pure state the method runs on to its end with that answer and that pure state; Ct: a method's contract. Every row below is an instruction. -/
abbrev xC : Type := (Nat × vp_A) ⊕ (Nat × List Value)
abbrev xS : Type := Nat × Nat × (Nat → xC)
abbrev xM : Type := MethodName × ByteArray × Nat × Option FieldType
/-- the launch's data: class numbers and slots, array classes, addresses, addresses of the texts' bytes, the heap at the law's begin, the script -/
abbrev xG : Type := va_G × (Nat → ClassId) × (Nat → Nat) × (Nat → Nat) × Heap × Nat × (Nat → Int32)
abbrev xG.D (G : xG) : va_G := G.1
abbrev xG.dA (G : xG) : Nat → ClassId := G.2.1
abbrev xG.ad (G : xG) : Nat → Nat := G.2.2.1
abbrev xG.aV (G : xG) : Nat → Nat := G.2.2.2.1
abbrev xG.H0 (G : xG) : Heap := G.2.2.2.2.1
abbrev xG.L (G : xG) : Nat := G.2.2.2.2.2.1
abbrev xG.xs (G : xG) : Nat → Int32 := G.2.2.2.2.2.2
def xcl : List vw_C := [(RX0, TX0, 1), (RX1, TX1, 3), (RX2, TX2, 0), (RX3, TX3, 1), (RX4, TX4, 4), (RX5, TX5, 10), (RX6, TX6, 8), (RX7, TX7, 10), (RX8, TX8, 4), (RX9, TX9, 11), (RX10, TX10, 8), (RX11, TX11, 31)]
def xty : Nat → FieldType
  | 0 => .int | 1 => .long | 2 => .byte | 3 => .boolean | 4 => .object "HomeGround$League" | 5 => .object "HomeGround$Law" | 6 => .object "HomeGround$Plan" | 7 => .object "HomeGround$Told" | _ => .array .long
def xtys (G : xG) : List (ClassId × FieldType) := (List.range 9).map (fun t => (G.dA t, xty t))
/-- a pure value as the machine has it -/
def xcv (ad : Nat → Nat) : Value → Value
  | .ref a => .ref (ad a)
  | v => v
def xcA (ad : Nat → Nat) (x : vp_A) : vp_A := match x.2 with
  | .inr (.inr (.inr (.inr f))) => (x.1, .inr (.inr (.inr (.inr (fun k => (f k).map ad)))))
  | _ => x
def xE (G : xG) : xC → va_E
  | .inl x => .inl (G.dA x.1, xcA G.ad x.2)
  | .inr o => .inr (o.1, o.2.map (xcv G.ad))
/-- the machine's heap holds the pure heap; what was there before the law began is as it was -/
def xW (G : xG) (st : xS) (H : Heap) : Prop := (∀ q : Nat, q < G.H0.size → H[q]? = G.H0[q]?) ∧ H.size = G.H0.size + st.1 ∧ ∀ i : Nat, i < st.1 → va_at G.D xcl (G.ad (32 + i), xE G (st.2.2 (32 + i))) H
/-- the texts of the class Reader: their entries of the constant pool, their words, their lengths, their bytes -/
def xtx : List (Nat × String) := [(93, "ground"), (94, "side")]
/-- what a frame knows of the launch -/
def xK (G : xG) (s : State) : Prop := va_K G.D xcl (xtys G) s ∧ ∀ i : Nat, G.ad (32 + i) = G.H0.size + i
abbrev xst (G : xG) (stk : List Value) : List Value := stk.map (xcv G.ad)
abbrev xlv (G : xG) (lv : List (Nat × Value)) : List (Nat × Value) := lv.map (fun q => (q.1, xcv G.ad q.2))
def xCtx (y : xM) (d : Nat) (G : xG) (p : Program) (R : Room) (s : State) (m : MethodId) (args : Array Value) (meth : Method) (c : Code) : Prop :=
  CallFix p m c y.2.1 y.2.2.1 s args lw_tbl y.1.cls ∧ (y.1.name = "<init>" → meth.name = "<init>") ∧ xK G s ∧ d ≤ R.frames ∧ 45 * d ≤ R.locals
def xRet : Option Value → Instr
  | none => .return_
  | some (.int _) => .ireturn
  | some (.long _) => .lreturn
  | _ => .areturn
def xEnd (y : xM) (G : xG) (r : Option Value) (st' : xS) (p : Program) (l : Launch) (e : Env) (R : Room) (s : State) (m : MethodId) (args : Array Value) (below : List Frame) (meth : Method) (c : Code) (Q : State → Prop) : Prop :=
  ∀ (pc : Nat) (ls : Array Slot) (H : Heap) (locs : List Loc) (cells slots : Nat), decode y.2.1 pc = .ok (xRet r, 1) → xW G st' H → (∀ q ∈ locs, G.H0.size ≤ q.base) → cells ≤ R.cells → slots ≤ R.slots →
    W p l e R s m args below meth c H locs cells slots Q (F0 m pc ls (xst G r.toList))
def Rn (y : xM) (pc : Nat) (lv : List (Nat × Value)) (stk : List Value) (st : xS) (r : Option Value) (st' : xS) (d : Nat) : Prop :=
  st.1 ≤ st'.1 ∧ st.2.1 ≤ st'.2.1 ∧ ∀ (G : xG) (p : Program) (l : Launch) (e : Env) (R : Room) (s : State) (m : MethodId) (args : Array Value) (below : List Frame) (meth : Method) (c : Code) (H : Heap) (locs : List Loc) (cells slots : Nat) (Q : State → Prop),
    xCtx y d G p R s m args meth c → cells + st'.1 ≤ R.cells + st.1 → slots + st'.2.1 ≤ R.slots + st.2.1 → xW G st H → (∀ q ∈ locs, G.H0.size ≤ q.base) →
    xEnd y G r st' p l e R s m args below meth c Q → ∀ ls : Array Slot, lv_has ls y.2.2.1 (xlv G lv) → W p l e R s m args below meth c H locs cells slots Q (F0 m pc ls (xst G stk))
def xws (y : xM) : List Cond := Cond.code y.1 y.2.1 y.2.2.1 y.2.2.2 :: lw_tbl
def xQc (G : xG) (r : Option Value) (st' : xS) : Array Value → State → Outcome → State → Prop := fun _ _ o t => o = .returned (r.map (xcv G.ad)) ∧ xW G st' t.heap
def Ct (y : xM) (as : List Value) (st : xS) (r : Option Value) (st' : xS) (d : Nat) : Prop :=
  st.1 ≤ st'.1 ∧ st.2.1 ≤ st'.2.1 ∧ ∀ (G : xG) (l : Launch) (C S : Nat), st'.1 ≤ C + st.1 → st'.2.1 ≤ S + st.2.1 →
    Met l y.1 (xws y) ({ frames := d, cells := C, slots := S, locals := 45 * d } : Room) (va_Pc (as.map (xcv G.ad)) (fun U => xW G st U.heap ∧ xK G U)) (xQc G r st') C S (fun q => G.H0.size ≤ q)
section XR
variable {y : xM} {pc pc2 : Nat} {lv lv2 : List (Nat × Value)} {stk stk2 : List Value} {st st2 : xS} {r : Option Value} {st' : xS} {d : Nat}
/-- an instruction that leaves the heap -/
theorem Rn.lift (k : Rn y pc2 lv2 stk2 st r st' d) (h : ∀ (G : xG) {p : Program} {l : Launch} {e : Env} {R : Room} {s : State} {m : MethodId} {args : Array Value} {below : List Frame} {meth : Method} {c : Code} {H : Heap} {locs : List Loc} {cells slots : Nat} {Q : State → Prop},
      p.tables.exec = Jvm.exec → c.code = y.2.1 → s.vm.findClass y.1.cls = some m.cls → (∀ w ∈ lw_tbl, w.before args s = true) → xK G s → xW G st H →
      (∀ ls : Array Slot, lv_has ls y.2.2.1 (xlv G lv2) → W p l e R s m args below meth c H locs cells slots Q (F0 m pc2 ls (xst G stk2))) →
      ∀ ls : Array Slot, lv_has ls y.2.2.1 (xlv G lv) → W p l e R s m args below meth c H locs cells slots Q (F0 m pc ls (xst G stk))) : Rn y pc lv stk st r st' d :=
  ⟨k.1, k.2.1, fun G p l e R s m args below meth c H locs cells slots Q C h1 h2 hW hL hE => h G C.1.1 C.1.2.1 C.1.2.2.2.1 C.1.2.2.2.2 C.2.2.1 hW (k.2.2 G p l e R s m args below meth c H locs cells slots Q C h1 h2 hW hL hE)⟩
theorem xlv_at {G : xG} {ls : Array Slot} {nL i : Nat} {v : Value} (h : lv_has ls nL (xlv G lv)) (hv : lv.lookup i = some v) : ls[i]? = some (.val (xcv G.ad v)) := by
  have hm : (i, v) ∈ lv := by
    clear h
    induction lv with
    | nil => cases hv
    | cons q t ih =>
      obtain ⟨j, w⟩ := q
      rw [List.lookup_cons] at hv
      by_cases hij : i = j
      · subst hij
        simp at hv
        subst hv
        exact List.mem_cons_self
      · have : (i == j) = false := by simpa using hij
        rw [this] at hv
        exact List.mem_cons_of_mem _ (ih hv)
  exact h.2.2 (i, xcv G.ad v) (List.mem_map.mpr ⟨(i, v), hm, rfl⟩)
end XR

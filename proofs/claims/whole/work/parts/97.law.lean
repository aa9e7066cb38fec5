/-! THE LAW: out of its run as a function the claim -/
/-! THE CLAIM OUT OF ONE WALK OF THE LAW'S BODY. Your part is whole_start (and what it stands on); all else here is the same for every law, but numbers. -/
def R_law : String := "HomeGroundLaw"
def lw_P (b : Addr) (xs : List Int32) (args : Array Value) (s : State) : Prop := args = #[.ref b] ∧ s.IntsAt b xs ∧ xs.length ≤ 4608 ∧ (Jvm.Cond.and given_1 narrow_1).before args s = true
def lw_Q (_ : Array Value) (s : State) (o : Outcome) (t : State) : Prop := o = .returned (some (.int 1)) ∧ Framed s o t [] 600000 7302250
def lw_Z (below : List Frame) (a : Array Value) (s : State) : State → Prop := fun t => ∃ o, t.status = .running ∧ Ended t below o ∧ lw_Q a s o t
/-- the law's own end, with 1 on the stack, nothing written that was there before, its room as the claim has it -/
theorem lw_ret {p : Program} {l : Launch} {e : Env} {s : State} {m : MethodId} {below : List Frame} {meth : Method} {c : Code} {b : Nat} (hx : p.tables.exec = Jvm.exec) (hb : c.code = code) (hr : meth.sig.returnType = ret) (hlocks : meth.locks = false) {pc : Nat} {H : Heap} {ls : Array Slot} (hdg : decode code pc = .ok (.ireturn, 1)) : W p l e room_1 s m #[Value.ref b] below meth c H [] 600000 7302250 (lw_Z below #[Value.ref b] s) (F0 m pc ls [.int 1]) := by
  intro T hT X
  obtain ⟨fs, hret, hrun, hended, hW, hframe⟩ := X.leave (v := some (.int 1)) (hlocks := hlocks) (fun h => by rw [hr] at h; cases h)
  have hmeth' : T.vm.method? m = some meth := X.method'
  refine ⟨T.setFrames fs, ?_, .returned (some (.int 1)), hrun, hended, rfl, ⟨_, rfl⟩, hW, hframe⟩
  jvm_step X.here [X.here.top, hx, hb, hdg, hmeth', hr, ret, narrow_b1]
  (try refine ⟨rfl, ?_⟩); (try refine ⟨rfl, ?_⟩)
  first | (intro acts; rw [hret _ acts rfl rfl rfl]) | rw [hret _ _ rfl rfl rfl]
  exact Steps.refl _
/-- what holds at the law's entry: the machine, the code, the tables' words (any of lw_tbl by 'hts w (by decide +kernel)'), the script of L ints xs at the cell b, what the Statement gives of the start (any of its parts by flat_of_before) -/
def lw_At (p : Program) (s : State) (m : MethodId) (meth : Method) (c : Code) (b L : Nat) (xs : Nat → Int32) : Prop :=
  p.tables.exec = Jvm.exec ∧ c.code = code ∧ meth.sig.returnType = ret ∧ c.maxLocals = 4 ∧ s.vm.findClass R_law = some m.cls ∧ (∀ w ∈ lw_tbl, w.before #[Value.ref b] s = true) ∧ va_X b L xs s s.heap ∧ b < s.heap.size ∧ meth.locks = false ∧ (Jvm.Cond.and given_1 narrow_1).before #[Value.ref b] s = true


theorem xlk {own : String} {w : Cond} (i : Nat) (h : lw_tbl[i]? = some w) : w ∈ lw_tbl := List.mem_of_getElem? h
theorem x_known {s : State} {args : Array Value} (hts : ∀ w ∈ lw_tbl, w.before args s = true) : ∀ k : Nat, ∃ q : ClassId × (Nat → Nat), ∀ q0, xcl[k]? = some q0 → u_Kn s q0.1 q0.2.1 q0.2.2 q.1 q.2 := by
  have hT : ∀ w ∈ xT, w.before args s = true := fun w hw => hts w (List.mem_filter.mp hw).1
  have one : ∀ {ci : Nat} {C : String} {T : u_T} {N n : Nat}, xcls ci C T N → Cond.instantiable C n ∈ xT → ∃ q : ClassId × (Nat → Nat), ∀ q0, xcl[ci]? = some q0 → u_Kn s q0.1 q0.2.1 q0.2.2 q.1 q.2 := by
    intro ci C T N n h1 h2
    obtain ⟨cC, iS, h⟩ := u_known (C := C) (T := T) (N := N) hT h1.2.1 (hT _ h2)
    exact ⟨(cC, iS), fun q0 hq => by rw [h1.1] at hq; cases hq; exact h⟩
  intro k
  match k with
  | 0 => exact one xc_X0 (xin 803 (by decide +kernel) rfl : Cond.instantiable RX0 1 ∈ xT)
  | 1 => exact one xc_X1 (xin 317 (by decide +kernel) rfl : Cond.instantiable RX1 3 ∈ xT)
  | 2 =>
    obtain ⟨cL, iS, hL⟩ := u_known (C := RX4) (T := TX4) (N := 4) hT xc_X4.2.1 (hT _ (xin 213 (by decide +kernel) rfl : Cond.instantiable RX4 4 ∈ xT))
    obtain ⟨p, k, kp, e1, e2, e3, e4, e5, e6, e7⟩ := Cond.superclass_spec hL.2.1 (hts (.superclass "HomeGround$League" "HomeGround$Kind") (List.mem_of_getElem? (i := 235) (by decide +kernel)))
    exact ⟨(p, fun _ => 0), fun q0 hq => by cases hq; exact ⟨fun k hk => absurd hk (Nat.not_lt_zero k), e1, kp, e3, e6⟩⟩
  | 3 => exact one xc_X3 (xin 237 (by decide +kernel) rfl : Cond.instantiable RX3 1 ∈ xT)
  | 4 => exact one xc_X4 (xin 213 (by decide +kernel) rfl : Cond.instantiable RX4 4 ∈ xT)
  | 5 => exact one xc_X5 (xin 207 (by decide +kernel) rfl : Cond.instantiable RX5 10 ∈ xT)
  | 6 => exact one xc_X6 (xin 247 (by decide +kernel) rfl : Cond.instantiable RX6 8 ∈ xT)
  | 7 => exact one xc_X7 (xin 168 (by decide +kernel) rfl : Cond.instantiable RX7 10 ∈ xT)
  | 8 => exact one xc_X8 (xin 336 (by decide +kernel) rfl : Cond.instantiable RX8 4 ∈ xT)
  | 9 => exact one xc_X9 (xin 115 (by decide +kernel) rfl : Cond.instantiable RX9 11 ∈ xT)
  | 10 => exact one xc_X10 (xin 107 (by decide +kernel) rfl : Cond.instantiable RX10 8 ∈ xT)
  | 11 => exact one xc_X11 (xin 1180 (by decide +kernel) rfl : Cond.instantiable RX11 31 ∈ xT)
  | k + 12 => exact ⟨(0, fun _ => 0), fun q0 hq => by simp [xcl] at hq⟩
theorem x_arr {s : State} {args : Array Value} (hts : ∀ w ∈ lw_tbl, w.before args s = true) : ∀ t : Nat, ∃ cA : ClassId, t < 9 → ArrOfT s cA (xty t) ∧ va_RA s cA (xty t) := by
  have prim : ∀ {t : Nat}, (∀ C, xty t ≠ .object C) → Cond.arrayClass (xty t) ∈ lw_tbl → ∃ cA : ClassId, t < 9 → ArrOfT s cA (xty t) ∧ va_RA s cA (xty t) := by
    intro t hno hw
    obtain ⟨c, k, comp, h1, h2, h3⟩ := Cond.arrayClass_spec (hts _ hw)
    refine ⟨c, fun _ => ⟨fun n z => ⟨(fun q h => by cases h), k, h2, comp, h3⟩, ?_⟩⟩
    generalize xty t = ty at h1 hno ⊢
    cases ty <;> first | exact h1 | exact absurd rfl (hno _)
  have refs : ∀ {t : Nat} {C : String}, xty t = .object C → Cond.arrayOver (.object C) ∈ lw_tbl → ∃ cA : ClassId, t < 9 → ArrOfT s cA (xty t) ∧ va_RA s cA (xty t) := by
    intro t C ht hw
    obtain ⟨comp, c, k, h1, h2, h3, h4, h5⟩ := Cond.arrayOver_spec (hts _ hw)
    refine ⟨c, fun _ => ?_⟩
    rw [ht]
    exact ⟨fun n z => ⟨(fun q h => by cases h), k, h3, comp, h4⟩, k, comp, h3, h4, h1, h5⟩
  intro t
  match t with
  | 0 => exact prim (by intro C h; cases h) (List.mem_of_getElem? (i := 164) (by decide +kernel))
  | 1 => exact prim (by intro C h; cases h) (List.mem_of_getElem? (i := 334) (by decide +kernel))
  | 2 => exact prim (by intro C h; cases h) (List.mem_of_getElem? (i := 165) (by decide +kernel))
  | 3 => exact prim (by intro C h; cases h) (List.mem_of_getElem? (i := 1279) (by decide +kernel))
  | 4 => exact refs (C := "HomeGround$League") rfl (List.mem_of_getElem? (i := 121) (by decide +kernel))
  | 5 => exact refs (C := "HomeGround$Law") rfl (List.mem_of_getElem? (i := 123) (by decide +kernel))
  | 6 => exact refs (C := "HomeGround$Plan") rfl (List.mem_of_getElem? (i := 125) (by decide +kernel))
  | 7 => exact refs (C := "HomeGround$Told") rfl (List.mem_of_getElem? (i := 166) (by decide +kernel))
  | 8 =>
    have h : (Cond.arrayOver (.array .long)).before args s = true := hts _ (List.mem_of_getElem? (i := 323) (by decide +kernel))
    obtain ⟨comp, c, k, h1, h2, h3, h4, h5⟩ : ∃ comp c k, s.vm.findClass (FieldType.array .long).toString = some comp ∧ (s.vm.classes.findIdx? fun (x : Class) => match x.kind with | .array component _ => component == comp | _ => false) = some c ∧ s.vm.classes[c]? = some k ∧ k.kind = .array comp (.array .long) ∧ s.vm.findClass ("[" ++ (FieldType.array .long).toString) = some c := by
      unfold Cond.before at h
      simp only [Cond.holds, Cond.value, beq_iff_eq] at h
      cases hc : s.vm.findClass (FieldType.array .long).toString with
      | none => simp [hc] at h
      | some comp =>
        simp only [hc, Option.bind_some, Option.bind_eq_some_iff, Option.map_eq_some_iff] at h
        obtain ⟨c, hi, k, hk, hb⟩ := h
        obtain ⟨hlt, hp, -⟩ := Array.findIdx?_eq_some_iff_getElem.mp hi
        have hkk : s.vm.classes[c] = k := (Array.getElem?_eq_some_iff.mp hk).2
        rw [hkk] at hp
        cases hkind : k.kind with
        | array component ty =>
          rw [hkind] at hb hp
          simp at hb hp
          exact ⟨comp, c, k, rfl, hi, hk, by rw [hkind, hp, hb.1], hb.2⟩
        | _ => rw [hkind] at hb; simp at hb
    exact ⟨c, fun _ => ⟨fun n z => ⟨(fun q h => by cases h), k, h3, comp, h4⟩, h5⟩⟩
  | t + 9 => exact ⟨0, fun h => by omega⟩

def xtm (i : Nat) : Term := .string "HomeGround$Reader" ((xtx.getD i (0, "")).1)

theorem xq1 : ∀ i : Nat, i < 17 → (Cond.exactly (xtm i) "java/lang/String") ∈ flatC (Jvm.Cond.and given_1 narrow_1) := by
  intro i hi
  match i, hi with
  | 0, _ => exact (List.mem_of_getElem? (i := 53) (by decide +kernel))
  | 1, _ => exact (List.mem_of_getElem? (i := 63) (by decide +kernel))
  | 2, _ => exact (List.mem_of_getElem? (i := 72) (by decide +kernel))
  | 3, _ => exact (List.mem_of_getElem? (i := 83) (by decide +kernel))
  | 4, _ => exact (List.mem_of_getElem? (i := 94) (by decide +kernel))
  | 5, _ => exact (List.mem_of_getElem? (i := 107) (by decide +kernel))
  | 6, _ => exact (List.mem_of_getElem? (i := 120) (by decide +kernel))
  | 7, _ => exact (List.mem_of_getElem? (i := 134) (by decide +kernel))
  | 8, _ => exact (List.mem_of_getElem? (i := 151) (by decide +kernel))
  | 9, _ => exact (List.mem_of_getElem? (i := 169) (by decide +kernel))
  | 10, _ => exact (List.mem_of_getElem? (i := 185) (by decide +kernel))
  | 11, _ => exact (List.mem_of_getElem? (i := 205) (by decide +kernel))
  | 12, _ => exact (List.mem_of_getElem? (i := 225) (by decide +kernel))
  | 13, _ => exact (List.mem_of_getElem? (i := 245) (by decide +kernel))
  | 14, _ => exact (List.mem_of_getElem? (i := 268) (by decide +kernel))
  | 15, _ => exact (List.mem_of_getElem? (i := 288) (by decide +kernel))
  | 16, _ => exact (List.mem_of_getElem? (i := 311) (by decide +kernel))
  | i + 17, hi => exact absurd hi (by omega)
theorem xq2 : ∀ i : Nat, i < 17 → (Cond.eq (.field (xtm i) "java/lang/String" "coder" "B") (.int 0)) ∈ flatC (Jvm.Cond.and given_1 narrow_1) := by
  intro i hi
  match i, hi with
  | 0, _ => exact (List.mem_of_getElem? (i := 54) (by decide +kernel))
  | 1, _ => exact (List.mem_of_getElem? (i := 64) (by decide +kernel))
  | 2, _ => exact (List.mem_of_getElem? (i := 73) (by decide +kernel))
  | 3, _ => exact (List.mem_of_getElem? (i := 84) (by decide +kernel))
  | 4, _ => exact (List.mem_of_getElem? (i := 95) (by decide +kernel))
  | 5, _ => exact (List.mem_of_getElem? (i := 108) (by decide +kernel))
  | 6, _ => exact (List.mem_of_getElem? (i := 121) (by decide +kernel))
  | 7, _ => exact (List.mem_of_getElem? (i := 135) (by decide +kernel))
  | 8, _ => exact (List.mem_of_getElem? (i := 152) (by decide +kernel))
  | 9, _ => exact (List.mem_of_getElem? (i := 170) (by decide +kernel))
  | 10, _ => exact (List.mem_of_getElem? (i := 186) (by decide +kernel))
  | 11, _ => exact (List.mem_of_getElem? (i := 206) (by decide +kernel))
  | 12, _ => exact (List.mem_of_getElem? (i := 226) (by decide +kernel))
  | 13, _ => exact (List.mem_of_getElem? (i := 246) (by decide +kernel))
  | 14, _ => exact (List.mem_of_getElem? (i := 269) (by decide +kernel))
  | 15, _ => exact (List.mem_of_getElem? (i := 289) (by decide +kernel))
  | 16, _ => exact (List.mem_of_getElem? (i := 312) (by decide +kernel))
  | i + 17, hi => exact absurd hi (by omega)
theorem xq3 : ∀ i : Nat, i < 17 → (Cond.arrayOf (.field (xtm i) "java/lang/String" "value" "[B") .byte) ∈ flatC (Jvm.Cond.and given_1 narrow_1) := by
  intro i hi
  match i, hi with
  | 0, _ => exact (List.mem_of_getElem? (i := 55) (by decide +kernel))
  | 1, _ => exact (List.mem_of_getElem? (i := 65) (by decide +kernel))
  | 2, _ => exact (List.mem_of_getElem? (i := 74) (by decide +kernel))
  | 3, _ => exact (List.mem_of_getElem? (i := 85) (by decide +kernel))
  | 4, _ => exact (List.mem_of_getElem? (i := 96) (by decide +kernel))
  | 5, _ => exact (List.mem_of_getElem? (i := 109) (by decide +kernel))
  | 6, _ => exact (List.mem_of_getElem? (i := 122) (by decide +kernel))
  | 7, _ => exact (List.mem_of_getElem? (i := 136) (by decide +kernel))
  | 8, _ => exact (List.mem_of_getElem? (i := 153) (by decide +kernel))
  | 9, _ => exact (List.mem_of_getElem? (i := 171) (by decide +kernel))
  | 10, _ => exact (List.mem_of_getElem? (i := 187) (by decide +kernel))
  | 11, _ => exact (List.mem_of_getElem? (i := 207) (by decide +kernel))
  | 12, _ => exact (List.mem_of_getElem? (i := 227) (by decide +kernel))
  | 13, _ => exact (List.mem_of_getElem? (i := 247) (by decide +kernel))
  | 14, _ => exact (List.mem_of_getElem? (i := 270) (by decide +kernel))
  | 15, _ => exact (List.mem_of_getElem? (i := 290) (by decide +kernel))
  | 16, _ => exact (List.mem_of_getElem? (i := 313) (by decide +kernel))
  | i + 17, hi => exact absurd hi (by omega)
theorem xq4 : ∀ i : Nat, i < 17 → (Cond.eq (.length (.field (xtm i) "java/lang/String" "value" "[B")) (.int (Int32.ofNat (xlen.getD i 0)))) ∈ flatC (Jvm.Cond.and given_1 narrow_1) := by
  intro i hi
  match i, hi with
  | 0, _ => exact (List.mem_of_getElem? (i := 56) (by decide +kernel))
  | 1, _ => exact (List.mem_of_getElem? (i := 66) (by decide +kernel))
  | 2, _ => exact (List.mem_of_getElem? (i := 75) (by decide +kernel))
  | 3, _ => exact (List.mem_of_getElem? (i := 86) (by decide +kernel))
  | 4, _ => exact (List.mem_of_getElem? (i := 97) (by decide +kernel))
  | 5, _ => exact (List.mem_of_getElem? (i := 110) (by decide +kernel))
  | 6, _ => exact (List.mem_of_getElem? (i := 123) (by decide +kernel))
  | 7, _ => exact (List.mem_of_getElem? (i := 137) (by decide +kernel))
  | 8, _ => exact (List.mem_of_getElem? (i := 154) (by decide +kernel))
  | 9, _ => exact (List.mem_of_getElem? (i := 172) (by decide +kernel))
  | 10, _ => exact (List.mem_of_getElem? (i := 188) (by decide +kernel))
  | 11, _ => exact (List.mem_of_getElem? (i := 208) (by decide +kernel))
  | 12, _ => exact (List.mem_of_getElem? (i := 228) (by decide +kernel))
  | 13, _ => exact (List.mem_of_getElem? (i := 248) (by decide +kernel))
  | 14, _ => exact (List.mem_of_getElem? (i := 271) (by decide +kernel))
  | 15, _ => exact (List.mem_of_getElem? (i := 291) (by decide +kernel))
  | 16, _ => exact (List.mem_of_getElem? (i := 314) (by decide +kernel))
  | i + 17, hi => exact absurd hi (by omega)
theorem xq5 : ∀ i : Nat, i < 17 → ∀ j : Nat, j < xlen.getD i 0 → (Cond.eq (.elem (.field (xtm i) "java/lang/String" "value" "[B") (.int (Int32.ofNat j))) (.int ((xbyt.getD i []).getD j 0))) ∈ flatC (Jvm.Cond.and given_1 narrow_1) := by
  intro i hi j hj
  match i, hi, hj with
  | 0, _, hj =>
    match j, hj with
    | 0, _ => exact (List.mem_of_getElem? (i := 57) (by decide +kernel))
    | 1, _ => exact (List.mem_of_getElem? (i := 58) (by decide +kernel))
    | 2, _ => exact (List.mem_of_getElem? (i := 59) (by decide +kernel))
    | 3, _ => exact (List.mem_of_getElem? (i := 60) (by decide +kernel))
    | 4, _ => exact (List.mem_of_getElem? (i := 61) (by decide +kernel))
    | 5, _ => exact (List.mem_of_getElem? (i := 62) (by decide +kernel))
    | j + 6, hj => exact absurd (show j + 6 < 6 from hj) (by omega)
  | 1, _, hj =>
    match j, hj with
    | 0, _ => exact (List.mem_of_getElem? (i := 67) (by decide +kernel))
    | 1, _ => exact (List.mem_of_getElem? (i := 68) (by decide +kernel))
    | 2, _ => exact (List.mem_of_getElem? (i := 69) (by decide +kernel))
    | 3, _ => exact (List.mem_of_getElem? (i := 70) (by decide +kernel))
    | j + 4, hj => exact absurd (show j + 4 < 4 from hj) (by omega)
  | 2, _, hj =>
    match j, hj with
    | 0, _ => exact (List.mem_of_getElem? (i := 76) (by decide +kernel))
    | 1, _ => exact (List.mem_of_getElem? (i := 77) (by decide +kernel))
    | 2, _ => exact (List.mem_of_getElem? (i := 78) (by decide +kernel))
    | 3, _ => exact (List.mem_of_getElem? (i := 79) (by decide +kernel))
    | 4, _ => exact (List.mem_of_getElem? (i := 80) (by decide +kernel))
    | j + 5, hj => exact absurd (show j + 5 < 5 from hj) (by omega)
  | 3, _, hj =>
    match j, hj with
    | 0, _ => exact (List.mem_of_getElem? (i := 87) (by decide +kernel))
    | 1, _ => exact (List.mem_of_getElem? (i := 88) (by decide +kernel))
    | 2, _ => exact (List.mem_of_getElem? (i := 89) (by decide +kernel))
    | 3, _ => exact (List.mem_of_getElem? (i := 90) (by decide +kernel))
    | j + 4, hj => exact absurd (show j + 4 < 4 from hj) (by omega)
  | 4, _, hj =>
    match j, hj with
    | 0, _ => exact (List.mem_of_getElem? (i := 98) (by decide +kernel))
    | 1, _ => exact (List.mem_of_getElem? (i := 99) (by decide +kernel))
    | 2, _ => exact (List.mem_of_getElem? (i := 100) (by decide +kernel))
    | 3, _ => exact (List.mem_of_getElem? (i := 101) (by decide +kernel))
    | 4, _ => exact (List.mem_of_getElem? (i := 102) (by decide +kernel))
    | j + 5, hj => exact absurd (show j + 5 < 5 from hj) (by omega)
  | 5, _, hj =>
    match j, hj with
    | 0, _ => exact (List.mem_of_getElem? (i := 111) (by decide +kernel))
    | 1, _ => exact (List.mem_of_getElem? (i := 112) (by decide +kernel))
    | 2, _ => exact (List.mem_of_getElem? (i := 113) (by decide +kernel))
    | 3, _ => exact (List.mem_of_getElem? (i := 114) (by decide +kernel))
    | j + 4, hj => exact absurd (show j + 4 < 4 from hj) (by omega)
  | 6, _, hj =>
    match j, hj with
    | 0, _ => exact (List.mem_of_getElem? (i := 124) (by decide +kernel))
    | 1, _ => exact (List.mem_of_getElem? (i := 125) (by decide +kernel))
    | 2, _ => exact (List.mem_of_getElem? (i := 126) (by decide +kernel))
    | 3, _ => exact (List.mem_of_getElem? (i := 127) (by decide +kernel))
    | j + 4, hj => exact absurd (show j + 4 < 4 from hj) (by omega)
  | 7, _, hj =>
    match j, hj with
    | 0, _ => exact (List.mem_of_getElem? (i := 138) (by decide +kernel))
    | 1, _ => exact (List.mem_of_getElem? (i := 139) (by decide +kernel))
    | 2, _ => exact (List.mem_of_getElem? (i := 140) (by decide +kernel))
    | 3, _ => exact (List.mem_of_getElem? (i := 141) (by decide +kernel))
    | 4, _ => exact (List.mem_of_getElem? (i := 142) (by decide +kernel))
    | 5, _ => exact (List.mem_of_getElem? (i := 143) (by decide +kernel))
    | j + 6, hj => exact absurd (show j + 6 < 6 from hj) (by omega)
  | 8, _, hj =>
    match j, hj with
    | 0, _ => exact (List.mem_of_getElem? (i := 155) (by decide +kernel))
    | 1, _ => exact (List.mem_of_getElem? (i := 156) (by decide +kernel))
    | 2, _ => exact (List.mem_of_getElem? (i := 157) (by decide +kernel))
    | 3, _ => exact (List.mem_of_getElem? (i := 158) (by decide +kernel))
    | 4, _ => exact (List.mem_of_getElem? (i := 159) (by decide +kernel))
    | 5, _ => exact (List.mem_of_getElem? (i := 160) (by decide +kernel))
    | j + 6, hj => exact absurd (show j + 6 < 6 from hj) (by omega)
  | 9, _, hj =>
    match j, hj with
    | 0, _ => exact (List.mem_of_getElem? (i := 173) (by decide +kernel))
    | 1, _ => exact (List.mem_of_getElem? (i := 174) (by decide +kernel))
    | 2, _ => exact (List.mem_of_getElem? (i := 175) (by decide +kernel))
    | j + 3, hj => exact absurd (show j + 3 < 3 from hj) (by omega)
  | 10, _, hj =>
    match j, hj with
    | 0, _ => exact (List.mem_of_getElem? (i := 189) (by decide +kernel))
    | 1, _ => exact (List.mem_of_getElem? (i := 190) (by decide +kernel))
    | 2, _ => exact (List.mem_of_getElem? (i := 191) (by decide +kernel))
    | 3, _ => exact (List.mem_of_getElem? (i := 192) (by decide +kernel))
    | 4, _ => exact (List.mem_of_getElem? (i := 193) (by decide +kernel))
    | 5, _ => exact (List.mem_of_getElem? (i := 194) (by decide +kernel))
    | j + 6, hj => exact absurd (show j + 6 < 6 from hj) (by omega)
  | 11, _, hj =>
    match j, hj with
    | 0, _ => exact (List.mem_of_getElem? (i := 209) (by decide +kernel))
    | 1, _ => exact (List.mem_of_getElem? (i := 210) (by decide +kernel))
    | 2, _ => exact (List.mem_of_getElem? (i := 211) (by decide +kernel))
    | 3, _ => exact (List.mem_of_getElem? (i := 212) (by decide +kernel))
    | 4, _ => exact (List.mem_of_getElem? (i := 213) (by decide +kernel))
    | j + 5, hj => exact absurd (show j + 5 < 5 from hj) (by omega)
  | 12, _, hj =>
    match j, hj with
    | 0, _ => exact (List.mem_of_getElem? (i := 229) (by decide +kernel))
    | 1, _ => exact (List.mem_of_getElem? (i := 230) (by decide +kernel))
    | 2, _ => exact (List.mem_of_getElem? (i := 231) (by decide +kernel))
    | 3, _ => exact (List.mem_of_getElem? (i := 232) (by decide +kernel))
    | j + 4, hj => exact absurd (show j + 4 < 4 from hj) (by omega)
  | 13, _, hj =>
    match j, hj with
    | 0, _ => exact (List.mem_of_getElem? (i := 249) (by decide +kernel))
    | 1, _ => exact (List.mem_of_getElem? (i := 250) (by decide +kernel))
    | 2, _ => exact (List.mem_of_getElem? (i := 251) (by decide +kernel))
    | 3, _ => exact (List.mem_of_getElem? (i := 252) (by decide +kernel))
    | 4, _ => exact (List.mem_of_getElem? (i := 253) (by decide +kernel))
    | 5, _ => exact (List.mem_of_getElem? (i := 254) (by decide +kernel))
    | j + 6, hj => exact absurd (show j + 6 < 6 from hj) (by omega)
  | 14, _, hj =>
    match j, hj with
    | 0, _ => exact (List.mem_of_getElem? (i := 272) (by decide +kernel))
    | 1, _ => exact (List.mem_of_getElem? (i := 273) (by decide +kernel))
    | j + 2, hj => exact absurd (show j + 2 < 2 from hj) (by omega)
  | 15, _, hj =>
    match j, hj with
    | 0, _ => exact (List.mem_of_getElem? (i := 292) (by decide +kernel))
    | 1, _ => exact (List.mem_of_getElem? (i := 293) (by decide +kernel))
    | 2, _ => exact (List.mem_of_getElem? (i := 294) (by decide +kernel))
    | 3, _ => exact (List.mem_of_getElem? (i := 295) (by decide +kernel))
    | j + 4, hj => exact absurd (show j + 4 < 4 from hj) (by omega)
  | 16, _, hj => exact absurd hj (Nat.not_lt_zero j)
  | i + 17, hi, _ => exact absurd hi (by omega)
theorem xq6_0 : ∀ j : Nat, j < 17 → 0 ≠ j → (Cond.not (Cond.eq (xtm 0) (xtm j))) ∈ flatC (Jvm.Cond.and given_1 narrow_1) ∨ (Cond.not (Cond.eq (xtm j) (xtm 0))) ∈ flatC (Jvm.Cond.and given_1 narrow_1) := by
  intro j hj hne
  match j, hj, hne with
  | 0, _, h => exact absurd rfl h
  | 1, _, _ => exact Or.inl (List.mem_of_getElem? (i := 71) (by decide +kernel))
  | 2, _, _ => exact Or.inl (List.mem_of_getElem? (i := 81) (by decide +kernel))
  | 3, _, _ => exact Or.inl (List.mem_of_getElem? (i := 91) (by decide +kernel))
  | 4, _, _ => exact Or.inl (List.mem_of_getElem? (i := 103) (by decide +kernel))
  | 5, _, _ => exact Or.inl (List.mem_of_getElem? (i := 115) (by decide +kernel))
  | 6, _, _ => exact Or.inl (List.mem_of_getElem? (i := 128) (by decide +kernel))
  | 7, _, _ => exact Or.inl (List.mem_of_getElem? (i := 144) (by decide +kernel))
  | 8, _, _ => exact Or.inl (List.mem_of_getElem? (i := 161) (by decide +kernel))
  | 9, _, _ => exact Or.inl (List.mem_of_getElem? (i := 176) (by decide +kernel))
  | 10, _, _ => exact Or.inl (List.mem_of_getElem? (i := 195) (by decide +kernel))
  | 11, _, _ => exact Or.inl (List.mem_of_getElem? (i := 214) (by decide +kernel))
  | 12, _, _ => exact Or.inl (List.mem_of_getElem? (i := 233) (by decide +kernel))
  | 13, _, _ => exact Or.inl (List.mem_of_getElem? (i := 255) (by decide +kernel))
  | 14, _, _ => exact Or.inl (List.mem_of_getElem? (i := 274) (by decide +kernel))
  | 15, _, _ => exact Or.inl (List.mem_of_getElem? (i := 296) (by decide +kernel))
  | 16, _, _ => exact Or.inl (List.mem_of_getElem? (i := 315) (by decide +kernel))
  | j + 17, hj, _ => exact absurd hj (by omega)
theorem xq6_1 : ∀ j : Nat, j < 17 → 1 ≠ j → (Cond.not (Cond.eq (xtm 1) (xtm j))) ∈ flatC (Jvm.Cond.and given_1 narrow_1) ∨ (Cond.not (Cond.eq (xtm j) (xtm 1))) ∈ flatC (Jvm.Cond.and given_1 narrow_1) := by
  intro j hj hne
  match j, hj, hne with
  | 0, _, _ => exact Or.inr (List.mem_of_getElem? (i := 71) (by decide +kernel))
  | 1, _, h => exact absurd rfl h
  | 2, _, _ => exact Or.inl (List.mem_of_getElem? (i := 82) (by decide +kernel))
  | 3, _, _ => exact Or.inl (List.mem_of_getElem? (i := 92) (by decide +kernel))
  | 4, _, _ => exact Or.inl (List.mem_of_getElem? (i := 104) (by decide +kernel))
  | 5, _, _ => exact Or.inl (List.mem_of_getElem? (i := 116) (by decide +kernel))
  | 6, _, _ => exact Or.inl (List.mem_of_getElem? (i := 129) (by decide +kernel))
  | 7, _, _ => exact Or.inl (List.mem_of_getElem? (i := 145) (by decide +kernel))
  | 8, _, _ => exact Or.inl (List.mem_of_getElem? (i := 162) (by decide +kernel))
  | 9, _, _ => exact Or.inl (List.mem_of_getElem? (i := 177) (by decide +kernel))
  | 10, _, _ => exact Or.inl (List.mem_of_getElem? (i := 196) (by decide +kernel))
  | 11, _, _ => exact Or.inl (List.mem_of_getElem? (i := 215) (by decide +kernel))
  | 12, _, _ => exact Or.inl (List.mem_of_getElem? (i := 234) (by decide +kernel))
  | 13, _, _ => exact Or.inl (List.mem_of_getElem? (i := 256) (by decide +kernel))
  | 14, _, _ => exact Or.inl (List.mem_of_getElem? (i := 275) (by decide +kernel))
  | 15, _, _ => exact Or.inl (List.mem_of_getElem? (i := 297) (by decide +kernel))
  | 16, _, _ => exact Or.inl (List.mem_of_getElem? (i := 316) (by decide +kernel))
  | j + 17, hj, _ => exact absurd hj (by omega)
theorem xq6_2 : ∀ j : Nat, j < 17 → 2 ≠ j → (Cond.not (Cond.eq (xtm 2) (xtm j))) ∈ flatC (Jvm.Cond.and given_1 narrow_1) ∨ (Cond.not (Cond.eq (xtm j) (xtm 2))) ∈ flatC (Jvm.Cond.and given_1 narrow_1) := by
  intro j hj hne
  match j, hj, hne with
  | 0, _, _ => exact Or.inr (List.mem_of_getElem? (i := 81) (by decide +kernel))
  | 1, _, _ => exact Or.inr (List.mem_of_getElem? (i := 82) (by decide +kernel))
  | 2, _, h => exact absurd rfl h
  | 3, _, _ => exact Or.inl (List.mem_of_getElem? (i := 93) (by decide +kernel))
  | 4, _, _ => exact Or.inl (List.mem_of_getElem? (i := 105) (by decide +kernel))
  | 5, _, _ => exact Or.inl (List.mem_of_getElem? (i := 117) (by decide +kernel))
  | 6, _, _ => exact Or.inl (List.mem_of_getElem? (i := 130) (by decide +kernel))
  | 7, _, _ => exact Or.inl (List.mem_of_getElem? (i := 146) (by decide +kernel))
  | 8, _, _ => exact Or.inl (List.mem_of_getElem? (i := 163) (by decide +kernel))
  | 9, _, _ => exact Or.inl (List.mem_of_getElem? (i := 178) (by decide +kernel))
  | 10, _, _ => exact Or.inl (List.mem_of_getElem? (i := 197) (by decide +kernel))
  | 11, _, _ => exact Or.inl (List.mem_of_getElem? (i := 216) (by decide +kernel))
  | 12, _, _ => exact Or.inl (List.mem_of_getElem? (i := 235) (by decide +kernel))
  | 13, _, _ => exact Or.inl (List.mem_of_getElem? (i := 257) (by decide +kernel))
  | 14, _, _ => exact Or.inl (List.mem_of_getElem? (i := 276) (by decide +kernel))
  | 15, _, _ => exact Or.inl (List.mem_of_getElem? (i := 298) (by decide +kernel))
  | 16, _, _ => exact Or.inl (List.mem_of_getElem? (i := 317) (by decide +kernel))
  | j + 17, hj, _ => exact absurd hj (by omega)
theorem xq6_3 : ∀ j : Nat, j < 17 → 3 ≠ j → (Cond.not (Cond.eq (xtm 3) (xtm j))) ∈ flatC (Jvm.Cond.and given_1 narrow_1) ∨ (Cond.not (Cond.eq (xtm j) (xtm 3))) ∈ flatC (Jvm.Cond.and given_1 narrow_1) := by
  intro j hj hne
  match j, hj, hne with
  | 0, _, _ => exact Or.inr (List.mem_of_getElem? (i := 91) (by decide +kernel))
  | 1, _, _ => exact Or.inr (List.mem_of_getElem? (i := 92) (by decide +kernel))
  | 2, _, _ => exact Or.inr (List.mem_of_getElem? (i := 93) (by decide +kernel))
  | 3, _, h => exact absurd rfl h
  | 4, _, _ => exact Or.inl (List.mem_of_getElem? (i := 106) (by decide +kernel))
  | 5, _, _ => exact Or.inl (List.mem_of_getElem? (i := 118) (by decide +kernel))
  | 6, _, _ => exact Or.inl (List.mem_of_getElem? (i := 131) (by decide +kernel))
  | 7, _, _ => exact Or.inl (List.mem_of_getElem? (i := 147) (by decide +kernel))
  | 8, _, _ => exact Or.inl (List.mem_of_getElem? (i := 164) (by decide +kernel))
  | 9, _, _ => exact Or.inl (List.mem_of_getElem? (i := 179) (by decide +kernel))
  | 10, _, _ => exact Or.inl (List.mem_of_getElem? (i := 198) (by decide +kernel))
  | 11, _, _ => exact Or.inl (List.mem_of_getElem? (i := 217) (by decide +kernel))
  | 12, _, _ => exact Or.inl (List.mem_of_getElem? (i := 236) (by decide +kernel))
  | 13, _, _ => exact Or.inl (List.mem_of_getElem? (i := 258) (by decide +kernel))
  | 14, _, _ => exact Or.inl (List.mem_of_getElem? (i := 277) (by decide +kernel))
  | 15, _, _ => exact Or.inl (List.mem_of_getElem? (i := 299) (by decide +kernel))
  | 16, _, _ => exact Or.inl (List.mem_of_getElem? (i := 318) (by decide +kernel))
  | j + 17, hj, _ => exact absurd hj (by omega)
theorem xq6_4 : ∀ j : Nat, j < 17 → 4 ≠ j → (Cond.not (Cond.eq (xtm 4) (xtm j))) ∈ flatC (Jvm.Cond.and given_1 narrow_1) ∨ (Cond.not (Cond.eq (xtm j) (xtm 4))) ∈ flatC (Jvm.Cond.and given_1 narrow_1) := by
  intro j hj hne
  match j, hj, hne with
  | 0, _, _ => exact Or.inr (List.mem_of_getElem? (i := 103) (by decide +kernel))
  | 1, _, _ => exact Or.inr (List.mem_of_getElem? (i := 104) (by decide +kernel))
  | 2, _, _ => exact Or.inr (List.mem_of_getElem? (i := 105) (by decide +kernel))
  | 3, _, _ => exact Or.inr (List.mem_of_getElem? (i := 106) (by decide +kernel))
  | 4, _, h => exact absurd rfl h
  | 5, _, _ => exact Or.inl (List.mem_of_getElem? (i := 119) (by decide +kernel))
  | 6, _, _ => exact Or.inl (List.mem_of_getElem? (i := 132) (by decide +kernel))
  | 7, _, _ => exact Or.inl (List.mem_of_getElem? (i := 148) (by decide +kernel))
  | 8, _, _ => exact Or.inl (List.mem_of_getElem? (i := 165) (by decide +kernel))
  | 9, _, _ => exact Or.inl (List.mem_of_getElem? (i := 180) (by decide +kernel))
  | 10, _, _ => exact Or.inl (List.mem_of_getElem? (i := 199) (by decide +kernel))
  | 11, _, _ => exact Or.inl (List.mem_of_getElem? (i := 218) (by decide +kernel))
  | 12, _, _ => exact Or.inl (List.mem_of_getElem? (i := 237) (by decide +kernel))
  | 13, _, _ => exact Or.inl (List.mem_of_getElem? (i := 259) (by decide +kernel))
  | 14, _, _ => exact Or.inl (List.mem_of_getElem? (i := 278) (by decide +kernel))
  | 15, _, _ => exact Or.inl (List.mem_of_getElem? (i := 300) (by decide +kernel))
  | 16, _, _ => exact Or.inl (List.mem_of_getElem? (i := 319) (by decide +kernel))
  | j + 17, hj, _ => exact absurd hj (by omega)
theorem xq6_5 : ∀ j : Nat, j < 17 → 5 ≠ j → (Cond.not (Cond.eq (xtm 5) (xtm j))) ∈ flatC (Jvm.Cond.and given_1 narrow_1) ∨ (Cond.not (Cond.eq (xtm j) (xtm 5))) ∈ flatC (Jvm.Cond.and given_1 narrow_1) := by
  intro j hj hne
  match j, hj, hne with
  | 0, _, _ => exact Or.inr (List.mem_of_getElem? (i := 115) (by decide +kernel))
  | 1, _, _ => exact Or.inr (List.mem_of_getElem? (i := 116) (by decide +kernel))
  | 2, _, _ => exact Or.inr (List.mem_of_getElem? (i := 117) (by decide +kernel))
  | 3, _, _ => exact Or.inr (List.mem_of_getElem? (i := 118) (by decide +kernel))
  | 4, _, _ => exact Or.inr (List.mem_of_getElem? (i := 119) (by decide +kernel))
  | 5, _, h => exact absurd rfl h
  | 6, _, _ => exact Or.inl (List.mem_of_getElem? (i := 133) (by decide +kernel))
  | 7, _, _ => exact Or.inl (List.mem_of_getElem? (i := 149) (by decide +kernel))
  | 8, _, _ => exact Or.inl (List.mem_of_getElem? (i := 166) (by decide +kernel))
  | 9, _, _ => exact Or.inl (List.mem_of_getElem? (i := 181) (by decide +kernel))
  | 10, _, _ => exact Or.inl (List.mem_of_getElem? (i := 200) (by decide +kernel))
  | 11, _, _ => exact Or.inl (List.mem_of_getElem? (i := 219) (by decide +kernel))
  | 12, _, _ => exact Or.inl (List.mem_of_getElem? (i := 238) (by decide +kernel))
  | 13, _, _ => exact Or.inl (List.mem_of_getElem? (i := 260) (by decide +kernel))
  | 14, _, _ => exact Or.inl (List.mem_of_getElem? (i := 279) (by decide +kernel))
  | 15, _, _ => exact Or.inl (List.mem_of_getElem? (i := 301) (by decide +kernel))
  | 16, _, _ => exact Or.inl (List.mem_of_getElem? (i := 320) (by decide +kernel))
  | j + 17, hj, _ => exact absurd hj (by omega)
theorem xq6_6 : ∀ j : Nat, j < 17 → 6 ≠ j → (Cond.not (Cond.eq (xtm 6) (xtm j))) ∈ flatC (Jvm.Cond.and given_1 narrow_1) ∨ (Cond.not (Cond.eq (xtm j) (xtm 6))) ∈ flatC (Jvm.Cond.and given_1 narrow_1) := by
  intro j hj hne
  match j, hj, hne with
  | 0, _, _ => exact Or.inr (List.mem_of_getElem? (i := 128) (by decide +kernel))
  | 1, _, _ => exact Or.inr (List.mem_of_getElem? (i := 129) (by decide +kernel))
  | 2, _, _ => exact Or.inr (List.mem_of_getElem? (i := 130) (by decide +kernel))
  | 3, _, _ => exact Or.inr (List.mem_of_getElem? (i := 131) (by decide +kernel))
  | 4, _, _ => exact Or.inr (List.mem_of_getElem? (i := 132) (by decide +kernel))
  | 5, _, _ => exact Or.inr (List.mem_of_getElem? (i := 133) (by decide +kernel))
  | 6, _, h => exact absurd rfl h
  | 7, _, _ => exact Or.inl (List.mem_of_getElem? (i := 150) (by decide +kernel))
  | 8, _, _ => exact Or.inl (List.mem_of_getElem? (i := 167) (by decide +kernel))
  | 9, _, _ => exact Or.inl (List.mem_of_getElem? (i := 182) (by decide +kernel))
  | 10, _, _ => exact Or.inl (List.mem_of_getElem? (i := 201) (by decide +kernel))
  | 11, _, _ => exact Or.inl (List.mem_of_getElem? (i := 220) (by decide +kernel))
  | 12, _, _ => exact Or.inl (List.mem_of_getElem? (i := 239) (by decide +kernel))
  | 13, _, _ => exact Or.inl (List.mem_of_getElem? (i := 261) (by decide +kernel))
  | 14, _, _ => exact Or.inl (List.mem_of_getElem? (i := 280) (by decide +kernel))
  | 15, _, _ => exact Or.inl (List.mem_of_getElem? (i := 302) (by decide +kernel))
  | 16, _, _ => exact Or.inl (List.mem_of_getElem? (i := 321) (by decide +kernel))
  | j + 17, hj, _ => exact absurd hj (by omega)
theorem xq6_7 : ∀ j : Nat, j < 17 → 7 ≠ j → (Cond.not (Cond.eq (xtm 7) (xtm j))) ∈ flatC (Jvm.Cond.and given_1 narrow_1) ∨ (Cond.not (Cond.eq (xtm j) (xtm 7))) ∈ flatC (Jvm.Cond.and given_1 narrow_1) := by
  intro j hj hne
  match j, hj, hne with
  | 0, _, _ => exact Or.inr (List.mem_of_getElem? (i := 144) (by decide +kernel))
  | 1, _, _ => exact Or.inr (List.mem_of_getElem? (i := 145) (by decide +kernel))
  | 2, _, _ => exact Or.inr (List.mem_of_getElem? (i := 146) (by decide +kernel))
  | 3, _, _ => exact Or.inr (List.mem_of_getElem? (i := 147) (by decide +kernel))
  | 4, _, _ => exact Or.inr (List.mem_of_getElem? (i := 148) (by decide +kernel))
  | 5, _, _ => exact Or.inr (List.mem_of_getElem? (i := 149) (by decide +kernel))
  | 6, _, _ => exact Or.inr (List.mem_of_getElem? (i := 150) (by decide +kernel))
  | 7, _, h => exact absurd rfl h
  | 8, _, _ => exact Or.inl (List.mem_of_getElem? (i := 168) (by decide +kernel))
  | 9, _, _ => exact Or.inl (List.mem_of_getElem? (i := 183) (by decide +kernel))
  | 10, _, _ => exact Or.inl (List.mem_of_getElem? (i := 202) (by decide +kernel))
  | 11, _, _ => exact Or.inl (List.mem_of_getElem? (i := 221) (by decide +kernel))
  | 12, _, _ => exact Or.inl (List.mem_of_getElem? (i := 240) (by decide +kernel))
  | 13, _, _ => exact Or.inl (List.mem_of_getElem? (i := 262) (by decide +kernel))
  | 14, _, _ => exact Or.inl (List.mem_of_getElem? (i := 281) (by decide +kernel))
  | 15, _, _ => exact Or.inl (List.mem_of_getElem? (i := 303) (by decide +kernel))
  | 16, _, _ => exact Or.inl (List.mem_of_getElem? (i := 322) (by decide +kernel))
  | j + 17, hj, _ => exact absurd hj (by omega)
theorem xq6_8 : ∀ j : Nat, j < 17 → 8 ≠ j → (Cond.not (Cond.eq (xtm 8) (xtm j))) ∈ flatC (Jvm.Cond.and given_1 narrow_1) ∨ (Cond.not (Cond.eq (xtm j) (xtm 8))) ∈ flatC (Jvm.Cond.and given_1 narrow_1) := by
  intro j hj hne
  match j, hj, hne with
  | 0, _, _ => exact Or.inr (List.mem_of_getElem? (i := 161) (by decide +kernel))
  | 1, _, _ => exact Or.inr (List.mem_of_getElem? (i := 162) (by decide +kernel))
  | 2, _, _ => exact Or.inr (List.mem_of_getElem? (i := 163) (by decide +kernel))
  | 3, _, _ => exact Or.inr (List.mem_of_getElem? (i := 164) (by decide +kernel))
  | 4, _, _ => exact Or.inr (List.mem_of_getElem? (i := 165) (by decide +kernel))
  | 5, _, _ => exact Or.inr (List.mem_of_getElem? (i := 166) (by decide +kernel))
  | 6, _, _ => exact Or.inr (List.mem_of_getElem? (i := 167) (by decide +kernel))
  | 7, _, _ => exact Or.inr (List.mem_of_getElem? (i := 168) (by decide +kernel))
  | 8, _, h => exact absurd rfl h
  | 9, _, _ => exact Or.inl (List.mem_of_getElem? (i := 184) (by decide +kernel))
  | 10, _, _ => exact Or.inl (List.mem_of_getElem? (i := 203) (by decide +kernel))
  | 11, _, _ => exact Or.inl (List.mem_of_getElem? (i := 222) (by decide +kernel))
  | 12, _, _ => exact Or.inl (List.mem_of_getElem? (i := 241) (by decide +kernel))
  | 13, _, _ => exact Or.inl (List.mem_of_getElem? (i := 263) (by decide +kernel))
  | 14, _, _ => exact Or.inl (List.mem_of_getElem? (i := 282) (by decide +kernel))
  | 15, _, _ => exact Or.inl (List.mem_of_getElem? (i := 304) (by decide +kernel))
  | 16, _, _ => exact Or.inl (List.mem_of_getElem? (i := 323) (by decide +kernel))
  | j + 17, hj, _ => exact absurd hj (by omega)
theorem xq6_9 : ∀ j : Nat, j < 17 → 9 ≠ j → (Cond.not (Cond.eq (xtm 9) (xtm j))) ∈ flatC (Jvm.Cond.and given_1 narrow_1) ∨ (Cond.not (Cond.eq (xtm j) (xtm 9))) ∈ flatC (Jvm.Cond.and given_1 narrow_1) := by
  intro j hj hne
  match j, hj, hne with
  | 0, _, _ => exact Or.inr (List.mem_of_getElem? (i := 176) (by decide +kernel))
  | 1, _, _ => exact Or.inr (List.mem_of_getElem? (i := 177) (by decide +kernel))
  | 2, _, _ => exact Or.inr (List.mem_of_getElem? (i := 178) (by decide +kernel))
  | 3, _, _ => exact Or.inr (List.mem_of_getElem? (i := 179) (by decide +kernel))
  | 4, _, _ => exact Or.inr (List.mem_of_getElem? (i := 180) (by decide +kernel))
  | 5, _, _ => exact Or.inr (List.mem_of_getElem? (i := 181) (by decide +kernel))
  | 6, _, _ => exact Or.inr (List.mem_of_getElem? (i := 182) (by decide +kernel))
  | 7, _, _ => exact Or.inr (List.mem_of_getElem? (i := 183) (by decide +kernel))
  | 8, _, _ => exact Or.inr (List.mem_of_getElem? (i := 184) (by decide +kernel))
  | 9, _, h => exact absurd rfl h
  | 10, _, _ => exact Or.inl (List.mem_of_getElem? (i := 204) (by decide +kernel))
  | 11, _, _ => exact Or.inl (List.mem_of_getElem? (i := 223) (by decide +kernel))
  | 12, _, _ => exact Or.inl (List.mem_of_getElem? (i := 242) (by decide +kernel))
  | 13, _, _ => exact Or.inl (List.mem_of_getElem? (i := 264) (by decide +kernel))
  | 14, _, _ => exact Or.inl (List.mem_of_getElem? (i := 283) (by decide +kernel))
  | 15, _, _ => exact Or.inl (List.mem_of_getElem? (i := 305) (by decide +kernel))
  | 16, _, _ => exact Or.inl (List.mem_of_getElem? (i := 324) (by decide +kernel))
  | j + 17, hj, _ => exact absurd hj (by omega)
theorem xq6_10 : ∀ j : Nat, j < 17 → 10 ≠ j → (Cond.not (Cond.eq (xtm 10) (xtm j))) ∈ flatC (Jvm.Cond.and given_1 narrow_1) ∨ (Cond.not (Cond.eq (xtm j) (xtm 10))) ∈ flatC (Jvm.Cond.and given_1 narrow_1) := by
  intro j hj hne
  match j, hj, hne with
  | 0, _, _ => exact Or.inr (List.mem_of_getElem? (i := 195) (by decide +kernel))
  | 1, _, _ => exact Or.inr (List.mem_of_getElem? (i := 196) (by decide +kernel))
  | 2, _, _ => exact Or.inr (List.mem_of_getElem? (i := 197) (by decide +kernel))
  | 3, _, _ => exact Or.inr (List.mem_of_getElem? (i := 198) (by decide +kernel))
  | 4, _, _ => exact Or.inr (List.mem_of_getElem? (i := 199) (by decide +kernel))
  | 5, _, _ => exact Or.inr (List.mem_of_getElem? (i := 200) (by decide +kernel))
  | 6, _, _ => exact Or.inr (List.mem_of_getElem? (i := 201) (by decide +kernel))
  | 7, _, _ => exact Or.inr (List.mem_of_getElem? (i := 202) (by decide +kernel))
  | 8, _, _ => exact Or.inr (List.mem_of_getElem? (i := 203) (by decide +kernel))
  | 9, _, _ => exact Or.inr (List.mem_of_getElem? (i := 204) (by decide +kernel))
  | 10, _, h => exact absurd rfl h
  | 11, _, _ => exact Or.inl (List.mem_of_getElem? (i := 224) (by decide +kernel))
  | 12, _, _ => exact Or.inl (List.mem_of_getElem? (i := 243) (by decide +kernel))
  | 13, _, _ => exact Or.inl (List.mem_of_getElem? (i := 265) (by decide +kernel))
  | 14, _, _ => exact Or.inl (List.mem_of_getElem? (i := 284) (by decide +kernel))
  | 15, _, _ => exact Or.inl (List.mem_of_getElem? (i := 306) (by decide +kernel))
  | 16, _, _ => exact Or.inl (List.mem_of_getElem? (i := 325) (by decide +kernel))
  | j + 17, hj, _ => exact absurd hj (by omega)
theorem xq6_11 : ∀ j : Nat, j < 17 → 11 ≠ j → (Cond.not (Cond.eq (xtm 11) (xtm j))) ∈ flatC (Jvm.Cond.and given_1 narrow_1) ∨ (Cond.not (Cond.eq (xtm j) (xtm 11))) ∈ flatC (Jvm.Cond.and given_1 narrow_1) := by
  intro j hj hne
  match j, hj, hne with
  | 0, _, _ => exact Or.inr (List.mem_of_getElem? (i := 214) (by decide +kernel))
  | 1, _, _ => exact Or.inr (List.mem_of_getElem? (i := 215) (by decide +kernel))
  | 2, _, _ => exact Or.inr (List.mem_of_getElem? (i := 216) (by decide +kernel))
  | 3, _, _ => exact Or.inr (List.mem_of_getElem? (i := 217) (by decide +kernel))
  | 4, _, _ => exact Or.inr (List.mem_of_getElem? (i := 218) (by decide +kernel))
  | 5, _, _ => exact Or.inr (List.mem_of_getElem? (i := 219) (by decide +kernel))
  | 6, _, _ => exact Or.inr (List.mem_of_getElem? (i := 220) (by decide +kernel))
  | 7, _, _ => exact Or.inr (List.mem_of_getElem? (i := 221) (by decide +kernel))
  | 8, _, _ => exact Or.inr (List.mem_of_getElem? (i := 222) (by decide +kernel))
  | 9, _, _ => exact Or.inr (List.mem_of_getElem? (i := 223) (by decide +kernel))
  | 10, _, _ => exact Or.inr (List.mem_of_getElem? (i := 224) (by decide +kernel))
  | 11, _, h => exact absurd rfl h
  | 12, _, _ => exact Or.inl (List.mem_of_getElem? (i := 244) (by decide +kernel))
  | 13, _, _ => exact Or.inl (List.mem_of_getElem? (i := 266) (by decide +kernel))
  | 14, _, _ => exact Or.inl (List.mem_of_getElem? (i := 285) (by decide +kernel))
  | 15, _, _ => exact Or.inl (List.mem_of_getElem? (i := 307) (by decide +kernel))
  | 16, _, _ => exact Or.inl (List.mem_of_getElem? (i := 326) (by decide +kernel))
  | j + 17, hj, _ => exact absurd hj (by omega)
theorem xq6_12 : ∀ j : Nat, j < 17 → 12 ≠ j → (Cond.not (Cond.eq (xtm 12) (xtm j))) ∈ flatC (Jvm.Cond.and given_1 narrow_1) ∨ (Cond.not (Cond.eq (xtm j) (xtm 12))) ∈ flatC (Jvm.Cond.and given_1 narrow_1) := by
  intro j hj hne
  match j, hj, hne with
  | 0, _, _ => exact Or.inr (List.mem_of_getElem? (i := 233) (by decide +kernel))
  | 1, _, _ => exact Or.inr (List.mem_of_getElem? (i := 234) (by decide +kernel))
  | 2, _, _ => exact Or.inr (List.mem_of_getElem? (i := 235) (by decide +kernel))
  | 3, _, _ => exact Or.inr (List.mem_of_getElem? (i := 236) (by decide +kernel))
  | 4, _, _ => exact Or.inr (List.mem_of_getElem? (i := 237) (by decide +kernel))
  | 5, _, _ => exact Or.inr (List.mem_of_getElem? (i := 238) (by decide +kernel))
  | 6, _, _ => exact Or.inr (List.mem_of_getElem? (i := 239) (by decide +kernel))
  | 7, _, _ => exact Or.inr (List.mem_of_getElem? (i := 240) (by decide +kernel))
  | 8, _, _ => exact Or.inr (List.mem_of_getElem? (i := 241) (by decide +kernel))
  | 9, _, _ => exact Or.inr (List.mem_of_getElem? (i := 242) (by decide +kernel))
  | 10, _, _ => exact Or.inr (List.mem_of_getElem? (i := 243) (by decide +kernel))
  | 11, _, _ => exact Or.inr (List.mem_of_getElem? (i := 244) (by decide +kernel))
  | 12, _, h => exact absurd rfl h
  | 13, _, _ => exact Or.inl (List.mem_of_getElem? (i := 267) (by decide +kernel))
  | 14, _, _ => exact Or.inl (List.mem_of_getElem? (i := 286) (by decide +kernel))
  | 15, _, _ => exact Or.inl (List.mem_of_getElem? (i := 308) (by decide +kernel))
  | 16, _, _ => exact Or.inl (List.mem_of_getElem? (i := 327) (by decide +kernel))
  | j + 17, hj, _ => exact absurd hj (by omega)
theorem xq6_13 : ∀ j : Nat, j < 17 → 13 ≠ j → (Cond.not (Cond.eq (xtm 13) (xtm j))) ∈ flatC (Jvm.Cond.and given_1 narrow_1) ∨ (Cond.not (Cond.eq (xtm j) (xtm 13))) ∈ flatC (Jvm.Cond.and given_1 narrow_1) := by
  intro j hj hne
  match j, hj, hne with
  | 0, _, _ => exact Or.inr (List.mem_of_getElem? (i := 255) (by decide +kernel))
  | 1, _, _ => exact Or.inr (List.mem_of_getElem? (i := 256) (by decide +kernel))
  | 2, _, _ => exact Or.inr (List.mem_of_getElem? (i := 257) (by decide +kernel))
  | 3, _, _ => exact Or.inr (List.mem_of_getElem? (i := 258) (by decide +kernel))
  | 4, _, _ => exact Or.inr (List.mem_of_getElem? (i := 259) (by decide +kernel))
  | 5, _, _ => exact Or.inr (List.mem_of_getElem? (i := 260) (by decide +kernel))
  | 6, _, _ => exact Or.inr (List.mem_of_getElem? (i := 261) (by decide +kernel))
  | 7, _, _ => exact Or.inr (List.mem_of_getElem? (i := 262) (by decide +kernel))
  | 8, _, _ => exact Or.inr (List.mem_of_getElem? (i := 263) (by decide +kernel))
  | 9, _, _ => exact Or.inr (List.mem_of_getElem? (i := 264) (by decide +kernel))
  | 10, _, _ => exact Or.inr (List.mem_of_getElem? (i := 265) (by decide +kernel))
  | 11, _, _ => exact Or.inr (List.mem_of_getElem? (i := 266) (by decide +kernel))
  | 12, _, _ => exact Or.inr (List.mem_of_getElem? (i := 267) (by decide +kernel))
  | 13, _, h => exact absurd rfl h
  | 14, _, _ => exact Or.inl (List.mem_of_getElem? (i := 287) (by decide +kernel))
  | 15, _, _ => exact Or.inl (List.mem_of_getElem? (i := 309) (by decide +kernel))
  | 16, _, _ => exact Or.inl (List.mem_of_getElem? (i := 328) (by decide +kernel))
  | j + 17, hj, _ => exact absurd hj (by omega)
theorem xq6_14 : ∀ j : Nat, j < 17 → 14 ≠ j → (Cond.not (Cond.eq (xtm 14) (xtm j))) ∈ flatC (Jvm.Cond.and given_1 narrow_1) ∨ (Cond.not (Cond.eq (xtm j) (xtm 14))) ∈ flatC (Jvm.Cond.and given_1 narrow_1) := by
  intro j hj hne
  match j, hj, hne with
  | 0, _, _ => exact Or.inr (List.mem_of_getElem? (i := 274) (by decide +kernel))
  | 1, _, _ => exact Or.inr (List.mem_of_getElem? (i := 275) (by decide +kernel))
  | 2, _, _ => exact Or.inr (List.mem_of_getElem? (i := 276) (by decide +kernel))
  | 3, _, _ => exact Or.inr (List.mem_of_getElem? (i := 277) (by decide +kernel))
  | 4, _, _ => exact Or.inr (List.mem_of_getElem? (i := 278) (by decide +kernel))
  | 5, _, _ => exact Or.inr (List.mem_of_getElem? (i := 279) (by decide +kernel))
  | 6, _, _ => exact Or.inr (List.mem_of_getElem? (i := 280) (by decide +kernel))
  | 7, _, _ => exact Or.inr (List.mem_of_getElem? (i := 281) (by decide +kernel))
  | 8, _, _ => exact Or.inr (List.mem_of_getElem? (i := 282) (by decide +kernel))
  | 9, _, _ => exact Or.inr (List.mem_of_getElem? (i := 283) (by decide +kernel))
  | 10, _, _ => exact Or.inr (List.mem_of_getElem? (i := 284) (by decide +kernel))
  | 11, _, _ => exact Or.inr (List.mem_of_getElem? (i := 285) (by decide +kernel))
  | 12, _, _ => exact Or.inr (List.mem_of_getElem? (i := 286) (by decide +kernel))
  | 13, _, _ => exact Or.inr (List.mem_of_getElem? (i := 287) (by decide +kernel))
  | 14, _, h => exact absurd rfl h
  | 15, _, _ => exact Or.inl (List.mem_of_getElem? (i := 310) (by decide +kernel))
  | 16, _, _ => exact Or.inl (List.mem_of_getElem? (i := 329) (by decide +kernel))
  | j + 17, hj, _ => exact absurd hj (by omega)
theorem xq6_15 : ∀ j : Nat, j < 17 → 15 ≠ j → (Cond.not (Cond.eq (xtm 15) (xtm j))) ∈ flatC (Jvm.Cond.and given_1 narrow_1) ∨ (Cond.not (Cond.eq (xtm j) (xtm 15))) ∈ flatC (Jvm.Cond.and given_1 narrow_1) := by
  intro j hj hne
  match j, hj, hne with
  | 0, _, _ => exact Or.inr (List.mem_of_getElem? (i := 296) (by decide +kernel))
  | 1, _, _ => exact Or.inr (List.mem_of_getElem? (i := 297) (by decide +kernel))
  | 2, _, _ => exact Or.inr (List.mem_of_getElem? (i := 298) (by decide +kernel))
  | 3, _, _ => exact Or.inr (List.mem_of_getElem? (i := 299) (by decide +kernel))
  | 4, _, _ => exact Or.inr (List.mem_of_getElem? (i := 300) (by decide +kernel))
  | 5, _, _ => exact Or.inr (List.mem_of_getElem? (i := 301) (by decide +kernel))
  | 6, _, _ => exact Or.inr (List.mem_of_getElem? (i := 302) (by decide +kernel))
  | 7, _, _ => exact Or.inr (List.mem_of_getElem? (i := 303) (by decide +kernel))
  | 8, _, _ => exact Or.inr (List.mem_of_getElem? (i := 304) (by decide +kernel))
  | 9, _, _ => exact Or.inr (List.mem_of_getElem? (i := 305) (by decide +kernel))
  | 10, _, _ => exact Or.inr (List.mem_of_getElem? (i := 306) (by decide +kernel))
  | 11, _, _ => exact Or.inr (List.mem_of_getElem? (i := 307) (by decide +kernel))
  | 12, _, _ => exact Or.inr (List.mem_of_getElem? (i := 308) (by decide +kernel))
  | 13, _, _ => exact Or.inr (List.mem_of_getElem? (i := 309) (by decide +kernel))
  | 14, _, _ => exact Or.inr (List.mem_of_getElem? (i := 310) (by decide +kernel))
  | 15, _, h => exact absurd rfl h
  | 16, _, _ => exact Or.inl (List.mem_of_getElem? (i := 330) (by decide +kernel))
  | j + 17, hj, _ => exact absurd hj (by omega)
theorem xq6_16 : ∀ j : Nat, j < 17 → 16 ≠ j → (Cond.not (Cond.eq (xtm 16) (xtm j))) ∈ flatC (Jvm.Cond.and given_1 narrow_1) ∨ (Cond.not (Cond.eq (xtm j) (xtm 16))) ∈ flatC (Jvm.Cond.and given_1 narrow_1) := by
  intro j hj hne
  match j, hj, hne with
  | 0, _, _ => exact Or.inr (List.mem_of_getElem? (i := 315) (by decide +kernel))
  | 1, _, _ => exact Or.inr (List.mem_of_getElem? (i := 316) (by decide +kernel))
  | 2, _, _ => exact Or.inr (List.mem_of_getElem? (i := 317) (by decide +kernel))
  | 3, _, _ => exact Or.inr (List.mem_of_getElem? (i := 318) (by decide +kernel))
  | 4, _, _ => exact Or.inr (List.mem_of_getElem? (i := 319) (by decide +kernel))
  | 5, _, _ => exact Or.inr (List.mem_of_getElem? (i := 320) (by decide +kernel))
  | 6, _, _ => exact Or.inr (List.mem_of_getElem? (i := 321) (by decide +kernel))
  | 7, _, _ => exact Or.inr (List.mem_of_getElem? (i := 322) (by decide +kernel))
  | 8, _, _ => exact Or.inr (List.mem_of_getElem? (i := 323) (by decide +kernel))
  | 9, _, _ => exact Or.inr (List.mem_of_getElem? (i := 324) (by decide +kernel))
  | 10, _, _ => exact Or.inr (List.mem_of_getElem? (i := 325) (by decide +kernel))
  | 11, _, _ => exact Or.inr (List.mem_of_getElem? (i := 326) (by decide +kernel))
  | 12, _, _ => exact Or.inr (List.mem_of_getElem? (i := 327) (by decide +kernel))
  | 13, _, _ => exact Or.inr (List.mem_of_getElem? (i := 328) (by decide +kernel))
  | 14, _, _ => exact Or.inr (List.mem_of_getElem? (i := 329) (by decide +kernel))
  | 15, _, _ => exact Or.inr (List.mem_of_getElem? (i := 330) (by decide +kernel))
  | 16, _, h => exact absurd rfl h
  | j + 17, hj, _ => exact absurd hj (by omega)
theorem xq6 : ∀ i : Nat, i < 17 → ∀ j : Nat, j < 17 → i ≠ j → (Cond.not (Cond.eq (xtm i) (xtm j))) ∈ flatC (Jvm.Cond.and given_1 narrow_1) ∨ (Cond.not (Cond.eq (xtm j) (xtm i))) ∈ flatC (Jvm.Cond.and given_1 narrow_1) := by
  intro i hi
  match i, hi with
  | 0, _ => exact xq6_0
  | 1, _ => exact xq6_1
  | 2, _ => exact xq6_2
  | 3, _ => exact xq6_3
  | 4, _ => exact xq6_4
  | 5, _ => exact xq6_5
  | 6, _ => exact xq6_6
  | 7, _ => exact xq6_7
  | 8, _ => exact xq6_8
  | 9, _ => exact xq6_9
  | 10, _ => exact xq6_10
  | 11, _ => exact xq6_11
  | 12, _ => exact xq6_12
  | 13, _ => exact xq6_13
  | 14, _ => exact xq6_14
  | 15, _ => exact xq6_15
  | 16, _ => exact xq6_16
  | i + 17, hi => exact absurd hi (by omega)
theorem x_texts {s : State} {args : Array Value} (hgv : (Jvm.Cond.and given_1 narrow_1).before args s = true) {A : Nat → Prop} (hA : ∀ a : Nat, a < s.heap.size → ¬ A a) :
    ∃ adK adV : Nat → Nat, vk_S 17 xlen xbyt adK adV A s s.heap ∧ ∀ i : Nat, i < 17 → (xtm i).eval args s none [] s = some (.ref (adK i)) := by
  have hf := flat_of_before _ hgv
  exact vk_Sof (by decide +kernel) (fun i hi => hf _ (xq1 i hi)) (fun i hi => hf _ (xq2 i hi)) (fun i hi => hf _ (xq3 i hi)) (fun i hi => hf _ (xq4 i hi)) (fun i hi j hj => hf _ (xq5 i hi j hj)) (fun i j hi hj hne => (xq6 i hi j hj hne).imp (fun h => hf _ h) (fun h => hf _ h)) hA

theorem x_srefs : ∀ (i : Nat) (q : Nat × String), xtx[i]? = some q → Cond.stringRef "HomeGround$Reader" q.1 q.2 ∈ lw_tbl := by
  intro i q h
  match i with
  | 0 => cases h; exact List.mem_of_getElem? (i := 451) (by decide +kernel)
  | 1 => cases h; exact List.mem_of_getElem? (i := 452) (by decide +kernel)
  | 2 => cases h; exact List.mem_of_getElem? (i := 453) (by decide +kernel)
  | 3 => cases h; exact List.mem_of_getElem? (i := 454) (by decide +kernel)
  | 4 => cases h; exact List.mem_of_getElem? (i := 455) (by decide +kernel)
  | 5 => cases h; exact List.mem_of_getElem? (i := 456) (by decide +kernel)
  | 6 => cases h; exact List.mem_of_getElem? (i := 457) (by decide +kernel)
  | 7 => cases h; exact List.mem_of_getElem? (i := 458) (by decide +kernel)
  | 8 => cases h; exact List.mem_of_getElem? (i := 459) (by decide +kernel)
  | 9 => cases h; exact List.mem_of_getElem? (i := 460) (by decide +kernel)
  | 10 => cases h; exact List.mem_of_getElem? (i := 461) (by decide +kernel)
  | 11 => cases h; exact List.mem_of_getElem? (i := 462) (by decide +kernel)
  | 12 => cases h; exact List.mem_of_getElem? (i := 463) (by decide +kernel)
  | 13 => cases h; exact List.mem_of_getElem? (i := 464) (by decide +kernel)
  | 14 => cases h; exact List.mem_of_getElem? (i := 465) (by decide +kernel)
  | 15 => cases h; exact List.mem_of_getElem? (i := 466) (by decide +kernel)
  | 16 => cases h; exact List.mem_of_getElem? (i := 467) (by decide +kernel)
  | i + 17 => simp [xtx] at h

theorem x_all {s : State} {b L : Nat} {xs : Nat → Int32} (hts : ∀ w ∈ lw_tbl, w.before #[Value.ref b] s = true) (hX : va_X b L xs s s.heap) (hgv : (Jvm.Cond.and given_1 narrow_1).before #[Value.ref b] s = true) :
    ∃ G : xG, G.H0 = s.heap ∧ G.L = L ∧ G.xs = xs ∧ G.ad 40 = b ∧ xK G s := by
  have hA : ∀ a : Nat, a < s.heap.size → ¬ (fun q : Nat => s.heap.size ≤ q) a := fun a h1 h2 => Nat.not_le.mpr h1 h2
  obtain ⟨kn, hkn⟩ := Classical.axiomOfChoice (x_known hts)
  obtain ⟨dA, hdA⟩ := Classical.axiomOfChoice (x_arr hts)
  obtain ⟨adK, adV, hS, hev⟩ := x_texts hgv hA
  have hf := flat_of_before _ hgv
  have hZ1 : va_Z "java/lang/String" "COMPACT_STRINGS" "Z" (.int 1) (fun q : Nat => s.heap.size ≤ q) s s.heap := va_Zof (hts _ (List.mem_of_getElem? (i := 481) (by decide +kernel))) (hts _ (List.mem_of_getElem? (i := 100) (by decide +kernel))) (va_eqt (hf _ (by decide +kernel))) hA
  have hZ2 : va_Zq "jdk/internal/util/Preconditions" "SIOOBE_FORMATTER" "Ljava/util/function/BiFunction;" (fun q : Nat => s.heap.size ≤ q) s s.heap := va_Zqof (hts _ (List.mem_of_getElem? (i := 497) (by decide +kernel))) (hts _ (List.mem_of_getElem? (i := 102) (by decide +kernel))) (hf _ (by decide +kernel)) hA
  obtain ⟨fm, hfm⟩ : ∃ fm : Nat, va_Z "jdk/internal/util/Preconditions" "SIOOBE_FORMATTER" "Ljava/util/function/BiFunction;" .null (fun q : Nat => s.heap.size ≤ q) s s.heap ∨ va_Z "jdk/internal/util/Preconditions" "SIOOBE_FORMATTER" "Ljava/util/function/BiFunction;" (.ref fm) (fun q : Nat => s.heap.size ≤ q) s s.heap := by
    rcases hZ2 with h | ⟨t, h⟩
    · exact ⟨0, Or.inl h⟩
    · exact ⟨t, Or.inr h⟩
  refine ⟨((fun k => (kn k).1, fun k => (kn k).2), dA, fun i => if i < 17 then adK i else if i < 40 then adV (i - 20) else if i = 40 then b else if i < 64 then fm else s.heap.size + (i - 64), adV, s.heap, L, xs), rfl, rfl, rfl, rfl, ?_⟩
  refine ⟨⟨fun c q hq => hkn c q hq, fun k q hq => ?_⟩, fun i => ?_, ?_, fun i q hq => ?_, ?_, fun i hi => ?_, hZ1, hfm, fun w hw => ?_⟩
  · have hk : k < 9 := by
      have := (List.getElem?_eq_some_iff.mp hq).1
      simpa [xtys] using this
    rw [xtys_at _ hk] at hq
    cases hq
    exact hdA k hk
  · show (if 64 + i < 17 then _ else if 64 + i < 40 then _ else if 64 + i = 40 then _ else if 64 + i < 64 then _ else s.heap.size + (64 + i - 64)) = s.heap.size + i
    rw [if_neg (by omega), if_neg (by omega), if_neg (by omega), if_neg (by omega)]
    omega
  · exact hX
  · have hi : i < 17 := (List.getElem?_eq_some_iff.mp hq).1
    have e1 : (if i < 17 then adK i else if i < 40 then adV (i - 20) else if i = 40 then b else if i < 64 then fm else s.heap.size + (i - 64)) = adK i := if_pos hi
    show vk_R "HomeGround$Reader" q.1 q.2 (if i < 17 then adK i else if i < 40 then adV (i - 20) else if i = 40 then b else if i < 64 then fm else s.heap.size + (i - 64)) s
    rw [e1]
    have h2 := hev i hi
    have e3 : xtm i = .string "HomeGround$Reader" q.1 := by
      unfold xtm
      rw [List.getD_eq_getElem?_getD, hq]
      rfl
    rw [e3] at h2
    exact vk_R.of (hts _ (x_srefs i q hq)) h2
  · refine ⟨fun i hi => ?_, fun i j hi hj e => ?_⟩
    · have e1 : (if i < 17 then adK i else if i < 40 then adV (i - 20) else if i = 40 then b else if i < 64 then fm else s.heap.size + (i - 64)) = adK i := if_pos hi
      have := hS.1 i hi
      rw [← e1] at this
      exact this
    · have e1 : (if i < 17 then adK i else if i < 40 then adV (i - 20) else if i = 40 then b else if i < 64 then fm else s.heap.size + (i - 64)) = adK i := if_pos hi
      have e2 : (if j < 17 then adK j else if j < 40 then adV (j - 20) else if j = 40 then b else if j < 64 then fm else s.heap.size + (j - 64)) = adK j := if_pos hj
      exact hS.2 i j hi hj (e1.symm.trans (Eq.trans e e2))
  · show (if 20 + i < 17 then _ else if 20 + i < 40 then adV (20 + i - 20) else _) = adV i
    rw [if_neg (by omega), if_pos (by omega)]
    congr 1
    omega
  · have hl : w ∈ lw_tbl := (List.mem_filter.mp hw).1
    have h1 := hts w hl
    have h2 := (List.mem_filter.mp hw).2
    match w, h2, h1 with
    | .fieldLinkNest .., _, h1 => exact va_Nw.of rfl h1
    | .methodLinkNest .., _, h1 => exact va_Nw.of rfl h1
    | .declares _, _, h1 => exact va_Nw.of rfl h1
    | .arrayOver (.object _), _, h1 => exact va_AO.of h1
    | .arrayOver (.array _), _, h1 => exact h1
theorem whole_start (hG : LawGoal) {p : Program} {e : Env} {s : State} {m : MethodId} {below : List Frame} {meth : Method} {c : Code} (l : Launch) (hflags : l.flags = flags0) {b L : Nat} {xs : Nat → Int32} (hL : L ≤ 4608) (C0 : lw_At p s m meth c b L xs) : W p l e room_1 s m #[Value.ref b] below meth c s.heap [] 0 0 (lw_Z below #[Value.ref b] s) (entryFrame m ([Value.ref b] : List Value).toArray 4) := by
  obtain ⟨hx, hb, hr, hml, hown, hts, hX, hbl, hlocks, hgv⟩ := C0
  obtain ⟨n, st', hF, h1, h2⟩ := hG L xs hL
  have hR := R_L_law n (xst0 L xs) (some 40) 1 st' hF
  obtain ⟨G, e1, e2, e3, e4, hK⟩ := x_all hts hX hgv
  have hl := lv_entry ([.ref b]) (n := 4) (Nat.le_of_ble_eq_true rfl)
  rw [lg_entry_eq]
  generalize (lg_sl ([.ref b]) ++ List.replicate (4 - (lg_sl ([.ref b])).length) Slot.unset).toArray = ls at hl ⊢
  have hl : lv_has ls 4 (xlv G [(0, va_rf (some 40))]) := by
    show lv_has ls 4 [(0, .ref (G.ad 40))]
    rw [e4]
    exact hl
  refine hR.2.2 G p l e room_1 s m #[Value.ref b] below meth c s.heap [] 0 0 (lw_Z below #[Value.ref b] s) ⟨⟨hx, hb, hml, hown, fun w hw => hts w (List.mem_filter.mp hw).1⟩, (fun h => absurd h (by decide)), hK, by decide, by decide⟩ (by show 0 + st'.1 ≤ 600000 + 0; omega) (by show 0 + st'.2.1 ≤ 7302250 + 0; omega) ⟨fun q hq => by rw [e1], by rw [e1]; rfl, fun i hi => absurd hi (Nat.not_lt_zero i), fun a ha => ?_⟩ (fun q hq => by cases hq) ?_ ls hl
  · by_cases ha40 : a = 40
    · refine Or.inr ⟨ha40, ?_⟩
      rw [e2, e3]
      rfl
    · refine Or.inl ?_
      show (if a = 40 then (Sum.inl (9, L, Sum.inl xs) : xC) else xJ) = xJ
      exact if_neg ha40
  · intro pcE lsE H locs cells slots hd hro hW hlo hc hs
    refine va_forget (fun q hq => by rw [← e1]; exact hlo q hq) ?_
    refine W.widen (k := 600000) (n := 7302250) hc hs ?_
    exact lw_ret hx hb hr hlocks hd

set_option maxHeartbeats 4000000 in
theorem lw_walk (hG : LawGoal) (l : Launch) (hflags : l.flags = flags0) (b : Addr) (xs : List Int32) : MetFree l x (headSpec (Jvm.Cond.code x code maxLocals ret :: tables_1) room_1) (lw_P b xs) (fun _ _ _ _ _ => True) lw_Q := by
  refine MetFree.of_bodyS (code := code) (maxLocals := maxLocals) (ret := ret) (by decide) ?_ ?_
  · intro args s m h hn
    obtain ⟨meth, c, h1, h2, h3, h4, h5, h6, -, -⟩ := Cond.code_spec hn (atoms_spec (ws := Jvm.Cond.code x code maxLocals ret :: tables_1) h _ List.mem_cons_self)
    exact ⟨meth, c, h1, h2, h3, h4, h5, h6⟩
  · intro p e s m args below meth c s₁ B hml0 hP _
    obtain ⟨rfl, hx, hbd, hgv⟩ := hP
    obtain ⟨scr, harrAt, hlist, hof, hsmall⟩ := hx
    obtain ⟨hcb, hkn, -, -⟩ := State.arrayAt?_spec harrAt
    have hown : s.vm.findClass R_law = some m.cls := findClass_of_methodNamed B.named
    have hts0 : ∀ c ∈ (Jvm.Cond.code x code maxLocals ret :: tables_1), c.before #[Value.ref b] s = true := atoms_spec (ws := Jvm.Cond.code x code maxLocals ret :: tables_1) B.pre
    have hts : ∀ w ∈ lw_tbl, w.before #[Value.ref b] s = true := k2_hts_sels lw_privs (fun w hw => hts0 w (List.mem_cons_of_mem _ hw)) lw_privs_ok
    have hml : c.maxLocals = 4 := B.maxLocals_eq (hts0 _ List.mem_cons_self)
    have X₀ : Stand p l e room_1 s m #[Value.ref b] below meth c s₁ [] 0 0 := Stand.of_body B
    have hh0 : s₁.heap = s.heap := by rw [B.state]; rfl
    have hsz : scr.slots.size = xs.length := by rw [← Array.length_toList, hlist, List.length_map]
    have hval : ∀ j : Nat, j < xs.length → scr.slots[j]? = some (.int (xs.getD j 0)) := fun j hj => by
      rw [← Array.getElem?_toList, hlist]
      simp [hj]
    have hbl : b < s.heap.size := (Array.getElem?_eq_some_iff.mp hcb).1
    have hX : va_X b xs.length (fun j => xs.getD j 0) s s.heap := ⟨scr, hcb, hof, hkn, hsz, hval⟩
    have K : W p l e room_1 s m #[Value.ref b] below meth c s₁.heap [] 0 0 (lw_Z below #[Value.ref b] s) (entryFrame m ([Value.ref b] : List Value).toArray 4) := by
      rw [hh0]
      exact whole_start hG l hflags hbd ⟨B.exec, B.bytes, B.returns, hml, hown, hts, hX, hbl, B.notSynchronized, hgv⟩
    obtain ⟨t, a1, o, b1, b2, b3⟩ := K s₁ rfl X₀
    exact ⟨t, o, a1, b1, b2, b3⟩
theorem lw_pre_spec {args : Array Value} {s : State} (h : (Jvm.Cond.and given_1 narrow_1).before args s = true) (hr : rest_1_c.before args s = true) : ∃ (b : Addr) (xs : List Int32), lw_P b xs args s := by
  have hs := flat_of_before _ h
  have hq := flat_of_before _ hr
  have hc : (Cond.count 1).before args s = true := hs _ (by decide +kernel)
  have harr : (Cond.arrayOf (.arg 0) .int).before args s = true := hs _ (by decide +kernel)
  have hle : (Cond.le (.length (.arg 0)) (.int 4608)).before args s = true := hs _ (by decide +kernel)
  have hlen : (Cond.isInt (.length (.arg 0))).before args s = true := hq _ (by decide +kernel)
  have hall : (Cond.all (.arg 0) (.isInt (.elem (.arg 0) (.index 0)))).before args s = true := hq _ (by decide +kernel)
  obtain ⟨b, xs, hb, hx⟩ := State.ints_of_pre rfl harr hlen hall
  have hsm : xs.length < 2 ^ 31 := hx.choose_spec.2.2.2
  have hev : (Term.length (.arg 0)).eval args s none [] s = some (.int xs.length.toInt32) := hx.length_eval hb
  have hv := Cond.le_ints hev (show (Term.int 4608).eval args s none [] s = some (.int 4608) from rfl)
  have hd : xs.length.toInt32 ≤ 4608 := by
    simpa [Cond.before, Cond.holds, hv] using hle
  have hN : xs.length ≤ 4608 := (Int32.ofNat_le_ofNat hsm (by decide)).mp (show Int32.ofNat xs.length ≤ Int32.ofNat 4608 from hd)
  exact ⟨b, xs, Cond.one_arg hc (show args[0]? = some (.ref b) from hb), hx, hN, h⟩
theorem lw_comes (hG : LawGoal) (l : Launch) (hflags : l.flags = flags0) : Comes l x (Jvm.Cond.code x code maxLocals ret :: tables_1) room_1 (fun tb e args s => Calls_1 tb e args s ∧ rest_1 tb e args s ∧ Pre_1 tb e args s)
    (fun _ _ args s o t => lw_Q args s o t) := by
  intro p e ha hc hk s m args below hf hfit hheap happ hpre
  obtain ⟨b, xs, hP⟩ := lw_pre_spec hpre.2.2 hpre.2.1
  obtain ⟨k, o, h1, h2, h3, hQ⟩ := lw_walk hG l hflags b xs p e ha hc hk s m args below hf ((Spec.applies_iff_loose hf).mp happ).1 hP trivial
  exact ⟨k, o, h1, h2, h3, hQ⟩
theorem lw_frame {s t : State} {o : Outcome} {args : Array Value} (h : Framed s o t [] 600000 7302250) :
    Framed s o t (fieldLocs frame_1_writes args s ++ arrayLocs frame_1_arrays args s ++ staticLocs frame_1_statics s) 600000 7302250 := h
theorem lw_limb (hG : LawGoal) (L : Cond) (hL : ∀ (args : Array Value) (s t : State), L.after args s (.returned (some (.int 1))) t = true) :
    ArmFor flags0 classFile x code maxLocals ret World_1 tables_1 room_1 Calls_1 rest_1 Pre_1
      (fun tb e a s o t => postC L tb e a s o t ∧ Framed s o t (fieldLocs frame_1_writes a s ++ arrayLocs frame_1_arrays a s ++ staticLocs frame_1_statics s) 600000 7302250) := by
  intro l hflags _ _ p e ha hc hk s m args below hf hfit hheap happ hpre
  obtain ⟨k, o, h1, h2, h3, rfl, hF⟩ := lw_comes hG l hflags p e ha hc hk s m args below hf hfit hheap happ hpre
  exact ⟨k, _, h1, h2, h3, hL args s _, lw_frame hF⟩
theorem i_vc : Claimed_1_1 ∧ Claimed_1_2 := ⟨lw_limb lawGoal limb_1_1 (fun args s t => by simp [limb_1_1, Cond.after, Cond.holds, Cond.value]), lw_limb lawGoal limb_1_2 (fun args s t => Cond.after_iff.mpr (by
  first | (rw [show limb_1_2 = Cond.eq .result (.int 1) from rfl, Cond.eq_ints (x := 1) (y := 1) rfl rfl]; simp; done) | (simp [limb_1_2, Cond.value, Term.eval]; done)))⟩

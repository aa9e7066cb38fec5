/-! THE ROWS of the heap: stores of fields -/
section XR3
variable {y : xM} {pc pc2 : Nat} {lv lv2 : List (Nat × Value)} {stk stk2 : List Value} {st st2 : xS} {r : Option Value} {st' : xS} {d : Nat}
/-- what a store of a field asks of the table of the class's fields -/
def xput (T : u_T) (N k : Nat) (v : Value) : Prop := (∃ ty0 : Nat → FieldType, (∀ k, k < N → parseFieldDescriptor (T k).2.2.1 = some (ty0 k)) ∧ narrow (ty0 k) v = v ∧ fits (ty0 k) v = true) ∧ ∀ a, a < N → ∀ b, b < N → a ≠ b → (T a).2.1 ≠ (T b).2.1
theorem xset_map (G : xG) (fs : List Value) (k : Nat) (v : Value) : (fs.set k v).map (xcv G.ad) = (fs.map (xcv G.ad)).set k (xcv G.ad v) := by rw [List.map_set]
theorem xat_set {G : xG} {ci k N a : Nat} {C : String} {T : u_T} {fs : List Value} {v : Value} {s : State} {H' : Heap} {cell : Cell} (hC : xcl[ci]? = some (C, T, N)) (hap : ∀ x y, x < N → y < N → x ≠ y → (G.D.2 ci) x ≠ (G.D.2 ci) y) (hk : k < N) (hl : k < fs.length)
    (q2 : cell.cls = G.D.1 ci) (q3 : cell.vm = .none) (q4 : ∀ j, j < N → cell.slots[G.D.2 ci j]? = some (vp_V (fs.map (xcv G.ad)) j)) (e1 : H'[a]? = some (cell.setSlot (G.D.2 ci k) (xcv G.ad v))) : va_at G.D xcl (a, xE G (.inr (ci, fs.set k v))) H' := by
  show ∃ r : vw_C, xcl[ci]? = some r ∧ t_OB a (G.D.1 ci) r.2.2 (G.D.2 ci) H' (vp_V ((fs.set k v).map (xcv G.ad)))
  rw [xset_map]
  exact ⟨_, hC, t_OB.to (V := updV (vp_V (fs.map (xcv G.ad))) k (xcv G.ad v)) ⟨_, e1, q2, q3, t_set q4 hap hk (xcv G.ad v)⟩ (fun j _ => vp_updV_set (by rw [List.length_map]; exact hl) (xcv G.ad v) j)⟩
theorem r_putfield {a ci k index N : Nat} {C : String} {T : u_T} {fs : List Value} {v : Value} (hd : decode y.2.1 pc = .ok (.putfield index, 3)) (hC : xcls ci C T N) (hT : (T k).1 = C) (hk : k < N) (hw : Cond.fieldLink y.1.cls index C (T k).2.1 (T k).2.2.1 ∈ xT) (hfin : (T k).2.2.2 = false) (hp : xput T N k v) (ha : st.2.2 a = .inr (ci, fs)) (hl0 : k < fs.length)
    (kk : Rn y (pc + 3) lv stk (xup st a (.inr (ci, fs.set k v))) r st' d) : Rn y pc lv (v :: .ref a :: stk) st r st' d := by
  refine Rn.liftH (st2 := xup st a (.inr (ci, fs.set k v))) rfl rfl kk fun G p l e R s m args below meth c H locs cells slots Q X hc1 hc2 hW ls hl kk => ?_
  obtain ⟨⟨hx, hb, hml, hown, hts⟩, -, hK, -, -⟩ := X
  obtain ⟨i, hi, rfl⟩ := xJ_obj hW ha hC.2.2
  obtain ⟨⟨ty0, hty, hn0, hf0⟩, hnm⟩ := hp
  obtain ⟨hn, hfit⟩ := xv_narrow (G := G) hn0 hf0
  have hap := va_apart (own := y.1.cls) hts hC.2.1 ty0 hty hnm hK.1 hC.1
  have hat := hW.2.2.1 i hi
  rw [ha] at hat
  obtain ⟨r0, g1, cell, q1, q2, q3, q4⟩ := hat
  have hr : r0 = (C, T, N) := Option.some.inj (g1.symm.trans hC.1)
  subst hr
  obtain ⟨hS, hfc, kC, hkC, hkind⟩ := hK.1.1 ci _ hC.1
  obtain ⟨cf, kf, fi, f, hfi, hsl⟩ := hS k hk
  have hlay := hts _ (hC.2.1 _ (u_in_lay hk))
  unfold u_lay at hlay
  rw [if_neg (by rw [hfin]; decide)] at hlay
  have hst := (u_facts hfc hkC (u_lays hts hC.2.1 hk) hfi).1
  have h6 := u_store hfc hkC hkind hlay hfi (hty k hk) hn hfit
  refine W.putK hx hb (f := f) ⟨hown, hts _ hw, ⟨_, _, _, by rw [← hT]; exact hfi⟩, hst⟩ (by rw [q2]; exact h6) q1 q3 (by rw [hsl]; exact k2_hasslot (q4 k hk)) rfl rfl hd fun H' e1 e2 e3 => ?_
  rw [hsl] at e1
  refine kk H' [⟨_, f.slot⟩] (hW.put hK.2.1 hi e2 e3 (xat_set (s := s) hC.1 hap hk hl0 q2 q3 q4 e1)) (fun q hq => ?_)
  rw [List.mem_singleton.mp hq]
  show G.H0.size ≤ G.ad (64 + i)
  rw [hK.2.1]
  exact Nat.le_add_right _ _
theorem r_putfieldN {a ci k index N : Nat} {C host : String} {T : u_T} {fs : List Value} {v : Value} (hd : decode y.2.1 pc = .ok (.putfield index, 3)) (hC : xcls ci C T N) (hT : (T k).1 = C) (hk : k < N) (hw : Cond.fieldLinkNest y.1.cls index C (T k).2.1 (T k).2.2.1 host ∈ xTN) (hfin : (T k).2.2.2 = false) (hp : xput T N k v) (ha : st.2.2 a = .inr (ci, fs)) (hl0 : k < fs.length)
    (kk : Rn y (pc + 3) lv stk (xup st a (.inr (ci, fs.set k v))) r st' d) : Rn y pc lv (v :: .ref a :: stk) st r st' d := by
  refine Rn.liftH (st2 := xup st a (.inr (ci, fs.set k v))) rfl rfl kk fun G p l e R s m args below meth c H locs cells slots Q X hc1 hc2 hW ls hl kk => ?_
  obtain ⟨⟨hx, hb, hml, hown, hts⟩, -, hK, -, -⟩ := X
  obtain ⟨i, hi, rfl⟩ := xJ_obj hW ha hC.2.2
  obtain ⟨⟨ty0, hty, hn0, hf0⟩, hnm⟩ := hp
  obtain ⟨hn, hfit⟩ := xv_narrow (G := G) hn0 hf0
  have hap := va_apart (own := y.1.cls) hts hC.2.1 ty0 hty hnm hK.1 hC.1
  have hat := hW.2.2.1 i hi
  rw [ha] at hat
  obtain ⟨r0, g1, cell, q1, q2, q3, q4⟩ := hat
  have hr : r0 = (C, T, N) := Option.some.inj (g1.symm.trans hC.1)
  subst hr
  obtain ⟨hS, hfc, kC, hkC, hkind⟩ := hK.1.1 ci _ hC.1
  obtain ⟨cf, kf, fi, f, hfi, hsl⟩ := hS k hk
  have hlay := hts _ (hC.2.1 _ (u_in_lay hk))
  unfold u_lay at hlay
  rw [if_neg (by rw [hfin]; decide)] at hlay
  have hst := (u_facts hfc hkC (u_lays hts hC.2.1 hk) hfi).1
  have h6 := u_store hfc hkC hkind hlay hfi (hty k hk) hn hfit
  refine va_WputK hx hb (f := f) hown (va_Nw.use rfl (hK.nw hw)) (by rw [← hT]; exact hfi) hst (by rw [q2]; exact h6) q1 q3 (by rw [hsl]; exact k2_hasslot (q4 k hk)) rfl rfl hd fun H' e1 e2 e3 => ?_
  rw [hsl] at e1
  refine kk H' [⟨_, f.slot⟩] (hW.put hK.2.1 hi e2 e3 (xat_set (s := s) hC.1 hap hk hl0 q2 q3 q4 e1)) (fun q hq => ?_)
  rw [List.mem_singleton.mp hq]
  show G.H0.size ≤ G.ad (64 + i)
  rw [hK.2.1]
  exact Nat.le_add_right _ _
/-- a final field, in the class's own constructor -/
theorem r_putfieldF {a ci k index N : Nat} {C : String} {T : u_T} {fs : List Value} {v : Value} (hd : decode y.2.1 pc = .ok (.putfield index, 3)) (hC : xcls ci C T N) (hT : (T k).1 = C) (hk : k < N) (hw : Cond.fieldLink y.1.cls index C (T k).2.1 (T k).2.2.1 ∈ xT) (hfin : (T k).2.2.2 = true) (hin : y.1.name = "<init>") (hdecl : y.1.cls = C) (hp : xput T N k v) (ha : st.2.2 a = .inr (ci, fs)) (hl0 : k < fs.length)
    (kk : Rn y (pc + 3) lv stk (xup st a (.inr (ci, fs.set k v))) r st' d) : Rn y pc lv (v :: .ref a :: stk) st r st' d := by
  refine Rn.liftH (st2 := xup st a (.inr (ci, fs.set k v))) rfl rfl kk fun G p l e R s m args below meth c H locs cells slots Q X hc1 hc2 hW ls hl kk => ?_
  obtain ⟨⟨hx, hb, hml, hown, hts⟩, hinit, hK, -, -⟩ := X
  obtain ⟨i, hi, rfl⟩ := xJ_obj hW ha hC.2.2
  obtain ⟨⟨ty0, hty, hn0, hf0⟩, hnm⟩ := hp
  obtain ⟨hn, hfit⟩ := xv_narrow (G := G) hn0 hf0
  have hap := va_apart (own := y.1.cls) hts hC.2.1 ty0 hty hnm hK.1 hC.1
  have hat := hW.2.2.1 i hi
  rw [ha] at hat
  obtain ⟨r0, g1, cell, q1, q2, q3, q4⟩ := hat
  have hr : r0 = (C, T, N) := Option.some.inj (g1.symm.trans hC.1)
  subst hr
  obtain ⟨hS, hfc, kC, hkC, hkind⟩ := hK.1.1 ci _ hC.1
  obtain ⟨cf, kf, fi, f, hfi, hsl⟩ := hS k hk
  have hlay := hts _ (hC.2.1 _ (u_in_lay hk))
  unfold u_lay at hlay
  rw [if_pos hfin] at hlay
  have hst := (u_facts hfc hkC (u_lays hts hC.2.1 hk) hfi).1
  have hcf : m.cls = cf := by
    obtain ⟨_, _, c', _, _, _, -, -, hf', -, -, -, hown2, -⟩ := Cond.laysFinal_spec hlay
    have e1 : c' = cf := by have := hfi.symm.trans hf'; simp at this; exact this.1.symm
    rw [hT, ← hdecl] at hown2
    rw [← e1]; exact Option.some.inj (hown.symm.trans hown2)
  have h6 := u_fits hfc hkC hkind (Or.inr hlay) hfi (hty k hk) hn hfit
  refine W.putFinK hx hb hown (hts _ hw) (by rw [← hT]; exact hfi) hst hcf (hinit hin) (by rw [q2]; exact h6) q1 q3 (by rw [hsl]; exact k2_hasslot (q4 k hk)) rfl rfl hd fun H' e1 e2 e3 => ?_
  rw [hsl] at e1
  refine kk H' [⟨_, f.slot⟩] (hW.put hK.2.1 hi e2 e3 (xat_set (s := s) hC.1 hap hk hl0 q2 q3 q4 e1)) (fun q hq => ?_)
  rw [List.mem_singleton.mp hq]
  show G.H0.size ≤ G.ad (64 + i)
  rw [hK.2.1]
  exact Nat.le_add_right _ _
end XR3

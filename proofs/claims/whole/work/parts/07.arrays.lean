/-! THE ROWS of the heap: arrays -/
section XR4
variable {y : xM} {pc pc2 : Nat} {lv lv2 : List (Nat × Value)} {stk stk2 : List Value} {st st2 : xS} {r : Option Value} {st' : xS} {d : Nat}
theorem xone {D : va_G} {cl : List vw_C} {q : Nat × va_E} {H : Heap} (h : va_at D cl q H) : va_P D cl [q] H := fun j x hx => by
  have h0 : j = 0 := by
    have := (List.getElem?_eq_some_iff.mp hx).1
    simp at this
    exact this
  subst h0
  cases hx
  exact h
theorem xtys_at (G : xG) {t : Nat} (ht : t < 9) : (xtys G)[t]? = some (G.dA t, xty t) := by
  unfold xtys
  rw [List.getElem?_map, List.getElem?_range ht]
  rfl
theorem r_iaload {a n : Nat} {f : Nat → Int32} {i : Int32} (hd : decode y.2.1 pc = .ok (.iaload, 1)) (ha : st.2.2 a = .inl (0, n, .inl f)) (hin : vp_in i n)
    (kk : Rn y (pc + 1) lv (.int (f i.toNatClampNeg) :: stk) st r st' d) : Rn y pc lv (.int i :: .ref a :: stk) st r st' d :=
  kk.lift fun G p l e R s m args below meth c H locs cells slots Q hx hb hown hts hK hW kk ls hl => by
    obtain ⟨j, hj, rfl⟩ := xJ_arr hW ha (by decide)
    have hat := hW.2.2.1 j hj
    rw [ha] at hat
    exact va_iald hx hb hK.1 (xone hat) 0 0 rfl (xtys_at G (by decide)) hin hd (kk ls hl)
theorem r_laload {a n : Nat} {f : Nat → Int64} {i : Int32} (hd : decode y.2.1 pc = .ok (.laload, 1)) (ha : st.2.2 a = .inl (1, n, .inr (.inl f))) (hin : vp_in i n)
    (kk : Rn y (pc + 1) lv (.long (f i.toNatClampNeg) :: stk) st r st' d) : Rn y pc lv (.int i :: .ref a :: stk) st r st' d :=
  kk.lift fun G p l e R s m args below meth c H locs cells slots Q hx hb hown hts hK hW kk ls hl => by
    obtain ⟨j, hj, rfl⟩ := xJ_arr hW ha (by decide)
    have hat := hW.2.2.1 j hj
    rw [ha] at hat
    exact va_lald hx hb hK.1 (xone hat) 0 1 rfl (xtys_at G (by decide)) hin hd (kk ls hl)
theorem r_baload {a n : Nat} {f : Nat → Int32} {i : Int32} (hd : decode y.2.1 pc = .ok (.baload, 1)) (ha : st.2.2 a = .inl (2, n, .inl f)) (hin : vp_in i n)
    (kk : Rn y (pc + 1) lv (.int (f i.toNatClampNeg) :: stk) st r st' d) : Rn y pc lv (.int i :: .ref a :: stk) st r st' d :=
  kk.lift fun G p l e R s m args below meth c H locs cells slots Q hx hb hown hts hK hW kk ls hl => by
    obtain ⟨j, hj, rfl⟩ := xJ_arr hW ha (by decide)
    have hat := hW.2.2.1 j hj
    rw [ha] at hat
    exact va_bald hx hb hK.1 (xone hat) 0 2 rfl (xtys_at G (by decide)) hin hd (kk ls hl)
theorem r_zaload {a n : Nat} {f : Nat → Int32} {i : Int32} (hd : decode y.2.1 pc = .ok (.baload, 1)) (ha : st.2.2 a = .inl (3, n, .inl f)) (hin : vp_in i n)
    (kk : Rn y (pc + 1) lv (.int (f i.toNatClampNeg) :: stk) st r st' d) : Rn y pc lv (.int i :: .ref a :: stk) st r st' d :=
  kk.lift fun G p l e R s m args below meth c H locs cells slots Q hx hb hown hts hK hW kk ls hl => by
    obtain ⟨j, hj, rfl⟩ := xJ_arr hW ha (by decide)
    have hat := hW.2.2.1 j hj
    rw [ha] at hat
    exact va_zald hx hb hK.1 (xone hat) 0 3 rfl (xtys_at G (by decide)) hin hd (kk ls hl)
theorem xrf (G : xG) (o : Option Nat) : va_rf (o.map G.ad) = xcv G.ad (va_rf o) := by cases o <;> rfl
theorem r_aaload {a n t : Nat} {f : Nat → Option Nat} {i : Int32} (hd : decode y.2.1 pc = .ok (.aaload, 1)) (ha : st.2.2 a = .inl (t, n, .inr (.inr (.inr (.inr f))))) (ht : t < 9) (hr : (xty t).isReference = true) (hin : vp_in i n)
    (kk : Rn y (pc + 1) lv (va_rf (f i.toNatClampNeg) :: stk) st r st' d) : Rn y pc lv (.int i :: .ref a :: stk) st r st' d :=
  kk.lift fun G p l e R s m args below meth c H locs cells slots Q hx hb hown hts hK hW kk ls hl => by
    obtain ⟨j, hj, rfl⟩ := xJ_arr hW ha ht
    have hat := hW.2.2.1 j hj
    rw [ha] at hat
    have hlt : i.toNatClampNeg < n := Nat.not_le.mp fun q => hin (Or.inr q)
    have hat : H[G.ad (64 + j)]? = some (arrV (G.dA t) n (fun k => va_rf ((f k).map G.ad))) := hat
    refine W.aald (v := va_rf ((f i.toNatClampNeg).map G.ad)) (ty := xty t) hx hb hat ((hK.1.2 t _ (xtys_at G ht)).1 n _) hr (fun q => by cases q) (by rw [arrV_size]; exact hin) (by rw [arrV_read _ _ hlt]) rfl rfl hd ?_
    rw [xrf]
    exact kk ls hl
theorem r_alen {a t : Nat} {x : vp_A} {v : Int32} (hd : decode y.2.1 pc = .ok (.arraylength, 1)) (ha : st.2.2 a = .inl (t, x)) (ht : t < 9) (hv : Int32.ofNat x.1 = v)
    (kk : Rn y (pc + 1) lv (.int v :: stk) st r st' d) : Rn y pc lv (.ref a :: stk) st r st' d :=
  kk.lift fun G p l e R s m args below meth c H locs cells slots Q hx hb hown hts hK hW kk ls hl => by
    obtain ⟨j, hj, rfl⟩ := xJ_arr hW ha ht
    have hat := hW.2.2.1 j hj
    rw [ha] at hat
    have e1 : (xcA G.ad x).1 = x.1 := by
      unfold xcA
      split <;> rfl
    exact va_alen hx hb hK.1 (xone hat) 0 t rfl (xtys_at G ht) (by rw [e1]; exact hv) hd (kk ls hl)
/-- the script -/
theorem xscr {st : xS} {G : xG} {H : Heap} {n : Nat} {f : Nat → Int32} (hW : xW G st H) (ha : st.2.2 40 = .inl (9, n, .inl f)) : n = G.L ∧ f = G.xs := by
  rcases hW.2.2.2 40 (by omega) with e | ⟨-, e⟩
  · rw [ha] at e
    cases e
  · rw [ha] at e
    have e1 := (Prod.mk.inj (Sum.inl.inj e)).2
    exact ⟨(Prod.mk.inj e1).1, Sum.inl.inj (Prod.mk.inj e1).2⟩
theorem xS_of {G : xG} {st : xS} {H : Heap} (hW : xW G st H) : va_S (fun q : Nat => G.H0.size ≤ q) G.H0 H [] := ⟨by rw [hW.2.1]; exact Nat.le_add_right _ _, fun q h1 _ => hW.1 q h1, fun l h => by cases h⟩
theorem r_sld {n : Nat} {f : Nat → Int32} {i : Int32} (hd : decode y.2.1 pc = .ok (.iaload, 1)) (ha : st.2.2 40 = .inl (9, n, .inl f)) (hin : vp_in i n)
    (kk : Rn y (pc + 1) lv (.int (f i.toNatClampNeg) :: stk) st r st' d) : Rn y pc lv (.int i :: .ref 40 :: stk) st r st' d :=
  kk.lift fun G p l e R s m args below meth c H locs cells slots Q hx hb hown hts hK hW kk ls hl => by
    obtain ⟨rfl, rfl⟩ := xscr hW ha
    obtain ⟨scr, x1, x2, x3, x4, x5⟩ := hK.2.2.1
    have hbl : G.ad 40 < G.H0.size := (Array.getElem?_eq_some_iff.mp x1).1
    have hlt : i.toNatClampNeg < G.L := Nat.not_le.mp fun q => hin (Or.inr q)
    exact W.iald (v := .int (G.xs i.toNatClampNeg)) hx hb (by rw [hW.1 _ hbl]; exact x1) x2 x3 (by rw [x4]; exact hin) (x5 _ hlt) rfl rfl hd (kk ls hl)
theorem r_slen {n : Nat} {f : Nat → Int32} (hd : decode y.2.1 pc = .ok (.arraylength, 1)) (ha : st.2.2 40 = .inl (9, n, .inl f))
    (kk : Rn y (pc + 1) lv (.int (nI n) :: stk) st r st' d) : Rn y pc lv (.ref 40 :: stk) st r st' d :=
  kk.lift fun G p l e R s m args below meth c H locs cells slots Q hx hb hown hts hK hW kk ls hl => by
    obtain ⟨rfl, rfl⟩ := xscr hW ha
    obtain ⟨scr, x1, x2, x3, x4, x5⟩ := hK.2.2.1
    have hbl : G.ad 40 < G.H0.size := (Array.getElem?_eq_some_iff.mp x1).1
    exact W.alen (n := nI G.L) hx hb (by rw [hW.1 _ hbl]; exact x1) x2 (by rw [x4]; rfl) rfl rfl hd (kk ls hl)
/-! stores -/
theorem xbase {G : xG} {s : State} {i k : Nat} (hK : xK G s) : ∀ q ∈ ([⟨G.ad (64 + i), k⟩] : List Loc), G.H0.size ≤ q.base := fun q hq => by
  rw [List.mem_singleton.mp hq]
  show G.H0.size ≤ G.ad (64 + i)
  rw [hK.2.1]
  exact Nat.le_add_right _ _
theorem r_iastore {a n : Nat} {f : Nat → Int32} {i x : Int32} (hd : decode y.2.1 pc = .ok (.iastore, 1)) (ha : st.2.2 a = .inl (0, n, .inl f)) (hin : vp_in i n)
    (kk : Rn y (pc + 1) lv stk (xup st a (.inl (0, n, .inl (upd f i.toNatClampNeg x)))) r st' d) : Rn y pc lv (.int x :: .int i :: .ref a :: stk) st r st' d := by
  refine Rn.liftH (st2 := xup st a (.inl (0, n, .inl (upd f i.toNatClampNeg x)))) rfl rfl kk fun G p l e R s m args below meth c H locs cells slots Q X hc1 hc2 hW ls hl kk => ?_
  obtain ⟨⟨hx, hb, hml, hown, hts⟩, -, hK, -, -⟩ := X
  obtain ⟨j, hj, rfl⟩ := xJ_arr hW ha (by decide)
  have hat := hW.2.2.1 j hj
  rw [ha] at hat
  refine W.iast hx hb hat ((hK.1.2 0 _ (xtys_at G (by decide))).1 n (fun j => .int (f j))) (fun q => by cases q) (by show ¬ (i < 0 ∨ (arrV _ _ _).slots.size ≤ _); rw [arrV_size]; exact hin) rfl rfl hd fun H1 e1 z oq => ?_
  refine kk H1 _ (hW.put hK.2.1 hj z oq ?_) (xbase hK)
  show H1[_]? = some (vp_cell _ (n, .inl _))
  rw [e1]
  show some (Cell.setSlot (vp_cell _ (n, .inl _)) _ _) = _
  rw [vp_cell_i, vp_cell_i, arrV_store]
  congr 2
  funext q
  by_cases hq : q = i.toNatClampNeg
  · subst hq
    simp [updV, upd]
  · simp [updV, upd, hq]
theorem r_lastore {a n : Nat} {f : Nat → Int64} {i : Int32} {x : Int64} (hd : decode y.2.1 pc = .ok (.lastore, 1)) (ha : st.2.2 a = .inl (1, n, .inr (.inl f))) (hin : vp_in i n)
    (kk : Rn y (pc + 1) lv stk (xup st a (.inl (1, n, .inr (.inl (vp_updL f i.toNatClampNeg x))))) r st' d) : Rn y pc lv (.long x :: .int i :: .ref a :: stk) st r st' d := by
  refine Rn.liftH (st2 := xup st a (.inl (1, n, .inr (.inl (vp_updL f i.toNatClampNeg x))))) rfl rfl kk fun G p l e R s m args below meth c H locs cells slots Q X hc1 hc2 hW ls hl kk => ?_
  obtain ⟨⟨hx, hb, hml, hown, hts⟩, -, hK, -, -⟩ := X
  obtain ⟨j, hj, rfl⟩ := xJ_arr hW ha (by decide)
  have hat := hW.2.2.1 j hj
  rw [ha] at hat
  refine W.last hx hb hat ((hK.1.2 1 _ (xtys_at G (by decide))).1 n (fun j => .long (f j))) (fun q => by cases q) (by show ¬ (i < 0 ∨ (arrV _ _ _).slots.size ≤ _); rw [arrV_size]; exact hin) rfl rfl hd fun H1 e1 z oq => ?_
  refine kk H1 _ (hW.put hK.2.1 hj z oq ?_) (xbase hK)
  show H1[_]? = some (vp_cell _ (n, .inr (.inl _)))
  rw [e1]
  show some (Cell.setSlot (vp_cell _ (n, .inr (.inl _))) _ _) = _
  rw [vp_cell_l, vp_cell_l, arrV_store]
  congr 2
  funext q
  by_cases hq : q = i.toNatClampNeg
  · subst hq
    simp [updV, vp_updL]
  · simp [updV, vp_updL, hq]
theorem r_bastore {a n : Nat} {f : Nat → Int32} {i x : Int32} (hd : decode y.2.1 pc = .ok (.bastore, 1)) (ha : st.2.2 a = .inl (2, n, .inl f)) (hin : vp_in i n)
    (kk : Rn y (pc + 1) lv stk (xup st a (.inl (2, n, .inl (upd f i.toNatClampNeg x.toInt8.toInt32)))) r st' d) : Rn y pc lv (.int x :: .int i :: .ref a :: stk) st r st' d := by
  refine Rn.liftH (st2 := xup st a (.inl (2, n, .inl (upd f i.toNatClampNeg x.toInt8.toInt32)))) rfl rfl kk fun G p l e R s m args below meth c H locs cells slots Q X hc1 hc2 hW ls hl kk => ?_
  obtain ⟨⟨hx, hb, hml, hown, hts⟩, -, hK, -, -⟩ := X
  obtain ⟨j, hj, rfl⟩ := xJ_arr hW ha (by decide)
  have hat := hW.2.2.1 j hj
  rw [ha] at hat
  refine W.bast hx hb hat ((hK.1.2 2 _ (xtys_at G (by decide))).1 n (fun j => .int (f j))) (fun q => by cases q) (by show ¬ (i < 0 ∨ (arrV _ _ _).slots.size ≤ _); rw [arrV_size]; exact hin) rfl rfl hd fun H1 e1 z oq => ?_
  refine kk H1 _ (hW.put hK.2.1 hj z oq ?_) (xbase hK)
  show H1[_]? = some (vp_cell _ (n, .inl _))
  rw [e1]
  show some (Cell.setSlot (vp_cell _ (n, .inl _)) _ _) = _
  rw [vp_cell_i, vp_cell_i, arrV_store]
  congr 2
  funext q
  by_cases hq : q = i.toNatClampNeg
  · subst hq
    simp [updV, upd]
    try rfl
  · simp [updV, upd, hq]
theorem r_zastore {a n : Nat} {f : Nat → Int32} {i x : Int32} (hd : decode y.2.1 pc = .ok (.bastore, 1)) (ha : st.2.2 a = .inl (3, n, .inl f)) (hin : vp_in i n)
    (kk : Rn y (pc + 1) lv stk (xup st a (.inl (3, n, .inl (upd f i.toNatClampNeg (vp_nar .boolean x))))) r st' d) : Rn y pc lv (.int x :: .int i :: .ref a :: stk) st r st' d := by
  refine Rn.liftH (st2 := xup st a (.inl (3, n, .inl (upd f i.toNatClampNeg (vp_nar .boolean x))))) rfl rfl kk fun G p l e R s m args below meth c H locs cells slots Q X hc1 hc2 hW ls hl kk => ?_
  obtain ⟨⟨hx, hb, hml, hown, hts⟩, -, hK, -, -⟩ := X
  obtain ⟨j, hj, rfl⟩ := xJ_arr hW ha (by decide)
  have hat := hW.2.2.1 j hj
  rw [ha] at hat
  refine W.zast hx hb hat ((hK.1.2 3 _ (xtys_at G (by decide))).1 n (fun j => .int (f j))) (fun q => by cases q) (by show ¬ (i < 0 ∨ (arrV _ _ _).slots.size ≤ _); rw [arrV_size]; exact hin) rfl rfl hd fun H1 e1 z oq => ?_
  refine kk H1 _ (hW.put hK.2.1 hj z oq ?_) (xbase hK)
  show H1[_]? = some (vp_cell _ (n, .inl _))
  rw [e1]
  show some (Cell.setSlot (vp_cell _ (n, .inl _)) _ _) = _
  rw [vp_cell_i, vp_cell_i, arrV_store]
  congr 2
  funext q
  by_cases hq : q = i.toNatClampNeg
  · subst hq
    simp [updV, upd, vp_nar]
    try rfl
  · simp [updV, upd, hq]
/-- a reference, or null, into an array of references of its class -/
theorem r_aastore {a n t ci v : Nat} {q : vw_C} {vs : List Value} {f : Nat → Option Nat} {i : Int32} (hd : decode y.2.1 pc = .ok (.aastore, 1)) (ha : st.2.2 a = .inl (t, n, .inr (.inr (.inr (.inr f))))) (ht : t < 9) (hv : st.2.2 v = .inr (ci, vs)) (hc : xcl[ci]? = some q) (hc12 : ci < 12) (hty : xty t = .object q.1) (hin : vp_in i n)
    (kk : Rn y (pc + 1) lv stk (xup st a (.inl (t, n, .inr (.inr (.inr (.inr (va_up f i.toNatClampNeg (some v)))))))) r st' d) : Rn y pc lv (.ref v :: .int i :: .ref a :: stk) st r st' d := by
  refine Rn.liftH (st2 := xup st a (.inl (t, n, .inr (.inr (.inr (.inr (va_up f i.toNatClampNeg (some v)))))))) rfl rfl kk fun G p l e R s m args below meth c H locs cells slots Q X hc1 hc2 hW ls hl kk => ?_
  obtain ⟨⟨hx, hb, hml, hown, hts⟩, -, hK, -, -⟩ := X
  obtain ⟨jv, hjv, rfl⟩ := xJ_obj hW hv hc12
  obtain ⟨j, hj, rfl⟩ := xJ_arr hW ha ht
  have hat := hW.2.2.1 j hj
  rw [ha] at hat
  have hav := hW.2.2.1 jv hjv
  rw [hv] at hav
  have hlt : i.toNatClampNeg < n := Nat.not_le.mp fun q => hin (Or.inr q)
  have h0 : ¬ i < 0 := fun q => hin (Or.inl q)
  obtain ⟨r', hr', cellV, g1, g2, g3, -⟩ := hav
  have hcls := (hK.1.1 ci q hc).2
  obtain ⟨kA, comp, k1, k2, k3, -⟩ : ∃ (kA : Class) (comp : ClassId), s.vm.classes[G.dA t]? = some kA ∧ kA.kind = .array comp (.object q.1) ∧ s.vm.findClass q.1 = some comp ∧ s.vm.findClass ("[" ++ (FieldType.object q.1).toString) = some (G.dA t) := by
    have := (hK.1.2 t _ (xtys_at G ht)).2
    rw [hty] at this
    exact this
  have hcomp : comp = G.D.1 ci := Option.some.inj (k3.symm.trans hcls.1)
  subst hcomp
  obtain ⟨kC, hkC, -⟩ := hcls.2
  have hat2 : H[G.ad (64 + j)]? = some (arrV (G.dA t) n (fun k => va_rf ((f k).map G.ad))) := hat
  refine W.aast hx hb hat2 (fun q h => by cases h) (fun h => by cases h) k1 k2 rfl hkC ⟨h0, by rw [arrV_size]; exact hlt⟩ g1 (fun q h => by rw [g3] at h; cases h) (by rw [g2]; exact hkC) (by rw [g2]; exact va_assign hcls) rfl rfl hd fun H1 e1 z oq => ?_
  refine kk H1 _ (hW.put hK.2.1 hj z oq ?_) (xbase hK)
  show H1[_]? = some (vp_cell _ (n, .inr (.inr (.inr (.inr _)))))
  rw [e1, vp_cell_q, arrV_store]
  congr 2
  funext q
  by_cases hq : q = i.toNatClampNeg
  · subst hq
    simp [updV, va_up, va_rf]
  · simp [updV, va_up, hq]
theorem r_aastoreN {a n t : Nat} {C : String} {f : Nat → Option Nat} {i : Int32} (hd : decode y.2.1 pc = .ok (.aastore, 1)) (ha : st.2.2 a = .inl (t, n, .inr (.inr (.inr (.inr f))))) (ht : t < 9) (hty : xty t = .object C) (hin : vp_in i n)
    (kk : Rn y (pc + 1) lv stk (xup st a (.inl (t, n, .inr (.inr (.inr (.inr (va_up f i.toNatClampNeg none))))))) r st' d) : Rn y pc lv (.null :: .int i :: .ref a :: stk) st r st' d := by
  refine Rn.liftH (st2 := xup st a (.inl (t, n, .inr (.inr (.inr (.inr (va_up f i.toNatClampNeg none))))))) rfl rfl kk fun G p l e R s m args below meth c H locs cells slots Q X hc1 hc2 hW ls hl kk => ?_
  obtain ⟨⟨hx, hb, hml, hown, hts⟩, -, hK, -, -⟩ := X
  obtain ⟨j, hj, rfl⟩ := xJ_arr hW ha ht
  have hat := hW.2.2.1 j hj
  rw [ha] at hat
  have hat2 : H[G.ad (64 + j)]? = some (arrV (G.dA t) n (fun k => va_rf ((f k).map G.ad))) := hat
  have hof := (hK.1.2 t _ (xtys_at G ht)).1 n (fun k => va_rf ((f k).map G.ad))
  rw [show (xty t) = .object C from hty] at hof
  refine va_WaastN (C := C) hx hb hat2 hof (fun h => by cases h) (by rw [arrV_size]; exact hin) rfl rfl hd fun H1 e1 z oq => ?_
  refine kk H1 _ (hW.put hK.2.1 hj z oq ?_) (xbase hK)
  show H1[_]? = some (vp_cell _ (n, .inr (.inr (.inr (.inr _)))))
  rw [e1, vp_cell_q, arrV_store]
  congr 2
  funext q
  by_cases hq : q = i.toNatClampNeg
  · subst hq
    simp [updV, va_up, va_rf]
  · simp [updV, va_up, hq]
end XR4

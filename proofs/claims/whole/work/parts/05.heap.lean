/-! THE ROWS of the heap: fields -/
section XR2
theorem xJ_obj {st : xS} {G : xG} {a ci : Nat} {fs : List Value} {H : Heap} (hW : xW G st H) (ha : st.2.2 a = .inr (ci, fs)) (hc : ci < 12) : ∃ i : Nat, i < st.1 ∧ a = 64 + i := by
  by_cases h : 64 ≤ a ∧ a < 64 + st.1
  · exact ⟨a - 64, by omega, by omega⟩
  · rcases hW.2.2.2 a h with e | ⟨e, e2⟩
    · rw [ha] at e
      have : ci = 99 := by
        have := Sum.inr.inj e
        exact (Prod.mk.inj this).1
      omega
    · subst e
      rw [ha] at e2
      cases e2
theorem xJ_arr {st : xS} {G : xG} {a t : Nat} {x : vp_A} {H : Heap} (hW : xW G st H) (ha : st.2.2 a = .inl (t, x)) (hc : t < 9) : ∃ i : Nat, i < st.1 ∧ a = 64 + i := by
  by_cases h : 64 ≤ a ∧ a < 64 + st.1
  · exact ⟨a - 64, by omega, by omega⟩
  · rcases hW.2.2.2 a h with e | ⟨e, e2⟩
    · rw [ha] at e
      cases e
    · subst e
      rw [ha] at e2
      have := (Prod.mk.inj (Sum.inl.inj e2)).1
      omega
/-- a pure state whose cell a is another one -/
def xup (st : xS) (a : Nat) (c : xC) : xS := (st.1, st.2.1, fun q => if q = a then c else st.2.2 q)
theorem xW.put {st : xS} {G : xG} {H H1 : Heap} {i : Nat} {c : xC} (hK : ∀ i : Nat, G.ad (64 + i) = G.H0.size + i) (hW : xW G st H) (hi : i < st.1) (hz : H1.size = H.size) (ho : ∀ q : Nat, q ≠ G.ad (64 + i) → H1[q]? = H[q]?) (hc : va_at G.D xcl (G.ad (64 + i), xE G c) H1) : xW G (xup st (64 + i) c) H1 := by
  obtain ⟨w1, w2, w3, w4⟩ := hW
  refine ⟨fun q hq => ?_, hz.trans w2, fun j hj => ?_, fun a ha => ?_⟩
  · rw [ho q (by rw [hK]; omega)]
    exact w1 q hq
  · by_cases hji : j = i
    · subst hji
      simp only [xup, if_pos]
      exact hc
    · have : ¬ (64 + j = 64 + i) := by omega
      simp only [xup, if_neg this]
      exact (w3 j hj).kept (ho _ (by rw [hK, hK]; omega))
  · have hne : ∀ q : Nat, q = a ∨ q = 40 → ¬ q = 64 + i := by
      intro q hq e
      have hb := ha
      simp only [xup] at hb
      rcases hq with hq | hq <;> omega
    simp only [xup, if_neg (hne a (Or.inl rfl)), if_neg (hne 40 (Or.inr rfl))]
    exact w4 a ha
variable {y : xM} {pc pc2 : Nat} {lv lv2 : List (Nat × Value)} {stk stk2 : List Value} {st st2 : xS} {r : Option Value} {st' : xS} {d : Nat}
/-- an instruction that writes a cell -/
theorem Rn.liftH (h1 : st2.1 = st.1) (h2 : st2.2.1 = st.2.1) (k : Rn y pc2 lv stk2 st2 r st' d) (h : ∀ (G : xG) (p : Program) (l : Launch) (e : Env) (R : Room) (s : State) (m : MethodId) (args : Array Value) (below : List Frame) (meth : Method) (c : Code) (H : Heap) (locs : List Loc) (cells slots : Nat) (Q : State → Prop),
      xCtx y d G p R s m args meth c → cells ≤ R.cells → slots ≤ R.slots → xW G st H →
      ∀ ls : Array Slot, lv_has ls y.2.2.1 (xlv G lv) → (∀ (H1 : Heap) (L : List Loc), xW G st2 H1 → (∀ q ∈ L, G.H0.size ≤ q.base) → W p l e R s m args below meth c H1 (locs ++ L) cells slots Q (F0 m pc2 ls (xst G stk2))) →
      W p l e R s m args below meth c H locs cells slots Q (F0 m pc ls (xst G stk))) : Rn y pc lv stk st r st' d := by
  refine ⟨h1 ▸ k.1, h2 ▸ k.2.1, fun G p l e R s m args below meth c H locs cells slots Q C g1 g2 hW hL hE ls hl => h G p l e R s m args below meth c H locs cells slots Q C ?_ ?_ hW ls hl (fun H1 L hW1 hL1 => ?_)⟩
  · have := k.1
    omega
  · have := k.2.1
    omega
  · refine k.2.2 G p l e R s m args below meth c H1 (locs ++ L) cells slots Q C (by rw [h1]; exact g1) (by rw [h2]; exact g2) hW1 (fun q hq => ?_) hE ls hl
    rcases List.mem_append.mp hq with h | h
    · exact hL q h
    · exact hL1 q h
theorem xfs_get {fs : List Value} {k : Nat} {v : Value} (G : xG) (hv : fs[k]? = some v) : (fs.map (xcv G.ad))[k]? = some (xcv G.ad v) := by rw [List.getElem?_map, hv]; rfl
/-- the table of a class's fields: its words are in the tables -/
def xcls (ci : Nat) (C : String) (T : u_T) (N : Nat) : Prop := xcl[ci]? = some (C, T, N) ∧ (∀ w ∈ u_ws C T N, w ∈ xT) ∧ ci < 12
theorem r_getfield {a ci k index N : Nat} {C : String} {T : u_T} {fs : List Value} {v : Value} (hd : decode y.2.1 pc = .ok (.getfield index, 3)) (hC : xcls ci C T N) (hT : (T k).1 = C) (hk : k < N) (hw : Cond.fieldLink y.1.cls index C (T k).2.1 (T k).2.2.1 ∈ xT) (ha : st.2.2 a = .inr (ci, fs)) (hv : fs[k]? = some v)
    (kk : Rn y (pc + 3) lv (v :: stk) st r st' d) : Rn y pc lv (.ref a :: stk) st r st' d :=
  kk.lift fun G p l e R s m args below meth c H locs cells slots Q hx hb hown hts hK hW kk ls hl => by
    obtain ⟨i, hi, rfl⟩ := xJ_obj hW ha hC.2.2
    have hP : va_P G.D xcl [(G.ad (64 + i), .inr (ci, fs.map (xcv G.ad)))] H := fun j q hq => by
      have h0 : j = 0 := by
        have := (List.getElem?_eq_some_iff.mp hq).1
        simp at this
        exact this
      subst h0
      cases hq
      have := hW.2.2.1 i hi
      rw [ha] at this
      exact this
    exact va_get (D := G.D) (ci := ci) (v := xcv G.ad v) (C := C) (T := T) (N := N) hx hb hts hC.2.1 hown hK.1 hP 0 rfl hC.1 k hk (hts _ hw) (fun _ h9 => by rw [← hT]; exact h9) (xfs_get G hv) hd (kk ls hl)
theorem r_getfieldN {a ci k index N : Nat} {C host : String} {T : u_T} {fs : List Value} {v : Value} (hd : decode y.2.1 pc = .ok (.getfield index, 3)) (hC : xcls ci C T N) (hT : (T k).1 = C) (hk : k < N) (hw : Cond.fieldLinkNest y.1.cls index C (T k).2.1 (T k).2.2.1 host ∈ xTN) (ha : st.2.2 a = .inr (ci, fs)) (hv : fs[k]? = some v)
    (kk : Rn y (pc + 3) lv (v :: stk) st r st' d) : Rn y pc lv (.ref a :: stk) st r st' d :=
  kk.lift fun G p l e R s m args below meth c H locs cells slots Q hx hb hown hts hK hW kk ls hl => by
    obtain ⟨i, hi, rfl⟩ := xJ_obj hW ha hC.2.2
    have hP : va_P G.D xcl [(G.ad (64 + i), .inr (ci, fs.map (xcv G.ad)))] H := fun j q hq => by
      have h0 : j = 0 := by
        have := (List.getElem?_eq_some_iff.mp hq).1
        simp at this
        exact this
      subst h0
      cases hq
      have := hW.2.2.1 i hi
      rw [ha] at this
      exact this
    exact va_getN (D := G.D) (ci := ci) (v := xcv G.ad v) (C := C) (T := T) (N := N) hx hb hts hC.2.1 hown hK.1 hP 0 rfl hC.1 k hk (va_Nw.use rfl (hK.nw hw)) (fun _ h9 => by rw [← hT]; exact h9) (xfs_get G hv) hd (kk ls hl)
theorem xv_narrow {G : xG} {ty : FieldType} {v : Value} (hn : narrow ty v = v) (hfit : fits ty v = true) : narrow ty (xcv G.ad v) = xcv G.ad v ∧ fits ty (xcv G.ad v) = true := by
  cases v <;> first | exact ⟨hn, hfit⟩ | skip
  cases ty <;> first | (simp [fits] at hfit; done) | exact ⟨rfl, rfl⟩ | exact ⟨hn, hfit⟩
end XR2

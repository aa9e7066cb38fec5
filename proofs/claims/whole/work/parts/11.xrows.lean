/-! THE ROWS again, over the primitives -/
section XR7
variable {y : xM} {pc pc2 : Nat} {lv lv' : List (Nat × Value)} {stk stk0 : List Value} {st st1 : xS} {r : Option Value} {st' : xS} {d : Nat} {o : Option Nat}
theorem x_aload_n {k : Fin 4} (hd : decode y.2.1 pc = .ok (.aload_n k, 1)) (hv : lv.lookup (k : Nat) = some (va_rf o)) (kk : Rn y (pc + 1) lv (va_rf o :: stk) st r st' d) : Rn y pc lv stk st r st' d := by
  cases o with
  | none => exact r_aload_nN hd hv kk
  | some a => exact r_aload_n hd hv kk
theorem x_aload {i : Nat} (hd : decode y.2.1 pc = .ok (.aload i, 2)) (hv : lv.lookup i = some (va_rf o)) (kk : Rn y (pc + 2) lv (va_rf o :: stk) st r st' d) : Rn y pc lv stk st r st' d := by
  cases o with
  | none => exact r_aloadN hd hv kk
  | some a => exact r_aload hd hv kk
theorem x_astore_n {k : Fin 4} (hd : decode y.2.1 pc = .ok (.astore_n k, 1)) (hn : (k : Nat) < y.2.2.1) (hl' : ((k : Nat), va_rf o) :: lv.filter (fun q => !(q.1 == (k : Nat)) && !(q.1 + 1 == (k : Nat) && q.2.category == 2)) = lv') (kk : Rn y (pc + 1) lv' stk st r st' d) : Rn y pc lv (va_rf o :: stk) st r st' d := by
  cases o with
  | none => exact r_astore_nN hd hn hl' kk
  | some a => exact r_astore_n hd hn hl' kk
theorem x_astore {i : Nat} (hd : decode y.2.1 pc = .ok (.astore i, 2)) (hn : i < y.2.2.1) (hl' : (i, va_rf o) :: lv.filter (fun q => !(q.1 == i) && !(q.1 + 1 == i && q.2.category == 2)) = lv') (kk : Rn y (pc + 2) lv' stk st r st' d) : Rn y pc lv (va_rf o :: stk) st r st' d := by
  cases o with
  | none => exact r_astoreN hd hn hl' kk
  | some a => exact r_astore hd hn hl' kk
theorem x_ifnull {off : Int} {tgt : Nat} (hd : decode y.2.1 pc = .ok (.ifnull off, 3)) (ht : (pc : Int) + off = (tgt : Int)) (kt : o = none → Rn y tgt lv stk st r st' d) (kf : ¬ o = none → Rn y (pc + 3) lv stk st r st' d) : Rn y pc lv (va_rf o :: stk) st r st' d := by
  cases o with
  | none => exact r_ifnullN hd ht (kt rfl)
  | some a => exact r_ifnull hd (kf (by intro h; cases h))
theorem x_ifnonnull {off : Int} {tgt : Nat} (hd : decode y.2.1 pc = .ok (.ifnonnull off, 3)) (ht : (pc : Int) + off = (tgt : Int)) (kt : ¬ o = none → Rn y tgt lv stk st r st' d) (kf : o = none → Rn y (pc + 3) lv stk st r st' d) : Rn y pc lv (va_rf o :: stk) st r st' d := by
  cases o with
  | none => exact r_ifnonnullN hd (kf rfl)
  | some a => exact r_ifnonnull hd ht (kt (by intro h; cases h))
theorem x_areturn (hd : decode y.2.1 pc = .ok (.areturn, 1)) (rt : FieldType) (hy : y.2.2.2 = some rt) (ho : (∃ n, rt = .object n) ∨ ∃ t, rt = .array t) : Rn y pc lv [va_rf o] st (some (va_rf o)) st d := by
  cases o with
  | none => exact r_areturnN hd rt hy ho
  | some a => exact r_areturn hd rt hy ho
theorem x_dupR (hd : decode y.2.1 pc = .ok (.dup, 1)) (kk : Rn y (pc + 1) lv (va_rf o :: va_rf o :: stk) st r st' d) : Rn y pc lv (va_rf o :: stk) st r st' d := r_dup hd (by cases o <;> rfl) kk
/-- what a field's instruction asks of the tables: own, or of a nest mate -/
def xfld (own : String) (idx ci k : Nat) : Prop := ∃ (C : String) (T : u_T) (N : Nat), xcls ci C T N ∧ (T k).1 = C ∧ k < N ∧ (Cond.fieldLink own idx C (T k).2.1 (T k).2.2.1 ∈ xT ∨ ∃ host, Cond.fieldLinkNest own idx C (T k).2.1 (T k).2.2.1 host ∈ xTN)
theorem x_getV {ci k index : Nat} {v : Value} (hd : decode y.2.1 pc = .ok (.getfield index, 3)) (hF : xfld y.1.cls index ci k) (h : ∃ a fs, o = some a ∧ st.2.2 a = .inr (ci, fs) ∧ fs[k]? = some v) (kk : Rn y (pc + 3) lv (v :: stk) st r st' d) : Rn y pc lv (va_rf o :: stk) st r st' d := by
  obtain ⟨a, fs, rfl, h1, h2⟩ := h
  obtain ⟨C, T, N, hC, hT, hk, hw | ⟨host, hw⟩⟩ := hF
  · exact r_getfield hd hC hT hk hw h1 h2 kk
  · exact r_getfieldN hd hC hT hk hw h1 h2 kk
theorem x_getI {ci k index : Nat} {x : Int32} (hd : decode y.2.1 pc = .ok (.getfield index, 3)) (hF : xfld y.1.cls index ci k) (h : gI st o ci k = some x) (kk : Rn y (pc + 3) lv (.int x :: stk) st r st' d) : Rn y pc lv (va_rf o :: stk) st r st' d := x_getV hd hF (gI_inv h) kk
theorem x_getL {ci k index : Nat} {x : Int64} (hd : decode y.2.1 pc = .ok (.getfield index, 3)) (hF : xfld y.1.cls index ci k) (h : gL st o ci k = some x) (kk : Rn y (pc + 3) lv (.long x :: stk) st r st' d) : Rn y pc lv (va_rf o :: stk) st r st' d := x_getV hd hF (gL_inv h) kk
theorem x_getR {ci k index : Nat} {x : Option Nat} (hd : decode y.2.1 pc = .ok (.getfield index, 3)) (hF : xfld y.1.cls index ci k) (h : gR st o ci k = some x) (kk : Rn y (pc + 3) lv (va_rf x :: stk) st r st' d) : Rn y pc lv (va_rf o :: stk) st r st' d := x_getV hd hF (gR_inv h) kk
def xfldP (own nm : String) (idx ci k : Nat) (ty : FieldType) : Prop := ∃ (C : String) (T : u_T) (N : Nat) (ty0 : Nat → FieldType), xcls ci C T N ∧ (T k).1 = C ∧ k < N ∧ (∀ k, k < N → parseFieldDescriptor (T k).2.2.1 = some (ty0 k)) ∧ ty0 k = ty ∧ (∀ a, a < N → ∀ b, b < N → a ≠ b → (T a).2.1 ≠ (T b).2.1) ∧
  ((T k).2.2.2 = false ∧ (Cond.fieldLink own idx C (T k).2.1 (T k).2.2.1 ∈ xT ∨ ∃ host, Cond.fieldLinkNest own idx C (T k).2.1 (T k).2.2.1 host ∈ xTN) ∨ (T k).2.2.2 = true ∧ own = C ∧ nm = "<init>" ∧ Cond.fieldLink own idx C (T k).2.1 (T k).2.2.1 ∈ xT)
theorem x_putV {ci k index : Nat} {v : Value} {ty : FieldType} (hd : decode y.2.1 pc = .ok (.putfield index, 3)) (hF : xfldP y.1.cls y.1.name index ci k ty) (hn : narrow ty v = v) (hf : fits ty v = true) (h : pF st o ci k v = some st1) (kk : Rn y (pc + 3) lv stk st1 r st' d) : Rn y pc lv (v :: va_rf o :: stk) st r st' d := by
  obtain ⟨a, fs, rfl, h1, h2, rfl⟩ := pF_inv h
  obtain ⟨C, T, N, ty0, hC, hT, hk, hty, e, hnm, hw⟩ := hF
  subst e
  rcases hw with ⟨hfin, hw | ⟨host, hw⟩⟩ | ⟨hfin, hown, hin, hw⟩
  · exact r_putfield hd hC hT hk hw hfin ⟨⟨ty0, hty, hn, hf⟩, hnm⟩ h1 h2 kk
  · exact r_putfieldN hd hC hT hk hw hfin ⟨⟨ty0, hty, hn, hf⟩, hnm⟩ h1 h2 kk
  · exact r_putfieldF hd hC hT hk hw hfin hin hown ⟨⟨ty0, hty, hn, hf⟩, hnm⟩ h1 h2 kk
theorem x_putI {ci k index : Nat} {x : Int32} (hd : decode y.2.1 pc = .ok (.putfield index, 3)) (hF : xfldP y.1.cls y.1.name index ci k .int) (h : pF st o ci k (.int x) = some st1) (kk : Rn y (pc + 3) lv stk st1 r st' d) : Rn y pc lv (.int x :: va_rf o :: stk) st r st' d := x_putV hd hF rfl rfl h kk
theorem x_putL {ci k index : Nat} {x : Int64} (hd : decode y.2.1 pc = .ok (.putfield index, 3)) (hF : xfldP y.1.cls y.1.name index ci k .long) (h : pF st o ci k (.long x) = some st1) (kk : Rn y (pc + 3) lv stk st1 r st' d) : Rn y pc lv (.long x :: va_rf o :: stk) st r st' d := x_putV hd hF rfl rfl h kk
theorem x_putZ {ci k index : Nat} {x : Int32} (hd : decode y.2.1 pc = .ok (.putfield index, 3)) (hF : xfldP y.1.cls y.1.name index ci k .boolean) (hz : x = 0 ∨ x = 1) (h : pF st o ci k (.int x) = some st1) (kk : Rn y (pc + 3) lv stk st1 r st' d) : Rn y pc lv (.int x :: va_rf o :: stk) st r st' d :=
  x_putV hd hF (by rcases hz with rfl | rfl <;> rfl) (by rcases hz with rfl | rfl <;> rfl) h kk
theorem x_putR {ci k index : Nat} {x : Option Nat} {ty : FieldType} (hd : decode y.2.1 pc = .ok (.putfield index, 3)) (hF : xfldP y.1.cls y.1.name index ci k ty) (ht : (∃ n, ty = .object n) ∨ ∃ t, ty = .array t) (h : pF st o ci k (va_rf x) = some st1) (kk : Rn y (pc + 3) lv stk st1 r st' d) : Rn y pc lv (va_rf x :: va_rf o :: stk) st r st' d :=
  x_putV hd hF (by rcases ht with ⟨n, rfl⟩ | ⟨t, rfl⟩ <;> cases x <;> rfl) (by rcases ht with ⟨n, rfl⟩ | ⟨t, rfl⟩ <;> cases x <;> rfl) h kk
theorem x_iaload {i x : Int32} (hd : decode y.2.1 pc = .ok (.iaload, 1)) (h : aI st o i = some x) (kk : Rn y (pc + 1) lv (.int x :: stk) st r st' d) : Rn y pc lv (.int i :: va_rf o :: stk) st r st' d := by
  obtain ⟨a, t, n, f, rfl, h1, ht, h2, rfl⟩ := aI_inv h
  rcases ht with rfl | ⟨rfl, rfl⟩
  · exact r_iaload hd h1 h2 kk
  · exact r_sld hd h1 h2 kk
theorem x_laload {i : Int32} {x : Int64} (hd : decode y.2.1 pc = .ok (.laload, 1)) (h : aL st o i = some x) (kk : Rn y (pc + 1) lv (.long x :: stk) st r st' d) : Rn y pc lv (.int i :: va_rf o :: stk) st r st' d := by
  obtain ⟨a, n, f, rfl, h1, h2, rfl⟩ := aL_inv h
  exact r_laload hd h1 h2 kk
theorem x_baload {i x : Int32} (hd : decode y.2.1 pc = .ok (.baload, 1)) (h : aS 2 st o i = some x) (kk : Rn y (pc + 1) lv (.int x :: stk) st r st' d) : Rn y pc lv (.int i :: va_rf o :: stk) st r st' d := by
  obtain ⟨a, n, f, rfl, h1, h2, rfl⟩ := aS_inv h
  exact r_baload hd h1 h2 kk
theorem x_zaload {i x : Int32} (hd : decode y.2.1 pc = .ok (.baload, 1)) (h : aS 3 st o i = some x) (kk : Rn y (pc + 1) lv (.int x :: stk) st r st' d) : Rn y pc lv (.int i :: va_rf o :: stk) st r st' d := by
  obtain ⟨a, n, f, rfl, h1, h2, rfl⟩ := aS_inv h
  exact r_zaload hd h1 h2 kk
theorem x_aaload {i : Int32} {x : Option Nat} (hd : decode y.2.1 pc = .ok (.aaload, 1)) (h : aR st o i = some x) (kk : Rn y (pc + 1) lv (va_rf x :: stk) st r st' d) : Rn y pc lv (.int i :: va_rf o :: stk) st r st' d := by
  obtain ⟨a, t, n, f, rfl, h1, ⟨t1, t2⟩, h2, rfl⟩ := aR_inv h
  refine r_aaload hd h1 t2 ?_ h2 kk
  match t, t1, t2 with
  | 4, _, _ => rfl
  | 5, _, _ => rfl
  | 6, _, _ => rfl
  | 7, _, _ => rfl
  | 8, _, _ => rfl
theorem x_alen {v : Int32} (hd : decode y.2.1 pc = .ok (.arraylength, 1)) (h : aN st o = some v) (kk : Rn y (pc + 1) lv (.int v :: stk) st r st' d) : Rn y pc lv (va_rf o :: stk) st r st' d := by
  obtain ⟨a, t, x, rfl, h1, ht, rfl⟩ := aN_inv h
  rcases ht with ht | ⟨rfl, rfl⟩
  · exact r_alen hd h1 ht rfl kk
  · obtain ⟨n, x⟩ := x
    match x, h1 with
    | .inl f, h1 => exact r_slen hd h1 kk
    | .inr z, h1 =>
      refine Rn.lift (y := y) (st := st) kk fun G p l e R s m args below meth c H locs cells slots Q hx hb hown hts hK hW kk ls hl => ?_
      rcases hW.2.2.2 40 (by omega) with e | ⟨-, e⟩
      · rw [h1] at e
        cases e
      · rw [h1] at e
        cases e
theorem x_iastore {i x : Int32} (hd : decode y.2.1 pc = .ok (.iastore, 1)) (h : sS 0 st o i x = some st1) (kk : Rn y (pc + 1) lv stk st1 r st' d) : Rn y pc lv (.int x :: .int i :: va_rf o :: stk) st r st' d := by
  obtain ⟨a, n, f, rfl, h1, h2, rfl⟩ := sS_inv h
  exact r_iastore hd h1 h2 kk
theorem x_bastore {i x : Int32} (hd : decode y.2.1 pc = .ok (.bastore, 1)) (h : sS 2 st o i x.toInt8.toInt32 = some st1) (kk : Rn y (pc + 1) lv stk st1 r st' d) : Rn y pc lv (.int x :: .int i :: va_rf o :: stk) st r st' d := by
  obtain ⟨a, n, f, rfl, h1, h2, rfl⟩ := sS_inv h
  exact r_bastore hd h1 h2 kk
theorem x_zastore {i x : Int32} (hd : decode y.2.1 pc = .ok (.bastore, 1)) (h : sS 3 st o i (vp_nar .boolean x) = some st1) (kk : Rn y (pc + 1) lv stk st1 r st' d) : Rn y pc lv (.int x :: .int i :: va_rf o :: stk) st r st' d := by
  obtain ⟨a, n, f, rfl, h1, h2, rfl⟩ := sS_inv h
  exact r_zastore hd h1 h2 kk
theorem x_lastore {i : Int32} {x : Int64} (hd : decode y.2.1 pc = .ok (.lastore, 1)) (h : sL st o i x = some st1) (kk : Rn y (pc + 1) lv stk st1 r st' d) : Rn y pc lv (.long x :: .int i :: va_rf o :: stk) st r st' d := by
  obtain ⟨a, n, f, rfl, h1, h2, rfl⟩ := sL_inv h
  exact r_lastore hd h1 h2 kk
theorem x_aastore {i : Int32} {x : Option Nat} (hd : decode y.2.1 pc = .ok (.aastore, 1)) (h : sR st o i x = some st1) (kk : Rn y (pc + 1) lv stk st1 r st' d) : Rn y pc lv (va_rf x :: .int i :: va_rf o :: stk) st r st' d := by
  obtain ⟨a, t, n, f, rfl, h1, h2, h3, rfl⟩ := sR_inv h
  cases x with
  | none =>
    have ht : 4 ≤ t ∧ t < 8 := by simpa [okR] using h3
    obtain ⟨t1, t2⟩ := ht
    match t, t1, t2, h1 with
    | 4, _, _, h1 => exact r_aastoreN hd h1 (by decide) rfl h2 kk
    | 5, _, _, h1 => exact r_aastoreN hd h1 (by decide) rfl h2 kk
    | 6, _, _, h1 => exact r_aastoreN hd h1 (by decide) rfl h2 kk
    | 7, _, _, h1 => exact r_aastoreN hd h1 (by decide) rfl h2 kk
  | some v =>
    have h3 : (match st.2.2 v with | .inr (ci, _) => decide (4 ≤ t ∧ t < 8) && decide (ci = xkc t) | _ => false) = true := h3
    split at h3
    · rename_i ci vs e
      simp only [Bool.and_eq_true, decide_eq_true_eq] at h3
      obtain ⟨⟨t1, t2⟩, hci⟩ := h3
      subst hci
      match t, t1, t2, h1, e with
      | 4, _, _, h1, e => exact r_aastore hd h1 (by decide) e (q := (RX4, TX4, 4)) rfl (by decide) rfl h2 kk
      | 5, _, _, h1, e => exact r_aastore hd h1 (by decide) e (q := (RX3, TX3, 1)) rfl (by decide) rfl h2 kk
      | 6, _, _, h1, e => exact r_aastore hd h1 (by decide) e (q := (RX6, TX6, 8)) rfl (by decide) rfl h2 kk
      | 7, _, _, h1, e => exact r_aastore hd h1 (by decide) e (q := (RX9, TX9, 11)) rfl (by decide) rfl h2 kk
    · cases h3
theorem x_idiv {a b x : Int32} (hd : decode y.2.1 pc = .ok (.idiv, 1)) (h : dI a b = some x) (kk : Rn y (pc + 1) lv (.int x :: stk) st r st' d) : Rn y pc lv (.int b :: .int a :: stk) st r st' d := by
  obtain ⟨h1, rfl⟩ := ite_none h
  exact r_idiv hd h1 kk
theorem x_irem {a b x : Int32} (hd : decode y.2.1 pc = .ok (.irem, 1)) (h : dR a b = some x) (kk : Rn y (pc + 1) lv (.int x :: stk) st r st' d) : Rn y pc lv (.int b :: .int a :: stk) st r st' d := by
  obtain ⟨h1, rfl⟩ := ite_none h
  exact r_irem hd h1 kk
theorem x_ldiv {a b x : Int64} (hd : decode y.2.1 pc = .ok (.ldiv, 1)) (h : dL a b = some x) (kk : Rn y (pc + 1) lv (.long x :: stk) st r st' d) : Rn y pc lv (.long b :: .long a :: stk) st r st' d := by
  obtain ⟨h1, rfl⟩ := ite_none h
  exact r_ldiv hd h1 kk
theorem x_lrem {a b x : Int64} (hd : decode y.2.1 pc = .ok (.lrem, 1)) (h : dM a b = some x) (kk : Rn y (pc + 1) lv (.long x :: stk) st r st' d) : Rn y pc lv (.long b :: .long a :: stk) st r st' d := by
  obtain ⟨h1, rfl⟩ := ite_none h
  exact r_lrem hd h1 kk
theorem x_arraycopy {t : Nat} {o0 : Option Nat} {sp dp n : Int32} {index : Nat} (hd : decode y.2.1 pc = .ok (.invokestatic index, 3)) (hw : Cond.methodLink y.1.cls index arraycopyName ∈ xT) (w1 : Cond.native arraycopyName ∈ xT) (w2 : Cond.static arraycopyName ∈ xT) (w3 : Cond.initialized "java/lang/System" ∈ xT) (ht : t < 4) (hp : refKind (xty t) = false) (hd1 : 1 ≤ d) (hs : (stk.map fun v => v.category).sum ≤ 8)
    (h : cpS t st o0 sp o dp n = some st1) (kk : Rn y (pc + 3) lv stk st1 r st' d) : Rn y pc lv (.int n :: .int dp :: va_rf o :: .int sp :: va_rf o0 :: stk) st r st' d := by
  obtain ⟨a0, a, n0, n1, f, g, rfl, rfl, e0, e1, h1, h2, h3, h4, h5, h6, rfl⟩ := cpS_inv h
  exact r_arraycopy hd hw w1 w2 w3 ht hp e0 e1 h1 h2 h3 h4 h5 h6 hd1 hs kk
/-! calls -/
def xlkS (own : String) (idx : Nat) (yc : xM) (n : Nat) : Prop := (Cond.methodLink own idx yc.1 ∈ xT ∨ ∃ host, Cond.methodLinkNest own idx yc.1 host ∈ xTN) ∧ Cond.static yc.1 ∈ xT ∧ xcal yc n
theorem x_callS {yc : xM} {as : List Value} {r1 : Option Value} {d' index : Nat} (hd : decode y.2.1 pc = .ok (.invokestatic index, 3)) (hL : xlkS y.1.cls index yc as.length) (hdd : d' + 1 ≤ d) (hs : (stk.map fun v => v.category).sum ≤ 8) (he : stk0 = as.reverse ++ stk)
    (hc : Ct yc as st r1 st1 d') (kk : Rn y (pc + 3) lv (r1.toList ++ stk) st1 r st' d) : Rn y pc lv stk0 st r st' d := by
  obtain ⟨hw | ⟨host, hw⟩, h1, h2⟩ := hL
  · exact r_callS hd hw h1 h2 hdd hs he hc kk
  · exact r_callSN hd hw h1 h2 hdd hs he hc kk
/-- the class number of an object -/
def ckO (st : xS) (o : Option Nat) : Option Nat := o.bind fun a => match st.2.2 a with
  | .inr (c, _) => some c
  | _ => none
theorem ckO_inv {ci : Nat} (h : ckO st o = some ci) : ∃ a fs, o = some a ∧ st.2.2 a = .inr (ci, fs) := by
  cases o with
  | none => cases h
  | some a =>
    replace h : (match st.2.2 a with | .inr (c, _) => some c | _ => none) = some ci := h
    split at h
    · rename_i c fs e
      cases h
      exact ⟨a, fs, rfl, e⟩
    · cases h
/-- a call asks that the receiver is an object of that class -/
def isO (st : xS) (o : Option Nat) (ci : Nat) : Option Nat := (ckO st o).bind fun c => if c = ci then some c else none
theorem isO_inv {ci q : Nat} (h : isO st o ci = some q) : ∃ a fs, o = some a ∧ st.2.2 a = .inr (ci, fs) := by
  obtain ⟨c, h1, h2⟩ := Option.bind_eq_some_iff.mp h
  by_cases hc : c = ci
  · subst hc
    exact ckO_inv h1
  · rw [if_neg hc] at h2
    cases h2
def xlkV (own : String) (idx : Nat) (yc : xM) (n ci : Nat) : Prop := (Cond.methodLink own idx yc.1 ∈ xT ∨ ∃ host, Cond.methodLinkNest own idx yc.1 host ∈ xTN) ∧ Cond.instanceMethod yc.1 ∈ xT ∧ Cond.selects yc.1.cls yc.1 yc.1 ∈ xT ∧ xcal yc n ∧ ∃ q : vw_C, xcl[ci]? = some q ∧ ci < 12 ∧ yc.1.cls = q.1
theorem x_callV {yc : xM} {as : List Value} {r1 : Option Value} {d' index ci q : Nat} (hd : decode y.2.1 pc = .ok (.invokevirtual index, 3)) (hL : xlkV y.1.cls index yc as.length ci) (ho : isO st o ci = some q) (hdd : d' + 1 ≤ d) (hs : (stk.map fun v => v.category).sum ≤ 8) (he : stk0 = as.reverse ++ va_rf o :: stk)
    (hc : Ct yc (va_rf o :: as) st r1 st1 d') (kk : Rn y (pc + 3) lv (r1.toList ++ stk) st1 r st' d) : Rn y pc lv stk0 st r st' d := by
  obtain ⟨a, fs, rfl, hb⟩ := isO_inv ho
  obtain ⟨hw | ⟨host, hw⟩, h1, h2, h3, q, h4, h5, h6⟩ := hL
  · exact r_callV hd hw h1 h2 h3 hdd hs he hb h4 h5 h6 hc kk
  · exact r_callVN hd hw h1 h2 h3 hdd hs he hb h4 h5 h6 hc kk
def xlkI (own : String) (idx : Nat) (yc : xM) (n : Nat) : Prop := (Cond.methodLink own idx yc.1 ∈ xT ∨ ∃ host, Cond.methodLinkNest own idx yc.1 host ∈ xTN) ∧ Cond.instanceMethod yc.1 ∈ xT ∧ yc.1.name = "<init>" ∧ yc.2.2.2 = none ∧ xcal yc n
theorem x_callI {yc : xM} {as : List Value} {d' index b : Nat} (hd : decode y.2.1 pc = .ok (.invokespecial index, 3)) (hL : xlkI y.1.cls index yc as.length) (hob : o = some b) (hdd : d' + 1 ≤ d) (hs : (stk.map fun v => v.category).sum ≤ 8) (he : stk0 = as.reverse ++ va_rf o :: stk)
    (hc : Ct yc (va_rf o :: as) st none st1 d') (kk : Rn y (pc + 3) lv stk st1 r st' d) : Rn y pc lv stk0 st r st' d := by
  subst hob
  obtain ⟨hw | ⟨host, hw⟩, h1, h2, h3, h4⟩ := hL
  · exact r_callI hd hw h1 h2 h3 h4 hdd hs he hc kk
  · exact r_callIN hd hw h1 h2 h3 h4 hdd hs he hc kk
/-- an abstract method of class Kind, as the receiver's class has it -/
def xlkU (own : String) (idx : Nat) (x : MethodName) (yc : xM) (n ci : Nat) : Prop := Cond.methodLink own idx x ∈ xT ∧ Cond.sameMethod x.cls x.cls x.name x.desc ∈ xT ∧ Cond.selects yc.1.cls x yc.1 ∈ xT ∧ Cond.instanceMethod yc.1 ∈ xT ∧ Cond.declares x ∈ xTN ∧ (x.cls ≠ "java/lang/invoke/MethodHandle" ∧ x.cls ≠ "java/lang/invoke/VarHandle" ∧ (parseMethodDescriptor x.desc).map (fun d => d.parameters.length) = some n) ∧ xcal yc n ∧ ∃ q : vw_C, xcl[ci]? = some q ∧ ci < 12 ∧ yc.1.cls = q.1
theorem x_callU {yc : xM} {x : MethodName} {as : List Value} {r1 : Option Value} {d' index ci : Nat} (hd : decode y.2.1 pc = .ok (.invokevirtual index, 3)) (hL : xlkU y.1.cls index x yc as.length ci) (ho : ckO st o = some ci) (hdd : d' + 1 ≤ d) (hs : (stk.map fun v => v.category).sum ≤ 8) (he : stk0 = as.reverse ++ va_rf o :: stk)
    (hc : Ct yc (va_rf o :: as) st r1 st1 d') (kk : Rn y (pc + 3) lv (r1.toList ++ stk) st1 r st' d) : Rn y pc lv stk0 st r st' d := by
  subst he
  obtain ⟨b, fs, rfl, hb⟩ := ckO_inv ho
  obtain ⟨w1, w2, w3, w4, w5, w6, ⟨b1, b2, b3, b4⟩, q, hq, hc12, hcl⟩ := hL
  have c1 := hc.1
  have c2 := hc.2.1
  refine ⟨Nat.le_trans hc.1 kk.1, Nat.le_trans hc.2.1 kk.2.1, fun G p l e R s m args below meth c H locs cells slots Q X g1 g2 hW hL hE ls hl => ?_⟩
  have k1 := kk.1
  have k2 := kk.2.1
  have X0 := X
  obtain ⟨S, -, hK, hf, hlo⟩ := X0
  rw [xstack]
  have hpre := xpreS (as := .ref b :: as) hW hK
  have hrc := xrecv hW hK hb hq hc12
  rw [← hcl] at hrc
  have hg : GoodIn xT (va_wsU y.1.cls index yc.1.cls x.cls x yc.1 (xws yc)) := fun w hw => by
    have hm : w ∈ xT := by
      rcases List.mem_append.mp hw with h | h
      · rcases List.mem_cons.mp h with h | h
        · rw [h]; exact w1
        · rcases List.mem_cons.mp h with h | h
          · rw [h]; exact w2
          · rcases List.mem_cons.mp h with h | h
            · rw [h]; exact w3
            · rcases List.mem_cons.mp h with h | h
              · rw [h]; exact w4
              · rcases List.mem_cons.mp h with h | h
                · rw [h]; exact b2
                · cases h
      · exact (xgoodIn b1 w h).1
    exact ⟨hm, good_of_word (xgood w hm)⟩
  refine xrun (a := (Value.ref (G.ad b) :: as.map (xcv G.ad)).toArray) (mc := st1.1 - st.1) (ms := st1.2.1 - st.2.1) (by omega) (by omega) (va_runU S (hc.2.2 G l (st1.1 - st.1) (st1.2.1 - st.2.1) (by omega) (by omega)) (ws := xws yc) (rm := { frames := d', cells := st1.1 - st.1, slots := st1.2.1 - st.2.1, locals := 45 * d' }) (n := as.length) (bytes := yc.2.1) (maxL := yc.2.2.1) (ret := yc.2.2.2) (C := yc.1.cls)
    (va_cwA (owner := x.cls) as.length S.2.2.2.2 hg rfl rfl rfl (hK.nw w5) w6 (xroom hdd b4 hf hlo)) ⟨hpre.1, hrc, hpre.2⟩ rfl (by rw [List.length_map]) hl.1 rfl (xgW hs m ls _) hd ⟨by omega, by omega⟩) kk X g1 g2 hL hE hl
/-- fewer locals, in another order -/
theorem x_sub (ks : List Nat) (h : lv_pick lv ks = lv') (kk : Rn y pc lv' stk st r st' d) : Rn y pc lv stk st r st' d :=
  kk.lift fun G p l e R s m args below meth c H locs cells slots Q hx hb hown hts hK hW kk ls hl => kk ls (lv_sub hl ks (by
    rw [← h]
    simp only [lv_pick, xlv, List.map_filterMap]
    congr 1
    funext k
    rw [List.getElem?_map]))
end XR7

/-! THE ROWS of instructions that leave the heap -/
section XR1
variable {y : xM} {pc : Nat} {lv lv' : List (Nat × Value)} {stk : List Value} {st : xS} {r : Option Value} {st' : xS} {d : Nat}
theorem xcv_cat (ad : Nat → Nat) (v : Value) : (xcv ad v).category = v.category := by cases v <;> rfl
theorem xlv_set1 (G : xG) (i : Nat) (v : Value) (h : (i, v) :: lv.filter (fun q => !(q.1 == i) && !(q.1 + 1 == i && q.2.category == 2)) = lv') :
    (i, xcv G.ad v) :: (xlv G lv).filter (fun q => !(q.1 == i) && !(q.1 + 1 == i && q.2.category == 2)) = xlv G lv' := by
  rw [← h]
  simp only [xlv, List.filter_map, List.map_cons]
  congr 3
  funext q
  simp [xcv_cat]
theorem xlv_set2 (G : xG) (i : Nat) (v : Value) (h : (i, v) :: lv.filter (fun q => !(q.1 == i) && (!(q.1 == i + 1) && !(q.1 + 1 == i && q.2.category == 2))) = lv') :
    (i, xcv G.ad v) :: (xlv G lv).filter (fun q => !(q.1 == i) && (!(q.1 == i + 1) && !(q.1 + 1 == i && q.2.category == 2))) = xlv G lv' := by
  rw [← h]
  simp only [xlv, List.filter_map, List.map_cons]
  congr 3
  funext q
  simp [xcv_cat]
theorem xlook {i : Nat} {v : Value} (hv : lv.lookup i = some v) : ∃ k : Nat, lv[k]? = some (i, v) := by
  induction lv with
  | nil => cases hv
  | cons q t ih =>
    obtain ⟨j, w⟩ := q
    rw [List.lookup_cons] at hv
    by_cases hij : i = j
    · subst hij
      simp at hv
      subst hv
      exact ⟨0, rfl⟩
    · have : (i == j) = false := by simpa using hij
      rw [this] at hv
      obtain ⟨k, hk⟩ := ih hv
      exact ⟨k + 1, hk⟩
theorem xlookG {i : Nat} {v : Value} (G : xG) (hv : lv.lookup i = some v) : ∃ k : Nat, (xlv G lv)[k]? = some (i, xcv G.ad v) := by
  obtain ⟨k, hk⟩ := xlook hv
  exact ⟨k, by rw [List.getElem?_map, hk]; rfl⟩

theorem r_iconst {n : Int} {v : Int32} (hd : decode y.2.1 pc = .ok (.iconst n, 1)) (hv : Int32.ofInt n = v) (kk : Rn y (pc + 1) lv (.int v :: stk) st r st' d) : Rn y pc lv (stk) st r st' d :=
  kk.lift fun _ _ _ _ _ _ _ _ _ _ _ _ _ _ _ _ hx hb hown hts hK hW kk ls hl => lv_iconst hx hb hd hv (kk ls hl)

theorem r_bipush {n : Int} {v : Int32} (hd : decode y.2.1 pc = .ok (.bipush n, 2)) (hv : (Int8.ofInt n).toInt32 = v) (kk : Rn y (pc + 2) lv (.int v :: stk) st r st' d) : Rn y pc lv (stk) st r st' d :=
  kk.lift fun _ _ _ _ _ _ _ _ _ _ _ _ _ _ _ _ hx hb hown hts hK hW kk ls hl => lv_bipush hx hb hd hv (kk ls hl)

theorem r_sipush {n : Int} {v : Int32} (hd : decode y.2.1 pc = .ok (.sipush n, 3)) (hv : (Int16.ofInt n).toInt32 = v) (kk : Rn y (pc + 3) lv (.int v :: stk) st r st' d) : Rn y pc lv (stk) st r st' d :=
  kk.lift fun _ _ _ _ _ _ _ _ _ _ _ _ _ _ _ _ hx hb hown hts hK hW kk ls hl => lv_sipush hx hb hd hv (kk ls hl)

theorem r_lconst {n : Fin 2} {v : Int64} (hd : decode y.2.1 pc = .ok (.lconst n, 1)) (hv : Int64.ofNat (n : Nat) = v) (kk : Rn y (pc + 1) lv (.long v :: stk) st r st' d) : Rn y pc lv (stk) st r st' d :=
  kk.lift fun _ _ _ _ _ _ _ _ _ _ _ _ _ _ _ _ hx hb hown hts hK hW kk ls hl => lv_lconst hx hb hd hv (kk ls hl)

theorem r_iload_n {k : Fin 4} {x : Int32} (hd : decode y.2.1 pc = .ok (.iload_n k, 1)) (hv : lv.lookup (k : Nat) = some (.int x)) (kk : Rn y (pc + 1) lv (.int x :: stk) st r st' d) : Rn y pc lv (stk) st r st' d :=
  kk.lift fun _ _ _ _ _ _ _ _ _ _ _ _ _ _ _ _ hx hb hown hts hK hW kk ls hl => lv_iload_n hx hb hd rfl (xlv_at hl hv) (kk ls hl)

theorem r_iload {i : Nat} {x : Int32} (hd : decode y.2.1 pc = .ok (.iload i, 2)) (hv : lv.lookup i = some (.int x)) (kk : Rn y (pc + 2) lv (.int x :: stk) st r st' d) : Rn y pc lv (stk) st r st' d :=
  kk.lift fun _ _ _ _ _ _ _ _ _ _ _ _ _ _ _ _ hx hb hown hts hK hW kk ls hl => lv_iload hx hb hd (xlv_at hl hv) (kk ls hl)

theorem r_lload_n {k : Fin 4} {x : Int64} (hd : decode y.2.1 pc = .ok (.lload_n k, 1)) (hv : lv.lookup (k : Nat) = some (.long x)) (kk : Rn y (pc + 1) lv (.long x :: stk) st r st' d) : Rn y pc lv (stk) st r st' d :=
  kk.lift fun _ _ _ _ _ _ _ _ _ _ _ _ _ _ _ _ hx hb hown hts hK hW kk ls hl => lv_lload_n hx hb hd rfl (xlv_at hl hv) (kk ls hl)

theorem r_lload {i : Nat} {x : Int64} (hd : decode y.2.1 pc = .ok (.lload i, 2)) (hv : lv.lookup i = some (.long x)) (kk : Rn y (pc + 2) lv (.long x :: stk) st r st' d) : Rn y pc lv (stk) st r st' d :=
  kk.lift fun _ _ _ _ _ _ _ _ _ _ _ _ _ _ _ _ hx hb hown hts hK hW kk ls hl => lv_lload hx hb hd (xlv_at hl hv) (kk ls hl)

theorem r_aload_n {k : Fin 4} {x : Nat} (hd : decode y.2.1 pc = .ok (.aload_n k, 1)) (hv : lv.lookup (k : Nat) = some (.ref x)) (kk : Rn y (pc + 1) lv (.ref x :: stk) st r st' d) : Rn y pc lv (stk) st r st' d :=
  kk.lift fun _ _ _ _ _ _ _ _ _ _ _ _ _ _ _ _ hx hb hown hts hK hW kk ls hl => lv_aload_n hx hb hd rfl (xlv_at hl hv) (kk ls hl)

theorem r_aload {i : Nat} {x : Nat} (hd : decode y.2.1 pc = .ok (.aload i, 2)) (hv : lv.lookup i = some (.ref x)) (kk : Rn y (pc + 2) lv (.ref x :: stk) st r st' d) : Rn y pc lv (stk) st r st' d :=
  kk.lift fun _ _ _ _ _ _ _ _ _ _ _ _ _ _ _ _ hx hb hown hts hK hW kk ls hl => lv_aload hx hb hd (xlv_at hl hv) (kk ls hl)

theorem r_aload_nN {k : Fin 4} (hd : decode y.2.1 pc = .ok (.aload_n k, 1)) (hv : lv.lookup (k : Nat) = some .null) (kk : Rn y (pc + 1) lv (.null :: stk) st r st' d) : Rn y pc lv (stk) st r st' d :=
  kk.lift fun _ _ _ _ _ _ _ _ _ _ _ _ _ _ _ _ hx hb hown hts hK hW kk ls hl => lv_aload_nN hx hb hd rfl (xlv_at hl hv) (kk ls hl)

theorem r_aloadN {i : Nat} (hd : decode y.2.1 pc = .ok (.aload i, 2)) (hv : lv.lookup i = some .null) (kk : Rn y (pc + 2) lv (.null :: stk) st r st' d) : Rn y pc lv (stk) st r st' d :=
  kk.lift fun _ _ _ _ _ _ _ _ _ _ _ _ _ _ _ _ hx hb hown hts hK hW kk ls hl => lv_aloadN hx hb hd (xlv_at hl hv) (kk ls hl)

theorem r_istore {i : Nat} {x : Int32} (hd : decode y.2.1 pc = .ok (.istore i, 2)) (hn : i < y.2.2.1) (hl' : (i, Value.int x) :: lv.filter (fun q => !(q.1 == i) && !(q.1 + 1 == i && q.2.category == 2)) = lv') (kk : Rn y (pc + 2) lv' (stk) st r st' d) : Rn y pc lv (.int x :: stk) st r st' d :=
  kk.lift fun _ _ _ _ _ _ _ _ _ _ _ _ _ _ _ _ hx hb hown hts hK hW kk ls hl => lv_istore hx hb hd hl hn (xlv_set1 _ _ (Value.int x) hl') (fun ls' hl' => kk ls' hl')

theorem r_istore_n {k : Fin 4} {x : Int32} (hd : decode y.2.1 pc = .ok (.istore_n k, 1)) (hn : (k : Nat) < y.2.2.1) (hl' : ((k : Nat), Value.int x) :: lv.filter (fun q => !(q.1 == (k : Nat)) && !(q.1 + 1 == (k : Nat) && q.2.category == 2)) = lv') (kk : Rn y (pc + 1) lv' (stk) st r st' d) : Rn y pc lv (.int x :: stk) st r st' d :=
  kk.lift fun _ _ _ _ _ _ _ _ _ _ _ _ _ _ _ _ hx hb hown hts hK hW kk ls hl => lv_istore_n hx hb hd rfl hl hn (xlv_set1 _ _ (Value.int x) hl') (fun ls' hl' => kk ls' hl')

theorem r_lstore {i : Nat} {x : Int64} (hd : decode y.2.1 pc = .ok (.lstore i, 2)) (hn : i + 1 < y.2.2.1) (hl' : (i, Value.long x) :: lv.filter (fun q => !(q.1 == i) && (!(q.1 == i + 1) && !(q.1 + 1 == i && q.2.category == 2))) = lv') (kk : Rn y (pc + 2) lv' (stk) st r st' d) : Rn y pc lv (.long x :: stk) st r st' d :=
  kk.lift fun _ _ _ _ _ _ _ _ _ _ _ _ _ _ _ _ hx hb hown hts hK hW kk ls hl => lv_lstore hx hb hd hl hn (xlv_set2 _ _ (Value.long x) hl') (fun ls' hl' => kk ls' hl')

theorem r_lstore_n {k : Fin 4} {x : Int64} (hd : decode y.2.1 pc = .ok (.lstore_n k, 1)) (hn : (k : Nat) + 1 < y.2.2.1) (hl' : ((k : Nat), Value.long x) :: lv.filter (fun q => !(q.1 == (k : Nat)) && (!(q.1 == (k : Nat) + 1) && !(q.1 + 1 == (k : Nat) && q.2.category == 2))) = lv') (kk : Rn y (pc + 1) lv' (stk) st r st' d) : Rn y pc lv (.long x :: stk) st r st' d :=
  kk.lift fun _ _ _ _ _ _ _ _ _ _ _ _ _ _ _ _ hx hb hown hts hK hW kk ls hl => lv_lstore_n hx hb hd rfl hl hn (xlv_set2 _ _ (Value.long x) hl') (fun ls' hl' => kk ls' hl')

theorem r_astore {i : Nat} {x : Nat} (hd : decode y.2.1 pc = .ok (.astore i, 2)) (hn : i < y.2.2.1) (hl' : (i, Value.ref x) :: lv.filter (fun q => !(q.1 == i) && !(q.1 + 1 == i && q.2.category == 2)) = lv') (kk : Rn y (pc + 2) lv' (stk) st r st' d) : Rn y pc lv (.ref x :: stk) st r st' d :=
  kk.lift fun _ _ _ _ _ _ _ _ _ _ _ _ _ _ _ _ hx hb hown hts hK hW kk ls hl => lv_astore hx hb hd hl hn (xlv_set1 _ _ (Value.ref x) hl') (fun ls' hl' => kk ls' hl')

theorem r_astore_n {k : Fin 4} {x : Nat} (hd : decode y.2.1 pc = .ok (.astore_n k, 1)) (hn : (k : Nat) < y.2.2.1) (hl' : ((k : Nat), Value.ref x) :: lv.filter (fun q => !(q.1 == (k : Nat)) && !(q.1 + 1 == (k : Nat) && q.2.category == 2)) = lv') (kk : Rn y (pc + 1) lv' (stk) st r st' d) : Rn y pc lv (.ref x :: stk) st r st' d :=
  kk.lift fun _ _ _ _ _ _ _ _ _ _ _ _ _ _ _ _ hx hb hown hts hK hW kk ls hl => lv_astore_n hx hb hd rfl hl hn (xlv_set1 _ _ (Value.ref x) hl') (fun ls' hl' => kk ls' hl')

theorem r_astoreN {i : Nat} (hd : decode y.2.1 pc = .ok (.astore i, 2)) (hn : i < y.2.2.1) (hl' : (i, Value.null) :: lv.filter (fun q => !(q.1 == i) && !(q.1 + 1 == i && q.2.category == 2)) = lv') (kk : Rn y (pc + 2) lv' (stk) st r st' d) : Rn y pc lv (.null :: stk) st r st' d :=
  kk.lift fun _ _ _ _ _ _ _ _ _ _ _ _ _ _ _ _ hx hb hown hts hK hW kk ls hl => lv_astoreN hx hb hd hl hn (xlv_set1 _ _ Value.null hl') (fun ls' hl' => kk ls' hl')

theorem r_astore_nN {k : Fin 4} (hd : decode y.2.1 pc = .ok (.astore_n k, 1)) (hn : (k : Nat) < y.2.2.1) (hl' : ((k : Nat), Value.null) :: lv.filter (fun q => !(q.1 == (k : Nat)) && !(q.1 + 1 == (k : Nat) && q.2.category == 2)) = lv') (kk : Rn y (pc + 1) lv' (stk) st r st' d) : Rn y pc lv (.null :: stk) st r st' d :=
  kk.lift fun _ _ _ _ _ _ _ _ _ _ _ _ _ _ _ _ hx hb hown hts hK hW kk ls hl => lv_astore_nN hx hb hd rfl hl hn (xlv_set1 _ _ Value.null hl') (fun ls' hl' => kk ls' hl')

theorem r_iinc {i : Nat} {n : Int} {x v : Int32} (hd : decode y.2.1 pc = .ok (.iinc i n, 3)) (hv : lv.lookup i = some (.int x)) (hw : x + Int32.ofInt n = v) (hn : i < y.2.2.1) (hl' : (i, Value.int v) :: lv.filter (fun q => !(q.1 == i) && !(q.1 + 1 == i && q.2.category == 2)) = lv') (kk : Rn y (pc + 3) lv' (stk) st r st' d) : Rn y pc lv (stk) st r st' d :=
  kk.lift fun _ _ _ _ _ _ _ _ _ _ _ _ _ _ _ _ hx hb hown hts hK hW kk ls hl => by
    obtain ⟨k, hk⟩ := xlookG _ hv
    exact lv_iinc hx hb hd hl hk hw hn (xlv_set1 _ _ (Value.int v) hl') (fun ls' hl' => kk ls' hl')

theorem r_iadd {a b : Int32} (hd : decode y.2.1 pc = .ok (.iadd, 1)) (kk : Rn y (pc + 1) lv (.int (a + b) :: stk) st r st' d) : Rn y pc lv (.int b :: .int a :: stk) st r st' d :=
  kk.lift fun _ _ _ _ _ _ _ _ _ _ _ _ _ _ _ _ hx hb hown hts hK hW kk ls hl => lv_iadd hx hb hd (kk ls hl)

theorem r_isub {a b : Int32} (hd : decode y.2.1 pc = .ok (.isub, 1)) (kk : Rn y (pc + 1) lv (.int (a - b) :: stk) st r st' d) : Rn y pc lv (.int b :: .int a :: stk) st r st' d :=
  kk.lift fun _ _ _ _ _ _ _ _ _ _ _ _ _ _ _ _ hx hb hown hts hK hW kk ls hl => lv_isub hx hb hd (kk ls hl)

theorem r_imul {a b : Int32} (hd : decode y.2.1 pc = .ok (.imul, 1)) (kk : Rn y (pc + 1) lv (.int (a * b) :: stk) st r st' d) : Rn y pc lv (.int b :: .int a :: stk) st r st' d :=
  kk.lift fun _ _ _ _ _ _ _ _ _ _ _ _ _ _ _ _ hx hb hown hts hK hW kk ls hl => lv_imul hx hb hd (kk ls hl)

theorem r_iand {a b : Int32} (hd : decode y.2.1 pc = .ok (.iand, 1)) (kk : Rn y (pc + 1) lv (.int (a &&& b) :: stk) st r st' d) : Rn y pc lv (.int b :: .int a :: stk) st r st' d :=
  kk.lift fun _ _ _ _ _ _ _ _ _ _ _ _ _ _ _ _ hx hb hown hts hK hW kk ls hl => lv_iand hx hb hd (kk ls hl)

theorem r_ior {a b : Int32} (hd : decode y.2.1 pc = .ok (.ior, 1)) (kk : Rn y (pc + 1) lv (.int (a ||| b) :: stk) st r st' d) : Rn y pc lv (.int b :: .int a :: stk) st r st' d :=
  kk.lift fun _ _ _ _ _ _ _ _ _ _ _ _ _ _ _ _ hx hb hown hts hK hW kk ls hl => lv_ior hx hb hd (kk ls hl)

theorem r_ixor {a b : Int32} (hd : decode y.2.1 pc = .ok (.ixor, 1)) (kk : Rn y (pc + 1) lv (.int (a ^^^ b) :: stk) st r st' d) : Rn y pc lv (.int b :: .int a :: stk) st r st' d :=
  kk.lift fun _ _ _ _ _ _ _ _ _ _ _ _ _ _ _ _ hx hb hown hts hK hW kk ls hl => lv_ixor hx hb hd (kk ls hl)

theorem r_ishl {a b : Int32} (hd : decode y.2.1 pc = .ok (.ishl, 1)) (kk : Rn y (pc + 1) lv (.int (a <<< (b &&& 31)) :: stk) st r st' d) : Rn y pc lv (.int b :: .int a :: stk) st r st' d :=
  kk.lift fun _ _ _ _ _ _ _ _ _ _ _ _ _ _ _ _ hx hb hown hts hK hW kk ls hl => lv_ishl hx hb hd (kk ls hl)

theorem r_ishr {a b : Int32} (hd : decode y.2.1 pc = .ok (.ishr, 1)) (kk : Rn y (pc + 1) lv (.int (a >>> (b &&& 31)) :: stk) st r st' d) : Rn y pc lv (.int b :: .int a :: stk) st r st' d :=
  kk.lift fun _ _ _ _ _ _ _ _ _ _ _ _ _ _ _ _ hx hb hown hts hK hW kk ls hl => lv_ishr hx hb hd (kk ls hl)

theorem r_iushr {a b : Int32} (hd : decode y.2.1 pc = .ok (.iushr, 1)) (kk : Rn y (pc + 1) lv (.int (a.toUInt32 >>> (b.toUInt32 &&& Int32.toUInt32 31)).toInt32 :: stk) st r st' d) : Rn y pc lv (.int b :: .int a :: stk) st r st' d :=
  kk.lift fun _ _ _ _ _ _ _ _ _ _ _ _ _ _ _ _ hx hb hown hts hK hW kk ls hl => lv_iushr hx hb hd rfl (kk ls hl)

theorem r_idiv {a b : Int32} (hd : decode y.2.1 pc = .ok (.idiv, 1)) (hne : ¬ b = 0) (kk : Rn y (pc + 1) lv (.int (a / b) :: stk) st r st' d) : Rn y pc lv (.int b :: .int a :: stk) st r st' d :=
  kk.lift fun _ _ _ _ _ _ _ _ _ _ _ _ _ _ _ _ hx hb hown hts hK hW kk ls hl => lv_idiv hx hb hd hne (kk ls hl)

theorem r_irem {a b : Int32} (hd : decode y.2.1 pc = .ok (.irem, 1)) (hne : ¬ b = 0) (kk : Rn y (pc + 1) lv (.int (a - a / b * b) :: stk) st r st' d) : Rn y pc lv (.int b :: .int a :: stk) st r st' d :=
  kk.lift fun _ _ _ _ _ _ _ _ _ _ _ _ _ _ _ _ hx hb hown hts hK hW kk ls hl => lv_irem hx hb hd hne (kk ls hl)

theorem r_ineg {a : Int32} (hd : decode y.2.1 pc = .ok (.ineg, 1)) (kk : Rn y (pc + 1) lv (.int (-a) :: stk) st r st' d) : Rn y pc lv (.int a :: stk) st r st' d :=
  kk.lift fun _ _ _ _ _ _ _ _ _ _ _ _ _ _ _ _ hx hb hown hts hK hW kk ls hl => lv_ineg hx hb hd (kk ls hl)

theorem r_ladd {a b : Int64} (hd : decode y.2.1 pc = .ok (.ladd, 1)) (kk : Rn y (pc + 1) lv (.long (a + b) :: stk) st r st' d) : Rn y pc lv (.long b :: .long a :: stk) st r st' d :=
  kk.lift fun _ _ _ _ _ _ _ _ _ _ _ _ _ _ _ _ hx hb hown hts hK hW kk ls hl => lv_ladd hx hb hd (kk ls hl)

theorem r_lsub {a b : Int64} (hd : decode y.2.1 pc = .ok (.lsub, 1)) (kk : Rn y (pc + 1) lv (.long (a - b) :: stk) st r st' d) : Rn y pc lv (.long b :: .long a :: stk) st r st' d :=
  kk.lift fun _ _ _ _ _ _ _ _ _ _ _ _ _ _ _ _ hx hb hown hts hK hW kk ls hl => lv_lsub hx hb hd (kk ls hl)

theorem r_lmul {a b : Int64} (hd : decode y.2.1 pc = .ok (.lmul, 1)) (kk : Rn y (pc + 1) lv (.long (a * b) :: stk) st r st' d) : Rn y pc lv (.long b :: .long a :: stk) st r st' d :=
  kk.lift fun _ _ _ _ _ _ _ _ _ _ _ _ _ _ _ _ hx hb hown hts hK hW kk ls hl => lv_lmul hx hb hd (kk ls hl)

theorem r_ldiv {a b : Int64} (hd : decode y.2.1 pc = .ok (.ldiv, 1)) (hne : ¬ b = 0) (kk : Rn y (pc + 1) lv (.long (a / b) :: stk) st r st' d) : Rn y pc lv (.long b :: .long a :: stk) st r st' d :=
  kk.lift fun _ _ _ _ _ _ _ _ _ _ _ _ _ _ _ _ hx hb hown hts hK hW kk ls hl => lv_ldiv hx hb hd hne (kk ls hl)

theorem r_lrem {a b : Int64} (hd : decode y.2.1 pc = .ok (.lrem, 1)) (hne : ¬ b = 0) (kk : Rn y (pc + 1) lv (.long (a - a / b * b) :: stk) st r st' d) : Rn y pc lv (.long b :: .long a :: stk) st r st' d :=
  kk.lift fun _ _ _ _ _ _ _ _ _ _ _ _ _ _ _ _ hx hb hown hts hK hW kk ls hl => lv_lrem hx hb hd hne (kk ls hl)

theorem r_lneg {a : Int64} (hd : decode y.2.1 pc = .ok (.lneg, 1)) (kk : Rn y (pc + 1) lv (.long (-a) :: stk) st r st' d) : Rn y pc lv (.long a :: stk) st r st' d :=
  kk.lift fun _ _ _ _ _ _ _ _ _ _ _ _ _ _ _ _ hx hb hown hts hK hW kk ls hl => lv_lneg hx hb hd (kk ls hl)

theorem r_i2l {a : Int32} (hd : decode y.2.1 pc = .ok (.i2l, 1)) (kk : Rn y (pc + 1) lv (.long a.toInt64 :: stk) st r st' d) : Rn y pc lv (.int a :: stk) st r st' d :=
  kk.lift fun _ _ _ _ _ _ _ _ _ _ _ _ _ _ _ _ hx hb hown hts hK hW kk ls hl => lv_i2l hx hb hd rfl (kk ls hl)

theorem r_l2i {a : Int64} (hd : decode y.2.1 pc = .ok (.l2i, 1)) (kk : Rn y (pc + 1) lv (.int a.toInt32 :: stk) st r st' d) : Rn y pc lv (.long a :: stk) st r st' d :=
  kk.lift fun _ _ _ _ _ _ _ _ _ _ _ _ _ _ _ _ hx hb hown hts hK hW kk ls hl => lv_l2i hx hb hd rfl (kk ls hl)

theorem r_i2b {a : Int32} (hd : decode y.2.1 pc = .ok (.i2b, 1)) (kk : Rn y (pc + 1) lv (.int a.toInt8.toInt32 :: stk) st r st' d) : Rn y pc lv (.int a :: stk) st r st' d :=
  kk.lift fun _ _ _ _ _ _ _ _ _ _ _ _ _ _ _ _ hx hb hown hts hK hW kk ls hl => lv_i2b hx hb hd rfl (kk ls hl)

theorem r_lcmp {a b : Int64} (hd : decode y.2.1 pc = .ok (.lcmp, 1)) (kk : Rn y (pc + 1) lv (.int (lg_cmp a b) :: stk) st r st' d) : Rn y pc lv (.long b :: .long a :: stk) st r st' d :=
  kk.lift fun _ _ _ _ _ _ _ _ _ _ _ _ _ _ _ _ hx hb hown hts hK hW kk ls hl => W.lcmp hx hb hd (kk ls hl)

theorem r_pop {v : Value} (hd : decode y.2.1 pc = .ok (.pop, 1)) (hv : v.category = 1) (kk : Rn y (pc + 1) lv (stk) st r st' d) : Rn y pc lv (v :: stk) st r st' d :=
  kk.lift fun _ _ _ _ _ _ _ _ _ _ _ _ _ _ _ _ hx hb hown hts hK hW kk ls hl => lv_pop hx hb hd ((xcv_cat _ _).trans hv) (kk ls hl)

theorem r_dup {v : Value} (hd : decode y.2.1 pc = .ok (.dup, 1)) (hv : v.category = 1) (kk : Rn y (pc + 1) lv (v :: v :: stk) st r st' d) : Rn y pc lv (v :: stk) st r st' d :=
  kk.lift fun _ _ _ _ _ _ _ _ _ _ _ _ _ _ _ _ hx hb hown hts hK hW kk ls hl => lv_dup hx hb hd ((xcv_cat _ _).trans hv) (kk ls hl)

theorem r_dup2 {v w : Value} (hd : decode y.2.1 pc = .ok (.dup2, 1)) (hv : v.category = 1) (hw : w.category = 1) (kk : Rn y (pc + 1) lv (v :: w :: v :: w :: stk) st r st' d) : Rn y pc lv (v :: w :: stk) st r st' d :=
  kk.lift fun _ _ _ _ _ _ _ _ _ _ _ _ _ _ _ _ hx hb hown hts hK hW kk ls hl => lv_dup2_11 hx hb hd ((xcv_cat _ _).trans hv) ((xcv_cat _ _).trans hw) (kk ls hl)

theorem r_dup2L {v : Value} (hd : decode y.2.1 pc = .ok (.dup2, 1)) (hv : v.category = 2) (kk : Rn y (pc + 1) lv (v :: v :: stk) st r st' d) : Rn y pc lv (v :: stk) st r st' d :=
  kk.lift fun _ _ _ _ _ _ _ _ _ _ _ _ _ _ _ _ hx hb hown hts hK hW kk ls hl => lv_dup2_2 hx hb hd ((xcv_cat _ _).trans hv) (kk ls hl)

theorem r_null (hd : decode y.2.1 pc = .ok (.aconst_null, 1)) (kk : Rn y (pc + 1) lv (.null :: stk) st r st' d) : Rn y pc lv (stk) st r st' d :=
  kk.lift fun _ _ _ _ _ _ _ _ _ _ _ _ _ _ _ _ hx hb hown hts hK hW kk ls hl => lv_null hx hb hd (kk ls hl)

theorem r_goto {off : Int} {tgt : Nat} (hd : decode y.2.1 pc = .ok (.goto off, 3)) (ht : (pc : Int) + off = (tgt : Int)) (kk : Rn y tgt lv (stk) st r st' d) : Rn y pc lv (stk) st r st' d :=
  kk.lift fun _ _ _ _ _ _ _ _ _ _ _ _ _ _ _ _ hx hb hown hts hK hW kk ls hl => lv_goto hx hb hd ht (kk ls hl)

theorem r_ifnull {x : Nat} {off : Int} (hd : decode y.2.1 pc = .ok (.ifnull off, 3)) (kk : Rn y (pc + 3) lv (stk) st r st' d) : Rn y pc lv (.ref x :: stk) st r st' d :=
  kk.lift fun _ _ _ _ _ _ _ _ _ _ _ _ _ _ _ _ hx hb hown hts hK hW kk ls hl => lv_ifnull hx hb hd (kk ls hl)

theorem r_ifnullN {off : Int} {tgt : Nat} (hd : decode y.2.1 pc = .ok (.ifnull off, 3)) (ht : (pc : Int) + off = (tgt : Int)) (kk : Rn y tgt lv (stk) st r st' d) : Rn y pc lv (.null :: stk) st r st' d :=
  kk.lift fun _ _ _ _ _ _ _ _ _ _ _ _ _ _ _ _ hx hb hown hts hK hW kk ls hl => lv_ifnullN hx hb hd ht (kk ls hl)

theorem r_ifnonnull {x : Nat} {off : Int} {tgt : Nat} (hd : decode y.2.1 pc = .ok (.ifnonnull off, 3)) (ht : (pc : Int) + off = (tgt : Int)) (kk : Rn y tgt lv (stk) st r st' d) : Rn y pc lv (.ref x :: stk) st r st' d :=
  kk.lift fun _ _ _ _ _ _ _ _ _ _ _ _ _ _ _ _ hx hb hown hts hK hW kk ls hl => lv_ifnonnull hx hb hd ht (kk ls hl)

theorem r_ifnonnullN {off : Int} (hd : decode y.2.1 pc = .ok (.ifnonnull off, 3)) (kk : Rn y (pc + 3) lv (stk) st r st' d) : Rn y pc lv (.null :: stk) st r st' d :=
  kk.lift fun _ _ _ _ _ _ _ _ _ _ _ _ _ _ _ _ hx hb hown hts hK hW kk ls hl => lv_ifnonnullN hx hb hd (kk ls hl)

theorem r_tableIn {dflt lo hi : Int} {offs : Array Int} {len : Nat} {x : Int32} {off : Int} {tgt : Nat} (hd : decode y.2.1 pc = .ok (.tableswitch dflt lo hi offs, len)) (h1 : ¬ x.toInt < lo) (h2 : ¬ hi < x.toInt) (ho : offs[(x.toInt - lo).toNat]? = some off) (ht : (pc : Int) + off = (tgt : Int)) (kk : Rn y tgt lv (stk) st r st' d) : Rn y pc lv (.int x :: stk) st r st' d :=
  kk.lift fun _ _ _ _ _ _ _ _ _ _ _ _ _ _ _ _ hx hb hown hts hK hW kk ls hl => lv_tableIn hx hb hd h1 h2 ho ht (kk ls hl)

theorem r_tableOut {dflt lo hi : Int} {offs : Array Int} {len : Nat} {x : Int32} {tgt : Nat} (hd : decode y.2.1 pc = .ok (.tableswitch dflt lo hi offs, len)) (h : x.toInt < lo ∨ hi < x.toInt) (ht : (pc : Int) + dflt = (tgt : Int)) (kk : Rn y tgt lv (stk) st r st' d) : Rn y pc lv (.int x :: stk) st r st' d :=
  kk.lift fun _ _ _ _ _ _ _ _ _ _ _ _ _ _ _ _ hx hb hown hts hK hW kk ls hl => lv_tableOut hx hb hd h ht (kk ls hl)

theorem r_lookup {dflt : Int} {ps : Array (Int × Int)} {len : Nat} {x : Int32} {off : Int} {tgt : Nat} (hd : decode y.2.1 pc = .ok (.lookupswitch dflt ps, len)) (hp : (ps.toList.zip (ps.toList.drop 1)).all (fun (a, next) => a.1 < next.1) = true) (ho : Op.lookupswitch.offset ps.toList dflt x.toInt = off) (ht : (pc : Int) + off = (tgt : Int)) (kk : Rn y tgt lv (stk) st r st' d) : Rn y pc lv (.int x :: stk) st r st' d :=
  kk.lift fun _ _ _ _ _ _ _ _ _ _ _ _ _ _ _ _ hx hb hown hts hK hW kk ls hl => lv_lookup hx hb hd hp ho ht (kk ls hl)

theorem r_ldc {index : Nat} {v : Int32} (hd : decode y.2.1 pc = .ok (.ldc index, 2)) (hw : Cond.constant y.1.cls index v ∈ xT) (kk : Rn y (pc + 2) lv (.int v :: stk) st r st' d) : Rn y pc lv (stk) st r st' d :=
  kk.lift fun _ _ _ _ _ _ _ _ _ _ _ _ _ _ _ _ hx hb hown hts hK hW kk ls hl => lv_ldc hx hb hown (hts _ hw) hd (kk ls hl)

theorem r_ldcw {index : Nat} {v : Int32} (hd : decode y.2.1 pc = .ok (.ldc_w index, 3)) (hw : Cond.constant y.1.cls index v ∈ xT) (kk : Rn y (pc + 3) lv (.int v :: stk) st r st' d) : Rn y pc lv (stk) st r st' d :=
  kk.lift fun _ _ _ _ _ _ _ _ _ _ _ _ _ _ _ _ hx hb hown hts hK hW kk ls hl => lv_ldcw hx hb hown (hts _ hw) hd (kk ls hl)

theorem r_ldc2 {index : Nat} {v : Int64} (hd : decode y.2.1 pc = .ok (.ldc2_w index, 3)) (hw : Cond.constantLong y.1.cls index v ∈ xT) (kk : Rn y (pc + 3) lv (.long v :: stk) st r st' d) : Rn y pc lv (stk) st r st' d :=
  kk.lift fun _ _ _ _ _ _ _ _ _ _ _ _ _ _ _ _ hx hb hown hts hK hW kk ls hl => lv_ldc2 hx hb hown (hts _ hw) hd (kk ls hl)

/-- a branch: both ways end alike in the state that is asked for -/
theorem Rn.lift2 {pc1 pc2 : Nat} {stk1 stk2 : List Value} {A : Prop} (k1 : A → Rn y pc1 lv stk1 st r st' d) (k2 : ¬ A → Rn y pc2 lv stk2 st r st' d) (h : ∀ (G : xG) {p : Program} {l : Launch} {e : Env} {R : Room} {s : State} {m : MethodId} {args : Array Value} {below : List Frame} {meth : Method} {c : Code} {H : Heap} {locs : List Loc} {cells slots : Nat} {Q : State → Prop},
      p.tables.exec = Jvm.exec → c.code = y.2.1 → ∀ ls : Array Slot, (A → W p l e R s m args below meth c H locs cells slots Q (F0 m pc1 ls (xst G stk1))) → (¬ A → W p l e R s m args below meth c H locs cells slots Q (F0 m pc2 ls (xst G stk2))) →
      W p l e R s m args below meth c H locs cells slots Q (F0 m pc ls (xst G stk))) : Rn y pc lv stk st r st' d := by
  refine ⟨?_, ?_, fun G p l e R s m args below meth c H locs cells slots Q C h1 h2 hW hL hE ls hl => h G C.1.1 C.1.2.1 ls (fun a => (k1 a).2.2 G p l e R s m args below meth c H locs cells slots Q C h1 h2 hW hL hE ls hl) (fun a => (k2 a).2.2 G p l e R s m args below meth c H locs cells slots Q C h1 h2 hW hL hE ls hl)⟩
  · rcases Classical.em A with a | a
    · exact (k1 a).1
    · exact (k2 a).1
  · rcases Classical.em A with a | a
    · exact (k1 a).2.1
    · exact (k2 a).2.1

theorem r_if_eq {a : Int32} {off : Int} {tgt : Nat} (hd : decode y.2.1 pc = .ok (.ifCond .eq off, 3)) (ht : (pc : Int) + off = (tgt : Int)) (kt : a = 0 → Rn y tgt lv stk st r st' d) (kf : ¬ (a = 0) → Rn y (pc + 3) lv stk st r st' d) : Rn y pc lv (.int a :: stk) st r st' d :=
  Rn.lift2 kt kf fun _ _ _ _ _ _ _ _ _ _ _ _ _ _ _ _ hx hb ls t f => lv_if_eq hx hb hd ht t f

theorem r_icmp_eq {a b : Int32} {off : Int} {tgt : Nat} (hd : decode y.2.1 pc = .ok (.if_icmp .eq off, 3)) (ht : (pc : Int) + off = (tgt : Int)) (kt : a = b → Rn y tgt lv stk st r st' d) (kf : ¬ (a = b) → Rn y (pc + 3) lv stk st r st' d) : Rn y pc lv (.int b :: .int a :: stk) st r st' d :=
  Rn.lift2 kt kf fun _ _ _ _ _ _ _ _ _ _ _ _ _ _ _ _ hx hb ls t f => lv_icmp_eq hx hb hd ht t f

theorem r_if_ne {a : Int32} {off : Int} {tgt : Nat} (hd : decode y.2.1 pc = .ok (.ifCond .ne off, 3)) (ht : (pc : Int) + off = (tgt : Int)) (kt : ¬ a = 0 → Rn y tgt lv stk st r st' d) (kf : a = 0 → Rn y (pc + 3) lv stk st r st' d) : Rn y pc lv (.int a :: stk) st r st' d :=
  Rn.lift2 (A := a = 0) kf kt fun _ _ _ _ _ _ _ _ _ _ _ _ _ _ _ _ hx hb ls t f => lv_if_ne hx hb hd ht f t

theorem r_icmp_ne {a b : Int32} {off : Int} {tgt : Nat} (hd : decode y.2.1 pc = .ok (.if_icmp .ne off, 3)) (ht : (pc : Int) + off = (tgt : Int)) (kt : ¬ a = b → Rn y tgt lv stk st r st' d) (kf : a = b → Rn y (pc + 3) lv stk st r st' d) : Rn y pc lv (.int b :: .int a :: stk) st r st' d :=
  Rn.lift2 (A := a = b) kf kt fun _ _ _ _ _ _ _ _ _ _ _ _ _ _ _ _ hx hb ls t f => lv_icmp_ne hx hb hd ht f t

theorem r_if_lt {a : Int32} {off : Int} {tgt : Nat} (hd : decode y.2.1 pc = .ok (.ifCond .lt off, 3)) (ht : (pc : Int) + off = (tgt : Int)) (kt : a < 0 → Rn y tgt lv stk st r st' d) (kf : ¬ (a < 0) → Rn y (pc + 3) lv stk st r st' d) : Rn y pc lv (.int a :: stk) st r st' d :=
  Rn.lift2 kt kf fun _ _ _ _ _ _ _ _ _ _ _ _ _ _ _ _ hx hb ls t f => lv_if_lt hx hb hd ht t f

theorem r_icmp_lt {a b : Int32} {off : Int} {tgt : Nat} (hd : decode y.2.1 pc = .ok (.if_icmp .lt off, 3)) (ht : (pc : Int) + off = (tgt : Int)) (kt : a < b → Rn y tgt lv stk st r st' d) (kf : ¬ (a < b) → Rn y (pc + 3) lv stk st r st' d) : Rn y pc lv (.int b :: .int a :: stk) st r st' d :=
  Rn.lift2 kt kf fun _ _ _ _ _ _ _ _ _ _ _ _ _ _ _ _ hx hb ls t f => lv_icmp_lt hx hb hd ht t f

theorem r_if_ge {a : Int32} {off : Int} {tgt : Nat} (hd : decode y.2.1 pc = .ok (.ifCond .ge off, 3)) (ht : (pc : Int) + off = (tgt : Int)) (kt : 0 ≤ a → Rn y tgt lv stk st r st' d) (kf : ¬ (0 ≤ a) → Rn y (pc + 3) lv stk st r st' d) : Rn y pc lv (.int a :: stk) st r st' d :=
  Rn.lift2 kt kf fun _ _ _ _ _ _ _ _ _ _ _ _ _ _ _ _ hx hb ls t f => lv_if_ge hx hb hd ht t f

theorem r_icmp_ge {a b : Int32} {off : Int} {tgt : Nat} (hd : decode y.2.1 pc = .ok (.if_icmp .ge off, 3)) (ht : (pc : Int) + off = (tgt : Int)) (kt : b ≤ a → Rn y tgt lv stk st r st' d) (kf : ¬ (b ≤ a) → Rn y (pc + 3) lv stk st r st' d) : Rn y pc lv (.int b :: .int a :: stk) st r st' d :=
  Rn.lift2 kt kf fun _ _ _ _ _ _ _ _ _ _ _ _ _ _ _ _ hx hb ls t f => lv_icmp_ge hx hb hd ht t f

theorem r_if_gt {a : Int32} {off : Int} {tgt : Nat} (hd : decode y.2.1 pc = .ok (.ifCond .gt off, 3)) (ht : (pc : Int) + off = (tgt : Int)) (kt : 0 < a → Rn y tgt lv stk st r st' d) (kf : ¬ (0 < a) → Rn y (pc + 3) lv stk st r st' d) : Rn y pc lv (.int a :: stk) st r st' d :=
  Rn.lift2 kt kf fun _ _ _ _ _ _ _ _ _ _ _ _ _ _ _ _ hx hb ls t f => lv_if_gt hx hb hd ht t f

theorem r_icmp_gt {a b : Int32} {off : Int} {tgt : Nat} (hd : decode y.2.1 pc = .ok (.if_icmp .gt off, 3)) (ht : (pc : Int) + off = (tgt : Int)) (kt : b < a → Rn y tgt lv stk st r st' d) (kf : ¬ (b < a) → Rn y (pc + 3) lv stk st r st' d) : Rn y pc lv (.int b :: .int a :: stk) st r st' d :=
  Rn.lift2 kt kf fun _ _ _ _ _ _ _ _ _ _ _ _ _ _ _ _ hx hb ls t f => lv_icmp_gt hx hb hd ht t f

theorem r_if_le {a : Int32} {off : Int} {tgt : Nat} (hd : decode y.2.1 pc = .ok (.ifCond .le off, 3)) (ht : (pc : Int) + off = (tgt : Int)) (kt : a ≤ 0 → Rn y tgt lv stk st r st' d) (kf : ¬ (a ≤ 0) → Rn y (pc + 3) lv stk st r st' d) : Rn y pc lv (.int a :: stk) st r st' d :=
  Rn.lift2 kt kf fun _ _ _ _ _ _ _ _ _ _ _ _ _ _ _ _ hx hb ls t f => lv_if_le hx hb hd ht t f

theorem r_icmp_le {a b : Int32} {off : Int} {tgt : Nat} (hd : decode y.2.1 pc = .ok (.if_icmp .le off, 3)) (ht : (pc : Int) + off = (tgt : Int)) (kt : a ≤ b → Rn y tgt lv stk st r st' d) (kf : ¬ (a ≤ b) → Rn y (pc + 3) lv stk st r st' d) : Rn y pc lv (.int b :: .int a :: stk) st r st' d :=
  Rn.lift2 kt kf fun _ _ _ _ _ _ _ _ _ _ _ _ _ _ _ _ hx hb ls t f => lv_icmp_le hx hb hd ht t f

end XR1

/-! The texts of class String: length() and charAt, out of their own code -/
theorem dJ0_length_8abf5_0 : decode cJ0_length_8abf5 0 = .ok (.aload_n 0, 1) := by decide +kernel
theorem dJ0_length_8abf5_1 : decode cJ0_length_8abf5 1 = .ok (.getfield 9, 3) := by decide +kernel
theorem dJ0_length_8abf5_4 : decode cJ0_length_8abf5 4 = .ok (.arraylength, 1) := by decide +kernel
theorem dJ0_length_8abf5_5 : decode cJ0_length_8abf5 5 = .ok (.aload_n 0, 1) := by decide +kernel
theorem dJ0_length_8abf5_6 : decode cJ0_length_8abf5 6 = .ok (.invokevirtual 335, 3) := by decide +kernel
theorem dJ0_length_8abf5_9 : decode cJ0_length_8abf5 9 = .ok (.ishr, 1) := by decide +kernel
theorem dJ0_length_8abf5_10 : decode cJ0_length_8abf5 10 = .ok (.ireturn, 1) := by decide +kernel
theorem dJ0_charAt_5068e_0 : decode cJ0_charAt_5068e 0 = .ok (.aload_n 0, 1) := by decide +kernel
theorem dJ0_charAt_5068e_1 : decode cJ0_charAt_5068e 1 = .ok (.invokevirtual 492, 3) := by decide +kernel
theorem dJ0_charAt_5068e_4 : decode cJ0_charAt_5068e 4 = .ok (.ifCond .eq 12, 3) := by decide +kernel
theorem dJ0_charAt_5068e_7 : decode cJ0_charAt_5068e 7 = .ok (.aload_n 0, 1) := by decide +kernel
theorem dJ0_charAt_5068e_8 : decode cJ0_charAt_5068e 8 = .ok (.getfield 9, 3) := by decide +kernel
theorem dJ0_charAt_5068e_11 : decode cJ0_charAt_5068e 11 = .ok (.iload_n 1, 1) := by decide +kernel
theorem dJ0_charAt_5068e_12 : decode cJ0_charAt_5068e 12 = .ok (.invokestatic 495, 3) := by decide +kernel
theorem dJ0_charAt_5068e_15 : decode cJ0_charAt_5068e 15 = .ok (.ireturn, 1) := by decide +kernel
theorem dJ0_charAt_5068e_16 : decode cJ0_charAt_5068e 16 = .ok (.aload_n 0, 1) := by decide +kernel
theorem dJ0_charAt_5068e_17 : decode cJ0_charAt_5068e 17 = .ok (.getfield 9, 3) := by decide +kernel
theorem dJ0_charAt_5068e_20 : decode cJ0_charAt_5068e 20 = .ok (.iload_n 1, 1) := by decide +kernel
theorem dJ0_charAt_5068e_21 : decode cJ0_charAt_5068e 21 = .ok (.invokestatic 498, 3) := by decide +kernel
theorem dJ0_charAt_5068e_24 : decode cJ0_charAt_5068e 24 = .ok (.ireturn, 1) := by decide +kernel
theorem dJ0_coder_7d493_0 : decode cJ0_coder_7d493 0 = .ok (.getstatic 38, 3) := by decide +kernel
theorem dJ0_coder_7d493_3 : decode cJ0_coder_7d493 3 = .ok (.ifCond .eq 10, 3) := by decide +kernel
theorem dJ0_coder_7d493_6 : decode cJ0_coder_7d493 6 = .ok (.aload_n 0, 1) := by decide +kernel
theorem dJ0_coder_7d493_7 : decode cJ0_coder_7d493 7 = .ok (.getfield 15, 3) := by decide +kernel
theorem dJ0_coder_7d493_10 : decode cJ0_coder_7d493 10 = .ok (.goto 4, 3) := by decide +kernel
theorem dJ0_coder_7d493_13 : decode cJ0_coder_7d493 13 = .ok (.iconst 1, 1) := by decide +kernel
theorem dJ0_coder_7d493_14 : decode cJ0_coder_7d493 14 = .ok (.ireturn, 1) := by decide +kernel
theorem dJ0_isLatin1_aae02_0 : decode cJ0_isLatin1_aae02 0 = .ok (.getstatic 38, 3) := by decide +kernel
theorem dJ0_isLatin1_aae02_3 : decode cJ0_isLatin1_aae02 3 = .ok (.ifCond .eq 14, 3) := by decide +kernel
theorem dJ0_isLatin1_aae02_6 : decode cJ0_isLatin1_aae02 6 = .ok (.aload_n 0, 1) := by decide +kernel
theorem dJ0_isLatin1_aae02_7 : decode cJ0_isLatin1_aae02 7 = .ok (.getfield 15, 3) := by decide +kernel
theorem dJ0_isLatin1_aae02_10 : decode cJ0_isLatin1_aae02 10 = .ok (.ifCond .ne 7, 3) := by decide +kernel
theorem dJ0_isLatin1_aae02_13 : decode cJ0_isLatin1_aae02 13 = .ok (.iconst 1, 1) := by decide +kernel
theorem dJ0_isLatin1_aae02_14 : decode cJ0_isLatin1_aae02 14 = .ok (.goto 4, 3) := by decide +kernel
theorem dJ0_isLatin1_aae02_17 : decode cJ0_isLatin1_aae02 17 = .ok (.iconst 0, 1) := by decide +kernel
theorem dJ0_isLatin1_aae02_18 : decode cJ0_isLatin1_aae02 18 = .ok (.ireturn, 1) := by decide +kernel
theorem dJ0_checkIndex_df160_0 : decode cJ0_checkIndex_df160 0 = .ok (.iload_n 0, 1) := by decide +kernel
theorem dJ0_checkIndex_df160_1 : decode cJ0_checkIndex_df160 1 = .ok (.iload_n 1, 1) := by decide +kernel
theorem dJ0_checkIndex_df160_2 : decode cJ0_checkIndex_df160 2 = .ok (.getstatic 1053, 3) := by decide +kernel
theorem dJ0_checkIndex_df160_5 : decode cJ0_checkIndex_df160 5 = .ok (.invokestatic 1059, 3) := by decide +kernel
theorem dJ0_checkIndex_df160_8 : decode cJ0_checkIndex_df160 8 = .ok (.pop, 1) := by decide +kernel
theorem dJ0_checkIndex_df160_9 : decode cJ0_checkIndex_df160 9 = .ok (.return_, 1) := by decide +kernel
theorem dJ1_charAt_3b067_0 : decode cJ1_charAt_3b067 0 = .ok (.iload_n 1, 1) := by decide +kernel
theorem dJ1_charAt_3b067_1 : decode cJ1_charAt_3b067 1 = .ok (.aload_n 0, 1) := by decide +kernel
theorem dJ1_charAt_3b067_2 : decode cJ1_charAt_3b067 2 = .ok (.arraylength, 1) := by decide +kernel
theorem dJ1_charAt_3b067_3 : decode cJ1_charAt_3b067 3 = .ok (.invokestatic 9, 3) := by decide +kernel
theorem dJ1_charAt_3b067_6 : decode cJ1_charAt_3b067 6 = .ok (.aload_n 0, 1) := by decide +kernel
theorem dJ1_charAt_3b067_7 : decode cJ1_charAt_3b067 7 = .ok (.iload_n 1, 1) := by decide +kernel
theorem dJ1_charAt_3b067_8 : decode cJ1_charAt_3b067 8 = .ok (.baload, 1) := by decide +kernel
theorem dJ1_charAt_3b067_9 : decode cJ1_charAt_3b067 9 = .ok (.sipush 255, 3) := by decide +kernel
theorem dJ1_charAt_3b067_12 : decode cJ1_charAt_3b067 12 = .ok (.iand, 1) := by decide +kernel
theorem dJ1_charAt_3b067_13 : decode cJ1_charAt_3b067 13 = .ok (.i2c, 1) := by decide +kernel
theorem dJ1_charAt_3b067_14 : decode cJ1_charAt_3b067 14 = .ok (.ireturn, 1) := by decide +kernel
theorem dJ3_checkIndex_8e157_0 : decode cJ3_checkIndex_8e157 0 = .ok (.iload_n 0, 1) := by decide +kernel
theorem dJ3_checkIndex_8e157_1 : decode cJ3_checkIndex_8e157 1 = .ok (.ifCond .lt 8, 3) := by decide +kernel
theorem dJ3_checkIndex_8e157_4 : decode cJ3_checkIndex_8e157 4 = .ok (.iload_n 0, 1) := by decide +kernel
theorem dJ3_checkIndex_8e157_5 : decode cJ3_checkIndex_8e157 5 = .ok (.iload_n 1, 1) := by decide +kernel
theorem dJ3_checkIndex_8e157_6 : decode cJ3_checkIndex_8e157 6 = .ok (.if_icmp .lt 10, 3) := by decide +kernel
theorem dJ3_checkIndex_8e157_9 : decode cJ3_checkIndex_8e157 9 = .ok (.aload_n 2, 1) := by decide +kernel
theorem dJ3_checkIndex_8e157_10 : decode cJ3_checkIndex_8e157 10 = .ok (.iload_n 0, 1) := by decide +kernel
theorem dJ3_checkIndex_8e157_11 : decode cJ3_checkIndex_8e157 11 = .ok (.iload_n 1, 1) := by decide +kernel
theorem dJ3_checkIndex_8e157_12 : decode cJ3_checkIndex_8e157 12 = .ok (.invokestatic 95, 3) := by decide +kernel
theorem dJ3_checkIndex_8e157_15 : decode cJ3_checkIndex_8e157 15 = .ok (.athrow, 1) := by decide +kernel
theorem dJ3_checkIndex_8e157_16 : decode cJ3_checkIndex_8e157 16 = .ok (.iload_n 0, 1) := by decide +kernel
theorem dJ3_checkIndex_8e157_17 : decode cJ3_checkIndex_8e157 17 = .ok (.ireturn, 1) := by decide +kernel
abbrev mJ0_coder_7d493 : xM := (yJ0_coder_7d493, cJ0_coder_7d493, 1, (some .byte))
abbrev mJ0_length_8abf5 : xM := (yJ0_length_8abf5, cJ0_length_8abf5, 1, (some .int))
abbrev mJ0_isLatin1_aae02 : xM := (yJ0_isLatin1_aae02, cJ0_isLatin1_aae02, 1, (some .boolean))
abbrev mJ3_checkIndex_8e157 : xM := (yJ3_checkIndex_8e157, cJ3_checkIndex_8e157, 3, (some .int))
abbrev mJ0_checkIndex_df160 : xM := (yJ0_checkIndex_df160, cJ0_checkIndex_df160, 2, none)
abbrev mJ1_charAt_3b067 : xM := (yJ1_charAt_3b067, cJ1_charAt_3b067, 2, (some .char))
abbrev mJ0_charAt_5068e : xM := (yJ0_charAt_5068e, cJ0_charAt_5068e, 2, (some .char))
theorem xu1 : Cond.fieldLink RJ0 38 "java/lang/String" "COMPACT_STRINGS" "Z" ∈ xT := (xin 480 (by decide +kernel) rfl)
theorem xu2 : Cond.fieldLink RJ0 15 "java/lang/String" "coder" "B" ∈ xT := (xin 1743 (by decide +kernel) rfl)
theorem xu3 : Cond.fieldLink RJ0 9 "java/lang/String" "value" "[B" ∈ xT := (xin 1742 (by decide +kernel) rfl)
theorem xu4 : Cond.fieldLink RJ0 1053 "jdk/internal/util/Preconditions" "SIOOBE_FORMATTER" "Ljava/util/function/BiFunction;" ∈ xT := (xin 496 (by decide +kernel) rfl)
theorem xa_J0_coder_7d493 : xcal mJ0_coder_7d493 0 := ⟨(xin 479 (by decide +kernel) rfl), (xin 100 (by decide +kernel) rfl), ⟨by decide, by decide, by decide +kernel⟩, by decide⟩
theorem xa_J0_length_8abf5 : xcal mJ0_length_8abf5 0 := ⟨(xin 475 (by decide +kernel) rfl), (xin 100 (by decide +kernel) rfl), ⟨by decide, by decide, by decide +kernel⟩, by decide⟩
theorem xa_J0_isLatin1_aae02 : xcal mJ0_isLatin1_aae02 0 := ⟨(xin 489 (by decide +kernel) rfl), (xin 100 (by decide +kernel) rfl), ⟨by decide, by decide, by decide +kernel⟩, by decide⟩
theorem xa_J3_checkIndex_8e157 : xcal mJ3_checkIndex_8e157 3 := ⟨(xin 500 (by decide +kernel) rfl), (xin 102 (by decide +kernel) rfl), ⟨by decide, by decide, by decide +kernel⟩, by decide⟩
theorem xa_J0_checkIndex_df160 : xcal mJ0_checkIndex_df160 2 := ⟨(xin 495 (by decide +kernel) rfl), (xin 100 (by decide +kernel) rfl), ⟨by decide, by decide, by decide +kernel⟩, by decide⟩
theorem xa_J1_charAt_3b067 : xcal mJ1_charAt_3b067 2 := ⟨(xin 492 (by decide +kernel) rfl), (xin 101 (by decide +kernel) rfl), ⟨by decide, by decide, by decide +kernel⟩, by decide⟩
theorem xa_J0_charAt_5068e : xcal mJ0_charAt_5068e 1 := ⟨(xin 485 (by decide +kernel) rfl), (xin 100 (by decide +kernel) rfl), ⟨by decide, by decide, by decide +kernel⟩, by decide⟩
theorem xu5 : Cond.methodLink RJ0 335 mJ0_coder_7d493.1 ∈ xT := (xin 476 (by decide +kernel) rfl)
theorem xu6 : Cond.methodLink RJ0 492 mJ0_isLatin1_aae02.1 ∈ xT := (xin 486 (by decide +kernel) rfl)
theorem xu7 : Cond.methodLink RJ0 495 mJ1_charAt_3b067.1 ∈ xT := (xin 490 (by decide +kernel) rfl)
theorem xu8 : Cond.methodLink RJ1 9 mJ0_checkIndex_df160.1 ∈ xT := (xin 493 (by decide +kernel) rfl)
theorem xu9 : Cond.methodLink RJ0 1059 mJ3_checkIndex_8e157.1 ∈ xT := (xin 498 (by decide +kernel) rfl)
theorem xus_J1_charAt_3b067 : Cond.static mJ1_charAt_3b067.1 ∈ xT := (xin 491 (by decide +kernel) rfl)
theorem xus_J0_checkIndex_df160 : Cond.static mJ0_checkIndex_df160.1 ∈ xT := (xin 494 (by decide +kernel) rfl)
theorem xus_J3_checkIndex_8e157 : Cond.static mJ3_checkIndex_8e157.1 ∈ xT := (xin 499 (by decide +kernel) rfl)
theorem xui_J0_coder_7d493 : Cond.instanceMethod mJ0_coder_7d493.1 ∈ xT := (xin 477 (by decide +kernel) rfl)
theorem xue_J0_coder_7d493 : Cond.selects "java/lang/String" mJ0_coder_7d493.1 mJ0_coder_7d493.1 ∈ xT := (xin 478 (by decide +kernel) rfl)
theorem xui_J0_isLatin1_aae02 : Cond.instanceMethod mJ0_isLatin1_aae02.1 ∈ xT := (xin 487 (by decide +kernel) rfl)
theorem xue_J0_isLatin1_aae02 : Cond.selects "java/lang/String" mJ0_isLatin1_aae02.1 mJ0_isLatin1_aae02.1 ∈ xT := (xin 488 (by decide +kernel) rfl)
theorem xui_J0_length_8abf5 : Cond.instanceMethod mJ0_length_8abf5.1 ∈ xT := (xin 473 (by decide +kernel) rfl)
theorem xue_J0_length_8abf5 : Cond.selects "java/lang/String" mJ0_length_8abf5.1 mJ0_length_8abf5.1 ∈ xT := (xin 474 (by decide +kernel) rfl)
theorem xui_J0_charAt_5068e : Cond.instanceMethod mJ0_charAt_5068e.1 ∈ xT := (xin 483 (by decide +kernel) rfl)
theorem xue_J0_charAt_5068e : Cond.selects "java/lang/String" mJ0_charAt_5068e.1 mJ0_charAt_5068e.1 ∈ xT := (xin 484 (by decide +kernel) rfl)

section XRJ
variable {y : xM} {pc : Nat} {lv lv' : List (Nat × Value)} {stk stk0 stk2 : List Value} {st st1 : xS} {r : Option Value} {st' : xS} {d : Nat}
theorem xold {G : xG} {st : xS} {H : Heap} {a : Nat} {cell : Cell} (hW : xW G st H) (h : G.H0[a]? = some cell) : H[a]? = some cell := by
  rw [hW.1 a (Array.getElem?_eq_some_iff.mp h).1]
  exact h
/-- a text's fields -/
theorem j_coder {i : Nat} (hi : i < 17) (hd : decode y.2.1 pc = .ok (.getfield 15, 3)) (hy : y.1.cls = RJ0) (kk : Rn y (pc + 3) lv (.int 0 :: stk) st r st' d) : Rn y pc lv (.ref i :: stk) st r st' d :=
  kk.lift fun G p l e R s m args below meth c H locs cells slots Q hx hb hown hts hK hW kk ls hl => by
    obtain ⟨cf, k, fi, f, cell, h1, h2, h3, h4, h5, h6⟩ := (hK.2.2.2.2.1.1 i hi).2.1
    exact W.getf hx hb hown (by rw [hy]; exact hts _ xu2) h1 h2 (xold hW h3) h4 (v := .int 0) h5 rfl rfl hd (kk ls hl)
theorem j_value {i : Nat} (hi : i < 17) (hd : decode y.2.1 pc = .ok (.getfield 9, 3)) (hy : y.1.cls = RJ0) (kk : Rn y (pc + 3) lv (.ref (20 + i) :: stk) st r st' d) : Rn y pc lv (.ref i :: stk) st r st' d :=
  kk.lift fun G p l e R s m args below meth c H locs cells slots Q hx hb hown hts hK hW kk ls hl => by
    obtain ⟨cf, k, fi, f, cell, h1, h2, h3, h4, h5, h6⟩ := (hK.2.2.2.2.1.1 i hi).2.2.1
    refine W.getf hx hb hown (by rw [hy]; exact hts _ xu3) h1 h2 (xold hW h3) h4 (v := .ref (G.aV i)) h5 rfl rfl hd ?_
    have := kk ls hl
    rw [← hK.2.2.2.2.2.1 i hi]
    exact this
theorem j_len {i : Nat} (hi : i < 17) (hd : decode y.2.1 pc = .ok (.arraylength, 1)) (kk : Rn y (pc + 1) lv (.int (nI (xlen.getD i 0)) :: stk) st r st' d) : Rn y pc lv (.ref (20 + i) :: stk) st r st' d :=
  kk.lift fun G p l e R s m args below meth c H locs cells slots Q hx hb hown hts hK hW kk ls hl => by
    obtain ⟨cell, h1, h2, h3, h4, h5, h6, h7⟩ := (hK.2.2.2.2.1.1 i hi).2.2.2
    have ev : Value.ref (G.aV i) = xcv G.ad (.ref (20 + i)) := by
      show _ = Value.ref (G.ad (20 + i))
      rw [hK.2.2.2.2.2.1 i hi]
    show W p l e R s m args below meth c H locs cells slots Q (F0 m pc ls (xcv G.ad (.ref (20 + i)) :: xst G stk))
    rw [← ev]
    exact W.alen (n := nI (xlen.getD i 0)) hx hb (xold hW h1) h2 h5 rfl rfl hd (kk ls hl)
theorem j_byte {i : Nat} {j : Int32} (hi : i < 17) (hj : vp_in j (xlen.getD i 0)) (hd : decode y.2.1 pc = .ok (.baload, 1)) (kk : Rn y (pc + 1) lv (.int ((xbyt.getD i []).getD j.toNatClampNeg 0) :: stk) st r st' d) : Rn y pc lv (.int j :: .ref (20 + i) :: stk) st r st' d :=
  kk.lift fun G p l e R s m args below meth c H locs cells slots Q hx hb hown hts hK hW kk ls hl => by
    obtain ⟨cell, h1, h2, h3, h4, h5, h6, h7⟩ := (hK.2.2.2.2.1.1 i hi).2.2.2
    have ev : Value.ref (G.aV i) = xcv G.ad (.ref (20 + i)) := by
      show _ = Value.ref (G.ad (20 + i))
      rw [hK.2.2.2.2.2.1 i hi]
    show W p l e R s m args below meth c H locs cells slots Q (F0 m pc ls (.int j :: xcv G.ad (.ref (20 + i)) :: xst G stk))
    rw [← ev]
    have hlt : j.toNatClampNeg < xlen.getD i 0 := Nat.not_le.mp fun q => hj (Or.inr q)
    have h0 : ¬ j < 0 := fun q => hj (Or.inl q)
    exact W.bald (v := .int ((xbyt.getD i []).getD j.toNatClampNeg 0)) hx hb (xold hW h1) h2 h3 (by rintro (q | q); exact h0 q; omega) (h6 _ hlt) rfl rfl hd (kk ls hl)
theorem j_compact (hd : decode y.2.1 pc = .ok (.getstatic 38, 3)) (hy : y.1.cls = RJ0) (kk : Rn y (pc + 3) lv (.int 1 :: stk) st r st' d) : Rn y pc lv stk st r st' d :=
  kk.lift fun G p l e R s m args below meth c H locs cells slots Q hx hb hown hts hK hW kk ls hl => by
    obtain ⟨cf, kf, fi, f, a, cell, h1, h2, h3, h4, h5, h6, h7, h8⟩ := hK.2.2.2.2.2.2.1
    exact W.gets hx hb hown (by rw [hy]; exact hts _ xu1) h1 h2 h3 h4 (xold hW h5) (fun e => by rw [e] at h6; cases h6) h7 rfl hd (kk ls hl)
theorem j_siobe (hd : decode y.2.1 pc = .ok (.getstatic 1053, 3)) (hy : y.1.cls = RJ0) (kk : ∀ o : Option Nat, Rn y (pc + 3) lv (va_rf o :: stk) st r st' d) : Rn y pc lv stk st r st' d :=
  ⟨(kk none).1, (kk none).2.1, fun G p l e R s m args below meth c H locs cells slots Q C h1 h2 hW hL hE ls hl => by
    have hK := C.2.2.1
    rcases hK.2.2.2.2.2.2.2.1 with h | h
    · obtain ⟨cf, kf, fi, f, a, cell, g1, g2, g3, g4, g5, g6, g7, g8⟩ := h
      exact W.gets C.1.1 C.1.2.1 C.1.2.2.2.1 (by rw [hy]; exact C.1.2.2.2.2 _ xu4) g1 g2 g3 g4 (xold hW g5) (fun e => by rw [e] at g6; cases g6) g7 rfl hd ((kk none).2.2 G p l e R s m args below meth c H locs cells slots Q C h1 h2 hW hL hE ls hl)
    · obtain ⟨cf, kf, fi, f, a, cell, g1, g2, g3, g4, g5, g6, g7, g8⟩ := h
      exact W.gets C.1.1 C.1.2.1 C.1.2.2.2.1 (by rw [hy]; exact C.1.2.2.2.2 _ xu4) g1 g2 g3 g4 (xold hW g5) (fun e => by rw [e] at g6; cases g6) g7 rfl hd ((kk (some 41)).2.2 G p l e R s m args below meth c H locs cells slots Q C h1 h2 hW hL hE ls hl)⟩
/-- a call of a text's method -/
theorem j_callV {yc : xM} {i : Nat} {as : List Value} {r1 : Option Value} {d' index : Nat} (hi : i < 17) (hd : decode y.2.1 pc = .ok (.invokevirtual index, 3)) (hw : Cond.methodLink y.1.cls index yc.1 ∈ xT) (hin : Cond.instanceMethod yc.1 ∈ xT) (hse : Cond.selects "java/lang/String" yc.1 yc.1 ∈ xT) (hB : xcal yc as.length) (hdd : d' + 1 ≤ d) (hs : (stk.map fun v => v.category).sum ≤ 8) (he : stk0 = as.reverse ++ .ref i :: stk)
    (hc : Ct yc (.ref i :: as) st r1 st1 d') (kk : Rn y (pc + 3) lv (r1.toList ++ stk) st1 r st' d) : Rn y pc lv stk0 st r st' d := by
  subst he
  obtain ⟨b1, b2, b3, b4⟩ := hB
  have c1 := hc.1
  have c2 := hc.2.1
  refine ⟨Nat.le_trans hc.1 kk.1, Nat.le_trans hc.2.1 kk.2.1, fun G p l e R s m args below meth c H locs cells slots Q X g1 g2 hW hL hE ls hl => ?_⟩
  have k1 := kk.1
  have k2 := kk.2.1
  have X0 := X
  obtain ⟨S, -, hK, hf, hlo⟩ := X0
  rw [xstack]
  have hpre := xpreS (as := .ref i :: as) hW hK
  have hrc : ∃ cell : Cell, H[G.ad i]? = some cell ∧ cell.vm.isStatics = false ∧ s.vm.findClass "java/lang/String" = some cell.cls := by
    obtain ⟨cell, h1, h2, h3, -⟩ := (hK.2.2.2.2.1.1 i hi).1
    exact ⟨cell, xold hW h1, h2, h3⟩
  refine xrun (a := (Value.ref (G.ad i) :: as.map (xcv G.ad)).toArray) (mc := st1.1 - st.1) (ms := st1.2.1 - st.2.1) (by omega) (by omega) (va_runV S (hc.2.2 G l (st1.1 - st.1) (st1.2.1 - st.2.1) (by omega) (by omega)) (ws := xws yc) (rm := { frames := d', cells := st1.1 - st.1, slots := st1.2.1 - st.2.1, locals := 45 * d' }) (n := as.length) (bytes := yc.2.1) (maxL := yc.2.2.1) (ret := yc.2.2.2) (C := "java/lang/String")
    ⟨callB_of as.length S.2.2.2.2 (xgoodIn b1) rfl rfl rfl (S.2.2.2.2 _ b2) (S.2.2.2.2 _ hw) b3 (xroom hdd b4 hf hlo), S.2.2.2.2 _ hin, S.2.2.2.2 _ hse⟩ ⟨hpre.1, hrc, hpre.2⟩ rfl (by rw [List.length_map]) hl.1 rfl (xgW hs m ls _) hd ⟨by omega, by omega⟩) kk X g1 g2 hL hE hl
theorem j_i2c {a : Int32} (hd : decode y.2.1 pc = .ok (.i2c, 1)) (kk : Rn y (pc + 1) lv (.int (a.toUInt32 % 65536).toInt32 :: stk) st r st' d) : Rn y pc lv (.int a :: stk) st r st' d :=
  kk.lift fun _ _ _ _ _ _ _ _ _ _ _ _ _ _ _ _ hx hb hown hts hK hW kk ls hl => lv_i2c hx hb hd rfl (kk ls hl)
end XRJ
theorem S_J3_checkIndex (st : xS) (i n : Int32) (o : Option Nat) (h0 : ¬ i < 0) (h1 : i < n) : Ct mJ3_checkIndex_8e157 [.int i, .int n, va_rf o] st (some (.int i)) st 0 := by
  refine Ct.of (by decide) (by simp only [lgL_R, lgL_I, lgL_L, lgL_0]; decide) ?_
  show Rn mJ3_checkIndex_8e157 0 [(0, .int i), (1, .int n), (2, va_rf o)] [] st _ st 0
  refine r_iload_n (x := i) dJ3_checkIndex_8e157_0 rfl ?_
  refine r_if_lt (tgt := 9) dJ3_checkIndex_8e157_1 (by decide) (fun c => absurd c h0) (fun _ => ?_)
  refine r_iload_n (x := i) dJ3_checkIndex_8e157_4 rfl ?_
  refine r_iload_n (x := n) dJ3_checkIndex_8e157_5 rfl ?_
  refine r_icmp_lt (tgt := 16) dJ3_checkIndex_8e157_6 (by decide) (fun _ => ?_) (fun c => absurd h1 c)
  refine r_iload_n (x := i) dJ3_checkIndex_8e157_16 rfl ?_
  exact r_ireturn dJ3_checkIndex_8e157_17 .int rfl rfl
theorem S_J0_checkIndex (st : xS) (i n : Int32) (h0 : ¬ i < 0) (h1 : i < n) : Ct mJ0_checkIndex_df160 [.int i, .int n] st none st 1 := by
  refine Ct.of (by decide) (by simp only [lgL_R, lgL_I, lgL_L, lgL_0]; decide) ?_
  show Rn mJ0_checkIndex_df160 0 [(0, .int i), (1, .int n)] [] st _ st 1
  refine r_iload_n (x := i) dJ0_checkIndex_df160_0 rfl ?_
  refine r_iload_n (x := n) dJ0_checkIndex_df160_1 rfl ?_
  refine j_siobe dJ0_checkIndex_df160_2 rfl (fun o => ?_)
  refine z_callS (yc := mJ3_checkIndex_8e157) (as := [.int i, .int n, va_rf o]) (r1 := some (.int i)) (stk := []) (stk2 := [.int i]) (st1 := st) (d' := 0) dJ0_checkIndex_df160_5 ⟨Or.inl xu9, xus_J3_checkIndex_8e157, xa_J3_checkIndex_8e157⟩ (by decide) (Nat.le_trans xs0 (by decide)) rfl rfl (S_J3_checkIndex st i n o h0 h1) ?_
  refine r_pop dJ0_checkIndex_df160_8 rfl ?_
  exact r_return dJ0_checkIndex_df160_9 rfl
theorem S_J0_coder (st : xS) (i : Nat) (hi : i < 17) : Ct mJ0_coder_7d493 [.ref i] st (some (.int 0)) st 0 := by
  refine Ct.of (by decide) (Nat.le_of_ble_eq_true rfl) ?_
  show Rn mJ0_coder_7d493 0 [(0, .ref i)] [] st _ st 0
  refine j_compact dJ0_coder_7d493_0 rfl ?_
  refine r_if_eq (tgt := 13) dJ0_coder_7d493_3 (by decide) (fun c => absurd c (by decide)) (fun _ => ?_)
  refine r_aload_n (x := i) dJ0_coder_7d493_6 rfl ?_
  refine j_coder hi dJ0_coder_7d493_7 rfl ?_
  refine r_goto (tgt := 14) dJ0_coder_7d493_10 (by decide) ?_
  exact r_ireturn dJ0_coder_7d493_14 .byte rfl rfl
theorem xshr0 (x : Int32) : x >>> ((0 : Int32) &&& 31) = x := by
  have e : ((0 : Int32) &&& 31) = 0 := by decide
  rw [e]
  apply Int32.toBitVec_inj.mp
  simp
theorem S_J0_length (st : xS) (i : Nat) (hi : i < 17) : Ct mJ0_length_8abf5 [.ref i] st (some (.int (nI (xlen.getD i 0)))) st 1 := by
  refine Ct.of (by decide) (Nat.le_of_ble_eq_true rfl) ?_
  show Rn mJ0_length_8abf5 0 [(0, .ref i)] [] st _ st 1
  refine r_aload_n (x := i) dJ0_length_8abf5_0 rfl ?_
  refine j_value hi dJ0_length_8abf5_1 rfl ?_
  refine j_len hi dJ0_length_8abf5_4 ?_
  refine r_aload_n (x := i) dJ0_length_8abf5_5 rfl ?_
  refine j_callV (yc := mJ0_coder_7d493) (as := []) (r1 := some (.int 0)) (stk := [.int (nI (xlen.getD i 0))]) (st1 := st) (d' := 0) hi dJ0_length_8abf5_6 xu5 xui_J0_coder_7d493 xue_J0_coder_7d493 xa_J0_coder_7d493 (by decide) (Nat.le_trans (xsI xs0) (by decide)) rfl (S_J0_coder st i hi) ?_
  show Rn mJ0_length_8abf5 _ _ [.int 0, .int (nI (xlen.getD i 0))] _ _ _ _
  refine r_ishr dJ0_length_8abf5_9 ?_
  rw [xshr0]
  exact r_ireturn dJ0_length_8abf5_10 .int rfl rfl
theorem S_J0_isLatin1 (st : xS) (i : Nat) (hi : i < 17) : Ct mJ0_isLatin1_aae02 [.ref i] st (some (.int 1)) st 0 := by
  refine Ct.of (by decide) (Nat.le_of_ble_eq_true rfl) ?_
  show Rn mJ0_isLatin1_aae02 0 [(0, .ref i)] [] st _ st 0
  refine j_compact dJ0_isLatin1_aae02_0 rfl ?_
  refine r_if_eq (tgt := 17) dJ0_isLatin1_aae02_3 (by decide) (fun c => absurd c (by decide)) (fun _ => ?_)
  refine r_aload_n (x := i) dJ0_isLatin1_aae02_6 rfl ?_
  refine j_coder hi dJ0_isLatin1_aae02_7 rfl ?_
  refine r_if_ne (tgt := 17) dJ0_isLatin1_aae02_10 (by decide) (fun c => absurd rfl c) (fun _ => ?_)
  refine r_iconst (v := (1 : Int32)) dJ0_isLatin1_aae02_13 (by decide) ?_
  refine r_goto (tgt := 18) dJ0_isLatin1_aae02_14 (by decide) ?_
  exact r_ireturn dJ0_isLatin1_aae02_18 .boolean rfl rfl
theorem xby : ∀ i, i < 17 → ((xbyt.getD i []).length = xlen.getD i 0 ∧ xlen.getD i 0 < 100 ∧ ∀ b ∈ xbyt.getD i [], ((b &&& 255).toUInt32 % 65536).toInt32 = b ∧ narrow .char (.int b) = .int b) := by decide +kernel
theorem xby_at {i : Nat} (hi : i < 17) {k : Nat} (hk : k < xlen.getD i 0) : (((xbyt.getD i []).getD k 0 &&& 255).toUInt32 % 65536).toInt32 = (xbyt.getD i []).getD k 0 ∧ narrow .char (.int ((xbyt.getD i []).getD k 0)) = .int ((xbyt.getD i []).getD k 0) := by
  obtain ⟨h1, -, h2⟩ := xby i hi
  refine h2 _ ?_
  have hlt : k < (xbyt.getD i []).length := by rw [h1]; exact hk
  generalize xbyt.getD i [] = bl at hlt ⊢
  rw [List.getD_eq_getElem?_getD, List.getElem?_eq_getElem hlt, Option.getD_some]
  exact List.getElem_mem hlt
theorem S_J1_charAt (st : xS) (i : Nat) (hi : i < 17) (k : Int32) (hk : vp_in k (xlen.getD i 0)) : Ct mJ1_charAt_3b067 [.ref (20 + i), .int k] st (some (.int ((xbyt.getD i []).getD k.toNatClampNeg 0))) st 2 := by
  have hlt : k.toNatClampNeg < xlen.getD i 0 := Nat.not_le.mp fun q => hk (Or.inr q)
  have h0 : ¬ k < 0 := fun q => hk (Or.inl q)
  have hL : xlen.getD i 0 < 100 := (xby i hi).2.1
  have h1 : k < nI (xlen.getD i 0) := by
    obtain ⟨j, hj, rfl⟩ := vp_in_of hk (by omega)
    exact nI_lt hj (by omega)
  obtain ⟨e1, e2⟩ := xby_at hi hlt
  refine Ct.of (by decide) (Nat.le_of_ble_eq_true rfl) ?_
  show Rn mJ1_charAt_3b067 0 [(0, .ref (20 + i)), (1, .int k)] [] st _ st 2
  refine r_iload_n (x := k) dJ1_charAt_3b067_0 rfl ?_
  refine r_aload_n (x := 20 + i) dJ1_charAt_3b067_1 rfl ?_
  refine j_len hi dJ1_charAt_3b067_2 ?_
  refine z_callS (yc := mJ0_checkIndex_df160) (as := [.int k, .int (nI (xlen.getD i 0))]) (r1 := none) (stk := []) (stk2 := []) (st1 := st) (d' := 1) dJ1_charAt_3b067_3 ⟨Or.inl xu8, xus_J0_checkIndex_df160, xa_J0_checkIndex_df160⟩ (by decide) (Nat.le_trans xs0 (by decide)) rfl rfl (S_J0_checkIndex st k _ h0 h1) ?_
  refine r_aload_n (x := 20 + i) dJ1_charAt_3b067_6 rfl ?_
  refine r_iload_n (x := k) dJ1_charAt_3b067_7 rfl ?_
  refine j_byte hi hk dJ1_charAt_3b067_8 ?_
  refine r_sipush (v := (255 : Int32)) dJ1_charAt_3b067_9 (by decide) ?_
  refine r_iand dJ1_charAt_3b067_12 ?_
  refine j_i2c dJ1_charAt_3b067_13 ?_
  rw [e1]
  exact r_ireturn dJ1_charAt_3b067_14 .char rfl e2
theorem S_J0_charAt (st : xS) (i : Nat) (hi : i < 17) (k : Int32) (hk : vp_in k (xlen.getD i 0)) : Ct mJ0_charAt_5068e [.ref i, .int k] st (some (.int ((xbyt.getD i []).getD k.toNatClampNeg 0))) st 3 := by
  have hlt : k.toNatClampNeg < xlen.getD i 0 := Nat.not_le.mp fun q => hk (Or.inr q)
  obtain ⟨e1, e2⟩ := xby_at hi hlt
  refine Ct.of (by decide) (Nat.le_of_ble_eq_true rfl) ?_
  show Rn mJ0_charAt_5068e 0 [(0, .ref i), (1, .int k)] [] st _ st 3
  refine r_aload_n (x := i) dJ0_charAt_5068e_0 rfl ?_
  refine j_callV (yc := mJ0_isLatin1_aae02) (as := []) (r1 := some (.int 1)) (stk := []) (st1 := st) (d' := 0) hi dJ0_charAt_5068e_1 xu6 xui_J0_isLatin1_aae02 xue_J0_isLatin1_aae02 xa_J0_isLatin1_aae02 (by decide) (Nat.le_trans xs0 (by decide)) rfl (S_J0_isLatin1 st i hi) ?_
  show Rn mJ0_charAt_5068e _ _ [.int 1] _ _ _ _
  refine r_if_eq (tgt := 16) dJ0_charAt_5068e_4 (by decide) (fun c => absurd c (by decide)) (fun _ => ?_)
  refine r_aload_n (x := i) dJ0_charAt_5068e_7 rfl ?_
  refine j_value hi dJ0_charAt_5068e_8 rfl ?_
  refine r_iload_n (x := k) dJ0_charAt_5068e_11 rfl ?_
  refine z_callS (yc := mJ1_charAt_3b067) (as := [.ref (20 + i), .int k]) (r1 := some (.int ((xbyt.getD i []).getD k.toNatClampNeg 0))) (stk := []) (stk2 := [.int ((xbyt.getD i []).getD k.toNatClampNeg 0)]) (st1 := st) (d' := 2) dJ0_charAt_5068e_12 ⟨Or.inl xu7, xus_J1_charAt_3b067, xa_J1_charAt_3b067⟩ (by decide) (Nat.le_trans xs0 (by decide)) rfl rfl (S_J1_charAt st i hi k hk) ?_
  exact r_ireturn dJ0_charAt_5068e_15 .char rfl e2
section XRK
variable {y : xM} {pc : Nat} {lv lv' : List (Nat × Value)} {stk stk0 stk2 : List Value} {st st1 : xS} {r : Option Value} {st' : xS} {d : Nat} {o : Option Nat}
theorem x_strlen {index : Nat} {v : Int32} (hd : decode y.2.1 pc = .ok (.invokevirtual index, 3)) (hw : Cond.methodLink y.1.cls index ⟨"java/lang/String", "length", "()I"⟩ ∈ xT) (hdd : 7 ≤ d) (hs : (stk.map fun v => v.category).sum ≤ 8) (h : sLen o = some v) (kk : Rn y (pc + 3) lv (.int v :: stk) st r st' d) : Rn y pc lv (va_rf o :: stk) st r st' d := by
  obtain ⟨a, ea, h2⟩ := xb h
  subst ea
  by_cases ha : a < 17
  · rw [if_pos ha] at h2
    obtain rfl := Option.some.inj h2
    exact j_callV (yc := mJ0_length_8abf5) (as := []) (r1 := some (.int (nI (xlen.getD a 0)))) (stk := stk) (st1 := st) (d' := 1) ha hd hw xui_J0_length_8abf5 xue_J0_length_8abf5 xa_J0_length_8abf5 (by omega) hs rfl (S_J0_length st a ha) kk
  · rw [if_neg ha] at h2
    cases h2
theorem x_strch {index : Nat} {i v : Int32} (hd : decode y.2.1 pc = .ok (.invokevirtual index, 3)) (hw : Cond.methodLink y.1.cls index ⟨"java/lang/String", "charAt", "(I)C"⟩ ∈ xT) (hdd : 7 ≤ d) (hs : (stk.map fun v => v.category).sum ≤ 8) (h : sCh o i = some v) (kk : Rn y (pc + 3) lv (.int v :: stk) st r st' d) : Rn y pc lv (.int i :: va_rf o :: stk) st r st' d := by
  obtain ⟨a, ea, h2⟩ := xb h
  subst ea
  by_cases ha : a < 17 ∧ ix i (xlen.getD a 0) = true
  · rw [if_pos ha] at h2
    obtain rfl := Option.some.inj h2
    exact j_callV (yc := mJ0_charAt_5068e) (as := [.int i]) (r1 := some (.int ((xbyt.getD a []).getD i.toNatClampNeg 0))) (stk := stk) (st1 := st) (d' := 3) ha.1 hd hw xui_J0_charAt_5068e xue_J0_charAt_5068e xa_J0_charAt_5068e (by omega) hs rfl (S_J0_charAt st a ha.1 i (ix_in ha.2)) kk
  · rw [if_neg ha] at h2
    cases h2
end XRK

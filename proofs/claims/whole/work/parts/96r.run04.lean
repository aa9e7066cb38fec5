/-! printed by a program: the methods run as their functions say -/
theorem R_X10_looser (n : Nat) (st : xS) (a0 : Option Nat) (a1 : Int32) (a2 : Int32) (rv : Int64) (h : F_X10_looser n st a0 a1 a2 = some rv) : Rn mX10_looser 0 [(0, va_rf a0), (1, .int a1), (2, .int a2)] [] st (some (.long rv)) st 3 := by
  unfold F_X10_looser at h
  refine r_iload_n (x := a1) dX10_looser_0 rfl ?_
  obtain ⟨v1, hv1, h⟩ := xb h
  refine z_callS (as := [.int a1]) (r1 := (some (.int v1))) (stk := []) (stk2 := [.int v1]) (st1 := st) (d' := 1) dX10_looser_1 xl_X10_213 (by decide) (Nat.le_trans xs0 (by decide)) rfl rfl (S_X10_isJudge n st a1 v1 hv1) ?_
  refine r_if_ne (tgt := 11) dX10_looser_4 (by decide) (fun c => ?_) (fun c => ?_)
  · replace h := (if_neg c).symm.trans h
    refine x_aload_n (o := a0) dX10_looser_11 rfl ?_
    obtain ⟨v2, hv2, h⟩ := xb h
    refine x_getR (o := a0) dX10_looser_12 xf_X10_10 hv2 ?_
    refine r_iload_n (x := a1) dX10_looser_15 rfl ?_
    refine r_iconst (v := (0 : Int32)) dX10_looser_16 (by decide) ?_
    obtain ⟨q4, hq4, h⟩ := xb h
    obtain ⟨v3, hv3, h⟩ := xb h
    refine z_callV (as := [.int a1, .int (0 : Int32)]) (o := v2) (r1 := (some (.int v3))) (stk := []) (stk2 := [.int v3]) (st1 := st) (d' := 1) dX10_looser_17 xl_X10_305 hq4 (by decide) (Nat.le_trans xs0 (by decide)) rfl rfl (S_X9_shownBy n st v2 a1 (0 : Int32) v3 hv3) ?_
    refine r_istore_n (lv' := [(3, .int v3), (0, va_rf a0), (1, .int a1), (2, .int a2)]) (x := v3) dX10_looser_20 (by decide) rfl ?_
    refine r_iload_n (x := v3) dX10_looser_21 rfl ?_
    refine x_aload_n (o := a0) dX10_looser_22 rfl ?_
    obtain ⟨v5, hv5, h⟩ := xb h
    refine x_getR (o := a0) dX10_looser_23 xf_X10_10 hv5 ?_
    refine r_iload_n (x := a1) dX10_looser_26 rfl ?_
    refine r_iconst (v := (1 : Int32)) dX10_looser_27 (by decide) ?_
    obtain ⟨q7, hq7, h⟩ := xb h
    obtain ⟨v6, hv6, h⟩ := xb h
    refine z_callV (as := [.int a1, .int (1 : Int32)]) (o := v5) (r1 := (some (.int v6))) (stk := [.int v3]) (stk2 := [.int v6, .int v3]) (st1 := st) (d' := 1) dX10_looser_28 xl_X10_305 hq7 (by decide) (Nat.le_trans (xsI xs0) (by decide)) rfl rfl (S_X9_shownBy n st v5 a1 (1 : Int32) v6 hv6) ?_
    refine r_iadd dX10_looser_31 ?_
    obtain ⟨v8, hv8, h⟩ := xb h
    refine x_eqI (Option.some.inj hv8) ?_
    refine r_istore (lv' := [(4, .int v8), (3, .int v3), (0, va_rf a0), (1, .int a1), (2, .int a2)]) (x := v8) dX10_looser_32 (by decide) rfl ?_
    refine x_aload_n (o := a0) dX10_looser_34 rfl ?_
    obtain ⟨v9, hv9, h⟩ := xb h
    refine x_getR (o := a0) dX10_looser_35 xf_X10_10 hv9 ?_
    refine r_iload_n (x := a1) dX10_looser_38 rfl ?_
    refine r_iconst (v := (0 : Int32)) dX10_looser_39 (by decide) ?_
    obtain ⟨q11, hq11, h⟩ := xb h
    obtain ⟨v10, hv10, h⟩ := xb h
    refine z_callV (as := [.int a1, .int (0 : Int32)]) (o := v9) (r1 := (some (.int v10))) (stk := []) (stk2 := [.int v10]) (st1 := st) (d' := 1) dX10_looser_40 xl_X10_309 hq11 (by decide) (Nat.le_trans xs0 (by decide)) rfl rfl (S_X9_gaveBy n st v9 a1 (0 : Int32) v10 hv10) ?_
    refine r_istore (lv' := [(5, .int v10), (4, .int v8), (3, .int v3), (0, va_rf a0), (1, .int a1), (2, .int a2)]) (x := v10) dX10_looser_43 (by decide) rfl ?_
    refine r_iload (x := v10) dX10_looser_45 rfl ?_
    refine x_aload_n (o := a0) dX10_looser_47 rfl ?_
    obtain ⟨v12, hv12, h⟩ := xb h
    refine x_getR (o := a0) dX10_looser_48 xf_X10_10 hv12 ?_
    refine r_iload_n (x := a1) dX10_looser_51 rfl ?_
    refine r_iconst (v := (1 : Int32)) dX10_looser_52 (by decide) ?_
    obtain ⟨q14, hq14, h⟩ := xb h
    obtain ⟨v13, hv13, h⟩ := xb h
    refine z_callV (as := [.int a1, .int (1 : Int32)]) (o := v12) (r1 := (some (.int v13))) (stk := [.int v10]) (stk2 := [.int v13, .int v10]) (st1 := st) (d' := 1) dX10_looser_53 xl_X10_309 hq14 (by decide) (Nat.le_trans (xsI xs0) (by decide)) rfl rfl (S_X9_gaveBy n st v12 a1 (1 : Int32) v13 hv13) ?_
    refine r_iadd dX10_looser_56 ?_
    obtain ⟨v15, hv15, h⟩ := xb h
    refine x_eqI (Option.some.inj hv15) ?_
    refine r_istore (lv' := [(6, .int v15), (5, .int v10), (4, .int v8), (3, .int v3), (0, va_rf a0), (1, .int a1), (2, .int a2)]) (x := v15) dX10_looser_57 (by decide) rfl ?_
    refine r_iload_n (x := a2) dX10_looser_59 rfl ?_
    obtain ⟨q18, hq18, h⟩ := xb h
    have Jq18 : Rn mX10_looser 82 [] [.long q18] st (some (.long rv)) st 3 := by
      obtain rfl := Option.some.inj h
      exact r_lreturn dX10_looser_82 rfl
    refine r_if_eq (tgt := 72) dX10_looser_60 (by decide) (fun c => ?_) (fun c => ?_)
    · replace hq18 := (if_pos c).symm.trans hq18
      refine r_iload (x := v8) dX10_looser_72 rfl ?_
      refine r_iload (x := v15) dX10_looser_74 rfl ?_
      refine r_iload_n (x := v3) dX10_looser_76 rfl ?_
      refine r_iload (x := v10) dX10_looser_77 rfl ?_
      obtain ⟨v16, hv16, hq18⟩ := xb hq18
      refine z_callS (as := [.int v8, .int v15, .int v3, .int v10]) (r1 := (some (.long v16))) (stk := []) (stk2 := [.long v16]) (st1 := st) (d' := 2) dX10_looser_79 xl_X10_294 (by decide) (Nat.le_trans xs0 (by decide)) rfl rfl (S_X10_waysWithAtLeast n st v8 v15 v3 v10 v16 hv16) ?_
      obtain rfl := Option.some.inj hq18
      exact x_sub [] rfl Jq18
    · replace hq18 := (if_neg c).symm.trans hq18
      refine r_iload (x := v8) dX10_looser_63 rfl ?_
      refine r_iload_n (x := v3) dX10_looser_65 rfl ?_
      obtain ⟨v17, hv17, hq18⟩ := xb hq18
      refine z_callS (as := [.int v8, .int v3]) (r1 := (some (.long v17))) (stk := []) (stk2 := [.long v17]) (st1 := st) (d' := 1) dX10_looser_66 xl_X10_290 (by decide) (Nat.le_trans xs0 (by decide)) rfl rfl (S_X10_ways n st v8 v3 v17 hv17) ?_
      refine r_goto (tgt := 82) dX10_looser_69 (by decide) ?_
      obtain rfl := Option.some.inj hq18
      exact x_sub [] rfl Jq18
  · replace h := (if_pos c).symm.trans h
    refine r_ldc2 (v := (-1 : Int64)) dX10_looser_7 xk_X10_173 ?_
    obtain rfl := Option.some.inj h
    exact r_lreturn dX10_looser_10 rfl
theorem S_X10_looser (n : Nat) (st : xS) (a0 : Option Nat) (a1 : Int32) (a2 : Int32) (rv : Int64) (h : F_X10_looser n st a0 a1 a2 = some rv) : Ct mX10_looser [va_rf a0, .int a1, .int a2] st (some (.long rv)) st 3 := by
  refine Ct.of (by decide) (by simp only [lgL_R, lgL_I, lgL_L, lgL_0]; decide) ?_
  try simp only [lvA_R]
  exact R_X10_looser n st a0 a1 a2 rv h
theorem R_X10_isPrice (n : Nat) (st : xS) (a0 : Int32) (rv : Int32) (h : F_X10_isPrice n st a0 = some rv) : Rn mX10_isPrice 0 [(0, .int a0)] [] st (some (.int rv)) st 1 := by
  unfold F_X10_isPrice at h
  refine r_iload_n (x := a0) dX10_isPrice_0 rfl ?_
  refine r_bipush (v := (101 : Int32)) dX10_isPrice_1 (by decide) ?_
  refine r_sipush (v := (999 : Int32)) dX10_isPrice_3 (by decide) ?_
  obtain ⟨v1, hv1, h⟩ := xb h
  refine z_callS (as := [.int a0, .int (101 : Int32), .int (999 : Int32)]) (r1 := (some (.int v1))) (stk := []) (stk2 := [.int v1]) (st1 := st) (d' := 0) dX10_isPrice_6 xl_X10_209 (by decide) (Nat.le_trans xs0 (by decide)) rfl rfl (S_X10_within n st a0 (101 : Int32) (999 : Int32) v1 hv1) ?_
  obtain ⟨v2, hv2, h⟩ := xb h
  refine x_eqI (rz_inv2 hv2).1 ?_
  obtain rfl := Option.some.inj h
  exact r_ireturn dX10_isPrice_9 .boolean rfl (by rcases (rz_inv2 hv2).2 with e | e <;> rw [e] <;> rfl)
theorem S_X10_isPrice (n : Nat) (st : xS) (a0 : Int32) (rv : Int32) (h : F_X10_isPrice n st a0 = some rv) : Ct mX10_isPrice [.int a0] st (some (.int rv)) st 1 := by
  refine Ct.of (by decide) (by simp only [lgL_R, lgL_I, lgL_L, lgL_0]; decide) ?_
  try simp only [lvA_R]
  exact R_X10_isPrice n st a0 rv h
theorem R_X10_had_L24 (n : Nat) {r : Option Value} {st' : xS} : ∀ (k : Nat) (st : xS) (a0 : Option Nat) (a3 : Int32) (a4 : Int32) (a5 : Int32) (a6 : Int32) (q : (Int32)), F_X10_had_L24 n k st a0 a3 a4 a5 a6 = some q → Rn mX10_had 60 [(5, .int q)] [] st r st' 4 → Rn mX10_had 24 [(0, va_rf a0), (3, .int a3), (4, .int a4), (5, .int a5), (6, .int a6)] [] st r st' 4 := by
  intro k
  induction k with
  | zero => intro st a0 a3 a4 a5 a6 q h; cases h
  | succ k ih =>
    intro st a0 a3 a4 a5 a6 q h J
    unfold F_X10_had_L24 at h
    refine r_iload (x := a6) dX10_had_24 rfl ?_
    refine r_iload (x := a4) dX10_had_26 rfl ?_
    refine r_icmp_ge (tgt := 60) dX10_had_28 (by decide) (fun c => ?_) (fun c => ?_)
    · replace h := (if_pos c).symm.trans h
      obtain rfl := Option.some.inj h
      exact x_sub [3] rfl J
    · replace h := (if_neg c).symm.trans h
      refine r_iload (x := a5) dX10_had_31 rfl ?_
      refine x_aload_n (o := a0) dX10_had_33 rfl ?_
      refine r_iload (x := a6) dX10_had_34 rfl ?_
      obtain ⟨q5, hq5, h⟩ := xb h
      obtain ⟨v4, hv4, h⟩ := xb h
      refine z_callV (as := [.int a6]) (o := a0) (r1 := (some (.int v4))) (stk := [.int a5]) (stk2 := [.int v4, .int a5]) (st1 := st) (d' := 3) dX10_had_36 xl_X10_225 hq5 (by decide) (Nat.le_trans (xsI xs0) (by decide)) rfl rfl (S_X10_margin n st a0 a6 v4 hv4) ?_
      obtain ⟨q6, hq6, h⟩ := xb h
      have Jq6 : Rn mX10_had 51 [(0, va_rf a0), (3, .int a3), (4, .int a4), (6, .int a6)] [.int q6, .int a5] st r st' 4 := by
        refine r_iadd dX10_had_51 ?_
        obtain ⟨v7, hv7, h⟩ := xb h
        refine x_eqI (Option.some.inj hv7) ?_
        refine r_istore (lv' := [(5, .int v7), (0, va_rf a0), (3, .int a3), (4, .int a4), (6, .int a6)]) (x := v7) dX10_had_52 (by decide) rfl ?_
        obtain ⟨v8, hv8, h⟩ := xb h
        refine x_iinc (c := (1 : Int32)) (lv' := [(6, .int v8), (5, .int v7), (0, va_rf a0), (3, .int a3), (4, .int a4)]) (x := a6) (v := v8) dX10_had_54 rfl (by decide) (Option.some.inj hv8) (by decide) rfl ?_
        refine r_goto (tgt := 24) dX10_had_57 (by decide) ?_
        exact x_sub [2, 3, 4, 1, 0] rfl (ih st a0 a3 a4 v7 v8 q h J)
      refine r_if_le (tgt := 49) dX10_had_39 (by decide) (fun c => ?_) (fun c => ?_)
      · replace hq6 := (if_pos c).symm.trans hq6
        refine r_bipush (v := (-100 : Int32)) dX10_had_49 (by decide) ?_
        obtain rfl := Option.some.inj hq6
        exact x_sub [0, 1, 2, 4] rfl Jq6
      · replace hq6 := (if_neg c).symm.trans hq6
        refine r_iload_n (x := a3) dX10_had_42 rfl ?_
        refine r_bipush (v := (100 : Int32)) dX10_had_43 (by decide) ?_
        refine r_isub dX10_had_45 ?_
        refine r_goto (tgt := 51) dX10_had_46 (by decide) ?_
        obtain rfl := Option.some.inj hq6
        exact x_sub [0, 1, 2, 4] rfl Jq6
theorem R_X10_had (n : Nat) (st : xS) (a0 : Option Nat) (a1 : Int32) (a2 : Int32) (a3 : Int32) (rv : Int32) (st' : xS) (h : F_X10_had n st a0 a1 a2 a3 = some (rv, st')) : Rn mX10_had 0 [(0, va_rf a0), (1, .int a1), (2, .int a2), (3, .int a3)] [] st (some (.int rv)) st' 4 := by
  unfold F_X10_had at h
  refine r_iload_n (x := a3) dX10_had_0 rfl ?_
  obtain ⟨v1, hv1, h⟩ := xb h
  refine z_callS (as := [.int a3]) (r1 := (some (.int v1))) (stk := []) (stk2 := [.int v1]) (st1 := st) (d' := 1) dX10_had_1 xl_X10_312 (by decide) (Nat.le_trans xs0 (by decide)) rfl rfl (S_X10_isPrice n st a3 v1 hv1) ?_
  refine r_if_ne (tgt := 10) dX10_had_4 (by decide) (fun c => ?_) (fun c => ?_)
  · replace h := (if_neg c).symm.trans h
    refine x_aload_n (o := a0) dX10_had_10 rfl ?_
    refine r_iload_n (x := a1) dX10_had_11 rfl ?_
    refine r_iload_n (x := a2) dX10_had_12 rfl ?_
    obtain ⟨q3, hq3, h⟩ := xb h
    obtain ⟨p2, hp2, h⟩ := xb h
    refine z_callV (as := [.int a1, .int a2]) (o := a0) (r1 := (some (.int p2.1))) (stk := []) (stk2 := [.int p2.1]) (st1 := p2.2) (d' := 2) dX10_had_13 xl_X10_219 hq3 (by decide) (Nat.le_trans xs0 (by decide)) rfl rfl (S_X10_pick n st a0 a1 a2 p2.1 p2.2 hp2) ?_
    refine r_istore (lv' := [(4, .int p2.1), (0, va_rf a0), (1, .int a1), (2, .int a2), (3, .int a3)]) (x := p2.1) dX10_had_16 (by decide) rfl ?_
    refine r_iconst (v := (0 : Int32)) dX10_had_18 (by decide) ?_
    refine r_istore (lv' := [(5, .int (0 : Int32)), (4, .int p2.1), (0, va_rf a0), (1, .int a1), (2, .int a2), (3, .int a3)]) (x := (0 : Int32)) dX10_had_19 (by decide) rfl ?_
    refine r_iconst (v := (0 : Int32)) dX10_had_21 (by decide) ?_
    refine r_istore (lv' := [(6, .int (0 : Int32)), (5, .int (0 : Int32)), (4, .int p2.1), (0, va_rf a0), (1, .int a1), (2, .int a2), (3, .int a3)]) (x := (0 : Int32)) dX10_had_22 (by decide) rfl ?_
    obtain ⟨q9, hq9, h⟩ := xb h
    have Jq9 : Rn mX10_had 60 [(5, .int q9)] [] p2.2 (some (.int rv)) st' 4 := by
      refine r_iload (x := q9) dX10_had_60 rfl ?_
      obtain ⟨rfl, rfl⟩ := Prod.mk.inj (Option.some.inj h)
      exact r_ireturn dX10_had_62 .int rfl rfl
    exact x_sub [3, 6, 2, 1, 0] rfl (R_X10_had_L24 n n p2.2 a0 a3 p2.1 (0 : Int32) (0 : Int32) q9 hq9 Jq9)
  · replace h := (if_pos c).symm.trans h
    refine r_ldc (v := (-1000000 : Int32)) dX10_had_7 xk_X10_247 ?_
    obtain ⟨rfl, rfl⟩ := Prod.mk.inj (Option.some.inj h)
    exact r_ireturn dX10_had_9 .int rfl rfl
theorem S_X10_had (n : Nat) (st : xS) (a0 : Option Nat) (a1 : Int32) (a2 : Int32) (a3 : Int32) (rv : Int32) (st' : xS) (h : F_X10_had n st a0 a1 a2 a3 = some (rv, st')) : Ct mX10_had [va_rf a0, .int a1, .int a2, .int a3] st (some (.int rv)) st' 4 := by
  refine Ct.of (by decide) (by simp only [lgL_R, lgL_I, lgL_L, lgL_0]; decide) ?_
  try simp only [lvA_R]
  exact R_X10_had n st a0 a1 a2 a3 rv st' h
theorem R_X10_fixed_L35 (n : Nat) (rv : Int32) (st' : xS) : ∀ (k : Nat) (st : xS) (a0 : Option Nat) (a3 : Int32) (a4 : Int32) (a5 : Int32) (a6 : Int32) (a7 : Int32), F_X10_fixed_L35 n k st a0 a3 a4 a5 a6 a7 = some (rv, st') → Rn mX10_fixed 35 [(0, va_rf a0), (3, .int a3), (4, .int a4), (5, .int a5), (6, .int a6), (7, .int a7)] [] st (some (.int rv)) st' 4 := by
  intro k
  induction k with
  | zero => intro st a0 a3 a4 a5 a6 a7 h; cases h
  | succ k ih =>
    intro st a0 a3 a4 a5 a6 a7 h
    unfold F_X10_fixed_L35 at h
    refine r_iload (x := a7) dX10_fixed_35 rfl ?_
    refine r_iload (x := a5) dX10_fixed_37 rfl ?_
    refine r_icmp_ge (tgt := 84) dX10_fixed_39 (by decide) (fun c => ?_) (fun c => ?_)
    · replace h := (if_pos c).symm.trans h
      refine r_iload (x := a5) dX10_fixed_84 rfl ?_
      obtain ⟨rfl, rfl⟩ := Prod.mk.inj (Option.some.inj h)
      exact r_ireturn dX10_fixed_86 .int rfl rfl
    · replace h := (if_neg c).symm.trans h
      refine r_iload (x := a6) dX10_fixed_42 rfl ?_
      refine x_aload_n (o := a0) dX10_fixed_44 rfl ?_
      refine r_iload (x := a7) dX10_fixed_45 rfl ?_
      obtain ⟨q6, hq6, h⟩ := xb h
      obtain ⟨v5, hv5, h⟩ := xb h
      refine z_callV (as := [.int a7]) (o := a0) (r1 := (some (.int v5))) (stk := [.int a6]) (stk2 := [.int v5, .int a6]) (st1 := st) (d' := 3) dX10_fixed_47 xl_X10_225 hq6 (by decide) (Nat.le_trans (xsI xs0) (by decide)) rfl rfl (S_X10_margin n st a0 a7 v5 hv5) ?_
      obtain ⟨q7, hq7, h⟩ := xb h
      have Jq7 : Rn mX10_fixed 62 [(0, va_rf a0), (3, .int a3), (4, .int a4), (5, .int a5), (7, .int a7)] [.int q7, .int a6] st (some (.int rv)) st' 4 := by
        refine r_iadd dX10_fixed_62 ?_
        obtain ⟨v8, hv8, h⟩ := xb h
        refine x_eqI (Option.some.inj hv8) ?_
        refine r_istore (lv' := [(6, .int v8), (0, va_rf a0), (3, .int a3), (4, .int a4), (5, .int a5), (7, .int a7)]) (x := v8) dX10_fixed_63 (by decide) rfl ?_
        refine r_iload (x := v8) dX10_fixed_65 rfl ?_
        refine r_iload (x := a4) dX10_fixed_67 rfl ?_
        refine r_ineg dX10_fixed_69 ?_
        refine r_icmp_ge (tgt := 78) dX10_fixed_70 (by decide) (fun c => ?_) (fun c => ?_)
        · replace h := (if_pos c).symm.trans h
          obtain ⟨v9, hv9, h⟩ := xb h
          refine x_iinc (c := (1 : Int32)) (lv' := [(7, .int v9), (6, .int v8), (0, va_rf a0), (3, .int a3), (4, .int a4), (5, .int a5)]) (x := a7) (v := v9) dX10_fixed_78 rfl (by decide) (Option.some.inj hv9) (by decide) rfl ?_
          refine r_goto (tgt := 35) dX10_fixed_81 (by decide) ?_
          exact x_sub [2, 3, 4, 5, 1, 0] rfl (ih st a0 a3 a4 a5 v8 v9 h)
        · replace h := (if_neg c).symm.trans h
          refine r_iload (x := a7) dX10_fixed_73 rfl ?_
          refine r_iconst (v := (1 : Int32)) dX10_fixed_75 (by decide) ?_
          refine r_iadd dX10_fixed_76 ?_
          obtain ⟨rfl, rfl⟩ := Prod.mk.inj (Option.some.inj h)
          exact r_ireturn dX10_fixed_77 .int rfl rfl
      refine r_if_le (tgt := 60) dX10_fixed_50 (by decide) (fun c => ?_) (fun c => ?_)
      · replace hq7 := (if_pos c).symm.trans hq7
        refine r_bipush (v := (-100 : Int32)) dX10_fixed_60 (by decide) ?_
        obtain rfl := Option.some.inj hq7
        exact x_sub [0, 1, 2, 3, 5] rfl Jq7
      · replace hq7 := (if_neg c).symm.trans hq7
        refine r_iload_n (x := a3) dX10_fixed_53 rfl ?_
        refine r_bipush (v := (100 : Int32)) dX10_fixed_54 (by decide) ?_
        refine r_isub dX10_fixed_56 ?_
        refine r_goto (tgt := 62) dX10_fixed_57 (by decide) ?_
        obtain rfl := Option.some.inj hq7
        exact x_sub [0, 1, 2, 3, 5] rfl Jq7
theorem R_X10_fixed (n : Nat) (st : xS) (a0 : Option Nat) (a1 : Int32) (a2 : Int32) (a3 : Int32) (a4 : Int32) (rv : Int32) (st' : xS) (h : F_X10_fixed n st a0 a1 a2 a3 a4 = some (rv, st')) : Rn mX10_fixed 0 [(0, va_rf a0), (1, .int a1), (2, .int a2), (3, .int a3), (4, .int a4)] [] st (some (.int rv)) st' 4 := by
  unfold F_X10_fixed at h
  refine r_iload_n (x := a3) dX10_fixed_0 rfl ?_
  obtain ⟨v1, hv1, h⟩ := xb h
  refine z_callS (as := [.int a3]) (r1 := (some (.int v1))) (stk := []) (stk2 := [.int v1]) (st1 := st) (d' := 1) dX10_fixed_1 xl_X10_312 (by decide) (Nat.le_trans xs0 (by decide)) rfl rfl (S_X10_isPrice n st a3 v1 hv1) ?_
  refine r_if_eq (tgt := 19) dX10_fixed_4 (by decide) (fun c => ?_) (fun c => ?_)
  · replace h := (if_pos c).symm.trans h
    refine r_iconst (v := (-1 : Int32)) dX10_fixed_19 (by decide) ?_
    obtain ⟨rfl, rfl⟩ := Prod.mk.inj (Option.some.inj h)
    exact r_ireturn dX10_fixed_20 .int rfl rfl
  · replace h := (if_neg c).symm.trans h
    refine r_iload (x := a4) dX10_fixed_7 rfl ?_
    refine r_iconst (v := (0 : Int32)) dX10_fixed_9 (by decide) ?_
    refine r_sipush (v := (9999 : Int32)) dX10_fixed_10 (by decide) ?_
    obtain ⟨v2, hv2, h⟩ := xb h
    refine z_callS (as := [.int a4, .int (0 : Int32), .int (9999 : Int32)]) (r1 := (some (.int v2))) (stk := []) (stk2 := [.int v2]) (st1 := st) (d' := 0) dX10_fixed_13 xl_X10_209 (by decide) (Nat.le_trans xs0 (by decide)) rfl rfl (S_X10_within n st a4 (0 : Int32) (9999 : Int32) v2 hv2) ?_
    refine r_if_ne (tgt := 21) dX10_fixed_16 (by decide) (fun c => ?_) (fun c => ?_)
    · replace h := (if_neg c).symm.trans h
      refine x_aload_n (o := a0) dX10_fixed_21 rfl ?_
      refine r_iload_n (x := a1) dX10_fixed_22 rfl ?_
      refine r_iload_n (x := a2) dX10_fixed_23 rfl ?_
      obtain ⟨q4, hq4, h⟩ := xb h
      obtain ⟨p3, hp3, h⟩ := xb h
      refine z_callV (as := [.int a1, .int a2]) (o := a0) (r1 := (some (.int p3.1))) (stk := []) (stk2 := [.int p3.1]) (st1 := p3.2) (d' := 2) dX10_fixed_24 xl_X10_219 hq4 (by decide) (Nat.le_trans xs0 (by decide)) rfl rfl (S_X10_pick n st a0 a1 a2 p3.1 p3.2 hp3) ?_
      refine r_istore (lv' := [(5, .int p3.1), (0, va_rf a0), (1, .int a1), (2, .int a2), (3, .int a3), (4, .int a4)]) (x := p3.1) dX10_fixed_27 (by decide) rfl ?_
      refine r_iconst (v := (0 : Int32)) dX10_fixed_29 (by decide) ?_
      refine r_istore (lv' := [(6, .int (0 : Int32)), (5, .int p3.1), (0, va_rf a0), (1, .int a1), (2, .int a2), (3, .int a3), (4, .int a4)]) (x := (0 : Int32)) dX10_fixed_30 (by decide) rfl ?_
      refine r_iconst (v := (0 : Int32)) dX10_fixed_32 (by decide) ?_
      refine r_istore (lv' := [(7, .int (0 : Int32)), (6, .int (0 : Int32)), (5, .int p3.1), (0, va_rf a0), (1, .int a1), (2, .int a2), (3, .int a3), (4, .int a4)]) (x := (0 : Int32)) dX10_fixed_33 (by decide) rfl ?_
      exact x_sub [3, 6, 7, 2, 1, 0] rfl (R_X10_fixed_L35 n rv st' n p3.2 a0 a3 a4 p3.1 (0 : Int32) (0 : Int32) h)
    · replace h := (if_pos c).symm.trans h
      refine r_iconst (v := (-1 : Int32)) dX10_fixed_19 (by decide) ?_
      obtain ⟨rfl, rfl⟩ := Prod.mk.inj (Option.some.inj h)
      exact r_ireturn dX10_fixed_20 .int rfl rfl
theorem S_X10_fixed (n : Nat) (st : xS) (a0 : Option Nat) (a1 : Int32) (a2 : Int32) (a3 : Int32) (a4 : Int32) (rv : Int32) (st' : xS) (h : F_X10_fixed n st a0 a1 a2 a3 a4 = some (rv, st')) : Ct mX10_fixed [va_rf a0, .int a1, .int a2, .int a3, .int a4] st (some (.int rv)) st' 4 := by
  refine Ct.of (by decide) (by simp only [lgL_R, lgL_I, lgL_L, lgL_0]; decide) ?_
  try simp only [lvA_R]
  exact R_X10_fixed n st a0 a1 a2 a3 a4 rv st' h
theorem R_X10_travel (n : Nat) (st : xS) (a0 : Option Nat) (a1 : Int32) (a2 : Int32) (a3 : Int32) (rv : Int32) (st' : xS) (h : F_X10_travel n st a0 a1 a2 a3 = some (rv, st')) : Rn mX10_travel 0 [(0, va_rf a0), (1, .int a1), (2, .int a2), (3, .int a3)] [] st (some (.int rv)) st' 4 := by
  unfold F_X10_travel at h
  refine x_aload_n (o := a0) dX10_travel_0 rfl ?_
  obtain ⟨v1, hv1, h⟩ := xb h
  refine x_getR (o := a0) dX10_travel_1 xf_X10_30 hv1 ?_
  refine x_aload_n (o := a0) dX10_travel_4 rfl ?_
  obtain ⟨v2, hv2, h⟩ := xb h
  refine x_getR (o := a0) dX10_travel_5 xf_X10_10 hv2 ?_
  refine r_iload_n (x := a1) dX10_travel_8 rfl ?_
  refine r_iload_n (x := a2) dX10_travel_9 rfl ?_
  obtain ⟨q4, hq4, h⟩ := xb h
  obtain ⟨p3, hp3, h⟩ := xb h
  refine z_callV (as := [va_rf v2, .int a1, .int a2]) (o := v1) (r1 := (some (.int p3.1))) (stk := []) (stk2 := [.int p3.1]) (st1 := p3.2) (d' := 1) dX10_travel_10 xl_X10_141 hq4 (by decide) (Nat.le_trans xs0 (by decide)) rfl rfl (S_X5_bring n st v1 v2 a1 a2 p3.1 p3.2 hp3) ?_
  refine r_if_eq (tgt := 30) dX10_travel_13 (by decide) (fun c => ?_) (fun c => ?_)
  · replace h := (if_pos c).symm.trans h
    refine r_iconst (v := (-1 : Int32)) dX10_travel_30 (by decide) ?_
    obtain ⟨rfl, rfl⟩ := Prod.mk.inj (Option.some.inj h)
    exact r_ireturn dX10_travel_31 .int rfl rfl
  · replace h := (if_neg c).symm.trans h
    refine x_aload_n (o := a0) dX10_travel_16 rfl ?_
    obtain ⟨v5, hv5, h⟩ := xb h
    refine x_getR (o := a0) dX10_travel_17 xf_X10_30 hv5 ?_
    obtain ⟨v6, hv6, h⟩ := xb h
    refine x_getR (o := v5) dX10_travel_20 xf_X10_315 hv6 ?_
    refine r_iload_n (x := a3) dX10_travel_23 rfl ?_
    obtain ⟨q8, hq8, h⟩ := xb h
    obtain ⟨v7, hv7, h⟩ := xb h
    refine z_callV (as := [.int a3]) (o := v6) (r1 := (some (.int v7))) (stk := []) (stk2 := [.int v7]) (st1 := p3.2) (d' := 0) dX10_travel_24 xl_X10_319 hq8 (by decide) (Nat.le_trans xs0 (by decide)) rfl rfl (S_X4_hasSide n p3.2 v6 a3 v7 hv7) ?_
    refine r_if_ne (tgt := 32) dX10_travel_27 (by decide) (fun c => ?_) (fun c => ?_)
    · replace h := (if_neg c).symm.trans h
      refine x_aload_n (o := a0) dX10_travel_32 rfl ?_
      obtain ⟨v9, hv9, h⟩ := xb h
      refine x_getR (o := a0) dX10_travel_33 xf_X10_30 hv9 ?_
      refine r_iconst (v := (-1 : Int32)) dX10_travel_36 (by decide) ?_
      obtain ⟨q11, hq11, h⟩ := xb h
      obtain ⟨p10, hp10, h⟩ := xb h
      refine z_callV (as := [.int (-1 : Int32)]) (o := v9) (r1 := (some (.int p10.1))) (stk := []) (stk2 := [.int p10.1]) (st1 := p10.2) (d' := 3) dX10_travel_37 xl_X10_322 hq11 (by decide) (Nat.le_trans xs0 (by decide)) rfl rfl (S_X5_walk n p3.2 v9 (-1 : Int32) p10.1 p10.2 hp10) ?_
      refine r_pop dX10_travel_40 rfl ?_
      refine x_aload_n (o := a0) dX10_travel_41 rfl ?_
      obtain ⟨v12, hv12, h⟩ := xb h
      refine x_getR (o := a0) dX10_travel_42 xf_X10_30 hv12 ?_
      refine r_iload_n (x := a3) dX10_travel_45 rfl ?_
      obtain ⟨q14, hq14, h⟩ := xb h
      obtain ⟨v13, hv13, h⟩ := xb h
      refine z_callV (as := [.int a3]) (o := v12) (r1 := (some (.int v13))) (stk := []) (stk2 := [.int v13]) (st1 := p10.2) (d' := 1) dX10_travel_46 xl_X10_325 hq14 (by decide) (Nat.le_trans xs0 (by decide)) rfl rfl (S_X5_walkedBy n p10.2 v12 a3 v13 hv13) ?_
      obtain ⟨rfl, rfl⟩ := Prod.mk.inj (Option.some.inj h)
      exact r_ireturn dX10_travel_49 .int rfl rfl
    · replace h := (if_pos c).symm.trans h
      refine r_iconst (v := (-1 : Int32)) dX10_travel_30 (by decide) ?_
      obtain ⟨rfl, rfl⟩ := Prod.mk.inj (Option.some.inj h)
      exact r_ireturn dX10_travel_31 .int rfl rfl
theorem S_X10_travel (n : Nat) (st : xS) (a0 : Option Nat) (a1 : Int32) (a2 : Int32) (a3 : Int32) (rv : Int32) (st' : xS) (h : F_X10_travel n st a0 a1 a2 a3 = some (rv, st')) : Ct mX10_travel [va_rf a0, .int a1, .int a2, .int a3] st (some (.int rv)) st' 4 := by
  refine Ct.of (by decide) (by simp only [lgL_R, lgL_I, lgL_L, lgL_0]; decide) ?_
  try simp only [lvA_R]
  exact R_X10_travel n st a0 a1 a2 a3 rv st' h
theorem R_X10_runs_L33 (n : Nat) {r : Option Value} {st' : xS} : ∀ (k : Nat) (st : xS) (a2 : Int32) (a3 : Int32) (a4 : Option Nat) (a5 : Int32) (a6 : Int32) (a7 : Int32) (q : (Int32)), F_X10_runs_L33 n k st a2 a3 a4 a5 a6 a7 = some q → Rn mX10_runs 98 [(5, .int q)] [] st r st' 3 → Rn mX10_runs 33 [(2, .int a2), (3, .int a3), (4, va_rf a4), (5, .int a5), (6, .int a6), (7, .int a7)] [] st r st' 3 := by
  intro k
  induction k with
  | zero => intro st a2 a3 a4 a5 a6 a7 q h; cases h
  | succ k ih =>
    intro st a2 a3 a4 a5 a6 a7 q h J
    unfold F_X10_runs_L33 at h
    refine r_iload (x := a7) dX10_runs_33 rfl ?_
    refine x_aload (o := a4) dX10_runs_35 rfl ?_
    obtain ⟨v5, hv5, h⟩ := xb h
    refine x_getI (o := a4) dX10_runs_37 xf_X10_132 hv5 ?_
    refine r_icmp_ge (tgt := 98) dX10_runs_40 (by decide) (fun c => ?_) (fun c => ?_)
    · replace h := (if_pos c).symm.trans h
      obtain rfl := Option.some.inj h
      exact x_sub [3] rfl J
    · replace h := (if_neg c).symm.trans h
      refine x_aload (o := a4) dX10_runs_43 rfl ?_
      refine r_iload (x := a7) dX10_runs_45 rfl ?_
      refine r_iload_n (x := a3) dX10_runs_47 rfl ?_
      obtain ⟨q6, hq6, h⟩ := xb h
      have Jq6 : Rn mX10_runs 56 [(2, .int a2), (3, .int a3), (4, va_rf a4), (5, .int a5), (6, .int a6), (7, .int a7)] [.int q6, .int a7, va_rf a4] st r st' 3 := by
        obtain ⟨q8, hq8, h⟩ := xb h
        obtain ⟨v7, hv7, h⟩ := xb h
        refine z_callV (as := [.int a7, .int q6]) (o := a4) (r1 := (some (.int v7))) (stk := []) (stk2 := [.int v7]) (st1 := st) (d' := 1) dX10_runs_56 xl_X10_138 hq8 (by decide) (Nat.le_trans xs0 (by decide)) rfl rfl (S_X6_of n st a4 a7 q6 v7 hv7) ?_
        refine r_iload_n (x := a2) dX10_runs_59 rfl ?_
        obtain ⟨q13, hq13, h⟩ := xb h
        have Jq13 : Rn mX10_runs 92 [(2, .int a2), (3, .int a3), (4, va_rf a4), (5, .int q13.1), (6, .int q13.2), (7, .int a7)] [] st r st' 3 := by
          obtain ⟨v14, hv14, h⟩ := xb h
          refine x_iinc (c := (1 : Int32)) (lv' := [(7, .int v14), (2, .int a2), (3, .int a3), (4, va_rf a4), (5, .int q13.1), (6, .int q13.2)]) (x := a7) (v := v14) dX10_runs_92 rfl (by decide) (Option.some.inj hv14) (by decide) rfl ?_
          refine r_goto (tgt := 33) dX10_runs_95 (by decide) ?_
          exact x_sub [1, 2, 3, 4, 5, 0] rfl (ih st a2 a3 a4 q13.1 q13.2 v14 q h J)
        refine r_icmp_ne (tgt := 78) dX10_runs_60 (by decide) (fun c => ?_) (fun c => ?_)
        · replace hq13 := (if_neg c).symm.trans hq13
          refine x_aload (o := a4) dX10_runs_78 rfl ?_
          refine r_iload (x := a7) dX10_runs_80 rfl ?_
          refine r_iload_n (x := a2) dX10_runs_82 rfl ?_
          obtain ⟨q12, hq12, hq13⟩ := xb hq13
          obtain ⟨v11, hv11, hq13⟩ := xb hq13
          refine z_callV (as := [.int a7, .int a2]) (o := a4) (r1 := (some (.int v11))) (stk := []) (stk2 := [.int v11]) (st1 := st) (d' := 2) dX10_runs_83 xl_X10_333 hq12 (by decide) (Nat.le_trans xs0 (by decide)) rfl rfl (S_X6_plays n st a4 a7 a2 v11 hv11) ?_
          refine r_if_eq (tgt := 92) dX10_runs_86 (by decide) (fun c => ?_) (fun c => ?_)
          · replace hq13 := (if_pos c).symm.trans hq13
            obtain rfl := Option.some.inj hq13
            exact x_sub [0, 1, 2, 3, 4, 5] rfl Jq13
          · replace hq13 := (if_neg c).symm.trans hq13
            refine r_iconst (v := (0 : Int32)) dX10_runs_89 (by decide) ?_
            refine r_istore (lv' := [(6, .int (0 : Int32)), (2, .int a2), (3, .int a3), (4, va_rf a4), (5, .int a5), (7, .int a7)]) (x := (0 : Int32)) dX10_runs_90 (by decide) rfl ?_
            obtain rfl := Option.some.inj hq13
            exact x_sub [1, 2, 3, 4, 0, 5] rfl Jq13
        · replace hq13 := (if_pos c).symm.trans hq13
          obtain ⟨v9, hv9, hq13⟩ := xb hq13
          refine x_iinc (c := (1 : Int32)) (lv' := [(6, .int v9), (2, .int a2), (3, .int a3), (4, va_rf a4), (5, .int a5), (7, .int a7)]) (x := a6) (v := v9) dX10_runs_63 rfl (by decide) (Option.some.inj hv9) (by decide) rfl ?_
          refine r_iload (x := a5) dX10_runs_66 rfl ?_
          refine r_iload (x := v9) dX10_runs_68 rfl ?_
          refine r_mmax dX10_runs_70 xm_X10_328 xm1_max xm2 xm3_max (by decide) (Nat.le_trans xs0 (by decide)) ?_
          obtain ⟨v10, hv10, hq13⟩ := xb hq13
          refine x_eqI (Option.some.inj hv10) ?_
          refine r_istore (lv' := [(5, .int v10), (6, .int v9), (2, .int a2), (3, .int a3), (4, va_rf a4), (7, .int a7)]) (x := v10) dX10_runs_73 (by decide) (congrArg (List.cons _) (xfY rfl (xfY rfl (xfY rfl (xfY (xk1 4 5 _) (xfN rfl (xfY rfl rfl))))))) ?_
          refine r_goto (tgt := 92) dX10_runs_75 (by decide) ?_
          obtain rfl := Option.some.inj hq13
          exact x_sub [2, 3, 4, 0, 1, 5] rfl Jq13
      refine r_if_eq (tgt := 55) dX10_runs_48 (by decide) (fun c => ?_) (fun c => ?_)
      · replace hq6 := (if_pos c).symm.trans hq6
        refine r_iconst (v := (1 : Int32)) dX10_runs_55 (by decide) ?_
        obtain rfl := Option.some.inj hq6
        exact x_sub [0, 1, 2, 3, 4, 5] rfl Jq6
      · replace hq6 := (if_neg c).symm.trans hq6
        refine r_iconst (v := (0 : Int32)) dX10_runs_51 (by decide) ?_
        refine r_goto (tgt := 56) dX10_runs_52 (by decide) ?_
        obtain rfl := Option.some.inj hq6
        exact x_sub [0, 1, 2, 3, 4, 5] rfl Jq6
theorem R_X10_runs (n : Nat) (st : xS) (a0 : Option Nat) (a1 : Int32) (a2 : Int32) (a3 : Int32) (rv : Int32) (h : F_X10_runs n st a0 a1 a2 a3 = some rv) : Rn mX10_runs 0 [(0, va_rf a0), (1, .int a1), (2, .int a2), (3, .int a3)] [] st (some (.int rv)) st 3 := by
  unfold F_X10_runs at h
  refine x_aload_n (o := a0) dX10_runs_0 rfl ?_
  obtain ⟨v1, hv1, h⟩ := xb h
  refine x_getR (o := a0) dX10_runs_1 xf_X10_10 hv1 ?_
  refine r_iload_n (x := a1) dX10_runs_4 rfl ?_
  obtain ⟨q3, hq3, h⟩ := xb h
  obtain ⟨v2, hv2, h⟩ := xb h
  refine z_callV (as := [.int a1]) (o := v1) (r1 := (some (va_rf v2))) (stk := []) (stk2 := [va_rf v2]) (st1 := st) (d' := 0) dX10_runs_5 xl_X10_128 hq3 (by decide) (Nat.le_trans xs0 (by decide)) rfl rfl (S_X9_planAt n st v1 a1 v2 hv2) ?_
  refine x_astore (lv' := [(4, va_rf v2), (0, va_rf a0), (1, .int a1), (2, .int a2), (3, .int a3)]) (o := v2) dX10_runs_8 (by decide) rfl ?_
  refine x_aload (o := v2) dX10_runs_10 rfl ?_
  refine x_ifnull (o := v2) (tgt := 22) dX10_runs_12 (by decide) (fun c => ?_) (fun c => ?_)
  · replace h := (if_pos c).symm.trans h
    refine r_iconst (v := (-1 : Int32)) dX10_runs_22 (by decide) ?_
    obtain rfl := Option.some.inj h
    exact r_ireturn dX10_runs_23 .int rfl rfl
  · replace h := (if_neg c).symm.trans h
    refine r_iload_n (x := a2) dX10_runs_15 rfl ?_
    obtain ⟨v4, hv4, h⟩ := xb h
    refine z_callS (as := [.int a2]) (r1 := (some (.int v4))) (stk := []) (stk2 := [.int v4]) (st1 := st) (d' := 1) dX10_runs_16 xl_X10_206 (by decide) (Nat.le_trans xs0 (by decide)) rfl rfl (S_X10_isSide n st a2 v4 hv4) ?_
    refine r_if_ne (tgt := 24) dX10_runs_19 (by decide) (fun c => ?_) (fun c => ?_)
    · replace h := (if_neg c).symm.trans h
      refine r_iconst (v := (0 : Int32)) dX10_runs_24 (by decide) ?_
      refine r_istore (lv' := [(5, .int (0 : Int32)), (4, va_rf v2), (0, va_rf a0), (1, .int a1), (2, .int a2), (3, .int a3)]) (x := (0 : Int32)) dX10_runs_25 (by decide) (congrArg (List.cons _) (xfY (xk1 4 5 _) (xfY rfl (xfY rfl (xfY rfl (xfY rfl rfl)))))) ?_
      refine r_iconst (v := (0 : Int32)) dX10_runs_27 (by decide) ?_
      refine r_istore (lv' := [(6, .int (0 : Int32)), (5, .int (0 : Int32)), (4, va_rf v2), (0, va_rf a0), (1, .int a1), (2, .int a2), (3, .int a3)]) (x := (0 : Int32)) dX10_runs_28 (by decide) rfl ?_
      refine r_iconst (v := (0 : Int32)) dX10_runs_30 (by decide) ?_
      refine r_istore (lv' := [(7, .int (0 : Int32)), (6, .int (0 : Int32)), (5, .int (0 : Int32)), (4, va_rf v2), (0, va_rf a0), (1, .int a1), (2, .int a2), (3, .int a3)]) (x := (0 : Int32)) dX10_runs_31 (by decide) rfl ?_
      obtain ⟨q15, hq15, h⟩ := xb h
      have Jq15 : Rn mX10_runs 98 [(5, .int q15)] [] st (some (.int rv)) st 3 := by
        refine r_iload (x := q15) dX10_runs_98 rfl ?_
        obtain rfl := Option.some.inj h
        exact r_ireturn dX10_runs_100 .int rfl rfl
      exact x_sub [6, 7, 3, 2, 1, 0] rfl (R_X10_runs_L33 n n st a2 a3 v2 (0 : Int32) (0 : Int32) (0 : Int32) q15 hq15 Jq15)
    · replace h := (if_pos c).symm.trans h
      refine r_iconst (v := (-1 : Int32)) dX10_runs_22 (by decide) ?_
      obtain rfl := Option.some.inj h
      exact r_ireturn dX10_runs_23 .int rfl rfl
theorem S_X10_runs (n : Nat) (st : xS) (a0 : Option Nat) (a1 : Int32) (a2 : Int32) (a3 : Int32) (rv : Int32) (h : F_X10_runs n st a0 a1 a2 a3 = some rv) : Ct mX10_runs [va_rf a0, .int a1, .int a2, .int a3] st (some (.int rv)) st 3 := by
  refine Ct.of (by decide) (by simp only [lgL_R, lgL_I, lgL_L, lgL_0]; decide) ?_
  try simp only [lvA_R]
  exact R_X10_runs n st a0 a1 a2 a3 rv h
theorem R_X10_early_L43 (n : Nat) {r : Option Value} {st' : xS} : ∀ (k : Nat) (st : xS) (a0 : Option Nat) (a3 : Int32) (a4 : Int32) (a5 : Int32) (q : (Int32)), F_X10_early_L43 n k st a0 a3 a4 a5 = some q → Rn mX10_early 69 [(4, .int q)] [] st r st' 3 → Rn mX10_early 43 [(0, va_rf a0), (3, .int a3), (4, .int a4), (5, .int a5)] [] st r st' 3 := by
  intro k
  induction k with
  | zero => intro st a0 a3 a4 a5 q h; cases h
  | succ k ih =>
    intro st a0 a3 a4 a5 q h J
    unfold F_X10_early_L43 at h
    refine r_iload (x := a5) dX10_early_43 rfl ?_
    refine r_iload_n (x := a3) dX10_early_45 rfl ?_
    refine r_icmp_ge (tgt := 69) dX10_early_46 (by decide) (fun c => ?_) (fun c => ?_)
    · replace h := (if_pos c).symm.trans h
      obtain rfl := Option.some.inj h
      exact x_sub [2] rfl J
    · replace h := (if_neg c).symm.trans h
      refine r_iload (x := a4) dX10_early_49 rfl ?_
      refine x_aload_n (o := a0) dX10_early_51 rfl ?_
      obtain ⟨v9, hv9, h⟩ := xb h
      refine x_getR (o := a0) dX10_early_52 xf_X10_30 hv9 ?_
      refine r_iload (x := a5) dX10_early_55 rfl ?_
      obtain ⟨q11, hq11, h⟩ := xb h
      obtain ⟨v10, hv10, h⟩ := xb h
      refine z_callV (as := [.int a5]) (o := v9) (r1 := (some (.int v10))) (stk := [.int a4]) (stk2 := [.int v10, .int a4]) (st1 := st) (d' := 2) dX10_early_57 xl_X10_336 hq11 (by decide) (Nat.le_trans (xsI xs0) (by decide)) rfl rfl (S_X5_lead n st v9 a5 v10 hv10) ?_
      refine r_iadd dX10_early_60 ?_
      obtain ⟨v12, hv12, h⟩ := xb h
      refine x_eqI (Option.some.inj hv12) ?_
      refine r_istore (lv' := [(4, .int v12), (0, va_rf a0), (3, .int a3), (5, .int a5)]) (x := v12) dX10_early_61 (by decide) rfl ?_
      obtain ⟨v13, hv13, h⟩ := xb h
      refine x_iinc (c := (1 : Int32)) (lv' := [(5, .int v13), (4, .int v12), (0, va_rf a0), (3, .int a3)]) (x := a5) (v := v13) dX10_early_63 rfl (by decide) (Option.some.inj hv13) (by decide) rfl ?_
      refine r_goto (tgt := 43) dX10_early_66 (by decide) ?_
      exact x_sub [2, 3, 1, 0] rfl (ih st a0 a3 v12 v13 q h J)
theorem R_X10_early (n : Nat) (st : xS) (a0 : Option Nat) (a1 : Int32) (a2 : Int32) (a3 : Int32) (rv : Int32) (st' : xS) (h : F_X10_early n st a0 a1 a2 a3 = some (rv, st')) : Rn mX10_early 0 [(0, va_rf a0), (1, .int a1), (2, .int a2), (3, .int a3)] [] st (some (.int rv)) st' 3 := by
  unfold F_X10_early at h
  refine x_aload_n (o := a0) dX10_early_0 rfl ?_
  obtain ⟨v1, hv1, h⟩ := xb h
  refine x_getR (o := a0) dX10_early_1 xf_X10_30 hv1 ?_
  refine x_aload_n (o := a0) dX10_early_4 rfl ?_
  obtain ⟨v2, hv2, h⟩ := xb h
  refine x_getR (o := a0) dX10_early_5 xf_X10_10 hv2 ?_
  refine r_iload_n (x := a1) dX10_early_8 rfl ?_
  refine r_iload_n (x := a2) dX10_early_9 rfl ?_
  obtain ⟨q4, hq4, h⟩ := xb h
  obtain ⟨p3, hp3, h⟩ := xb h
  refine z_callV (as := [va_rf v2, .int a1, .int a2]) (o := v1) (r1 := (some (.int p3.1))) (stk := []) (stk2 := [.int p3.1]) (st1 := p3.2) (d' := 1) dX10_early_10 xl_X10_141 hq4 (by decide) (Nat.le_trans xs0 (by decide)) rfl rfl (S_X5_bring n st v1 v2 a1 a2 p3.1 p3.2 hp3) ?_
  refine r_if_eq (tgt := 34) dX10_early_13 (by decide) (fun c => ?_) (fun c => ?_)
  · replace h := (if_pos c).symm.trans h
    refine r_ldc (v := (-1000000 : Int32)) dX10_early_34 xk_X10_247 ?_
    obtain ⟨rfl, rfl⟩ := Prod.mk.inj (Option.some.inj h)
    exact r_ireturn dX10_early_36 .int rfl rfl
  · replace h := (if_neg c).symm.trans h
    refine r_iload_n (x := a3) dX10_early_16 rfl ?_
    refine r_iconst (v := (0 : Int32)) dX10_early_17 (by decide) ?_
    refine x_aload_n (o := a0) dX10_early_18 rfl ?_
    obtain ⟨v5, hv5, h⟩ := xb h
    refine x_getR (o := a0) dX10_early_19 xf_X10_30 hv5 ?_
    obtain ⟨v6, hv6, h⟩ := xb h
    refine x_getR (o := v5) dX10_early_22 xf_X10_148 hv6 ?_
    obtain ⟨v7, hv7, h⟩ := xb h
    refine x_getI (o := v6) dX10_early_25 xf_X10_132 hv7 ?_
    obtain ⟨v8, hv8, h⟩ := xb h
    refine z_callS (as := [.int a3, .int (0 : Int32), .int v7]) (r1 := (some (.int v8))) (stk := []) (stk2 := [.int v8]) (st1 := p3.2) (d' := 0) dX10_early_28 xl_X10_209 (by decide) (Nat.le_trans xs0 (by decide)) rfl rfl (S_X10_within n p3.2 a3 (0 : Int32) v7 v8 hv8) ?_
    refine r_if_ne (tgt := 37) dX10_early_31 (by decide) (fun c => ?_) (fun c => ?_)
    · replace h := (if_neg c).symm.trans h
      refine r_iconst (v := (0 : Int32)) dX10_early_37 (by decide) ?_
      refine r_istore (lv' := [(4, .int (0 : Int32)), (0, va_rf a0), (1, .int a1), (2, .int a2), (3, .int a3)]) (x := (0 : Int32)) dX10_early_38 (by decide) rfl ?_
      refine r_iconst (v := (0 : Int32)) dX10_early_40 (by decide) ?_
      refine r_istore (lv' := [(5, .int (0 : Int32)), (4, .int (0 : Int32)), (0, va_rf a0), (1, .int a1), (2, .int a2), (3, .int a3)]) (x := (0 : Int32)) dX10_early_41 (by decide) rfl ?_
      obtain ⟨q14, hq14, h⟩ := xb h
      have Jq14 : Rn mX10_early 69 [(4, .int q14)] [] p3.2 (some (.int rv)) st' 3 := by
        refine r_iload (x := q14) dX10_early_69 rfl ?_
        obtain ⟨rfl, rfl⟩ := Prod.mk.inj (Option.some.inj h)
        exact r_ireturn dX10_early_71 .int rfl rfl
      exact x_sub [2, 5, 1, 0] rfl (R_X10_early_L43 n n p3.2 a0 a3 (0 : Int32) (0 : Int32) q14 hq14 Jq14)
    · replace h := (if_pos c).symm.trans h
      refine r_ldc (v := (-1000000 : Int32)) dX10_early_34 xk_X10_247 ?_
      obtain ⟨rfl, rfl⟩ := Prod.mk.inj (Option.some.inj h)
      exact r_ireturn dX10_early_36 .int rfl rfl
theorem S_X10_early (n : Nat) (st : xS) (a0 : Option Nat) (a1 : Int32) (a2 : Int32) (a3 : Int32) (rv : Int32) (st' : xS) (h : F_X10_early n st a0 a1 a2 a3 = some (rv, st')) : Ct mX10_early [va_rf a0, .int a1, .int a2, .int a3] st (some (.int rv)) st' 3 := by
  refine Ct.of (by decide) (by simp only [lgL_R, lgL_I, lgL_L, lgL_0]; decide) ?_
  try simp only [lvA_R]
  exact R_X10_early n st a0 a1 a2 a3 rv st' h
theorem R_X10_uneven_L33 (n : Nat) {r : Option Value} {st' : xS} : ∀ (k : Nat) (st : xS) (a2 : Option Nat) (a3 : Int32) (a4 : Int32) (a5 : Int32) (q : (Int32)), F_X10_uneven_L33 n k st a2 a3 a4 a5 = some q → Rn mX10_uneven 68 [(2, va_rf a2), (3, .int q), (4, .int a4)] [] st r st' 3 → Rn mX10_uneven 33 [(2, va_rf a2), (3, .int a3), (4, .int a4), (5, .int a5)] [] st r st' 3 := by
  intro k
  induction k with
  | zero => intro st a2 a3 a4 a5 q h; cases h
  | succ k ih =>
    intro st a2 a3 a4 a5 q h J
    unfold F_X10_uneven_L33 at h
    refine r_iload (x := a5) dX10_uneven_33 rfl ?_
    refine r_bipush (v := (8 : Int32)) dX10_uneven_35 (by decide) ?_
    refine r_icmp_ge (tgt := 68) dX10_uneven_37 (by decide) (fun c => ?_) (fun c => ?_)
    · replace h := (if_pos c).symm.trans h
      obtain rfl := Option.some.inj h
      exact x_sub [0, 1, 2] rfl J
    · replace h := (if_neg c).symm.trans h
      refine x_aload_n (o := a2) dX10_uneven_40 rfl ?_
      refine r_iload (x := a4) dX10_uneven_41 rfl ?_
      refine r_iload (x := a5) dX10_uneven_43 rfl ?_
      obtain ⟨q6, hq6, h⟩ := xb h
      obtain ⟨v5, hv5, h⟩ := xb h
      refine z_callV (as := [.int a4, .int a5]) (o := a2) (r1 := (some (.int v5))) (stk := []) (stk2 := [.int v5]) (st1 := st) (d' := 2) dX10_uneven_45 xl_X10_339 hq6 (by decide) (Nat.le_trans xs0 (by decide)) rfl rfl (S_X6_hosted n st a2 a4 a5 v5 hv5) ?_
      refine x_aload_n (o := a2) dX10_uneven_48 rfl ?_
      refine r_iload (x := a5) dX10_uneven_49 rfl ?_
      refine r_iload (x := a4) dX10_uneven_51 rfl ?_
      obtain ⟨q8, hq8, h⟩ := xb h
      obtain ⟨v7, hv7, h⟩ := xb h
      refine z_callV (as := [.int a5, .int a4]) (o := a2) (r1 := (some (.int v7))) (stk := [.int v5]) (stk2 := [.int v7, .int v5]) (st1 := st) (d' := 2) dX10_uneven_53 xl_X10_339 hq8 (by decide) (Nat.le_trans (xsI xs0) (by decide)) rfl rfl (S_X6_hosted n st a2 a5 a4 v7 hv7) ?_
      obtain ⟨q10, hq10, h⟩ := xb h
      have Jq10 : Rn mX10_uneven 62 [(2, va_rf a2), (3, .int q10), (4, .int a4), (5, .int a5)] [] st r st' 3 := by
        obtain ⟨v11, hv11, h⟩ := xb h
        refine x_iinc (c := (1 : Int32)) (lv' := [(5, .int v11), (2, va_rf a2), (3, .int q10), (4, .int a4)]) (x := a5) (v := v11) dX10_uneven_62 rfl (by decide) (Option.some.inj hv11) (by decide) rfl ?_
        refine r_goto (tgt := 33) dX10_uneven_65 (by decide) ?_
        exact x_sub [1, 2, 3, 0] rfl (ih st a2 q10 a4 v11 q h J)
      refine r_icmp_eq (tgt := 62) dX10_uneven_56 (by decide) (fun c => ?_) (fun c => ?_)
      · replace hq10 := (if_pos c).symm.trans hq10
        obtain rfl := Option.some.inj hq10
        exact x_sub [0, 1, 2, 3] rfl Jq10
      · replace hq10 := (if_neg c).symm.trans hq10
        obtain ⟨v9, hv9, hq10⟩ := xb hq10
        refine x_iinc (c := (1 : Int32)) (lv' := [(3, .int v9), (2, va_rf a2), (4, .int a4), (5, .int a5)]) (x := a3) (v := v9) dX10_uneven_59 rfl (by decide) (Option.some.inj hv9) (by decide) (congrArg (List.cons _) (xfY (xk1 2 3 _) (xfN rfl (xfY rfl (xfY rfl rfl))))) ?_
        obtain rfl := Option.some.inj hq10
        exact x_sub [1, 0, 2, 3] rfl Jq10
theorem R_X10_uneven_L20 (n : Nat) {r : Option Value} {st' : xS} : ∀ (k : Nat) (st : xS) (a2 : Option Nat) (a3 : Int32) (a4 : Int32) (q : (Int32)), F_X10_uneven_L20 n k st a2 a3 a4 = some q → Rn mX10_uneven 74 [(3, .int q)] [] st r st' 3 → Rn mX10_uneven 20 [(2, va_rf a2), (3, .int a3), (4, .int a4)] [] st r st' 3 := by
  intro k
  induction k with
  | zero => intro st a2 a3 a4 q h; cases h
  | succ k ih =>
    intro st a2 a3 a4 q h J
    unfold F_X10_uneven_L20 at h
    refine r_iload (x := a4) dX10_uneven_20 rfl ?_
    refine r_bipush (v := (8 : Int32)) dX10_uneven_22 (by decide) ?_
    refine r_icmp_ge (tgt := 74) dX10_uneven_24 (by decide) (fun c => ?_) (fun c => ?_)
    · replace h := (if_pos c).symm.trans h
      obtain rfl := Option.some.inj h
      exact x_sub [1] rfl J
    · replace h := (if_neg c).symm.trans h
      refine r_iload (x := a4) dX10_uneven_27 rfl ?_
      refine r_iconst (v := (1 : Int32)) dX10_uneven_29 (by decide) ?_
      refine r_iadd dX10_uneven_30 ?_
      obtain ⟨v4, hv4, h⟩ := xb h
      refine x_eqI (Option.some.inj hv4) ?_
      refine r_istore (lv' := [(5, .int v4), (2, va_rf a2), (3, .int a3), (4, .int a4)]) (x := v4) dX10_uneven_31 (by decide) rfl ?_
      obtain ⟨q12, hq12, h⟩ := xb h
      have Jq12 : Rn mX10_uneven 68 [(2, va_rf a2), (3, .int q12), (4, .int a4)] [] st r st' 3 := by
        obtain ⟨v13, hv13, h⟩ := xb h
        refine x_iinc (c := (1 : Int32)) (lv' := [(4, .int v13), (2, va_rf a2), (3, .int q12)]) (x := a4) (v := v13) dX10_uneven_68 rfl (by decide) (Option.some.inj hv13) (by decide) rfl ?_
        refine r_goto (tgt := 20) dX10_uneven_71 (by decide) ?_
        exact x_sub [1, 2, 0] rfl (ih st a2 q12 v13 q h J)
      exact x_sub [1, 2, 3, 0] rfl (R_X10_uneven_L33 n n st a2 a3 a4 v4 q12 hq12 Jq12)
theorem R_X10_uneven (n : Nat) (st : xS) (a0 : Option Nat) (a1 : Int32) (rv : Int32) (h : F_X10_uneven n st a0 a1 = some rv) : Rn mX10_uneven 0 [(0, va_rf a0), (1, .int a1)] [] st (some (.int rv)) st 3 := by
  unfold F_X10_uneven at h
  refine x_aload_n (o := a0) dX10_uneven_0 rfl ?_
  obtain ⟨v1, hv1, h⟩ := xb h
  refine x_getR (o := a0) dX10_uneven_1 xf_X10_10 hv1 ?_
  refine r_iload_n (x := a1) dX10_uneven_4 rfl ?_
  obtain ⟨q3, hq3, h⟩ := xb h
  obtain ⟨v2, hv2, h⟩ := xb h
  refine z_callV (as := [.int a1]) (o := v1) (r1 := (some (va_rf v2))) (stk := []) (stk2 := [va_rf v2]) (st1 := st) (d' := 0) dX10_uneven_5 xl_X10_128 hq3 (by decide) (Nat.le_trans xs0 (by decide)) rfl rfl (S_X9_planAt n st v1 a1 v2 hv2) ?_
  refine x_astore_n (lv' := [(2, va_rf v2), (0, va_rf a0), (1, .int a1)]) (o := v2) dX10_uneven_8 (by decide) rfl ?_
  refine x_aload_n (o := v2) dX10_uneven_9 rfl ?_
  refine x_ifnonnull (o := v2) (tgt := 15) dX10_uneven_10 (by decide) (fun c => ?_) (fun c => ?_)
  · replace h := (if_neg c).symm.trans h
    refine r_iconst (v := (0 : Int32)) dX10_uneven_15 (by decide) ?_
    refine r_istore_n (lv' := [(3, .int (0 : Int32)), (2, va_rf v2), (0, va_rf a0), (1, .int a1)]) (x := (0 : Int32)) dX10_uneven_16 (by decide) (congrArg (List.cons _) (xfY (xk1 2 3 _) (xfY rfl (xfY rfl rfl)))) ?_
    refine r_iconst (v := (0 : Int32)) dX10_uneven_17 (by decide) ?_
    refine r_istore (lv' := [(4, .int (0 : Int32)), (3, .int (0 : Int32)), (2, va_rf v2), (0, va_rf a0), (1, .int a1)]) (x := (0 : Int32)) dX10_uneven_18 (by decide) rfl ?_
    obtain ⟨q14, hq14, h⟩ := xb h
    have Jq14 : Rn mX10_uneven 74 [(3, .int q14)] [] st (some (.int rv)) st 3 := by
      refine r_iload_n (x := q14) dX10_uneven_74 rfl ?_
      obtain rfl := Option.some.inj h
      exact r_ireturn dX10_uneven_75 .int rfl rfl
    exact x_sub [2, 1, 0] rfl (R_X10_uneven_L20 n n st v2 (0 : Int32) (0 : Int32) q14 hq14 Jq14)
  · replace h := (if_pos c).symm.trans h
    refine r_iconst (v := (-1 : Int32)) dX10_uneven_13 (by decide) ?_
    obtain rfl := Option.some.inj h
    exact r_ireturn dX10_uneven_14 .int rfl rfl
theorem S_X10_uneven (n : Nat) (st : xS) (a0 : Option Nat) (a1 : Int32) (rv : Int32) (h : F_X10_uneven n st a0 a1 = some rv) : Ct mX10_uneven [va_rf a0, .int a1] st (some (.int rv)) st 3 := by
  refine Ct.of (by decide) (by simp only [lgL_R, lgL_I, lgL_L, lgL_0]; decide) ?_
  try simp only [lvA_R]
  exact R_X10_uneven n st a0 a1 rv h
theorem R_X10_turned_L33 (n : Nat) {r : Option Value} {st' : xS} : ∀ (k : Nat) (st : xS) (a0 : Option Nat) (a3 : Int32) (a4 : Int32) (a5 : Int32) (q : (Int32 × xS)), F_X10_turned_L33 n k st a0 a3 a4 a5 = some q → Rn mX10_turned 78 [(4, .int q.1)] [] q.2 r st' 4 → Rn mX10_turned 33 [(0, va_rf a0), (3, .int a3), (4, .int a4), (5, .int a5)] [] st r st' 4 := by
  intro k
  induction k with
  | zero => intro st a0 a3 a4 a5 q h; cases h
  | succ k ih =>
    intro st a0 a3 a4 a5 q h J
    unfold F_X10_turned_L33 at h
    refine r_iload (x := a5) dX10_turned_33 rfl ?_
    refine x_aload_n (o := a0) dX10_turned_35 rfl ?_
    obtain ⟨v8, hv8, h⟩ := xb h
    refine x_getR (o := a0) dX10_turned_36 xf_X10_30 hv8 ?_
    obtain ⟨v9, hv9, h⟩ := xb h
    refine x_getR (o := v8) dX10_turned_39 xf_X10_148 hv9 ?_
    obtain ⟨v10, hv10, h⟩ := xb h
    refine x_getI (o := v9) dX10_turned_42 xf_X10_132 hv10 ?_
    refine r_icmp_ge (tgt := 78) dX10_turned_45 (by decide) (fun c => ?_) (fun c => ?_)
    · replace h := (if_pos c).symm.trans h
      obtain rfl := Option.some.inj h
      exact x_sub [2] rfl J
    · replace h := (if_neg c).symm.trans h
      refine x_aload_n (o := a0) dX10_turned_48 rfl ?_
      obtain ⟨v11, hv11, h⟩ := xb h
      refine x_getR (o := a0) dX10_turned_49 xf_X10_30 hv11 ?_
      refine r_iload (x := a5) dX10_turned_52 rfl ?_
      obtain ⟨q13, hq13, h⟩ := xb h
      obtain ⟨p12, hp12, h⟩ := xb h
      refine z_callV (as := [.int a5]) (o := v11) (r1 := (some (.int p12.1))) (stk := []) (stk2 := [.int p12.1]) (st1 := p12.2) (d' := 3) dX10_turned_54 xl_X10_322 hq13 (by decide) (Nat.le_trans xs0 (by decide)) rfl rfl (S_X5_walk n st v11 a5 p12.1 p12.2 hp12) ?_
      refine r_istore (lv' := [(6, .int p12.1), (0, va_rf a0), (3, .int a3), (4, .int a4), (5, .int a5)]) (x := p12.1) dX10_turned_57 (by decide) rfl ?_
      refine r_iload (x := p12.1) dX10_turned_59 rfl ?_
      refine r_iload_n (x := a3) dX10_turned_61 rfl ?_
      obtain ⟨q14, hq14, h⟩ := xb h
      have Jq14 : Rn mX10_turned 72 [(0, va_rf a0), (3, .int q14.1), (4, .int q14.2), (5, .int a5)] [] p12.2 r st' 4 := by
        obtain ⟨v15, hv15, h⟩ := xb h
        refine x_iinc (c := (1 : Int32)) (lv' := [(5, .int v15), (0, va_rf a0), (3, .int q14.1), (4, .int q14.2)]) (x := a5) (v := v15) dX10_turned_72 rfl (by decide) (Option.some.inj hv15) (by decide) rfl ?_
        refine r_goto (tgt := 33) dX10_turned_75 (by decide) ?_
        exact x_sub [1, 2, 3, 0] rfl (ih p12.2 a0 q14.1 q14.2 v15 q h J)
      refine r_icmp_ge (tgt := 72) dX10_turned_62 (by decide) (fun c => ?_) (fun c => ?_)
      · replace hq14 := (if_pos c).symm.trans hq14
        obtain rfl := Option.some.inj hq14
        exact x_sub [1, 2, 3, 4] rfl Jq14
      · replace hq14 := (if_neg c).symm.trans hq14
        refine r_iload (x := p12.1) dX10_turned_65 rfl ?_
        refine r_istore_n (lv' := [(3, .int p12.1), (6, .int p12.1), (0, va_rf a0), (4, .int a4), (5, .int a5)]) (x := p12.1) dX10_turned_67 (by decide) rfl ?_
        refine r_iload (x := a5) dX10_turned_68 rfl ?_
        refine r_istore (lv' := [(4, .int a5), (3, .int p12.1), (6, .int p12.1), (0, va_rf a0), (5, .int a5)]) (x := a5) dX10_turned_70 (by decide) rfl ?_
        obtain rfl := Option.some.inj hq14
        exact x_sub [3, 1, 0, 4] rfl Jq14
theorem R_X10_turned (n : Nat) (st : xS) (a0 : Option Nat) (a1 : Int32) (a2 : Int32) (rv : Int32) (st' : xS) (h : F_X10_turned n st a0 a1 a2 = some (rv, st')) : Rn mX10_turned 0 [(0, va_rf a0), (1, .int a1), (2, .int a2)] [] st (some (.int rv)) st' 4 := by
  unfold F_X10_turned at h
  refine x_aload_n (o := a0) dX10_turned_0 rfl ?_
  obtain ⟨v1, hv1, h⟩ := xb h
  refine x_getR (o := a0) dX10_turned_1 xf_X10_30 hv1 ?_
  refine x_aload_n (o := a0) dX10_turned_4 rfl ?_
  obtain ⟨v2, hv2, h⟩ := xb h
  refine x_getR (o := a0) dX10_turned_5 xf_X10_10 hv2 ?_
  refine r_iload_n (x := a1) dX10_turned_8 rfl ?_
  refine r_iload_n (x := a2) dX10_turned_9 rfl ?_
  obtain ⟨q4, hq4, h⟩ := xb h
  obtain ⟨p3, hp3, h⟩ := xb h
  refine z_callV (as := [va_rf v2, .int a1, .int a2]) (o := v1) (r1 := (some (.int p3.1))) (stk := []) (stk2 := [.int p3.1]) (st1 := p3.2) (d' := 1) dX10_turned_10 xl_X10_141 hq4 (by decide) (Nat.le_trans xs0 (by decide)) rfl rfl (S_X5_bring n st v1 v2 a1 a2 p3.1 p3.2 hp3) ?_
  refine r_if_ne (tgt := 18) dX10_turned_13 (by decide) (fun c => ?_) (fun c => ?_)
  · replace h := (if_neg c).symm.trans h
    refine x_aload_n (o := a0) dX10_turned_18 rfl ?_
    obtain ⟨v5, hv5, h⟩ := xb h
    refine x_getR (o := a0) dX10_turned_19 xf_X10_30 hv5 ?_
    refine r_iconst (v := (-1 : Int32)) dX10_turned_22 (by decide) ?_
    obtain ⟨q7, hq7, h⟩ := xb h
    obtain ⟨p6, hp6, h⟩ := xb h
    refine z_callV (as := [.int (-1 : Int32)]) (o := v5) (r1 := (some (.int p6.1))) (stk := []) (stk2 := [.int p6.1]) (st1 := p6.2) (d' := 3) dX10_turned_23 xl_X10_322 hq7 (by decide) (Nat.le_trans xs0 (by decide)) rfl rfl (S_X5_walk n p3.2 v5 (-1 : Int32) p6.1 p6.2 hp6) ?_
    refine r_istore_n (lv' := [(3, .int p6.1), (0, va_rf a0), (1, .int a1), (2, .int a2)]) (x := p6.1) dX10_turned_26 (by decide) rfl ?_
    refine r_iconst (v := (-1 : Int32)) dX10_turned_27 (by decide) ?_
    refine r_istore (lv' := [(4, .int (-1 : Int32)), (3, .int p6.1), (0, va_rf a0), (1, .int a1), (2, .int a2)]) (x := (-1 : Int32)) dX10_turned_28 (by decide) rfl ?_
    refine r_iconst (v := (0 : Int32)) dX10_turned_30 (by decide) ?_
    refine r_istore (lv' := [(5, .int (0 : Int32)), (4, .int (-1 : Int32)), (3, .int p6.1), (0, va_rf a0), (1, .int a1), (2, .int a2)]) (x := (0 : Int32)) dX10_turned_31 (by decide) rfl ?_
    obtain ⟨q16, hq16, h⟩ := xb h
    have Jq16 : Rn mX10_turned 78 [(4, .int q16.1)] [] q16.2 (some (.int rv)) st' 4 := by
      refine r_iload (x := q16.1) dX10_turned_78 rfl ?_
      obtain ⟨rfl, rfl⟩ := Prod.mk.inj (Option.some.inj h)
      exact r_ireturn dX10_turned_80 .int rfl rfl
    exact x_sub [3, 2, 1, 0] rfl (R_X10_turned_L33 n n p6.2 a0 p6.1 (-1 : Int32) (0 : Int32) q16 hq16 Jq16)
  · replace h := (if_pos c).symm.trans h
    refine r_iconst (v := (-1 : Int32)) dX10_turned_16 (by decide) ?_
    obtain ⟨rfl, rfl⟩ := Prod.mk.inj (Option.some.inj h)
    exact r_ireturn dX10_turned_17 .int rfl rfl
theorem S_X10_turned (n : Nat) (st : xS) (a0 : Option Nat) (a1 : Int32) (a2 : Int32) (rv : Int32) (st' : xS) (h : F_X10_turned n st a0 a1 a2 = some (rv, st')) : Ct mX10_turned [va_rf a0, .int a1, .int a2] st (some (.int rv)) st' 4 := by
  refine Ct.of (by decide) (by simp only [lgL_R, lgL_I, lgL_L, lgL_0]; decide) ?_
  try simp only [lvA_R]
  exact R_X10_turned n st a0 a1 a2 rv st' h
theorem R_X10_wakeAlike_L2 (n : Nat) (rv : Int32) : ∀ (k : Nat) (st : xS) (a0 : Option Nat) (a1 : Int32) (a2 : Int32) (a3 : Int32), F_X10_wakeAlike_L2 n k st a0 a1 a2 a3 = some rv → Rn mX10_wakeAlike 2 [(0, va_rf a0), (1, .int a1), (2, .int a2), (3, .int a3)] [] st (some (.int rv)) st 1 := by
  intro k
  induction k with
  | zero => intro st a0 a1 a2 a3 h; cases h
  | succ k ih =>
    intro st a0 a1 a2 a3 h
    unfold F_X10_wakeAlike_L2 at h
    refine r_iload_n (x := a3) dX10_wakeAlike_2 rfl ?_
    refine x_aload_n (o := a0) dX10_wakeAlike_3 rfl ?_
    obtain ⟨v1, hv1, h⟩ := xb h
    refine x_getR (o := a0) dX10_wakeAlike_4 xf_X10_30 hv1 ?_
    obtain ⟨v2, hv2, h⟩ := xb h
    refine x_getR (o := v1) dX10_wakeAlike_7 xf_X10_148 hv2 ?_
    obtain ⟨v3, hv3, h⟩ := xb h
    refine x_getI (o := v2) dX10_wakeAlike_10 xf_X10_132 hv3 ?_
    refine r_icmp_ge (tgt := 49) dX10_wakeAlike_13 (by decide) (fun c => ?_) (fun c => ?_)
    · replace h := (if_pos c).symm.trans h
      refine r_iconst (v := (1 : Int32)) dX10_wakeAlike_49 (by decide) ?_
      obtain ⟨v4, hv4, h⟩ := xb h
      refine x_eqI (rz_inv2 hv4).1 ?_
      obtain rfl := Option.some.inj h
      exact r_ireturn dX10_wakeAlike_50 .boolean rfl (by rcases (rz_inv2 hv4).2 with e | e <;> rw [e] <;> rfl)
    · replace h := (if_neg c).symm.trans h
      refine x_aload_n (o := a0) dX10_wakeAlike_16 rfl ?_
      obtain ⟨v5, hv5, h⟩ := xb h
      refine x_getR (o := a0) dX10_wakeAlike_17 xf_X10_52 hv5 ?_
      refine r_iload_n (x := a3) dX10_wakeAlike_20 rfl ?_
      obtain ⟨v6, hv6, h⟩ := xb h
      refine z_callS (as := [va_rf v5, .int a3]) (r1 := (some (.int v6))) (stk := []) (stk2 := [.int v6]) (st1 := st) (d' := 0) dX10_wakeAlike_21 xl_X10_348 (by decide) (Nat.le_trans xs0 (by decide)) rfl rfl (S_X10_valueAt n st v5 a3 v6 hv6) ?_
      refine r_istore (lv' := [(4, .int v6), (0, va_rf a0), (1, .int a1), (2, .int a2), (3, .int a3)]) (x := v6) dX10_wakeAlike_24 (by decide) rfl ?_
      refine r_iload (x := v6) dX10_wakeAlike_26 rfl ?_
      refine r_iload_n (x := a1) dX10_wakeAlike_28 rfl ?_
      refine r_ishr dX10_wakeAlike_29 ?_
      refine r_iconst (v := (1 : Int32)) dX10_wakeAlike_30 (by decide) ?_
      refine r_iand dX10_wakeAlike_31 ?_
      refine r_iload (x := v6) dX10_wakeAlike_32 rfl ?_
      refine r_iload_n (x := a2) dX10_wakeAlike_34 rfl ?_
      refine r_ishr dX10_wakeAlike_35 ?_
      refine r_iconst (v := (1 : Int32)) dX10_wakeAlike_36 (by decide) ?_
      refine r_iand dX10_wakeAlike_37 ?_
      refine r_icmp_eq (tgt := 43) dX10_wakeAlike_38 (by decide) (fun c => ?_) (fun c => ?_)
      · replace h := (if_pos c).symm.trans h
        obtain ⟨v7, hv7, h⟩ := xb h
        refine x_iinc (c := (1 : Int32)) (lv' := [(3, .int v7), (4, .int v6), (0, va_rf a0), (1, .int a1), (2, .int a2)]) (x := a3) (v := v7) dX10_wakeAlike_43 rfl (by decide) (Option.some.inj hv7) (by decide) rfl ?_
        refine r_goto (tgt := 2) dX10_wakeAlike_46 (by decide) ?_
        exact x_sub [2, 3, 4, 0] rfl (ih st a0 a1 a2 v7 h)
      · replace h := (if_neg c).symm.trans h
        refine r_iconst (v := (0 : Int32)) dX10_wakeAlike_41 (by decide) ?_
        obtain ⟨v8, hv8, h⟩ := xb h
        refine x_eqI (rz_inv2 hv8).1 ?_
        obtain rfl := Option.some.inj h
        exact r_ireturn dX10_wakeAlike_42 .boolean rfl (by rcases (rz_inv2 hv8).2 with e | e <;> rw [e] <;> rfl)
theorem R_X10_wakeAlike (n : Nat) (st : xS) (a0 : Option Nat) (a1 : Int32) (a2 : Int32) (rv : Int32) (h : F_X10_wakeAlike n st a0 a1 a2 = some rv) : Rn mX10_wakeAlike 0 [(0, va_rf a0), (1, .int a1), (2, .int a2)] [] st (some (.int rv)) st 1 := by
  unfold F_X10_wakeAlike at h
  refine r_iconst (v := (0 : Int32)) dX10_wakeAlike_0 (by decide) ?_
  refine r_istore_n (lv' := [(3, .int (0 : Int32)), (0, va_rf a0), (1, .int a1), (2, .int a2)]) (x := (0 : Int32)) dX10_wakeAlike_1 (by decide) rfl ?_
  exact x_sub [1, 2, 3, 0] rfl (R_X10_wakeAlike_L2 n rv n st a0 a1 a2 (0 : Int32) h)
theorem S_X10_wakeAlike (n : Nat) (st : xS) (a0 : Option Nat) (a1 : Int32) (a2 : Int32) (rv : Int32) (h : F_X10_wakeAlike n st a0 a1 a2 = some rv) : Ct mX10_wakeAlike [va_rf a0, .int a1, .int a2] st (some (.int rv)) st 1 := by
  refine Ct.of (by decide) (by simp only [lgL_R, lgL_I, lgL_L, lgL_0]; decide) ?_
  try simp only [lvA_R]
  exact R_X10_wakeAlike n st a0 a1 a2 rv h
theorem R_X10_wake_L37 (n : Nat) {r : Option Value} {st' : xS} : ∀ (k : Nat) (st : xS) (a0 : Option Nat) (a1 : Int32) (a2 : Int32) (a3 : Int32) (q : (Int32)), F_X10_wake_L37 n k st a0 a1 a2 a3 = some q → Rn mX10_wake 66 [(0, va_rf a0), (1, .int a1), (2, .int q)] [] st r st' 5 → Rn mX10_wake 37 [(0, va_rf a0), (1, .int a1), (2, .int a2), (3, .int a3)] [] st r st' 5 := by
  intro k
  induction k with
  | zero => intro st a0 a1 a2 a3 q h; cases h
  | succ k ih =>
    intro st a0 a1 a2 a3 q h J
    unfold F_X10_wake_L37 at h
    refine r_iload_n (x := a3) dX10_wake_37 rfl ?_
    refine r_bipush (v := (6 : Int32)) dX10_wake_38 (by decide) ?_
    refine r_icmp_ge (tgt := 66) dX10_wake_40 (by decide) (fun c => ?_) (fun c => ?_)
    · replace h := (if_pos c).symm.trans h
      obtain rfl := Option.some.inj h
      exact x_sub [0, 1, 2] rfl J
    · replace h := (if_neg c).symm.trans h
      refine x_aload_n (o := a0) dX10_wake_43 rfl ?_
      obtain ⟨v9, hv9, h⟩ := xb h
      refine x_getR (o := a0) dX10_wake_44 xf_X10_30 hv9 ?_
      refine r_iload_n (x := a3) dX10_wake_47 rfl ?_
      obtain ⟨q11, hq11, h⟩ := xb h
      obtain ⟨v10, hv10, h⟩ := xb h
      refine z_callV (as := [.int a3]) (o := v9) (r1 := (some (.int v10))) (stk := []) (stk2 := [.int v10]) (st1 := st) (d' := 1) dX10_wake_48 xl_X10_170 hq11 (by decide) (Nat.le_trans xs0 (by decide)) rfl rfl (S_X5_worthOf n st v9 a3 v10 hv10) ?_
      obtain ⟨q13, hq13, h⟩ := xb h
      have Jq13 : Rn mX10_wake 60 [(0, va_rf a0), (1, .int a1), (2, .int q13), (3, .int a3)] [] st r st' 5 := by
        obtain ⟨v14, hv14, h⟩ := xb h
        refine x_iinc (c := (1 : Int32)) (lv' := [(3, .int v14), (0, va_rf a0), (1, .int a1), (2, .int q13)]) (x := a3) (v := v14) dX10_wake_60 rfl (by decide) (Option.some.inj hv14) (by decide) rfl ?_
        refine r_goto (tgt := 37) dX10_wake_63 (by decide) ?_
        exact x_sub [1, 2, 3, 0] rfl (ih st a0 a1 q13 v14 q h J)
      refine r_if_le (tgt := 60) dX10_wake_51 (by decide) (fun c => ?_) (fun c => ?_)
      · replace hq13 := (if_pos c).symm.trans hq13
        obtain rfl := Option.some.inj hq13
        exact x_sub [0, 1, 2, 3] rfl Jq13
      · replace hq13 := (if_neg c).symm.trans hq13
        refine r_iload_n (x := a2) dX10_wake_54 rfl ?_
        refine r_iconst (v := (1 : Int32)) dX10_wake_55 (by decide) ?_
        refine r_iload_n (x := a3) dX10_wake_56 rfl ?_
        refine r_ishl dX10_wake_57 ?_
        refine r_ior dX10_wake_58 ?_
        obtain ⟨v12, hv12, hq13⟩ := xb hq13
        refine x_eqI (Option.some.inj hv12) ?_
        refine r_istore_n (lv' := [(2, .int v12), (0, va_rf a0), (1, .int a1), (3, .int a3)]) (x := v12) dX10_wake_59 (by decide) rfl ?_
        obtain rfl := Option.some.inj hq13
        exact x_sub [1, 2, 0, 3] rfl Jq13
theorem R_X10_wake_L2 (n : Nat) {r : Option Value} {st' : xS} : ∀ (k : Nat) (st : xS) (a0 : Option Nat) (a1 : Int32) (q : (xS)), F_X10_wake_L2 n k st a0 a1 = some q → Rn mX10_wake 79 [] [] q r st' 5 → Rn mX10_wake 2 [(0, va_rf a0), (1, .int a1)] [] st r st' 5 := by
  intro k
  induction k with
  | zero => intro st a0 a1 q h; cases h
  | succ k ih =>
    intro st a0 a1 q h J
    unfold F_X10_wake_L2 at h
    refine r_iload_n (x := a1) dX10_wake_2 rfl ?_
    refine x_aload_n (o := a0) dX10_wake_3 rfl ?_
    obtain ⟨v1, hv1, h⟩ := xb h
    refine x_getR (o := a0) dX10_wake_4 xf_X10_30 hv1 ?_
    obtain ⟨v2, hv2, h⟩ := xb h
    refine x_getR (o := v1) dX10_wake_7 xf_X10_148 hv2 ?_
    obtain ⟨v3, hv3, h⟩ := xb h
    refine x_getI (o := v2) dX10_wake_10 xf_X10_132 hv3 ?_
    refine r_icmp_ge (tgt := 79) dX10_wake_13 (by decide) (fun c => ?_) (fun c => ?_)
    · replace h := (if_pos c).symm.trans h
      obtain rfl := Option.some.inj h
      exact x_sub [] rfl J
    · replace h := (if_neg c).symm.trans h
      refine r_iload_n (x := a1) dX10_wake_16 rfl ?_
      refine x_aload_n (o := a0) dX10_wake_17 rfl ?_
      obtain ⟨v4, hv4, h⟩ := xb h
      refine x_getR (o := a0) dX10_wake_18 xf_X10_52 hv4 ?_
      obtain ⟨v5, hv5, h⟩ := xb h
      refine x_alen (o := v4) dX10_wake_21 hv5 ?_
      refine r_icmp_ge (tgt := 79) dX10_wake_22 (by decide) (fun c => ?_) (fun c => ?_)
      · replace h := (if_pos c).symm.trans h
        obtain rfl := Option.some.inj h
        exact x_sub [] rfl J
      · replace h := (if_neg c).symm.trans h
        refine x_aload_n (o := a0) dX10_wake_25 rfl ?_
        obtain ⟨v6, hv6, h⟩ := xb h
        refine x_getR (o := a0) dX10_wake_26 xf_X10_30 hv6 ?_
        refine r_iload_n (x := a1) dX10_wake_29 rfl ?_
        obtain ⟨q8, hq8, h⟩ := xb h
        obtain ⟨s7, hs7, h⟩ := xb h
        refine z_callV (as := [.int a1]) (o := v6) (r1 := none) (stk := []) (stk2 := []) (st1 := s7) (d' := 4) dX10_wake_30 xl_X10_152 hq8 (by decide) (Nat.le_trans xs0 (by decide)) rfl rfl (S_X5_weigh n st v6 a1 s7 hs7) ?_
        refine r_iconst (v := (0 : Int32)) dX10_wake_33 (by decide) ?_
        refine r_istore_n (lv' := [(2, .int (0 : Int32)), (0, va_rf a0), (1, .int a1)]) (x := (0 : Int32)) dX10_wake_34 (by decide) rfl ?_
        refine r_iconst (v := (0 : Int32)) dX10_wake_35 (by decide) ?_
        refine r_istore_n (lv' := [(3, .int (0 : Int32)), (2, .int (0 : Int32)), (0, va_rf a0), (1, .int a1)]) (x := (0 : Int32)) dX10_wake_36 (by decide) rfl ?_
        obtain ⟨q15, hq15, h⟩ := xb h
        have Jq15 : Rn mX10_wake 66 [(0, va_rf a0), (1, .int a1), (2, .int q15)] [] s7 r st' 5 := by
          refine x_aload_n (o := a0) dX10_wake_66 rfl ?_
          obtain ⟨v16, hv16, h⟩ := xb h
          refine x_getR (o := a0) dX10_wake_67 xf_X10_52 hv16 ?_
          refine r_iload_n (x := a1) dX10_wake_70 rfl ?_
          refine r_iload_n (x := q15) dX10_wake_71 rfl ?_
          obtain ⟨s17, hs17, h⟩ := xb h
          refine x_iastore (o := v16) dX10_wake_72 hs17 ?_
          obtain ⟨v18, hv18, h⟩ := xb h
          refine x_iinc (c := (1 : Int32)) (lv' := [(1, .int v18), (0, va_rf a0), (2, .int q15)]) (x := a1) (v := v18) dX10_wake_73 rfl (by decide) (Option.some.inj hv18) (by decide) (congrArg (List.cons _) (xfY (xk1 0 1 _) (xfN rfl (xfY rfl rfl)))) ?_
          refine r_goto (tgt := 2) dX10_wake_76 (by decide) ?_
          exact x_sub [1, 0] rfl (ih s17 a0 v18 q h J)
        exact x_sub [2, 3, 1, 0] rfl (R_X10_wake_L37 n n s7 a0 a1 (0 : Int32) (0 : Int32) q15 hq15 Jq15)
theorem R_X10_wake (n : Nat) (st : xS) (a0 : Option Nat) (st' : xS) (h : F_X10_wake n st a0 = some st') : Rn mX10_wake 0 [(0, va_rf a0)] [] st none st' 5 := by
  unfold F_X10_wake at h
  refine r_iconst (v := (0 : Int32)) dX10_wake_0 (by decide) ?_
  refine r_istore_n (lv' := [(1, .int (0 : Int32)), (0, va_rf a0)]) (x := (0 : Int32)) dX10_wake_1 (by decide) (congrArg (List.cons _) (xfY (xk1 0 1 _) rfl)) ?_
  obtain ⟨q19, hq19, h⟩ := xb h
  have Jq19 : Rn mX10_wake 79 [] [] q19 none st' 5 := by
    obtain rfl := Option.some.inj h
    exact r_return dX10_wake_79 rfl
  exact x_sub [1, 0] rfl (R_X10_wake_L2 n n st a0 (0 : Int32) q19 hq19 Jq19)
theorem S_X10_wake (n : Nat) (st : xS) (a0 : Option Nat) (st' : xS) (h : F_X10_wake n st a0 = some st') : Ct mX10_wake [va_rf a0] st none st' 5 := by
  refine Ct.of (by decide) (by simp only [lgL_R, lgL_I, lgL_L, lgL_0]; decide) ?_
  try simp only [lvA_R]
  exact R_X10_wake n st a0 st' h
theorem R_X10_like_L37 (n : Nat) {r : Option Value} {st' : xS} : ∀ (k : Nat) (st : xS) (a0 : Option Nat) (a4 : Int32) (a5 : Int32) (a6 : Int32) (q : (Int32)), F_X10_like_L37 n k st a0 a4 a5 a6 = some q → Rn mX10_like 70 [(5, .int q)] [] st r st' 6 → Rn mX10_like 37 [(0, va_rf a0), (4, .int a4), (5, .int a5), (6, .int a6)] [] st r st' 6 := by
  intro k
  induction k with
  | zero => intro st a0 a4 a5 a6 q h; cases h
  | succ k ih =>
    intro st a0 a4 a5 a6 q h J
    unfold F_X10_like_L37 at h
    refine r_iload (x := a6) dX10_like_37 rfl ?_
    refine r_bipush (v := (6 : Int32)) dX10_like_39 (by decide) ?_
    refine r_icmp_ge (tgt := 70) dX10_like_41 (by decide) (fun c => ?_) (fun c => ?_)
    · replace h := (if_pos c).symm.trans h
      obtain rfl := Option.some.inj h
      exact x_sub [2] rfl J
    · replace h := (if_neg c).symm.trans h
      refine x_aload_n (o := a0) dX10_like_44 rfl ?_
      refine r_iload (x := a4) dX10_like_45 rfl ?_
      refine r_iload (x := a6) dX10_like_47 rfl ?_
      obtain ⟨q9, hq9, h⟩ := xb h
      obtain ⟨v8, hv8, h⟩ := xb h
      refine z_callV (as := [.int a4, .int a6]) (o := a0) (r1 := (some (.int v8))) (stk := []) (stk2 := [.int v8]) (st1 := st) (d' := 1) dX10_like_49 xl_X10_345 hq9 (by decide) (Nat.le_trans xs0 (by decide)) rfl rfl (S_X10_wakeAlike n st a0 a4 a6 v8 hv8) ?_
      obtain ⟨q11, hq11, h⟩ := xb h
      have Jq11 : Rn mX10_like 64 [(0, va_rf a0), (4, .int a4), (5, .int q11), (6, .int a6)] [] st r st' 6 := by
        obtain ⟨v12, hv12, h⟩ := xb h
        refine x_iinc (c := (1 : Int32)) (lv' := [(6, .int v12), (0, va_rf a0), (4, .int a4), (5, .int q11)]) (x := a6) (v := v12) dX10_like_64 rfl (by decide) (Option.some.inj hv12) (by decide) rfl ?_
        refine r_goto (tgt := 37) dX10_like_67 (by decide) ?_
        exact x_sub [1, 2, 3, 0] rfl (ih st a0 a4 q11 v12 q h J)
      refine r_if_eq (tgt := 64) dX10_like_52 (by decide) (fun c => ?_) (fun c => ?_)
      · replace hq11 := (if_pos c).symm.trans hq11
        obtain rfl := Option.some.inj hq11
        exact x_sub [0, 1, 2, 3] rfl Jq11
      · replace hq11 := (if_neg c).symm.trans hq11
        refine r_iload (x := a5) dX10_like_55 rfl ?_
        refine r_iconst (v := (1 : Int32)) dX10_like_57 (by decide) ?_
        refine r_iload (x := a6) dX10_like_58 rfl ?_
        refine r_ishl dX10_like_60 ?_
        refine r_ior dX10_like_61 ?_
        obtain ⟨v10, hv10, hq11⟩ := xb hq11
        refine x_eqI (Option.some.inj hv10) ?_
        refine r_istore (lv' := [(5, .int v10), (0, va_rf a0), (4, .int a4), (6, .int a6)]) (x := v10) dX10_like_62 (by decide) rfl ?_
        obtain rfl := Option.some.inj hq11
        exact x_sub [1, 2, 0, 3] rfl Jq11
theorem R_X10_like (n : Nat) (st : xS) (a0 : Option Nat) (a1 : Int32) (a2 : Int32) (a3 : Int32) (a4 : Int32) (rv : Int32) (st' : xS) (h : F_X10_like n st a0 a1 a2 a3 a4 = some (rv, st')) : Rn mX10_like 0 [(0, va_rf a0), (1, .int a1), (2, .int a2), (3, .int a3), (4, .int a4)] [] st (some (.int rv)) st' 6 := by
  unfold F_X10_like at h
  refine r_iload (x := a4) dX10_like_0 rfl ?_
  obtain ⟨v1, hv1, h⟩ := xb h
  refine z_callS (as := [.int a4]) (r1 := (some (.int v1))) (stk := []) (stk2 := [.int v1]) (st1 := st) (d' := 1) dX10_like_2 xl_X10_167 (by decide) (Nat.le_trans xs0 (by decide)) rfl rfl (S_X10_isPart n st a4 v1 hv1) ?_
  refine r_if_eq (tgt := 25) dX10_like_5 (by decide) (fun c => ?_) (fun c => ?_)
  · replace h := (if_pos c).symm.trans h
    refine r_iconst (v := (-1 : Int32)) dX10_like_25 (by decide) ?_
    obtain ⟨rfl, rfl⟩ := Prod.mk.inj (Option.some.inj h)
    exact r_ireturn dX10_like_26 .int rfl rfl
  · replace h := (if_neg c).symm.trans h
    refine x_aload_n (o := a0) dX10_like_8 rfl ?_
    obtain ⟨v2, hv2, h⟩ := xb h
    refine x_getR (o := a0) dX10_like_9 xf_X10_30 hv2 ?_
    refine x_aload_n (o := a0) dX10_like_12 rfl ?_
    obtain ⟨v3, hv3, h⟩ := xb h
    refine x_getR (o := a0) dX10_like_13 xf_X10_10 hv3 ?_
    refine r_iload_n (x := a1) dX10_like_16 rfl ?_
    refine r_iload_n (x := a2) dX10_like_17 rfl ?_
    refine r_iload_n (x := a3) dX10_like_18 rfl ?_
    obtain ⟨q5, hq5, h⟩ := xb h
    obtain ⟨p4, hp4, h⟩ := xb h
    refine z_callV (as := [va_rf v3, .int a1, .int a2, .int a3]) (o := v2) (r1 := (some (.int p4.1))) (stk := []) (stk2 := [.int p4.1]) (st1 := p4.2) (d' := 2) dX10_like_19 xl_X10_145 hq5 (by decide) (Nat.le_trans xs0 (by decide)) rfl rfl (S_X5_bring_ n st v2 v3 a1 a2 a3 p4.1 p4.2 hp4) ?_
    refine r_if_ne (tgt := 27) dX10_like_22 (by decide) (fun c => ?_) (fun c => ?_)
    · replace h := (if_neg c).symm.trans h
      refine x_aload_n (o := a0) dX10_like_27 rfl ?_
      obtain ⟨q7, hq7, h⟩ := xb h
      obtain ⟨s6, hs6, h⟩ := xb h
      refine z_callV (as := []) (o := a0) (r1 := none) (stk := []) (stk2 := []) (st1 := s6) (d' := 5) dX10_like_28 xl_X10_342 hq7 (by decide) (Nat.le_trans xs0 (by decide)) rfl rfl (S_X10_wake n p4.2 a0  s6 hs6) ?_
      refine r_iconst (v := (0 : Int32)) dX10_like_31 (by decide) ?_
      refine r_istore (lv' := [(5, .int (0 : Int32)), (0, va_rf a0), (1, .int a1), (2, .int a2), (3, .int a3), (4, .int a4)]) (x := (0 : Int32)) dX10_like_32 (by decide) rfl ?_
      refine r_iconst (v := (0 : Int32)) dX10_like_34 (by decide) ?_
      refine r_istore (lv' := [(6, .int (0 : Int32)), (5, .int (0 : Int32)), (0, va_rf a0), (1, .int a1), (2, .int a2), (3, .int a3), (4, .int a4)]) (x := (0 : Int32)) dX10_like_35 (by decide) rfl ?_
      obtain ⟨q13, hq13, h⟩ := xb h
      have Jq13 : Rn mX10_like 70 [(5, .int q13)] [] s6 (some (.int rv)) st' 6 := by
        refine r_iload (x := q13) dX10_like_70 rfl ?_
        obtain ⟨rfl, rfl⟩ := Prod.mk.inj (Option.some.inj h)
        exact r_ireturn dX10_like_72 .int rfl rfl
      exact x_sub [2, 6, 1, 0] rfl (R_X10_like_L37 n n s6 a0 a4 (0 : Int32) (0 : Int32) q13 hq13 Jq13)
    · replace h := (if_pos c).symm.trans h
      refine r_iconst (v := (-1 : Int32)) dX10_like_25 (by decide) ?_
      obtain ⟨rfl, rfl⟩ := Prod.mk.inj (Option.some.inj h)
      exact r_ireturn dX10_like_26 .int rfl rfl
theorem S_X10_like (n : Nat) (st : xS) (a0 : Option Nat) (a1 : Int32) (a2 : Int32) (a3 : Int32) (a4 : Int32) (rv : Int32) (st' : xS) (h : F_X10_like n st a0 a1 a2 a3 a4 = some (rv, st')) : Ct mX10_like [va_rf a0, .int a1, .int a2, .int a3, .int a4] st (some (.int rv)) st' 6 := by
  refine Ct.of (by decide) (by simp only [lgL_R, lgL_I, lgL_L, lgL_0]; decide) ?_
  try simp only [lvA_R]
  exact R_X10_like n st a0 a1 a2 a3 a4 rv st' h
theorem R_X10_differJustBy (n : Nat) (st : xS) (a0 : Option Nat) (a1 : Int32) (a2 : Int32) (a3 : Int32) (rv : Int32) (h : F_X10_differJustBy n st a0 a1 a2 a3 = some rv) : Rn mX10_differJustBy 0 [(0, va_rf a0), (1, .int a1), (2, .int a2), (3, .int a3)] [] st (some (.int rv)) st 1 := by
  unfold F_X10_differJustBy at h
  refine x_aload_n (o := a0) dX10_differJustBy_0 rfl ?_
  obtain ⟨v1, hv1, h⟩ := xb h
  refine x_getR (o := a0) dX10_differJustBy_1 xf_X10_52 hv1 ?_
  refine r_iload_n (x := a2) dX10_differJustBy_4 rfl ?_
  obtain ⟨v2, hv2, h⟩ := xb h
  refine z_callS (as := [va_rf v1, .int a2]) (r1 := (some (.int v2))) (stk := []) (stk2 := [.int v2]) (st1 := st) (d' := 0) dX10_differJustBy_5 xl_X10_348 (by decide) (Nat.le_trans xs0 (by decide)) rfl rfl (S_X10_valueAt n st v1 a2 v2 hv2) ?_
  refine x_aload_n (o := a0) dX10_differJustBy_8 rfl ?_
  obtain ⟨v3, hv3, h⟩ := xb h
  refine x_getR (o := a0) dX10_differJustBy_9 xf_X10_52 hv3 ?_
  refine r_iload_n (x := a3) dX10_differJustBy_12 rfl ?_
  obtain ⟨v4, hv4, h⟩ := xb h
  refine z_callS (as := [va_rf v3, .int a3]) (r1 := (some (.int v4))) (stk := [.int v2]) (stk2 := [.int v4, .int v2]) (st1 := st) (d' := 0) dX10_differJustBy_13 xl_X10_348 (by decide) (Nat.le_trans (xsI xs0) (by decide)) rfl rfl (S_X10_valueAt n st v3 a3 v4 hv4) ?_
  refine r_ixor dX10_differJustBy_16 ?_
  refine r_iconst (v := (1 : Int32)) dX10_differJustBy_17 (by decide) ?_
  refine r_iload_n (x := a1) dX10_differJustBy_18 rfl ?_
  refine r_ishl dX10_differJustBy_19 ?_
  obtain ⟨q5, hq5, h⟩ := xb h
  have Jq5 : Rn mX10_differJustBy 28 [] [.int q5] st (some (.int rv)) st 1 := by
    obtain ⟨v6, hv6, h⟩ := xb h
    refine x_eqI (rz_inv2 hv6).1 ?_
    obtain rfl := Option.some.inj h
    exact r_ireturn dX10_differJustBy_28 .boolean rfl (by rcases (rz_inv2 hv6).2 with e | e <;> rw [e] <;> rfl)
  refine r_icmp_ne (tgt := 27) dX10_differJustBy_20 (by decide) (fun c => ?_) (fun c => ?_)
  · replace hq5 := (if_neg c).symm.trans hq5
    refine r_iconst (v := (0 : Int32)) dX10_differJustBy_27 (by decide) ?_
    obtain rfl := Option.some.inj hq5
    exact x_sub [] rfl Jq5
  · replace hq5 := (if_pos c).symm.trans hq5
    refine r_iconst (v := (1 : Int32)) dX10_differJustBy_23 (by decide) ?_
    refine r_goto (tgt := 28) dX10_differJustBy_24 (by decide) ?_
    obtain rfl := Option.some.inj hq5
    exact x_sub [] rfl Jq5
theorem S_X10_differJustBy (n : Nat) (st : xS) (a0 : Option Nat) (a1 : Int32) (a2 : Int32) (a3 : Int32) (rv : Int32) (h : F_X10_differJustBy n st a0 a1 a2 a3 = some rv) : Ct mX10_differJustBy [va_rf a0, .int a1, .int a2, .int a3] st (some (.int rv)) st 1 := by
  refine Ct.of (by decide) (by simp only [lgL_R, lgL_I, lgL_L, lgL_0]; decide) ?_
  try simp only [lvA_R]
  exact R_X10_differJustBy n st a0 a1 a2 a3 rv h
theorem R_X10_single_L58 (n : Nat) {r : Option Value} {st' : xS} : ∀ (k : Nat) (st : xS) (a0 : Option Nat) (a4 : Int32) (a5 : Int32) (a6 : Int32) (a7 : Int32) (q : (Int32)), F_X10_single_L58 n k st a0 a4 a5 a6 a7 = some q → Rn mX10_single 95 [(0, va_rf a0), (4, .int a4), (5, .int q), (6, .int a6)] [] st r st' 6 → Rn mX10_single 58 [(0, va_rf a0), (4, .int a4), (5, .int a5), (6, .int a6), (7, .int a7)] [] st r st' 6 := by
  intro k
  induction k with
  | zero => intro st a0 a4 a5 a6 a7 q h; cases h
  | succ k ih =>
    intro st a0 a4 a5 a6 a7 q h J
    unfold F_X10_single_L58 at h
    refine r_iload (x := a7) dX10_single_58 rfl ?_
    refine x_aload_n (o := a0) dX10_single_60 rfl ?_
    obtain ⟨v12, hv12, h⟩ := xb h
    refine x_getR (o := a0) dX10_single_61 xf_X10_30 hv12 ?_
    obtain ⟨v13, hv13, h⟩ := xb h
    refine x_getR (o := v12) dX10_single_64 xf_X10_148 hv13 ?_
    obtain ⟨v14, hv14, h⟩ := xb h
    refine x_getI (o := v13) dX10_single_67 xf_X10_132 hv14 ?_
    refine r_icmp_ge (tgt := 95) dX10_single_70 (by decide) (fun c => ?_) (fun c => ?_)
    · replace h := (if_pos c).symm.trans h
      obtain rfl := Option.some.inj h
      exact x_sub [0, 1, 2, 3] rfl J
    · replace h := (if_neg c).symm.trans h
      refine x_aload_n (o := a0) dX10_single_73 rfl ?_
      refine r_iload (x := a4) dX10_single_74 rfl ?_
      refine r_iload (x := a6) dX10_single_76 rfl ?_
      refine r_iload (x := a7) dX10_single_78 rfl ?_
      obtain ⟨q16, hq16, h⟩ := xb h
      obtain ⟨v15, hv15, h⟩ := xb h
      refine z_callV (as := [.int a4, .int a6, .int a7]) (o := a0) (r1 := (some (.int v15))) (stk := []) (stk2 := [.int v15]) (st1 := st) (d' := 1) dX10_single_80 xl_X10_352 hq16 (by decide) (Nat.le_trans xs0 (by decide)) rfl rfl (S_X10_differJustBy n st a0 a4 a6 a7 v15 hv15) ?_
      obtain ⟨q18, hq18, h⟩ := xb h
      have Jq18 : Rn mX10_single 89 [(0, va_rf a0), (4, .int a4), (5, .int q18), (6, .int a6), (7, .int a7)] [] st r st' 6 := by
        obtain ⟨v19, hv19, h⟩ := xb h
        refine x_iinc (c := (1 : Int32)) (lv' := [(7, .int v19), (0, va_rf a0), (4, .int a4), (5, .int q18), (6, .int a6)]) (x := a7) (v := v19) dX10_single_89 rfl (by decide) (Option.some.inj hv19) (by decide) rfl ?_
        refine r_goto (tgt := 58) dX10_single_92 (by decide) ?_
        exact x_sub [1, 2, 3, 4, 0] rfl (ih st a0 a4 q18 a6 v19 q h J)
      refine r_if_eq (tgt := 89) dX10_single_83 (by decide) (fun c => ?_) (fun c => ?_)
      · replace hq18 := (if_pos c).symm.trans hq18
        obtain rfl := Option.some.inj hq18
        exact x_sub [0, 1, 2, 3, 4] rfl Jq18
      · replace hq18 := (if_neg c).symm.trans hq18
        obtain ⟨v17, hv17, hq18⟩ := xb hq18
        refine x_iinc (c := (1 : Int32)) (lv' := [(5, .int v17), (0, va_rf a0), (4, .int a4), (6, .int a6), (7, .int a7)]) (x := a5) (v := v17) dX10_single_86 rfl (by decide) (Option.some.inj hv17) (by decide) rfl ?_
        obtain rfl := Option.some.inj hq18
        exact x_sub [1, 2, 0, 3, 4] rfl Jq18
theorem R_X10_single_L37 (n : Nat) {r : Option Value} {st' : xS} : ∀ (k : Nat) (st : xS) (a0 : Option Nat) (a4 : Int32) (a5 : Int32) (a6 : Int32) (q : (Int32)), F_X10_single_L37 n k st a0 a4 a5 a6 = some q → Rn mX10_single 101 [(5, .int q)] [] st r st' 6 → Rn mX10_single 37 [(0, va_rf a0), (4, .int a4), (5, .int a5), (6, .int a6)] [] st r st' 6 := by
  intro k
  induction k with
  | zero => intro st a0 a4 a5 a6 q h; cases h
  | succ k ih =>
    intro st a0 a4 a5 a6 q h J
    unfold F_X10_single_L37 at h
    refine r_iload (x := a6) dX10_single_37 rfl ?_
    refine x_aload_n (o := a0) dX10_single_39 rfl ?_
    obtain ⟨v8, hv8, h⟩ := xb h
    refine x_getR (o := a0) dX10_single_40 xf_X10_30 hv8 ?_
    obtain ⟨v9, hv9, h⟩ := xb h
    refine x_getR (o := v8) dX10_single_43 xf_X10_148 hv9 ?_
    obtain ⟨v10, hv10, h⟩ := xb h
    refine x_getI (o := v9) dX10_single_46 xf_X10_132 hv10 ?_
    refine r_icmp_ge (tgt := 101) dX10_single_49 (by decide) (fun c => ?_) (fun c => ?_)
    · replace h := (if_pos c).symm.trans h
      obtain rfl := Option.some.inj h
      exact x_sub [2] rfl J
    · replace h := (if_neg c).symm.trans h
      refine r_iload (x := a6) dX10_single_52 rfl ?_
      refine r_iconst (v := (1 : Int32)) dX10_single_54 (by decide) ?_
      refine r_iadd dX10_single_55 ?_
      obtain ⟨v11, hv11, h⟩ := xb h
      refine x_eqI (Option.some.inj hv11) ?_
      refine r_istore (lv' := [(7, .int v11), (0, va_rf a0), (4, .int a4), (5, .int a5), (6, .int a6)]) (x := v11) dX10_single_56 (by decide) rfl ?_
      obtain ⟨q20, hq20, h⟩ := xb h
      have Jq20 : Rn mX10_single 95 [(0, va_rf a0), (4, .int a4), (5, .int q20), (6, .int a6)] [] st r st' 6 := by
        obtain ⟨v21, hv21, h⟩ := xb h
        refine x_iinc (c := (1 : Int32)) (lv' := [(6, .int v21), (0, va_rf a0), (4, .int a4), (5, .int q20)]) (x := a6) (v := v21) dX10_single_95 rfl (by decide) (Option.some.inj hv21) (by decide) rfl ?_
        refine r_goto (tgt := 37) dX10_single_98 (by decide) ?_
        exact x_sub [1, 2, 3, 0] rfl (ih st a0 a4 q20 v21 q h J)
      exact x_sub [1, 2, 3, 4, 0] rfl (R_X10_single_L58 n n st a0 a4 a5 a6 v11 q20 hq20 Jq20)
theorem R_X10_single (n : Nat) (st : xS) (a0 : Option Nat) (a1 : Int32) (a2 : Int32) (a3 : Int32) (a4 : Int32) (rv : Int32) (st' : xS) (h : F_X10_single n st a0 a1 a2 a3 a4 = some (rv, st')) : Rn mX10_single 0 [(0, va_rf a0), (1, .int a1), (2, .int a2), (3, .int a3), (4, .int a4)] [] st (some (.int rv)) st' 6 := by
  unfold F_X10_single at h
  refine r_iload (x := a4) dX10_single_0 rfl ?_
  obtain ⟨v1, hv1, h⟩ := xb h
  refine z_callS (as := [.int a4]) (r1 := (some (.int v1))) (stk := []) (stk2 := [.int v1]) (st1 := st) (d' := 1) dX10_single_2 xl_X10_167 (by decide) (Nat.le_trans xs0 (by decide)) rfl rfl (S_X10_isPart n st a4 v1 hv1) ?_
  refine r_if_eq (tgt := 25) dX10_single_5 (by decide) (fun c => ?_) (fun c => ?_)
  · replace h := (if_pos c).symm.trans h
    refine r_iconst (v := (-1 : Int32)) dX10_single_25 (by decide) ?_
    obtain ⟨rfl, rfl⟩ := Prod.mk.inj (Option.some.inj h)
    exact r_ireturn dX10_single_26 .int rfl rfl
  · replace h := (if_neg c).symm.trans h
    refine x_aload_n (o := a0) dX10_single_8 rfl ?_
    obtain ⟨v2, hv2, h⟩ := xb h
    refine x_getR (o := a0) dX10_single_9 xf_X10_30 hv2 ?_
    refine x_aload_n (o := a0) dX10_single_12 rfl ?_
    obtain ⟨v3, hv3, h⟩ := xb h
    refine x_getR (o := a0) dX10_single_13 xf_X10_10 hv3 ?_
    refine r_iload_n (x := a1) dX10_single_16 rfl ?_
    refine r_iload_n (x := a2) dX10_single_17 rfl ?_
    refine r_iload_n (x := a3) dX10_single_18 rfl ?_
    obtain ⟨q5, hq5, h⟩ := xb h
    obtain ⟨p4, hp4, h⟩ := xb h
    refine z_callV (as := [va_rf v3, .int a1, .int a2, .int a3]) (o := v2) (r1 := (some (.int p4.1))) (stk := []) (stk2 := [.int p4.1]) (st1 := p4.2) (d' := 2) dX10_single_19 xl_X10_145 hq5 (by decide) (Nat.le_trans xs0 (by decide)) rfl rfl (S_X5_bring_ n st v2 v3 a1 a2 a3 p4.1 p4.2 hp4) ?_
    refine r_if_ne (tgt := 27) dX10_single_22 (by decide) (fun c => ?_) (fun c => ?_)
    · replace h := (if_neg c).symm.trans h
      refine x_aload_n (o := a0) dX10_single_27 rfl ?_
      obtain ⟨q7, hq7, h⟩ := xb h
      obtain ⟨s6, hs6, h⟩ := xb h
      refine z_callV (as := []) (o := a0) (r1 := none) (stk := []) (stk2 := []) (st1 := s6) (d' := 5) dX10_single_28 xl_X10_342 hq7 (by decide) (Nat.le_trans xs0 (by decide)) rfl rfl (S_X10_wake n p4.2 a0  s6 hs6) ?_
      refine r_iconst (v := (0 : Int32)) dX10_single_31 (by decide) ?_
      refine r_istore (lv' := [(5, .int (0 : Int32)), (0, va_rf a0), (1, .int a1), (2, .int a2), (3, .int a3), (4, .int a4)]) (x := (0 : Int32)) dX10_single_32 (by decide) rfl ?_
      refine r_iconst (v := (0 : Int32)) dX10_single_34 (by decide) ?_
      refine r_istore (lv' := [(6, .int (0 : Int32)), (5, .int (0 : Int32)), (0, va_rf a0), (1, .int a1), (2, .int a2), (3, .int a3), (4, .int a4)]) (x := (0 : Int32)) dX10_single_35 (by decide) rfl ?_
      obtain ⟨q22, hq22, h⟩ := xb h
      have Jq22 : Rn mX10_single 101 [(5, .int q22)] [] s6 (some (.int rv)) st' 6 := by
        refine r_iload (x := q22) dX10_single_101 rfl ?_
        obtain ⟨rfl, rfl⟩ := Prod.mk.inj (Option.some.inj h)
        exact r_ireturn dX10_single_103 .int rfl rfl
      exact x_sub [2, 6, 1, 0] rfl (R_X10_single_L37 n n s6 a0 a4 (0 : Int32) (0 : Int32) q22 hq22 Jq22)
    · replace h := (if_pos c).symm.trans h
      refine r_iconst (v := (-1 : Int32)) dX10_single_25 (by decide) ?_
      obtain ⟨rfl, rfl⟩ := Prod.mk.inj (Option.some.inj h)
      exact r_ireturn dX10_single_26 .int rfl rfl
theorem S_X10_single (n : Nat) (st : xS) (a0 : Option Nat) (a1 : Int32) (a2 : Int32) (a3 : Int32) (a4 : Int32) (rv : Int32) (st' : xS) (h : F_X10_single n st a0 a1 a2 a3 a4 = some (rv, st')) : Ct mX10_single [va_rf a0, .int a1, .int a2, .int a3, .int a4] st (some (.int rv)) st' 6 := by
  refine Ct.of (by decide) (by simp only [lgL_R, lgL_I, lgL_L, lgL_0]; decide) ?_
  try simp only [lvA_R]
  exact R_X10_single n st a0 a1 a2 a3 a4 rv st' h
theorem R_X10_felt_L83 (n : Nat) {r : Option Value} {st' : xS} : ∀ (k : Nat) (st : xS) (a0 : Option Nat) (a4 : Int32) (a6 : Int32) (a7 : Int32) (a8 : Int32) (a9 : Int32) (a10 : Int32) (q : (Int32 × Int32)), F_X10_felt_L83 n k st a0 a4 a6 a7 a8 a9 a10 = some q → Rn mX10_felt 184 [(0, va_rf a0), (4, .int a4), (6, .int a6), (7, .int q.1), (8, .int q.2), (9, .int a9)] [] st r st' 6 → Rn mX10_felt 83 [(0, va_rf a0), (4, .int a4), (6, .int a6), (7, .int a7), (8, .int a8), (9, .int a9), (10, .int a10)] [] st r st' 6 := by
  intro k
  induction k with
  | zero => intro st a0 a4 a6 a7 a8 a9 a10 q h; cases h
  | succ k ih =>
    intro st a0 a4 a6 a7 a8 a9 a10 q h J
    unfold F_X10_felt_L83 at h
    refine r_iload (x := a10) dX10_felt_83 rfl ?_
    refine x_aload_n (o := a0) dX10_felt_85 rfl ?_
    obtain ⟨v17, hv17, h⟩ := xb h
    refine x_getR (o := a0) dX10_felt_86 xf_X10_30 hv17 ?_
    obtain ⟨v18, hv18, h⟩ := xb h
    refine x_getR (o := v17) dX10_felt_89 xf_X10_148 hv18 ?_
    obtain ⟨v19, hv19, h⟩ := xb h
    refine x_getI (o := v18) dX10_felt_92 xf_X10_132 hv19 ?_
    refine r_icmp_ge (tgt := 184) dX10_felt_95 (by decide) (fun c => ?_) (fun c => ?_)
    · replace h := (if_pos c).symm.trans h
      obtain rfl := Option.some.inj h
      exact x_sub [0, 1, 2, 3, 4, 5] rfl J
    · replace h := (if_neg c).symm.trans h
      refine x_aload_n (o := a0) dX10_felt_98 rfl ?_
      refine r_iload (x := a4) dX10_felt_99 rfl ?_
      refine r_iload (x := a9) dX10_felt_101 rfl ?_
      refine r_iload (x := a10) dX10_felt_103 rfl ?_
      obtain ⟨q21, hq21, h⟩ := xb h
      obtain ⟨v20, hv20, h⟩ := xb h
      refine z_callV (as := [.int a4, .int a9, .int a10]) (o := a0) (r1 := (some (.int v20))) (stk := []) (stk2 := [.int v20]) (st1 := st) (d' := 1) dX10_felt_105 xl_X10_352 hq21 (by decide) (Nat.le_trans xs0 (by decide)) rfl rfl (S_X10_differJustBy n st a0 a4 a9 a10 v20 hv20) ?_
      obtain ⟨q36, hq36, h⟩ := xb h
      have Jq36 : Rn mX10_felt 178 [(0, va_rf a0), (4, .int a4), (6, .int a6), (7, .int q36.1), (8, .int q36.2), (9, .int a9), (10, .int a10)] [] st r st' 6 := by
        obtain ⟨v37, hv37, h⟩ := xb h
        refine x_iinc (c := (1 : Int32)) (lv' := [(10, .int v37), (0, va_rf a0), (4, .int a4), (6, .int a6), (7, .int q36.1), (8, .int q36.2), (9, .int a9)]) (x := a10) (v := v37) dX10_felt_178 rfl (by decide) (Option.some.inj hv37) (by decide) rfl ?_
        refine r_goto (tgt := 83) dX10_felt_181 (by decide) ?_
        exact x_sub [1, 2, 3, 4, 5, 6, 0] rfl (ih st a0 a4 a6 q36.1 q36.2 a9 v37 q h J)
      refine r_if_eq (tgt := 178) dX10_felt_108 (by decide) (fun c => ?_) (fun c => ?_)
      · replace hq36 := (if_pos c).symm.trans hq36
        obtain rfl := Option.some.inj hq36
        exact x_sub [0, 1, 2, 3, 4, 5, 6] rfl Jq36
      · replace hq36 := (if_neg c).symm.trans hq36
        obtain ⟨v22, hv22, hq36⟩ := xb hq36
        refine x_iinc (c := (1 : Int32)) (lv' := [(7, .int v22), (0, va_rf a0), (4, .int a4), (6, .int a6), (8, .int a8), (9, .int a9), (10, .int a10)]) (x := a7) (v := v22) dX10_felt_111 rfl (by decide) (Option.some.inj hv22) (by decide) rfl ?_
        refine x_aload_n (o := a0) dX10_felt_114 rfl ?_
        obtain ⟨v23, hv23, hq36⟩ := xb hq36
        refine x_getR (o := a0) dX10_felt_115 xf_X10_52 hv23 ?_
        refine r_iload (x := a9) dX10_felt_118 rfl ?_
        obtain ⟨v24, hv24, hq36⟩ := xb hq36
        refine z_callS (as := [va_rf v23, .int a9]) (r1 := (some (.int v24))) (stk := []) (stk2 := [.int v24]) (st1 := st) (d' := 0) dX10_felt_120 xl_X10_348 (by decide) (Nat.le_trans xs0 (by decide)) rfl rfl (S_X10_valueAt n st v23 a9 v24 hv24) ?_
        refine r_iload (x := a4) dX10_felt_123 rfl ?_
        refine r_ishr dX10_felt_125 ?_
        refine r_iconst (v := (1 : Int32)) dX10_felt_126 (by decide) ?_
        refine r_iand dX10_felt_127 ?_
        refine r_iconst (v := (1 : Int32)) dX10_felt_128 (by decide) ?_
        obtain ⟨q25, hq25, hq36⟩ := xb hq36
        have Jq25 : Rn mX10_felt 137 [(0, va_rf a0), (4, .int a4), (6, .int a6), (7, .int v22), (8, .int a8), (9, .int a9), (10, .int a10)] [.int q25] st r st' 6 := by
          refine r_istore (lv' := [(11, .int q25), (0, va_rf a0), (4, .int a4), (6, .int a6), (7, .int v22), (8, .int a8), (9, .int a9), (10, .int a10)]) (x := q25) dX10_felt_137 (by decide) rfl ?_
          refine r_iload (x := a8) dX10_felt_139 rfl ?_
          refine r_iload (x := q25) dX10_felt_141 rfl ?_
          obtain ⟨q34, hq34, hq36⟩ := xb hq36
          have Jq34 : Rn mX10_felt 175 [(0, va_rf a0), (4, .int a4), (6, .int a6), (7, .int v22), (9, .int a9), (10, .int a10)] [.int q34, .int a8] st r st' 6 := by
            refine r_iadd dX10_felt_175 ?_
            obtain ⟨v35, hv35, hq36⟩ := xb hq36
            refine x_eqI (Option.some.inj hv35) ?_
            refine r_istore (lv' := [(8, .int v35), (0, va_rf a0), (4, .int a4), (6, .int a6), (7, .int v22), (9, .int a9), (10, .int a10)]) (x := v35) dX10_felt_176 (by decide) rfl ?_
            obtain rfl := Option.some.inj hq36
            exact x_sub [1, 2, 3, 4, 0, 5, 6] rfl Jq36
          refine r_if_eq (tgt := 162) dX10_felt_143 (by decide) (fun c => ?_) (fun c => ?_)
          · replace hq34 := (if_pos c).symm.trans hq34
            refine x_aload_n (o := a0) dX10_felt_162 rfl ?_
            refine r_iload (x := a10) dX10_felt_163 rfl ?_
            obtain ⟨q27, hq27, hq34⟩ := xb hq34
            obtain ⟨v26, hv26, hq34⟩ := xb hq34
            refine z_callV (as := [.int a10]) (o := a0) (r1 := (some (.int v26))) (stk := [.int a8]) (stk2 := [.int v26, .int a8]) (st1 := st) (d' := 3) dX10_felt_165 xl_X10_225 hq27 (by decide) (Nat.le_trans (xsI xs0) (by decide)) rfl rfl (S_X10_margin n st a0 a10 v26 hv26) ?_
            refine x_aload_n (o := a0) dX10_felt_168 rfl ?_
            refine r_iload (x := a9) dX10_felt_169 rfl ?_
            obtain ⟨q29, hq29, hq34⟩ := xb hq34
            obtain ⟨v28, hv28, hq34⟩ := xb hq34
            refine z_callV (as := [.int a9]) (o := a0) (r1 := (some (.int v28))) (stk := [.int v26, .int a8]) (stk2 := [.int v28, .int v26, .int a8]) (st1 := st) (d' := 3) dX10_felt_171 xl_X10_225 hq29 (by decide) (Nat.le_trans (xsI (xsI xs0)) (by decide)) rfl rfl (S_X10_margin n st a0 a9 v28 hv28) ?_
            refine r_isub dX10_felt_174 ?_
            obtain rfl := Option.some.inj hq34
            exact x_sub [1, 2, 3, 4, 6, 7] rfl Jq34
          · replace hq34 := (if_neg c).symm.trans hq34
            refine x_aload_n (o := a0) dX10_felt_146 rfl ?_
            refine r_iload (x := a9) dX10_felt_147 rfl ?_
            obtain ⟨q31, hq31, hq34⟩ := xb hq34
            obtain ⟨v30, hv30, hq34⟩ := xb hq34
            refine z_callV (as := [.int a9]) (o := a0) (r1 := (some (.int v30))) (stk := [.int a8]) (stk2 := [.int v30, .int a8]) (st1 := st) (d' := 3) dX10_felt_149 xl_X10_225 hq31 (by decide) (Nat.le_trans (xsI xs0) (by decide)) rfl rfl (S_X10_margin n st a0 a9 v30 hv30) ?_
            refine x_aload_n (o := a0) dX10_felt_152 rfl ?_
            refine r_iload (x := a10) dX10_felt_153 rfl ?_
            obtain ⟨q33, hq33, hq34⟩ := xb hq34
            obtain ⟨v32, hv32, hq34⟩ := xb hq34
            refine z_callV (as := [.int a10]) (o := a0) (r1 := (some (.int v32))) (stk := [.int v30, .int a8]) (stk2 := [.int v32, .int v30, .int a8]) (st1 := st) (d' := 3) dX10_felt_155 xl_X10_225 hq33 (by decide) (Nat.le_trans (xsI (xsI xs0)) (by decide)) rfl rfl (S_X10_margin n st a0 a10 v32 hv32) ?_
            refine r_isub dX10_felt_158 ?_
            refine r_goto (tgt := 175) dX10_felt_159 (by decide) ?_
            obtain rfl := Option.some.inj hq34
            exact x_sub [1, 2, 3, 4, 6, 7] rfl Jq34
        refine r_icmp_ne (tgt := 136) dX10_felt_129 (by decide) (fun c => ?_) (fun c => ?_)
        · replace hq25 := (if_neg c).symm.trans hq25
          refine r_iconst (v := (0 : Int32)) dX10_felt_136 (by decide) ?_
          obtain rfl := Option.some.inj hq25
          exact x_sub [1, 2, 3, 0, 4, 5, 6] rfl Jq25
        · replace hq25 := (if_pos c).symm.trans hq25
          refine r_iconst (v := (1 : Int32)) dX10_felt_132 (by decide) ?_
          refine r_goto (tgt := 137) dX10_felt_133 (by decide) ?_
          obtain rfl := Option.some.inj hq25
          exact x_sub [1, 2, 3, 0, 4, 5, 6] rfl Jq25
theorem R_X10_felt_L62 (n : Nat) {r : Option Value} {st' : xS} : ∀ (k : Nat) (st : xS) (a0 : Option Nat) (a4 : Int32) (a6 : Int32) (a7 : Int32) (a8 : Int32) (a9 : Int32) (q : (Int32 × Int32)), F_X10_felt_L62 n k st a0 a4 a6 a7 a8 a9 = some q → Rn mX10_felt 190 [(6, .int a6), (7, .int q.1), (8, .int q.2)] [] st r st' 6 → Rn mX10_felt 62 [(0, va_rf a0), (4, .int a4), (6, .int a6), (7, .int a7), (8, .int a8), (9, .int a9)] [] st r st' 6 := by
  intro k
  induction k with
  | zero => intro st a0 a4 a6 a7 a8 a9 q h; cases h
  | succ k ih =>
    intro st a0 a4 a6 a7 a8 a9 q h J
    unfold F_X10_felt_L62 at h
    refine r_iload (x := a9) dX10_felt_62 rfl ?_
    refine x_aload_n (o := a0) dX10_felt_64 rfl ?_
    obtain ⟨v13, hv13, h⟩ := xb h
    refine x_getR (o := a0) dX10_felt_65 xf_X10_30 hv13 ?_
    obtain ⟨v14, hv14, h⟩ := xb h
    refine x_getR (o := v13) dX10_felt_68 xf_X10_148 hv14 ?_
    obtain ⟨v15, hv15, h⟩ := xb h
    refine x_getI (o := v14) dX10_felt_71 xf_X10_132 hv15 ?_
    refine r_icmp_ge (tgt := 190) dX10_felt_74 (by decide) (fun c => ?_) (fun c => ?_)
    · replace h := (if_pos c).symm.trans h
      obtain rfl := Option.some.inj h
      exact x_sub [2, 3, 4] rfl J
    · replace h := (if_neg c).symm.trans h
      refine r_iload (x := a9) dX10_felt_77 rfl ?_
      refine r_iconst (v := (1 : Int32)) dX10_felt_79 (by decide) ?_
      refine r_iadd dX10_felt_80 ?_
      obtain ⟨v16, hv16, h⟩ := xb h
      refine x_eqI (Option.some.inj hv16) ?_
      refine r_istore (lv' := [(10, .int v16), (0, va_rf a0), (4, .int a4), (6, .int a6), (7, .int a7), (8, .int a8), (9, .int a9)]) (x := v16) dX10_felt_81 (by decide) rfl ?_
      obtain ⟨q38, hq38, h⟩ := xb h
      have Jq38 : Rn mX10_felt 184 [(0, va_rf a0), (4, .int a4), (6, .int a6), (7, .int q38.1), (8, .int q38.2), (9, .int a9)] [] st r st' 6 := by
        obtain ⟨v39, hv39, h⟩ := xb h
        refine x_iinc (c := (1 : Int32)) (lv' := [(9, .int v39), (0, va_rf a0), (4, .int a4), (6, .int a6), (7, .int q38.1), (8, .int q38.2)]) (x := a9) (v := v39) dX10_felt_184 rfl (by decide) (Option.some.inj hv39) (by decide) rfl ?_
        refine r_goto (tgt := 62) dX10_felt_187 (by decide) ?_
        exact x_sub [1, 2, 3, 4, 5, 0] rfl (ih st a0 a4 a6 q38.1 q38.2 v39 q h J)
      exact x_sub [1, 2, 3, 4, 5, 6, 0] rfl (R_X10_felt_L83 n n st a0 a4 a6 a7 a8 a9 v16 q38 hq38 Jq38)
theorem R_X10_felt (n : Nat) (st : xS) (a0 : Option Nat) (a1 : Int32) (a2 : Int32) (a3 : Int32) (a4 : Int32) (a5 : Int32) (a6 : Int32) (rv : Int32) (st' : xS) (h : F_X10_felt n st a0 a1 a2 a3 a4 a5 a6 = some (rv, st')) : Rn mX10_felt 0 [(0, va_rf a0), (1, .int a1), (2, .int a2), (3, .int a3), (4, .int a4), (5, .int a5), (6, .int a6)] [] st (some (.int rv)) st' 6 := by
  unfold F_X10_felt at h
  refine r_iload (x := a4) dX10_felt_0 rfl ?_
  obtain ⟨v1, hv1, h⟩ := xb h
  refine z_callS (as := [.int a4]) (r1 := (some (.int v1))) (stk := []) (stk2 := [.int v1]) (st1 := st) (d' := 1) dX10_felt_2 xl_X10_167 (by decide) (Nat.le_trans xs0 (by decide)) rfl rfl (S_X10_isPart n st a4 v1 hv1) ?_
  refine r_if_eq (tgt := 46) dX10_felt_5 (by decide) (fun c => ?_) (fun c => ?_)
  · replace h := (if_pos c).symm.trans h
    refine r_ldc (v := (-1000000 : Int32)) dX10_felt_46 xk_X10_247 ?_
    obtain ⟨rfl, rfl⟩ := Prod.mk.inj (Option.some.inj h)
    exact r_ireturn dX10_felt_48 .int rfl rfl
  · replace h := (if_neg c).symm.trans h
    refine x_aload_n (o := a0) dX10_felt_8 rfl ?_
    obtain ⟨v2, hv2, h⟩ := xb h
    refine x_getR (o := a0) dX10_felt_9 xf_X10_30 hv2 ?_
    refine x_aload_n (o := a0) dX10_felt_12 rfl ?_
    obtain ⟨v3, hv3, h⟩ := xb h
    refine x_getR (o := a0) dX10_felt_13 xf_X10_10 hv3 ?_
    refine r_iload_n (x := a1) dX10_felt_16 rfl ?_
    refine r_iload_n (x := a2) dX10_felt_17 rfl ?_
    refine r_iload_n (x := a3) dX10_felt_18 rfl ?_
    obtain ⟨q5, hq5, h⟩ := xb h
    obtain ⟨p4, hp4, h⟩ := xb h
    refine z_callV (as := [va_rf v3, .int a1, .int a2, .int a3]) (o := v2) (r1 := (some (.int p4.1))) (stk := []) (stk2 := [.int p4.1]) (st1 := p4.2) (d' := 2) dX10_felt_19 xl_X10_145 hq5 (by decide) (Nat.le_trans xs0 (by decide)) rfl rfl (S_X5_bring_ n st v2 v3 a1 a2 a3 p4.1 p4.2 hp4) ?_
    refine r_if_eq (tgt := 46) dX10_felt_22 (by decide) (fun c => ?_) (fun c => ?_)
    · replace h := (if_pos c).symm.trans h
      refine r_ldc (v := (-1000000 : Int32)) dX10_felt_46 xk_X10_247 ?_
      obtain ⟨rfl, rfl⟩ := Prod.mk.inj (Option.some.inj h)
      exact r_ireturn dX10_felt_48 .int rfl rfl
    · replace h := (if_neg c).symm.trans h
      refine x_aload_n (o := a0) dX10_felt_25 rfl ?_
      refine r_iload (x := a5) dX10_felt_26 rfl ?_
      refine r_iload (x := a5) dX10_felt_28 rfl ?_
      obtain ⟨q7, hq7, h⟩ := xb h
      obtain ⟨p6, hp6, h⟩ := xb h
      refine z_callV (as := [.int a5, .int a5]) (o := a0) (r1 := (some (.int p6.1))) (stk := []) (stk2 := [.int p6.1]) (st1 := p6.2) (d' := 2) dX10_felt_30 xl_X10_219 hq7 (by decide) (Nat.le_trans xs0 (by decide)) rfl rfl (S_X10_pick n p4.2 a0 a5 a5 p6.1 p6.2 hp6) ?_
      refine x_aload_n (o := a0) dX10_felt_33 rfl ?_
      obtain ⟨v8, hv8, h⟩ := xb h
      refine x_getR (o := a0) dX10_felt_34 xf_X10_30 hv8 ?_
      obtain ⟨v9, hv9, h⟩ := xb h
      refine x_getR (o := v8) dX10_felt_37 xf_X10_148 hv9 ?_
      obtain ⟨v10, hv10, h⟩ := xb h
      refine x_getI (o := v9) dX10_felt_40 xf_X10_132 hv10 ?_
      refine r_icmp_ge (tgt := 49) dX10_felt_43 (by decide) (fun c => ?_) (fun c => ?_)
      · replace h := (if_pos c).symm.trans h
        refine x_aload_n (o := a0) dX10_felt_49 rfl ?_
        obtain ⟨q12, hq12, h⟩ := xb h
        obtain ⟨s11, hs11, h⟩ := xb h
        refine z_callV (as := []) (o := a0) (r1 := none) (stk := []) (stk2 := []) (st1 := s11) (d' := 5) dX10_felt_50 xl_X10_342 hq12 (by decide) (Nat.le_trans xs0 (by decide)) rfl rfl (S_X10_wake n p6.2 a0  s11 hs11) ?_
        refine r_iconst (v := (0 : Int32)) dX10_felt_53 (by decide) ?_
        refine r_istore (lv' := [(7, .int (0 : Int32)), (0, va_rf a0), (1, .int a1), (2, .int a2), (3, .int a3), (4, .int a4), (5, .int a5), (6, .int a6)]) (x := (0 : Int32)) dX10_felt_54 (by decide) rfl ?_
        refine r_iconst (v := (0 : Int32)) dX10_felt_56 (by decide) ?_
        refine r_istore (lv' := [(8, .int (0 : Int32)), (7, .int (0 : Int32)), (0, va_rf a0), (1, .int a1), (2, .int a2), (3, .int a3), (4, .int a4), (5, .int a5), (6, .int a6)]) (x := (0 : Int32)) dX10_felt_57 (by decide) rfl ?_
        refine r_iconst (v := (0 : Int32)) dX10_felt_59 (by decide) ?_
        refine r_istore (lv' := [(9, .int (0 : Int32)), (8, .int (0 : Int32)), (7, .int (0 : Int32)), (0, va_rf a0), (1, .int a1), (2, .int a2), (3, .int a3), (4, .int a4), (5, .int a5), (6, .int a6)]) (x := (0 : Int32)) dX10_felt_60 (by decide) rfl ?_
        obtain ⟨q40, hq40, h⟩ := xb h
        have Jq40 : Rn mX10_felt 190 [(6, .int a6), (7, .int q40.1), (8, .int q40.2)] [] s11 (some (.int rv)) st' 6 := by
          refine r_iload (x := q40.1) dX10_felt_190 rfl ?_
          obtain ⟨q42, hq42, h⟩ := xb h
          have Jq42 : Rn mX10_felt 212 [] [.int q42] s11 (some (.int rv)) st' 6 := by
            obtain ⟨rfl, rfl⟩ := Prod.mk.inj (Option.some.inj h)
            exact r_ireturn dX10_felt_212 .int rfl rfl
          refine r_if_ne (tgt := 200) dX10_felt_192 (by decide) (fun c => ?_) (fun c => ?_)
          · replace hq42 := (if_neg c).symm.trans hq42
            refine r_iload (x := q40.2) dX10_felt_200 rfl ?_
            refine r_i2l dX10_felt_202 ?_
            refine r_iload (x := q40.1) dX10_felt_203 rfl ?_
            refine r_i2l dX10_felt_205 ?_
            refine r_iload (x := a6) dX10_felt_206 rfl ?_
            obtain ⟨v41, hv41, hq42⟩ := xb hq42
            refine z_callS (as := [.long q40.2.toInt64, .long q40.1.toInt64, .int a6]) (r1 := (some (.long v41))) (stk := []) (stk2 := [.long v41]) (st1 := s11) (d' := 2) dX10_felt_208 xl_X10_251 (by decide) (Nat.le_trans xs0 (by decide)) rfl rfl (S_X10_share n s11 q40.2.toInt64 q40.1.toInt64 a6 v41 hv41) ?_
            refine r_l2i dX10_felt_211 ?_
            obtain rfl := Option.some.inj hq42
            exact x_sub [] rfl Jq42
          · replace hq42 := (if_pos c).symm.trans hq42
            refine r_ldc (v := (-1000000 : Int32)) dX10_felt_195 xk_X10_247 ?_
            refine r_goto (tgt := 212) dX10_felt_197 (by decide) ?_
            obtain rfl := Option.some.inj hq42
            exact x_sub [] rfl Jq42
        exact x_sub [3, 7, 9, 2, 1, 0] rfl (R_X10_felt_L62 n n s11 a0 a4 a6 (0 : Int32) (0 : Int32) (0 : Int32) q40 hq40 Jq40)
      · replace h := (if_neg c).symm.trans h
        refine r_ldc (v := (-1000000 : Int32)) dX10_felt_46 xk_X10_247 ?_
        obtain ⟨rfl, rfl⟩ := Prod.mk.inj (Option.some.inj h)
        exact r_ireturn dX10_felt_48 .int rfl rfl
theorem S_X10_felt (n : Nat) (st : xS) (a0 : Option Nat) (a1 : Int32) (a2 : Int32) (a3 : Int32) (a4 : Int32) (a5 : Int32) (a6 : Int32) (rv : Int32) (st' : xS) (h : F_X10_felt n st a0 a1 a2 a3 a4 a5 a6 = some (rv, st')) : Ct mX10_felt [va_rf a0, .int a1, .int a2, .int a3, .int a4, .int a5, .int a6] st (some (.int rv)) st' 6 := by
  refine Ct.of (by decide) (by simp only [lgL_R, lgL_I, lgL_L, lgL_0]; decide) ?_
  try simp only [lvA_R]
  exact R_X10_felt n st a0 a1 a2 a3 a4 a5 a6 rv st' h
theorem R_X10_rule (n : Nat) (st : xS) (a0 : Option Nat) (a1 : Int32) (a2 : Int32) (a3 : Int32) (a4 : Int32) (rv : Int64) (st' : xS) (h : F_X10_rule n st a0 a1 a2 a3 a4 = some (rv, st')) : Rn mX10_rule 0 [(0, va_rf a0), (1, .int a1), (2, .int a2), (3, .int a3), (4, .int a4)] [] st (some (.long rv)) st' 6 := by
  unfold F_X10_rule at h
  refine x_aload_n (o := a0) dX10_rule_0 rfl ?_
  obtain ⟨v1, hv1, h⟩ := xb h
  refine x_getR (o := a0) dX10_rule_1 xf_X10_30 hv1 ?_
  refine x_aload_n (o := a0) dX10_rule_4 rfl ?_
  obtain ⟨v2, hv2, h⟩ := xb h
  refine x_getR (o := a0) dX10_rule_5 xf_X10_10 hv2 ?_
  refine r_iload_n (x := a1) dX10_rule_8 rfl ?_
  refine r_iload_n (x := a3) dX10_rule_9 rfl ?_
  refine r_iload (x := a4) dX10_rule_10 rfl ?_
  obtain ⟨q4, hq4, h⟩ := xb h
  obtain ⟨p3, hp3, h⟩ := xb h
  refine z_callV (as := [va_rf v2, .int a1, .int a3, .int a4]) (o := v1) (r1 := (some (.int p3.1))) (stk := []) (stk2 := [.int p3.1]) (st1 := p3.2) (d' := 2) dX10_rule_12 xl_X10_145 hq4 (by decide) (Nat.le_trans xs0 (by decide)) rfl rfl (S_X5_bring_ n st v1 v2 a1 a3 a4 p3.1 p3.2 hp3) ?_
  refine r_if_ne (tgt := 22) dX10_rule_15 (by decide) (fun c => ?_) (fun c => ?_)
  · replace h := (if_neg c).symm.trans h
    refine x_aload_n (o := a0) dX10_rule_22 rfl ?_
    obtain ⟨v5, hv5, h⟩ := xb h
    refine x_getR (o := a0) dX10_rule_23 xf_X10_30 hv5 ?_
    obtain ⟨q7, hq7, h⟩ := xb h
    obtain ⟨p6, hp6, h⟩ := xb h
    refine z_callV (as := []) (o := v5) (r1 := (some (.long p6.1))) (stk := []) (stk2 := [.long p6.1]) (st1 := p6.2) (d' := 5) dX10_rule_26 xl_X10_357 hq7 (by decide) (Nat.le_trans xs0 (by decide)) rfl rfl (S_X5_hopes n p3.2 v5  p6.1 p6.2 hp6) ?_
    refine r_lstore (lv' := [(5, .long p6.1), (0, va_rf a0), (1, .int a1), (2, .int a2), (3, .int a3), (4, .int a4)]) (x := p6.1) dX10_rule_29 (by decide) rfl ?_
    refine x_aload_n (o := a0) dX10_rule_31 rfl ?_
    obtain ⟨v8, hv8, h⟩ := xb h
    refine x_getR (o := a0) dX10_rule_32 xf_X10_30 hv8 ?_
    refine x_aload_n (o := a0) dX10_rule_35 rfl ?_
    obtain ⟨v9, hv9, h⟩ := xb h
    refine x_getR (o := a0) dX10_rule_36 xf_X10_10 hv9 ?_
    refine r_iload_n (x := a1) dX10_rule_39 rfl ?_
    refine r_iload_n (x := a2) dX10_rule_40 rfl ?_
    refine r_iload (x := a4) dX10_rule_41 rfl ?_
    obtain ⟨q11, hq11, h⟩ := xb h
    obtain ⟨p10, hp10, h⟩ := xb h
    refine z_callV (as := [va_rf v9, .int a1, .int a2, .int a4]) (o := v8) (r1 := (some (.int p10.1))) (stk := []) (stk2 := [.int p10.1]) (st1 := p10.2) (d' := 2) dX10_rule_43 xl_X10_145 hq11 (by decide) (Nat.le_trans xs0 (by decide)) rfl rfl (S_X5_bring_ n p6.2 v8 v9 a1 a2 a4 p10.1 p10.2 hp10) ?_
    obtain ⟨q15, hq15, h⟩ := xb h
    have Jq15 : Rn mX10_rule 65 [] [.long q15.1] q15.2 (some (.long rv)) st' 6 := by
      obtain ⟨rfl, rfl⟩ := Prod.mk.inj (Option.some.inj h)
      exact r_lreturn dX10_rule_65 rfl
    refine r_if_eq (tgt := 62) dX10_rule_46 (by decide) (fun c => ?_) (fun c => ?_)
    · replace hq15 := (if_pos c).symm.trans hq15
      refine r_ldc2 (v := (-9223372036854775808 : Int64)) dX10_rule_62 xk_X10_355 ?_
      obtain rfl := Option.some.inj hq15
      exact x_sub [] rfl Jq15
    · replace hq15 := (if_neg c).symm.trans hq15
      refine x_aload_n (o := a0) dX10_rule_49 rfl ?_
      obtain ⟨v12, hv12, hq15⟩ := xb hq15
      refine x_getR (o := a0) dX10_rule_50 xf_X10_30 hv12 ?_
      obtain ⟨q14, hq14, hq15⟩ := xb hq15
      obtain ⟨p13, hp13, hq15⟩ := xb hq15
      refine z_callV (as := []) (o := v12) (r1 := (some (.long p13.1))) (stk := []) (stk2 := [.long p13.1]) (st1 := p13.2) (d' := 5) dX10_rule_53 xl_X10_357 hq14 (by decide) (Nat.le_trans xs0 (by decide)) rfl rfl (S_X5_hopes n p10.2 v12  p13.1 p13.2 hp13) ?_
      refine r_lload (x := p6.1) dX10_rule_56 rfl ?_
      refine r_lsub dX10_rule_58 ?_
      refine r_goto (tgt := 65) dX10_rule_59 (by decide) ?_
      obtain rfl := Option.some.inj hq15
      exact x_sub [] rfl Jq15
  · replace h := (if_pos c).symm.trans h
    refine r_ldc2 (v := (-9223372036854775808 : Int64)) dX10_rule_18 xk_X10_355 ?_
    obtain ⟨rfl, rfl⟩ := Prod.mk.inj (Option.some.inj h)
    exact r_lreturn dX10_rule_21 rfl
theorem S_X10_rule (n : Nat) (st : xS) (a0 : Option Nat) (a1 : Int32) (a2 : Int32) (a3 : Int32) (a4 : Int32) (rv : Int64) (st' : xS) (h : F_X10_rule n st a0 a1 a2 a3 a4 = some (rv, st')) : Ct mX10_rule [va_rf a0, .int a1, .int a2, .int a3, .int a4] st (some (.long rv)) st' 6 := by
  refine Ct.of (by decide) (by simp only [lgL_R, lgL_I, lgL_L, lgL_0]; decide) ?_
  try simp only [lvA_R]
  exact R_X10_rule n st a0 a1 a2 a3 a4 rv st' h
theorem R_X10_less_L35 (n : Nat) {r : Option Value} {st' : xS} : ∀ (k : Nat) (st : xS) (a0 : Option Nat) (a4 : Int32) (a5 : Int64) (a7 : Int32) (q : (Int64 × xS)), F_X10_less_L35 n k st a0 a4 a5 a7 = some q → Rn mX10_less 102 [(5, .long q.1)] [] q.2 r st' 5 → Rn mX10_less 35 [(0, va_rf a0), (4, .int a4), (5, .long a5), (7, .int a7)] [] st r st' 5 := by
  intro k
  induction k with
  | zero => intro st a0 a4 a5 a7 q h; cases h
  | succ k ih =>
    intro st a0 a4 a5 a7 q h J
    unfold F_X10_less_L35 at h
    refine r_iload (x := a7) dX10_less_35 rfl ?_
    refine x_aload_n (o := a0) dX10_less_37 rfl ?_
    obtain ⟨v6, hv6, h⟩ := xb h
    refine x_getR (o := a0) dX10_less_38 xf_X10_30 hv6 ?_
    obtain ⟨v7, hv7, h⟩ := xb h
    refine x_getR (o := v6) dX10_less_41 xf_X10_148 hv7 ?_
    obtain ⟨v8, hv8, h⟩ := xb h
    refine x_getI (o := v7) dX10_less_44 xf_X10_132 hv8 ?_
    refine r_icmp_ge (tgt := 102) dX10_less_47 (by decide) (fun c => ?_) (fun c => ?_)
    · replace h := (if_pos c).symm.trans h
      obtain rfl := Option.some.inj h
      exact x_sub [2] rfl J
    · replace h := (if_neg c).symm.trans h
      refine x_aload_n (o := a0) dX10_less_50 rfl ?_
      obtain ⟨v9, hv9, h⟩ := xb h
      refine x_getR (o := a0) dX10_less_51 xf_X10_30 hv9 ?_
      refine r_iload (x := a7) dX10_less_54 rfl ?_
      obtain ⟨q11, hq11, h⟩ := xb h
      obtain ⟨s10, hs10, h⟩ := xb h
      refine z_callV (as := [.int a7]) (o := v9) (r1 := none) (stk := []) (stk2 := []) (st1 := s10) (d' := 4) dX10_less_56 xl_X10_152 hq11 (by decide) (Nat.le_trans xs0 (by decide)) rfl rfl (S_X5_weigh n st v9 a7 s10 hs10) ?_
      refine x_aload_n (o := a0) dX10_less_59 rfl ?_
      obtain ⟨v12, hv12, h⟩ := xb h
      refine x_getR (o := a0) dX10_less_60 xf_X10_30 hv12 ?_
      refine r_iconst (v := (3 : Int32)) dX10_less_63 (by decide) ?_
      obtain ⟨q14, hq14, h⟩ := xb h
      obtain ⟨v13, hv13, h⟩ := xb h
      refine z_callV (as := [.int (3 : Int32)]) (o := v12) (r1 := (some (.long v13))) (stk := []) (stk2 := [.long v13]) (st1 := s10) (d' := 1) dX10_less_64 xl_X10_175 hq14 (by decide) (Nat.le_trans xs0 (by decide)) rfl rfl (S_X5_outlook n s10 v12 (3 : Int32) v13 hv13) ?_
      refine r_lstore (lv' := [(8, .long v13), (0, va_rf a0), (4, .int a4), (5, .long a5), (7, .int a7)]) (x := v13) dX10_less_67 (by decide) rfl ?_
      refine x_aload_n (o := a0) dX10_less_69 rfl ?_
      obtain ⟨v15, hv15, h⟩ := xb h
      refine x_getR (o := a0) dX10_less_70 xf_X10_30 hv15 ?_
      refine r_iload (x := a7) dX10_less_73 rfl ?_
      refine r_iload (x := a4) dX10_less_75 rfl ?_
      obtain ⟨q17, hq17, h⟩ := xb h
      obtain ⟨s16, hs16, h⟩ := xb h
      refine z_callV (as := [.int a7, .int a4]) (o := v15) (r1 := none) (stk := []) (stk2 := []) (st1 := s16) (d' := 4) dX10_less_77 xl_X10_360 hq17 (by decide) (Nat.le_trans xs0 (by decide)) rfl rfl (S_X5_drop n s10 v15 a7 a4 s16 hs16) ?_
      refine r_lload (x := a5) dX10_less_80 rfl ?_
      refine x_aload_n (o := a0) dX10_less_82 rfl ?_
      obtain ⟨v18, hv18, h⟩ := xb h
      refine x_getR (o := a0) dX10_less_83 xf_X10_30 hv18 ?_
      refine r_iconst (v := (3 : Int32)) dX10_less_86 (by decide) ?_
      obtain ⟨q20, hq20, h⟩ := xb h
      obtain ⟨v19, hv19, h⟩ := xb h
      refine z_callV (as := [.int (3 : Int32)]) (o := v18) (r1 := (some (.long v19))) (stk := [.long a5]) (stk2 := [.long v19, .long a5]) (st1 := s16) (d' := 1) dX10_less_87 xl_X10_175 hq20 (by decide) (Nat.le_trans (xsJ xs0) (by decide)) rfl rfl (S_X5_outlook n s16 v18 (3 : Int32) v19 hv19) ?_
      refine r_lload (x := v13) dX10_less_90 rfl ?_
      refine r_lsub dX10_less_92 ?_
      refine r_ladd dX10_less_93 ?_
      obtain ⟨v21, hv21, h⟩ := xb h
      refine x_eqL (Option.some.inj hv21) ?_
      refine r_lstore (lv' := [(5, .long v21), (8, .long v13), (0, va_rf a0), (4, .int a4), (7, .int a7)]) (x := v21) dX10_less_94 (by decide) rfl ?_
      obtain ⟨v22, hv22, h⟩ := xb h
      refine x_iinc (c := (1 : Int32)) (lv' := [(7, .int v22), (5, .long v21), (8, .long v13), (0, va_rf a0), (4, .int a4)]) (x := a7) (v := v22) dX10_less_96 rfl (by decide) (Option.some.inj hv22) (by decide) rfl ?_
      refine r_goto (tgt := 35) dX10_less_99 (by decide) ?_
      exact x_sub [3, 4, 1, 0] rfl (ih s16 a0 a4 v21 v22 q h J)
theorem R_X10_less (n : Nat) (st : xS) (a0 : Option Nat) (a1 : Int32) (a2 : Int32) (a3 : Int32) (a4 : Int32) (rv : Int64) (st' : xS) (h : F_X10_less n st a0 a1 a2 a3 a4 = some (rv, st')) : Rn mX10_less 0 [(0, va_rf a0), (1, .int a1), (2, .int a2), (3, .int a3), (4, .int a4)] [] st (some (.long rv)) st' 5 := by
  unfold F_X10_less at h
  refine r_iload (x := a4) dX10_less_0 rfl ?_
  obtain ⟨v1, hv1, h⟩ := xb h
  refine z_callS (as := [.int a4]) (r1 := (some (.int v1))) (stk := []) (stk2 := [.int v1]) (st1 := st) (d' := 1) dX10_less_2 xl_X10_167 (by decide) (Nat.le_trans xs0 (by decide)) rfl rfl (S_X10_isPart n st a4 v1 hv1) ?_
  refine r_if_eq (tgt := 25) dX10_less_5 (by decide) (fun c => ?_) (fun c => ?_)
  · replace h := (if_pos c).symm.trans h
    refine r_ldc2 (v := (-9223372036854775808 : Int64)) dX10_less_25 xk_X10_355 ?_
    obtain ⟨rfl, rfl⟩ := Prod.mk.inj (Option.some.inj h)
    exact r_lreturn dX10_less_28 rfl
  · replace h := (if_neg c).symm.trans h
    refine x_aload_n (o := a0) dX10_less_8 rfl ?_
    obtain ⟨v2, hv2, h⟩ := xb h
    refine x_getR (o := a0) dX10_less_9 xf_X10_30 hv2 ?_
    refine x_aload_n (o := a0) dX10_less_12 rfl ?_
    obtain ⟨v3, hv3, h⟩ := xb h
    refine x_getR (o := a0) dX10_less_13 xf_X10_10 hv3 ?_
    refine r_iload_n (x := a1) dX10_less_16 rfl ?_
    refine r_iload_n (x := a2) dX10_less_17 rfl ?_
    refine r_iload_n (x := a3) dX10_less_18 rfl ?_
    obtain ⟨q5, hq5, h⟩ := xb h
    obtain ⟨p4, hp4, h⟩ := xb h
    refine z_callV (as := [va_rf v3, .int a1, .int a2, .int a3]) (o := v2) (r1 := (some (.int p4.1))) (stk := []) (stk2 := [.int p4.1]) (st1 := p4.2) (d' := 2) dX10_less_19 xl_X10_145 hq5 (by decide) (Nat.le_trans xs0 (by decide)) rfl rfl (S_X5_bring_ n st v2 v3 a1 a2 a3 p4.1 p4.2 hp4) ?_
    refine r_if_ne (tgt := 29) dX10_less_22 (by decide) (fun c => ?_) (fun c => ?_)
    · replace h := (if_neg c).symm.trans h
      refine r_lconst (v := (0 : Int64)) dX10_less_29 (by decide) ?_
      refine r_lstore (lv' := [(5, .long (0 : Int64)), (0, va_rf a0), (1, .int a1), (2, .int a2), (3, .int a3), (4, .int a4)]) (x := (0 : Int64)) dX10_less_30 (by decide) rfl ?_
      refine r_iconst (v := (0 : Int32)) dX10_less_32 (by decide) ?_
      refine r_istore (lv' := [(7, .int (0 : Int32)), (5, .long (0 : Int64)), (0, va_rf a0), (1, .int a1), (2, .int a2), (3, .int a3), (4, .int a4)]) (x := (0 : Int32)) dX10_less_33 (by decide) rfl ?_
      obtain ⟨q23, hq23, h⟩ := xb h
      have Jq23 : Rn mX10_less 102 [(5, .long q23.1)] [] q23.2 (some (.long rv)) st' 5 := by
        refine r_lload (x := q23.1) dX10_less_102 rfl ?_
        obtain ⟨rfl, rfl⟩ := Prod.mk.inj (Option.some.inj h)
        exact r_lreturn dX10_less_104 rfl
      exact x_sub [2, 6, 1, 0] rfl (R_X10_less_L35 n n p4.2 a0 a4 (0 : Int64) (0 : Int32) q23 hq23 Jq23)
    · replace h := (if_pos c).symm.trans h
      refine r_ldc2 (v := (-9223372036854775808 : Int64)) dX10_less_25 xk_X10_355 ?_
      obtain ⟨rfl, rfl⟩ := Prod.mk.inj (Option.some.inj h)
      exact r_lreturn dX10_less_28 rfl
theorem S_X10_less (n : Nat) (st : xS) (a0 : Option Nat) (a1 : Int32) (a2 : Int32) (a3 : Int32) (a4 : Int32) (rv : Int64) (st' : xS) (h : F_X10_less n st a0 a1 a2 a3 a4 = some (rv, st')) : Ct mX10_less [va_rf a0, .int a1, .int a2, .int a3, .int a4] st (some (.long rv)) st' 5 := by
  refine Ct.of (by decide) (by simp only [lgL_R, lgL_I, lgL_L, lgL_0]; decide) ?_
  try simp only [lvA_R]
  exact R_X10_less n st a0 a1 a2 a3 a4 rv st' h
theorem R_X10_gain (n : Nat) (st : xS) (a0 : Int64) (a2 : Int32) (rv : Int64) (h : F_X10_gain n st a0 a2 = some rv) : Rn mX10_gain 0 [(0, .long a0), (2, .int a2)] [] st (some (.long rv)) st 0 := by
  unfold F_X10_gain at h
  refine r_lload_n (x := a0) dX10_gain_0 rfl ?_
  refine r_iload_n (x := a2) dX10_gain_1 rfl ?_
  refine r_i2l dX10_gain_2 ?_
  refine r_lmul dX10_gain_3 ?_
  refine r_ldc2 (v := (100000000000000 : Int64)) dX10_gain_4 xk_X10_367 ?_
  refine r_lsub dX10_gain_7 ?_
  obtain rfl := Option.some.inj h
  exact r_lreturn dX10_gain_8 rfl
theorem S_X10_gain (n : Nat) (st : xS) (a0 : Int64) (a2 : Int32) (rv : Int64) (h : F_X10_gain n st a0 a2 = some rv) : Ct mX10_gain [.long a0, .int a2] st (some (.long rv)) st 0 := by
  refine Ct.of (by decide) (by simp only [lgL_R, lgL_I, lgL_L, lgL_0]; decide) ?_
  try simp only [lvA_R]
  exact R_X10_gain n st a0 a2 rv h
theorem R_X10_bet (n : Nat) (st : xS) (a0 : Option Nat) (a1 : Int32) (a2 : Int32) (a3 : Int32) (a4 : Int32) (a5 : Int32) (rv : Int64) (st' : xS) (h : F_X10_bet n st a0 a1 a2 a3 a4 a5 = some (rv, st')) : Rn mX10_bet 0 [(0, va_rf a0), (1, .int a1), (2, .int a2), (3, .int a3), (4, .int a4), (5, .int a5)] [] st (some (.long rv)) st' 5 := by
  unfold F_X10_bet at h
  refine r_iload (x := a5) dX10_bet_0 rfl ?_
  obtain ⟨v1, hv1, h⟩ := xb h
  refine z_callS (as := [.int a5]) (r1 := (some (.int v1))) (stk := []) (stk2 := [.int v1]) (st1 := st) (d' := 1) dX10_bet_2 xl_X10_312 (by decide) (Nat.le_trans xs0 (by decide)) rfl rfl (S_X10_isPrice n st a5 v1 hv1) ?_
  refine r_if_eq (tgt := 40) dX10_bet_5 (by decide) (fun c => ?_) (fun c => ?_)
  · replace h := (if_pos c).symm.trans h
    refine r_ldc2 (v := (-9223372036854775808 : Int64)) dX10_bet_40 xk_X10_355 ?_
    obtain ⟨rfl, rfl⟩ := Prod.mk.inj (Option.some.inj h)
    exact r_lreturn dX10_bet_43 rfl
  · replace h := (if_neg c).symm.trans h
    refine x_aload_n (o := a0) dX10_bet_8 rfl ?_
    obtain ⟨v2, hv2, h⟩ := xb h
    refine x_getR (o := a0) dX10_bet_9 xf_X10_30 hv2 ?_
    refine x_aload_n (o := a0) dX10_bet_12 rfl ?_
    obtain ⟨v3, hv3, h⟩ := xb h
    refine x_getR (o := a0) dX10_bet_13 xf_X10_10 hv3 ?_
    refine r_iload_n (x := a1) dX10_bet_16 rfl ?_
    refine r_iload_n (x := a2) dX10_bet_17 rfl ?_
    refine r_iload_n (x := a3) dX10_bet_18 rfl ?_
    obtain ⟨q5, hq5, h⟩ := xb h
    obtain ⟨p4, hp4, h⟩ := xb h
    refine z_callV (as := [va_rf v3, .int a1, .int a2, .int a3]) (o := v2) (r1 := (some (.int p4.1))) (stk := []) (stk2 := [.int p4.1]) (st1 := p4.2) (d' := 2) dX10_bet_19 xl_X10_145 hq5 (by decide) (Nat.le_trans xs0 (by decide)) rfl rfl (S_X5_bring_ n st v2 v3 a1 a2 a3 p4.1 p4.2 hp4) ?_
    refine r_if_eq (tgt := 40) dX10_bet_22 (by decide) (fun c => ?_) (fun c => ?_)
    · replace h := (if_pos c).symm.trans h
      refine r_ldc2 (v := (-9223372036854775808 : Int64)) dX10_bet_40 xk_X10_355 ?_
      obtain ⟨rfl, rfl⟩ := Prod.mk.inj (Option.some.inj h)
      exact r_lreturn dX10_bet_43 rfl
    · replace h := (if_neg c).symm.trans h
      refine x_aload_n (o := a0) dX10_bet_25 rfl ?_
      obtain ⟨v6, hv6, h⟩ := xb h
      refine x_getR (o := a0) dX10_bet_26 xf_X10_30 hv6 ?_
      obtain ⟨v7, hv7, h⟩ := xb h
      refine x_getR (o := v6) dX10_bet_29 xf_X10_148 hv7 ?_
      refine r_iload (x := a4) dX10_bet_32 rfl ?_
      obtain ⟨q9, hq9, h⟩ := xb h
      obtain ⟨v8, hv8, h⟩ := xb h
      refine z_callV (as := [.int a4]) (o := v7) (r1 := (some (.int v8))) (stk := []) (stk2 := [.int v8]) (st1 := p4.2) (d' := 0) dX10_bet_34 xl_X10_135 hq9 (by decide) (Nat.le_trans xs0 (by decide)) rfl rfl (S_X6_hasGame n p4.2 v7 a4 v8 hv8) ?_
      refine r_if_ne (tgt := 44) dX10_bet_37 (by decide) (fun c => ?_) (fun c => ?_)
      · replace h := (if_neg c).symm.trans h
        refine x_aload_n (o := a0) dX10_bet_44 rfl ?_
        obtain ⟨v10, hv10, h⟩ := xb h
        refine x_getR (o := a0) dX10_bet_45 xf_X10_30 hv10 ?_
        refine r_iload (x := a4) dX10_bet_48 rfl ?_
        obtain ⟨q12, hq12, h⟩ := xb h
        obtain ⟨s11, hs11, h⟩ := xb h
        refine z_callV (as := [.int a4]) (o := v10) (r1 := none) (stk := []) (stk2 := []) (st1 := s11) (d' := 4) dX10_bet_50 xl_X10_152 hq12 (by decide) (Nat.le_trans xs0 (by decide)) rfl rfl (S_X5_weigh n p4.2 v10 a4 s11 hs11) ?_
        refine x_aload_n (o := a0) dX10_bet_53 rfl ?_
        obtain ⟨v13, hv13, h⟩ := xb h
        refine x_getR (o := a0) dX10_bet_54 xf_X10_30 hv13 ?_
        refine r_iconst (v := (0 : Int32)) dX10_bet_57 (by decide) ?_
        obtain ⟨q15, hq15, h⟩ := xb h
        obtain ⟨v14, hv14, h⟩ := xb h
        refine z_callV (as := [.int (0 : Int32)]) (o := v13) (r1 := (some (.long v14))) (stk := []) (stk2 := [.long v14]) (st1 := s11) (d' := 1) dX10_bet_58 xl_X10_175 hq15 (by decide) (Nat.le_trans xs0 (by decide)) rfl rfl (S_X5_outlook n s11 v13 (0 : Int32) v14 hv14) ?_
        refine r_iload (x := a5) dX10_bet_61 rfl ?_
        obtain ⟨v16, hv16, h⟩ := xb h
        refine z_callS (as := [.long v14, .int a5]) (r1 := (some (.long v16))) (stk := []) (stk2 := [.long v16]) (st1 := s11) (d' := 0) dX10_bet_63 xl_X10_363 (by decide) (Nat.le_trans xs0 (by decide)) rfl rfl (S_X10_gain n s11 v14 a5 v16 hv16) ?_
        obtain ⟨rfl, rfl⟩ := Prod.mk.inj (Option.some.inj h)
        exact r_lreturn dX10_bet_66 rfl
      · replace h := (if_pos c).symm.trans h
        refine r_ldc2 (v := (-9223372036854775808 : Int64)) dX10_bet_40 xk_X10_355 ?_
        obtain ⟨rfl, rfl⟩ := Prod.mk.inj (Option.some.inj h)
        exact r_lreturn dX10_bet_43 rfl
theorem S_X10_bet (n : Nat) (st : xS) (a0 : Option Nat) (a1 : Int32) (a2 : Int32) (a3 : Int32) (a4 : Int32) (a5 : Int32) (rv : Int64) (st' : xS) (h : F_X10_bet n st a0 a1 a2 a3 a4 a5 = some (rv, st')) : Ct mX10_bet [va_rf a0, .int a1, .int a2, .int a3, .int a4, .int a5] st (some (.long rv)) st' 5 := by
  refine Ct.of (by decide) (by simp only [lgL_R, lgL_I, lgL_L, lgL_0]; decide) ?_
  try simp only [lvA_R]
  exact R_X10_bet n st a0 a1 a2 a3 a4 a5 rv st' h
theorem R_X10_best_L36 (n : Nat) {r : Option Value} {st' : xS} : ∀ (k : Nat) (st : xS) (a0 : Option Nat) (a4 : Int32) (a5 : Int64) (a7 : Int32) (a8 : Int32) (q : (Int32 × xS)), F_X10_best_L36 n k st a0 a4 a5 a7 a8 = some q → Rn mX10_best 97 [(7, .int q.1)] [] q.2 r st' 5 → Rn mX10_best 36 [(0, va_rf a0), (4, .int a4), (5, .long a5), (7, .int a7), (8, .int a8)] [] st r st' 5 := by
  intro k
  induction k with
  | zero => intro st a0 a4 a5 a7 a8 q h; cases h
  | succ k ih =>
    intro st a0 a4 a5 a7 a8 q h J
    unfold F_X10_best_L36 at h
    refine r_iload (x := a8) dX10_best_36 rfl ?_
    refine x_aload_n (o := a0) dX10_best_38 rfl ?_
    obtain ⟨v6, hv6, h⟩ := xb h
    refine x_getR (o := a0) dX10_best_39 xf_X10_30 hv6 ?_
    obtain ⟨v7, hv7, h⟩ := xb h
    refine x_getR (o := v6) dX10_best_42 xf_X10_148 hv7 ?_
    obtain ⟨v8, hv8, h⟩ := xb h
    refine x_getI (o := v7) dX10_best_45 xf_X10_132 hv8 ?_
    refine r_icmp_ge (tgt := 97) dX10_best_48 (by decide) (fun c => ?_) (fun c => ?_)
    · replace h := (if_pos c).symm.trans h
      obtain rfl := Option.some.inj h
      exact x_sub [3] rfl J
    · replace h := (if_neg c).symm.trans h
      refine x_aload_n (o := a0) dX10_best_51 rfl ?_
      obtain ⟨v9, hv9, h⟩ := xb h
      refine x_getR (o := a0) dX10_best_52 xf_X10_30 hv9 ?_
      refine r_iload (x := a8) dX10_best_55 rfl ?_
      obtain ⟨q11, hq11, h⟩ := xb h
      obtain ⟨s10, hs10, h⟩ := xb h
      refine z_callV (as := [.int a8]) (o := v9) (r1 := none) (stk := []) (stk2 := []) (st1 := s10) (d' := 4) dX10_best_57 xl_X10_152 hq11 (by decide) (Nat.le_trans xs0 (by decide)) rfl rfl (S_X5_weigh n st v9 a8 s10 hs10) ?_
      refine x_aload_n (o := a0) dX10_best_60 rfl ?_
      obtain ⟨v12, hv12, h⟩ := xb h
      refine x_getR (o := a0) dX10_best_61 xf_X10_30 hv12 ?_
      refine r_iconst (v := (0 : Int32)) dX10_best_64 (by decide) ?_
      obtain ⟨q14, hq14, h⟩ := xb h
      obtain ⟨v13, hv13, h⟩ := xb h
      refine z_callV (as := [.int (0 : Int32)]) (o := v12) (r1 := (some (.long v13))) (stk := []) (stk2 := [.long v13]) (st1 := s10) (d' := 1) dX10_best_65 xl_X10_175 hq14 (by decide) (Nat.le_trans xs0 (by decide)) rfl rfl (S_X5_outlook n s10 v12 (0 : Int32) v13 hv13) ?_
      refine r_iload (x := a4) dX10_best_68 rfl ?_
      obtain ⟨v15, hv15, h⟩ := xb h
      refine z_callS (as := [.long v13, .int a4]) (r1 := (some (.long v15))) (stk := []) (stk2 := [.long v15]) (st1 := s10) (d' := 0) dX10_best_70 xl_X10_363 (by decide) (Nat.le_trans xs0 (by decide)) rfl rfl (S_X10_gain n s10 v13 a4 v15 hv15) ?_
      refine r_lstore (lv' := [(9, .long v15), (0, va_rf a0), (4, .int a4), (5, .long a5), (7, .int a7), (8, .int a8)]) (x := v15) dX10_best_73 (by decide) rfl ?_
      refine r_lload (x := v15) dX10_best_75 rfl ?_
      refine r_lload (x := a5) dX10_best_77 rfl ?_
      refine r_lcmp dX10_best_79 ?_
      obtain ⟨q16, hq16, h⟩ := xb h
      have Jq16 : Rn mX10_best 91 [(0, va_rf a0), (4, .int a4), (5, .long q16.1), (7, .int q16.2), (8, .int a8)] [] s10 r st' 5 := by
        obtain ⟨v17, hv17, h⟩ := xb h
        refine x_iinc (c := (1 : Int32)) (lv' := [(8, .int v17), (0, va_rf a0), (4, .int a4), (5, .long q16.1), (7, .int q16.2)]) (x := a8) (v := v17) dX10_best_91 rfl (by decide) (Option.some.inj hv17) (by decide) rfl ?_
        refine r_goto (tgt := 36) dX10_best_94 (by decide) ?_
        exact x_sub [1, 2, 3, 4, 0] rfl (ih s10 a0 a4 q16.1 q16.2 v17 q h J)
      refine r_if_le (tgt := 91) dX10_best_80 (by decide) (fun c => ?_) (fun c => ?_)
      · replace hq16 := (if_pos c).symm.trans hq16
        obtain rfl := Option.some.inj hq16
        exact x_sub [1, 2, 3, 4, 5] rfl Jq16
      · replace hq16 := (if_neg c).symm.trans hq16
        refine r_lload (x := v15) dX10_best_83 rfl ?_
        refine r_lstore (lv' := [(5, .long v15), (9, .long v15), (0, va_rf a0), (4, .int a4), (7, .int a7), (8, .int a8)]) (x := v15) dX10_best_85 (by decide) rfl ?_
        refine r_iload (x := a8) dX10_best_87 rfl ?_
        refine r_istore (lv' := [(7, .int a8), (5, .long v15), (9, .long v15), (0, va_rf a0), (4, .int a4), (8, .int a8)]) (x := a8) dX10_best_89 (by decide) rfl ?_
        obtain rfl := Option.some.inj hq16
        exact x_sub [3, 4, 1, 0, 5] rfl Jq16
theorem R_X10_best (n : Nat) (st : xS) (a0 : Option Nat) (a1 : Int32) (a2 : Int32) (a3 : Int32) (a4 : Int32) (rv : Int32) (st' : xS) (h : F_X10_best n st a0 a1 a2 a3 a4 = some (rv, st')) : Rn mX10_best 0 [(0, va_rf a0), (1, .int a1), (2, .int a2), (3, .int a3), (4, .int a4)] [] st (some (.int rv)) st' 5 := by
  unfold F_X10_best at h
  refine r_iload (x := a4) dX10_best_0 rfl ?_
  obtain ⟨v1, hv1, h⟩ := xb h
  refine z_callS (as := [.int a4]) (r1 := (some (.int v1))) (stk := []) (stk2 := [.int v1]) (st1 := st) (d' := 1) dX10_best_2 xl_X10_312 (by decide) (Nat.le_trans xs0 (by decide)) rfl rfl (S_X10_isPrice n st a4 v1 hv1) ?_
  refine r_if_eq (tgt := 25) dX10_best_5 (by decide) (fun c => ?_) (fun c => ?_)
  · replace h := (if_pos c).symm.trans h
    refine r_iconst (v := (-1 : Int32)) dX10_best_25 (by decide) ?_
    obtain ⟨rfl, rfl⟩ := Prod.mk.inj (Option.some.inj h)
    exact r_ireturn dX10_best_26 .int rfl rfl
  · replace h := (if_neg c).symm.trans h
    refine x_aload_n (o := a0) dX10_best_8 rfl ?_
    obtain ⟨v2, hv2, h⟩ := xb h
    refine x_getR (o := a0) dX10_best_9 xf_X10_30 hv2 ?_
    refine x_aload_n (o := a0) dX10_best_12 rfl ?_
    obtain ⟨v3, hv3, h⟩ := xb h
    refine x_getR (o := a0) dX10_best_13 xf_X10_10 hv3 ?_
    refine r_iload_n (x := a1) dX10_best_16 rfl ?_
    refine r_iload_n (x := a2) dX10_best_17 rfl ?_
    refine r_iload_n (x := a3) dX10_best_18 rfl ?_
    obtain ⟨q5, hq5, h⟩ := xb h
    obtain ⟨p4, hp4, h⟩ := xb h
    refine z_callV (as := [va_rf v3, .int a1, .int a2, .int a3]) (o := v2) (r1 := (some (.int p4.1))) (stk := []) (stk2 := [.int p4.1]) (st1 := p4.2) (d' := 2) dX10_best_19 xl_X10_145 hq5 (by decide) (Nat.le_trans xs0 (by decide)) rfl rfl (S_X5_bring_ n st v2 v3 a1 a2 a3 p4.1 p4.2 hp4) ?_
    refine r_if_ne (tgt := 27) dX10_best_22 (by decide) (fun c => ?_) (fun c => ?_)
    · replace h := (if_neg c).symm.trans h
      refine r_lconst (v := (0 : Int64)) dX10_best_27 (by decide) ?_
      refine r_lstore (lv' := [(5, .long (0 : Int64)), (0, va_rf a0), (1, .int a1), (2, .int a2), (3, .int a3), (4, .int a4)]) (x := (0 : Int64)) dX10_best_28 (by decide) rfl ?_
      refine r_iconst (v := (-1 : Int32)) dX10_best_30 (by decide) ?_
      refine r_istore (lv' := [(7, .int (-1 : Int32)), (5, .long (0 : Int64)), (0, va_rf a0), (1, .int a1), (2, .int a2), (3, .int a3), (4, .int a4)]) (x := (-1 : Int32)) dX10_best_31 (by decide) rfl ?_
      refine r_iconst (v := (0 : Int32)) dX10_best_33 (by decide) ?_
      refine r_istore (lv' := [(8, .int (0 : Int32)), (7, .int (-1 : Int32)), (5, .long (0 : Int64)), (0, va_rf a0), (1, .int a1), (2, .int a2), (3, .int a3), (4, .int a4)]) (x := (0 : Int32)) dX10_best_34 (by decide) rfl ?_
      obtain ⟨q18, hq18, h⟩ := xb h
      have Jq18 : Rn mX10_best 97 [(7, .int q18.1)] [] q18.2 (some (.int rv)) st' 5 := by
        refine r_iload (x := q18.1) dX10_best_97 rfl ?_
        obtain ⟨rfl, rfl⟩ := Prod.mk.inj (Option.some.inj h)
        exact r_ireturn dX10_best_99 .int rfl rfl
      exact x_sub [3, 7, 2, 1, 0] rfl (R_X10_best_L36 n n p4.2 a0 a4 (0 : Int64) (-1 : Int32) (0 : Int32) q18 hq18 Jq18)
    · replace h := (if_pos c).symm.trans h
      refine r_iconst (v := (-1 : Int32)) dX10_best_25 (by decide) ?_
      obtain ⟨rfl, rfl⟩ := Prod.mk.inj (Option.some.inj h)
      exact r_ireturn dX10_best_26 .int rfl rfl
theorem S_X10_best (n : Nat) (st : xS) (a0 : Option Nat) (a1 : Int32) (a2 : Int32) (a3 : Int32) (a4 : Int32) (rv : Int32) (st' : xS) (h : F_X10_best n st a0 a1 a2 a3 a4 = some (rv, st')) : Ct mX10_best [va_rf a0, .int a1, .int a2, .int a3, .int a4] st (some (.int rv)) st' 5 := by
  refine Ct.of (by decide) (by simp only [lgL_R, lgL_I, lgL_L, lgL_0]; decide) ?_
  try simp only [lvA_R]
  exact R_X10_best n st a0 a1 a2 a3 a4 rv st' h
theorem R_X10_fair_L57 (n : Nat) (rv : Int32) (st' : xS) : ∀ (k : Nat) (st : xS) (a5 : Int64) (a7 : Int32), F_X10_fair_L57 n k st a5 a7 = some (rv, st') → Rn mX10_fair 57 [(5, .long a5), (7, .int a7)] [] st (some (.int rv)) st' 5 := by
  intro k
  induction k with
  | zero => intro st a5 a7 h; cases h
  | succ k ih =>
    intro st a5 a7 h
    unfold F_X10_fair_L57 at h
    refine r_iload (x := a7) dX10_fair_57 rfl ?_
    refine r_sipush (v := (999 : Int32)) dX10_fair_59 (by decide) ?_
    refine r_icmp_gt (tgt := 86) dX10_fair_62 (by decide) (fun c => ?_) (fun c => ?_)
    · replace h := (if_pos c).symm.trans h
      refine r_iconst (v := (-1 : Int32)) dX10_fair_86 (by decide) ?_
      obtain ⟨rfl, rfl⟩ := Prod.mk.inj (Option.some.inj h)
      exact r_ireturn dX10_fair_87 .int rfl rfl
    · replace h := (if_neg c).symm.trans h
      refine r_lload (x := a5) dX10_fair_65 rfl ?_
      refine r_iload (x := a7) dX10_fair_67 rfl ?_
      obtain ⟨v15, hv15, h⟩ := xb h
      refine z_callS (as := [.long a5, .int a7]) (r1 := (some (.long v15))) (stk := []) (stk2 := [.long v15]) (st1 := st) (d' := 0) dX10_fair_69 xl_X10_363 (by decide) (Nat.le_trans xs0 (by decide)) rfl rfl (S_X10_gain n st a5 a7 v15 hv15) ?_
      refine r_lconst (v := (0 : Int64)) dX10_fair_72 (by decide) ?_
      refine r_lcmp dX10_fair_73 ?_
      refine r_if_lt (tgt := 80) dX10_fair_74 (by decide) (fun c => ?_) (fun c => ?_)
      · replace h := (if_pos c).symm.trans h
        obtain ⟨v16, hv16, h⟩ := xb h
        refine x_iinc (c := (1 : Int32)) (lv' := [(7, .int v16), (5, .long a5)]) (x := a7) (v := v16) dX10_fair_80 rfl (by decide) (Option.some.inj hv16) (by decide) rfl ?_
        refine r_goto (tgt := 57) dX10_fair_83 (by decide) ?_
        exact x_sub [1, 0] rfl (ih st a5 v16 h)
      · replace h := (if_neg c).symm.trans h
        refine r_iload (x := a7) dX10_fair_77 rfl ?_
        obtain ⟨rfl, rfl⟩ := Prod.mk.inj (Option.some.inj h)
        exact r_ireturn dX10_fair_79 .int rfl rfl
theorem R_X10_fair (n : Nat) (st : xS) (a0 : Option Nat) (a1 : Int32) (a2 : Int32) (a3 : Int32) (a4 : Int32) (rv : Int32) (st' : xS) (h : F_X10_fair n st a0 a1 a2 a3 a4 = some (rv, st')) : Rn mX10_fair 0 [(0, va_rf a0), (1, .int a1), (2, .int a2), (3, .int a3), (4, .int a4)] [] st (some (.int rv)) st' 5 := by
  unfold F_X10_fair at h
  refine x_aload_n (o := a0) dX10_fair_0 rfl ?_
  obtain ⟨v1, hv1, h⟩ := xb h
  refine x_getR (o := a0) dX10_fair_1 xf_X10_30 hv1 ?_
  refine x_aload_n (o := a0) dX10_fair_4 rfl ?_
  obtain ⟨v2, hv2, h⟩ := xb h
  refine x_getR (o := a0) dX10_fair_5 xf_X10_10 hv2 ?_
  refine r_iload_n (x := a1) dX10_fair_8 rfl ?_
  refine r_iload_n (x := a2) dX10_fair_9 rfl ?_
  refine r_iload_n (x := a3) dX10_fair_10 rfl ?_
  obtain ⟨q4, hq4, h⟩ := xb h
  obtain ⟨p3, hp3, h⟩ := xb h
  refine z_callV (as := [va_rf v2, .int a1, .int a2, .int a3]) (o := v1) (r1 := (some (.int p3.1))) (stk := []) (stk2 := [.int p3.1]) (st1 := p3.2) (d' := 2) dX10_fair_11 xl_X10_145 hq4 (by decide) (Nat.le_trans xs0 (by decide)) rfl rfl (S_X5_bring_ n st v1 v2 a1 a2 a3 p3.1 p3.2 hp3) ?_
  refine r_if_eq (tgt := 32) dX10_fair_14 (by decide) (fun c => ?_) (fun c => ?_)
  · replace h := (if_pos c).symm.trans h
    refine r_iconst (v := (-1 : Int32)) dX10_fair_32 (by decide) ?_
    obtain ⟨rfl, rfl⟩ := Prod.mk.inj (Option.some.inj h)
    exact r_ireturn dX10_fair_33 .int rfl rfl
  · replace h := (if_neg c).symm.trans h
    refine x_aload_n (o := a0) dX10_fair_17 rfl ?_
    obtain ⟨v5, hv5, h⟩ := xb h
    refine x_getR (o := a0) dX10_fair_18 xf_X10_30 hv5 ?_
    obtain ⟨v6, hv6, h⟩ := xb h
    refine x_getR (o := v5) dX10_fair_21 xf_X10_148 hv6 ?_
    refine r_iload (x := a4) dX10_fair_24 rfl ?_
    obtain ⟨q8, hq8, h⟩ := xb h
    obtain ⟨v7, hv7, h⟩ := xb h
    refine z_callV (as := [.int a4]) (o := v6) (r1 := (some (.int v7))) (stk := []) (stk2 := [.int v7]) (st1 := p3.2) (d' := 0) dX10_fair_26 xl_X10_135 hq8 (by decide) (Nat.le_trans xs0 (by decide)) rfl rfl (S_X6_hasGame n p3.2 v6 a4 v7 hv7) ?_
    refine r_if_ne (tgt := 34) dX10_fair_29 (by decide) (fun c => ?_) (fun c => ?_)
    · replace h := (if_neg c).symm.trans h
      refine x_aload_n (o := a0) dX10_fair_34 rfl ?_
      obtain ⟨v9, hv9, h⟩ := xb h
      refine x_getR (o := a0) dX10_fair_35 xf_X10_30 hv9 ?_
      refine r_iload (x := a4) dX10_fair_38 rfl ?_
      obtain ⟨q11, hq11, h⟩ := xb h
      obtain ⟨s10, hs10, h⟩ := xb h
      refine z_callV (as := [.int a4]) (o := v9) (r1 := none) (stk := []) (stk2 := []) (st1 := s10) (d' := 4) dX10_fair_40 xl_X10_152 hq11 (by decide) (Nat.le_trans xs0 (by decide)) rfl rfl (S_X5_weigh n p3.2 v9 a4 s10 hs10) ?_
      refine x_aload_n (o := a0) dX10_fair_43 rfl ?_
      obtain ⟨v12, hv12, h⟩ := xb h
      refine x_getR (o := a0) dX10_fair_44 xf_X10_30 hv12 ?_
      refine r_iconst (v := (0 : Int32)) dX10_fair_47 (by decide) ?_
      obtain ⟨q14, hq14, h⟩ := xb h
      obtain ⟨v13, hv13, h⟩ := xb h
      refine z_callV (as := [.int (0 : Int32)]) (o := v12) (r1 := (some (.long v13))) (stk := []) (stk2 := [.long v13]) (st1 := s10) (d' := 1) dX10_fair_48 xl_X10_175 hq14 (by decide) (Nat.le_trans xs0 (by decide)) rfl rfl (S_X5_outlook n s10 v12 (0 : Int32) v13 hv13) ?_
      refine r_lstore (lv' := [(5, .long v13), (0, va_rf a0), (1, .int a1), (2, .int a2), (3, .int a3), (4, .int a4)]) (x := v13) dX10_fair_51 (by decide) rfl ?_
      refine r_bipush (v := (101 : Int32)) dX10_fair_53 (by decide) ?_
      refine r_istore (lv' := [(7, .int (101 : Int32)), (5, .long v13), (0, va_rf a0), (1, .int a1), (2, .int a2), (3, .int a3), (4, .int a4)]) (x := (101 : Int32)) dX10_fair_55 (by decide) rfl ?_
      exact x_sub [1, 0] rfl (R_X10_fair_L57 n rv st' n s10 v13 (101 : Int32) h)
    · replace h := (if_pos c).symm.trans h
      refine r_iconst (v := (-1 : Int32)) dX10_fair_32 (by decide) ?_
      obtain ⟨rfl, rfl⟩ := Prod.mk.inj (Option.some.inj h)
      exact r_ireturn dX10_fair_33 .int rfl rfl
theorem S_X10_fair (n : Nat) (st : xS) (a0 : Option Nat) (a1 : Int32) (a2 : Int32) (a3 : Int32) (a4 : Int32) (rv : Int32) (st' : xS) (h : F_X10_fair n st a0 a1 a2 a3 a4 = some (rv, st')) : Ct mX10_fair [va_rf a0, .int a1, .int a2, .int a3, .int a4] st (some (.int rv)) st' 5 := by
  refine Ct.of (by decide) (by simp only [lgL_R, lgL_I, lgL_L, lgL_0]; decide) ?_
  try simp only [lvA_R]
  exact R_X10_fair n st a0 a1 a2 a3 a4 rv st' h
theorem R_X10_count (n : Nat) (st : xS) (a0 : Option Nat) (a1 : Int32) (rv : Int32) (h : F_X10_count n st a0 a1 = some rv) : Rn mX10_count 0 [(0, va_rf a0), (1, .int a1)] [] st (some (.int rv)) st 2 := by
  unfold F_X10_count at h
  refine r_iload_n (x := a1) dX10_count_0 rfl ?_
  obtain ⟨q4, hq4, h⟩ := xb h
  have Jq4 : Rn mX10_count 22 [] [.int q4] st (some (.int rv)) st 2 := by
    obtain rfl := Option.some.inj h
    exact r_ireturn dX10_count_22 .int rfl rfl
  refine r_if_lt (tgt := 9) dX10_count_1 (by decide) (fun c => ?_) (fun c => ?_)
  · replace hq4 := (if_pos c).symm.trans hq4
    refine r_bipush (v := (-2 : Int32)) dX10_count_9 (by decide) ?_
    refine r_goto (tgt := 22) dX10_count_11 (by decide) ?_
    obtain rfl := Option.some.inj hq4
    exact x_sub [] rfl Jq4
  · replace hq4 := (if_neg c).symm.trans hq4
    refine r_iload_n (x := a1) dX10_count_4 rfl ?_
    refine r_iconst (v := (3 : Int32)) dX10_count_5 (by decide) ?_
    refine r_icmp_le (tgt := 14) dX10_count_6 (by decide) (fun c => ?_) (fun c => ?_)
    · replace hq4 := (if_pos c).symm.trans hq4
      refine x_aload_n (o := a0) dX10_count_14 rfl ?_
      obtain ⟨v1, hv1, hq4⟩ := xb hq4
      refine x_getR (o := a0) dX10_count_15 xf_X10_10 hv1 ?_
      refine r_iload_n (x := a1) dX10_count_18 rfl ?_
      obtain ⟨q3, hq3, hq4⟩ := xb hq4
      obtain ⟨v2, hv2, hq4⟩ := xb hq4
      refine z_callV (as := [.int a1]) (o := v1) (r1 := (some (.int v2))) (stk := []) (stk2 := [.int v2]) (st1 := st) (d' := 1) dX10_count_19 xl_X10_182 hq3 (by decide) (Nat.le_trans xs0 (by decide)) rfl rfl (S_X9_howMany n st v1 a1 v2 hv2) ?_
      obtain rfl := Option.some.inj hq4
      exact x_sub [] rfl Jq4
    · replace hq4 := (if_neg c).symm.trans hq4
      refine r_bipush (v := (-2 : Int32)) dX10_count_9 (by decide) ?_
      refine r_goto (tgt := 22) dX10_count_11 (by decide) ?_
      obtain rfl := Option.some.inj hq4
      exact x_sub [] rfl Jq4
theorem S_X10_count (n : Nat) (st : xS) (a0 : Option Nat) (a1 : Int32) (rv : Int32) (h : F_X10_count n st a0 a1 = some rv) : Ct mX10_count [va_rf a0, .int a1] st (some (.int rv)) st 2 := by
  refine Ct.of (by decide) (by simp only [lgL_R, lgL_I, lgL_L, lgL_0]; decide) ?_
  try simp only [lvA_R]
  exact R_X10_count n st a0 a1 rv h
theorem R_X10_image (n : Nat) (st : xS) (a0 : Option Nat) (a1 : Int32) (rv : Int32) (st' : xS) (h : F_X10_image n st a0 a1 = some (rv, st')) : Rn mX10_image 0 [(0, va_rf a0), (1, .int a1)] [] st (some (.int rv)) st' 2 := by
  unfold F_X10_image at h
  refine r_iload_n (x := a1) dX10_image_0 rfl ?_
  refine r_if_lt (tgt := 13) dX10_image_1 (by decide) (fun c => ?_) (fun c => ?_)
  · replace h := (if_pos c).symm.trans h
    refine r_iconst (v := (0 : Int32)) dX10_image_13 (by decide) ?_
    obtain ⟨v1, hv1, h⟩ := xb h
    refine x_eqI (rz_inv2 hv1).1 ?_
    obtain ⟨rfl, rfl⟩ := Prod.mk.inj (Option.some.inj h)
    exact r_ireturn dX10_image_14 .boolean rfl (by rcases (rz_inv2 hv1).2 with e | e <;> rw [e] <;> rfl)
  · replace h := (if_neg c).symm.trans h
    refine r_iload_n (x := a1) dX10_image_4 rfl ?_
    refine x_aload_n (o := a0) dX10_image_5 rfl ?_
    obtain ⟨v2, hv2, h⟩ := xb h
    refine x_getR (o := a0) dX10_image_6 xf_X10_16 hv2 ?_
    obtain ⟨v3, hv3, h⟩ := xb h
    refine x_alen (o := v2) dX10_image_9 hv3 ?_
    refine r_icmp_lt (tgt := 15) dX10_image_10 (by decide) (fun c => ?_) (fun c => ?_)
    · replace h := (if_pos c).symm.trans h
      refine x_aload_n (o := a0) dX10_image_15 rfl ?_
      obtain ⟨v4, hv4, h⟩ := xb h
      refine x_getR (o := a0) dX10_image_16 xf_X10_16 hv4 ?_
      refine r_iload_n (x := a1) dX10_image_19 rfl ?_
      obtain ⟨v5, hv5, h⟩ := xb h
      refine x_aaload (o := v4) dX10_image_20 hv5 ?_
      refine x_astore_n (lv' := [(2, va_rf v5), (0, va_rf a0), (1, .int a1)]) (o := v5) dX10_image_21 (by decide) rfl ?_
      refine x_aload_n (o := v5) dX10_image_22 rfl ?_
      obtain ⟨q12, hq12, h⟩ := xb h
      have Jq12 : Rn mX10_image 41 [(0, va_rf a0), (2, va_rf q12.1)] [] q12.2 (some (.int rv)) st' 2 := by
        refine x_aload_n (o := q12.1) dX10_image_41 rfl ?_
        refine x_aload_n (o := a0) dX10_image_42 rfl ?_
        obtain ⟨v13, hv13, h⟩ := xb h
        refine x_getR (o := a0) dX10_image_43 xf_X10_10 hv13 ?_
        obtain ⟨q15, hq15, h⟩ := xb h
        obtain ⟨s14, hs14, h⟩ := xb h
        refine z_callV (as := [va_rf v13]) (o := q12.1) (r1 := none) (stk := []) (stk2 := []) (st1 := s14) (d' := 1) dX10_image_46 xl_X10_369 hq15 (by decide) (Nat.le_trans xs0 (by decide)) rfl rfl (S_X9_become n q12.2 q12.1 v13 s14 hs14) ?_
        refine r_iconst (v := (1 : Int32)) dX10_image_49 (by decide) ?_
        obtain ⟨v16, hv16, h⟩ := xb h
        refine x_eqI (rz_inv2 hv16).1 ?_
        obtain ⟨rfl, rfl⟩ := Prod.mk.inj (Option.some.inj h)
        exact r_ireturn dX10_image_50 .boolean rfl (by rcases (rz_inv2 hv16).2 with e | e <;> rw [e] <;> rfl)
      refine x_ifnonnull (o := v5) (tgt := 41) dX10_image_23 (by decide) (fun c => ?_) (fun c => ?_)
      · replace hq12 := (if_neg c).symm.trans hq12
        obtain rfl := Option.some.inj hq12
        exact x_sub [1, 0] rfl Jq12
      · replace hq12 := (if_pos c).symm.trans hq12
        obtain ⟨s6, hs6, hq12⟩ := xb hq12
        obtain ⟨o7, ho7, hq12⟩ := xb hq12
        refine x_new (o := o7) dX10_image_26 xc_X9 tyX9 tyX9_ok xw_X10_7 xi_X9 xj_X9 xh_X9 (Option.some.inj hs6) (Option.some.inj ho7) ?_
        refine x_dupR (o := o7) dX10_image_29 ?_
        obtain ⟨b8, hb8, hq12⟩ := xb hq12
        obtain ⟨s9, hs9, hq12⟩ := xb hq12
        refine x_callI (as := []) (o := o7) (stk := [va_rf o7]) (st1 := s9) (d' := 1) dX10_image_30 xl_X10_9 hb8 (by decide) (Nat.le_trans (xsA xs0) (by decide)) rfl (S_X9_init n s6 o7  s9 hs9) ?_
        refine x_astore_n (lv' := [(2, va_rf o7), (0, va_rf a0), (1, .int a1)]) (o := o7) dX10_image_33 (by decide) rfl ?_
        refine x_aload_n (o := a0) dX10_image_34 rfl ?_
        obtain ⟨v10, hv10, hq12⟩ := xb hq12
        refine x_getR (o := a0) dX10_image_35 xf_X10_16 hv10 ?_
        refine r_iload_n (x := a1) dX10_image_38 rfl ?_
        refine x_aload_n (o := o7) dX10_image_39 rfl ?_
        obtain ⟨s11, hs11, hq12⟩ := xb hq12
        refine x_aastore (o := v10) (x := o7) dX10_image_40 hs11 ?_
        obtain rfl := Option.some.inj hq12
        exact x_sub [1, 0] rfl Jq12
    · replace h := (if_neg c).symm.trans h
      refine r_iconst (v := (0 : Int32)) dX10_image_13 (by decide) ?_
      obtain ⟨v17, hv17, h⟩ := xb h
      refine x_eqI (rz_inv2 hv17).1 ?_
      obtain ⟨rfl, rfl⟩ := Prod.mk.inj (Option.some.inj h)
      exact r_ireturn dX10_image_14 .boolean rfl (by rcases (rz_inv2 hv17).2 with e | e <;> rw [e] <;> rfl)
theorem S_X10_image (n : Nat) (st : xS) (a0 : Option Nat) (a1 : Int32) (rv : Int32) (st' : xS) (h : F_X10_image n st a0 a1 = some (rv, st')) : Ct mX10_image [va_rf a0, .int a1] st (some (.int rv)) st' 2 := by
  refine Ct.of (by decide) (by simp only [lgL_R, lgL_I, lgL_L, lgL_0]; decide) ?_
  try simp only [lvA_R]
  exact R_X10_image n st a0 a1 rv st' h
theorem R_X10_again (n : Nat) (st : xS) (a0 : Option Nat) (a1 : Int32) (rv : Int32) (st' : xS) (h : F_X10_again n st a0 a1 = some (rv, st')) : Rn mX10_again 0 [(0, va_rf a0), (1, .int a1)] [] st (some (.int rv)) st' 2 := by
  unfold F_X10_again at h
  refine r_iload_n (x := a1) dX10_again_0 rfl ?_
  refine r_if_lt (tgt := 13) dX10_again_1 (by decide) (fun c => ?_) (fun c => ?_)
  · replace h := (if_pos c).symm.trans h
    refine r_iconst (v := (0 : Int32)) dX10_again_13 (by decide) ?_
    obtain ⟨v1, hv1, h⟩ := xb h
    refine x_eqI (rz_inv2 hv1).1 ?_
    obtain ⟨rfl, rfl⟩ := Prod.mk.inj (Option.some.inj h)
    exact r_ireturn dX10_again_14 .boolean rfl (by rcases (rz_inv2 hv1).2 with e | e <;> rw [e] <;> rfl)
  · replace h := (if_neg c).symm.trans h
    refine r_iload_n (x := a1) dX10_again_4 rfl ?_
    refine x_aload_n (o := a0) dX10_again_5 rfl ?_
    obtain ⟨v2, hv2, h⟩ := xb h
    refine x_getR (o := a0) dX10_again_6 xf_X10_16 hv2 ?_
    obtain ⟨v3, hv3, h⟩ := xb h
    refine x_alen (o := v2) dX10_again_9 hv3 ?_
    refine r_icmp_lt (tgt := 15) dX10_again_10 (by decide) (fun c => ?_) (fun c => ?_)
    · replace h := (if_pos c).symm.trans h
      refine x_aload_n (o := a0) dX10_again_15 rfl ?_
      obtain ⟨v4, hv4, h⟩ := xb h
      refine x_getR (o := a0) dX10_again_16 xf_X10_16 hv4 ?_
      refine r_iload_n (x := a1) dX10_again_19 rfl ?_
      obtain ⟨v5, hv5, h⟩ := xb h
      refine x_aaload (o := v4) dX10_again_20 hv5 ?_
      refine x_astore_n (lv' := [(2, va_rf v5), (0, va_rf a0), (1, .int a1)]) (o := v5) dX10_again_21 (by decide) rfl ?_
      refine x_aload_n (o := v5) dX10_again_22 rfl ?_
      refine x_ifnonnull (o := v5) (tgt := 28) dX10_again_23 (by decide) (fun c => ?_) (fun c => ?_)
      · replace h := (if_neg c).symm.trans h
        refine x_aload_n (o := a0) dX10_again_28 rfl ?_
        obtain ⟨v7, hv7, h⟩ := xb h
        refine x_getR (o := a0) dX10_again_29 xf_X10_10 hv7 ?_
        refine x_aload_n (o := v5) dX10_again_32 rfl ?_
        obtain ⟨q9, hq9, h⟩ := xb h
        obtain ⟨s8, hs8, h⟩ := xb h
        refine z_callV (as := [va_rf v5]) (o := v7) (r1 := none) (stk := []) (stk2 := []) (st1 := s8) (d' := 1) dX10_again_33 xl_X10_369 hq9 (by decide) (Nat.le_trans xs0 (by decide)) rfl rfl (S_X9_become n st v7 v5 s8 hs8) ?_
        refine r_iconst (v := (1 : Int32)) dX10_again_36 (by decide) ?_
        obtain ⟨v10, hv10, h⟩ := xb h
        refine x_eqI (rz_inv2 hv10).1 ?_
        obtain ⟨rfl, rfl⟩ := Prod.mk.inj (Option.some.inj h)
        exact r_ireturn dX10_again_37 .boolean rfl (by rcases (rz_inv2 hv10).2 with e | e <;> rw [e] <;> rfl)
      · replace h := (if_pos c).symm.trans h
        refine r_iconst (v := (0 : Int32)) dX10_again_26 (by decide) ?_
        obtain ⟨v6, hv6, h⟩ := xb h
        refine x_eqI (rz_inv2 hv6).1 ?_
        obtain ⟨rfl, rfl⟩ := Prod.mk.inj (Option.some.inj h)
        exact r_ireturn dX10_again_27 .boolean rfl (by rcases (rz_inv2 hv6).2 with e | e <;> rw [e] <;> rfl)
    · replace h := (if_neg c).symm.trans h
      refine r_iconst (v := (0 : Int32)) dX10_again_13 (by decide) ?_
      obtain ⟨v11, hv11, h⟩ := xb h
      refine x_eqI (rz_inv2 hv11).1 ?_
      obtain ⟨rfl, rfl⟩ := Prod.mk.inj (Option.some.inj h)
      exact r_ireturn dX10_again_14 .boolean rfl (by rcases (rz_inv2 hv11).2 with e | e <;> rw [e] <;> rfl)
theorem S_X10_again (n : Nat) (st : xS) (a0 : Option Nat) (a1 : Int32) (rv : Int32) (st' : xS) (h : F_X10_again n st a0 a1 = some (rv, st')) : Ct mX10_again [va_rf a0, .int a1] st (some (.int rv)) st' 2 := by
  refine Ct.of (by decide) (by simp only [lgL_R, lgL_I, lgL_L, lgL_0]; decide) ?_
  try simp only [lvA_R]
  exact R_X10_again n st a0 a1 rv st' h
theorem R_X11_init (n : Nat) (st : xS) (a0 : Option Nat) (st' : xS) (h : F_X11_init n st a0 = some st') : Rn mX11_init 0 [(0, va_rf a0)] [] st none st' 1 := by
  unfold F_X11_init at h
  refine x_aload_n (o := a0) dX11_init_0 rfl ?_
  obtain ⟨b1, hb1, h⟩ := xb h
  refine x_objInit (o := a0) dX11_init_1 xo_X11_1 xo_2 xo_3 (by decide) (Nat.le_trans xs0 (by decide)) hb1 ?_
  refine x_aload_n (o := a0) dX11_init_4 rfl ?_
  refine r_sipush (v := (10250 : Int32)) dX11_init_5 (by decide) ?_
  obtain ⟨s2, hs2, h⟩ := xb h
  obtain ⟨o3, ho3, h⟩ := xb h
  refine x_newarray (t := 0) (o := o3) dX11_init_8 (by decide) rfl xar_0 (by decide) (by decide) (by decide) (Option.some.inj hs2) (Option.some.inj ho3) ?_
  obtain ⟨s4, hs4, h⟩ := xb h
  refine x_putR (o := a0) (x := o3) dX11_init_10 xp_X11_7 (Or.inr ⟨_, rfl⟩) hs4 ?_
  refine x_aload_n (o := a0) dX11_init_13 rfl ?_
  refine r_iconst (v := (3 : Int32)) dX11_init_14 (by decide) ?_
  obtain ⟨s5, hs5, h⟩ := xb h
  obtain ⟨o6, ho6, h⟩ := xb h
  refine x_newarray (t := 3) (o := o6) dX11_init_15 (by decide) rfl xar_3 (by decide) (by decide) (by decide) (Option.some.inj hs5) (Option.some.inj ho6) ?_
  obtain ⟨s7, hs7, h⟩ := xb h
  refine x_putR (o := a0) (x := o6) dX11_init_17 xp_X11_13 (Or.inr ⟨_, rfl⟩) hs7 ?_
  refine x_aload_n (o := a0) dX11_init_20 rfl ?_
  refine r_sipush (v := (242 : Int32)) dX11_init_21 (by decide) ?_
  obtain ⟨s8, hs8, h⟩ := xb h
  obtain ⟨o9, ho9, h⟩ := xb h
  refine x_newarray (t := 0) (o := o9) dX11_init_24 (by decide) rfl xar_0 (by decide) (by decide) (by decide) (Option.some.inj hs8) (Option.some.inj ho9) ?_
  obtain ⟨s10, hs10, h⟩ := xb h
  refine x_putR (o := a0) (x := o9) dX11_init_26 xp_X11_17 (Or.inr ⟨_, rfl⟩) hs10 ?_
  refine x_aload_n (o := a0) dX11_init_29 rfl ?_
  refine r_bipush (v := (6 : Int32)) dX11_init_30 (by decide) ?_
  obtain ⟨s11, hs11, h⟩ := xb h
  obtain ⟨o12, ho12, h⟩ := xb h
  refine x_newarray (t := 0) (o := o12) dX11_init_32 (by decide) rfl xar_0 (by decide) (by decide) (by decide) (Option.some.inj hs11) (Option.some.inj ho12) ?_
  obtain ⟨s13, hs13, h⟩ := xb h
  refine x_putR (o := a0) (x := o12) dX11_init_34 xp_X11_20 (Or.inr ⟨_, rfl⟩) hs13 ?_
  refine x_aload_n (o := a0) dX11_init_37 rfl ?_
  refine r_iconst (v := (-1 : Int32)) dX11_init_38 (by decide) ?_
  obtain ⟨s14, hs14, h⟩ := xb h
  refine x_putI (o := a0) dX11_init_39 (xp_X11_23 _) hs14 ?_
  refine x_aload_n (o := a0) dX11_init_42 rfl ?_
  refine r_bipush (v := (42 : Int32)) dX11_init_43 (by decide) ?_
  obtain ⟨s15, hs15, h⟩ := xb h
  obtain ⟨o16, ho16, h⟩ := xb h
  refine x_newarray (t := 1) (o := o16) dX11_init_45 (by decide) rfl xar_1 (by decide) (by decide) (by decide) (Option.some.inj hs15) (Option.some.inj ho16) ?_
  obtain ⟨s17, hs17, h⟩ := xb h
  refine x_putR (o := a0) (x := o16) dX11_init_47 xp_X11_27 (Or.inr ⟨_, rfl⟩) hs17 ?_
  refine x_aload_n (o := a0) dX11_init_50 rfl ?_
  refine r_bipush (v := (8 : Int32)) dX11_init_51 (by decide) ?_
  obtain ⟨s18, hs18, h⟩ := xb h
  obtain ⟨o19, ho19, h⟩ := xb h
  refine x_newarray (t := 0) (o := o19) dX11_init_53 (by decide) rfl xar_0 (by decide) (by decide) (by decide) (Option.some.inj hs18) (Option.some.inj ho19) ?_
  obtain ⟨s20, hs20, h⟩ := xb h
  refine x_putR (o := a0) (x := o19) dX11_init_55 xp_X11_31 (Or.inr ⟨_, rfl⟩) hs20 ?_
  refine x_aload_n (o := a0) dX11_init_58 rfl ?_
  refine r_bipush (v := (61 : Int32)) dX11_init_59 (by decide) ?_
  obtain ⟨s21, hs21, h⟩ := xb h
  obtain ⟨o22, ho22, h⟩ := xb h
  refine x_newarray (t := 1) (o := o22) dX11_init_61 (by decide) rfl xar_1 (by decide) (by decide) (by decide) (Option.some.inj hs21) (Option.some.inj ho22) ?_
  obtain ⟨s23, hs23, h⟩ := xb h
  refine x_putR (o := a0) (x := o22) dX11_init_63 xp_X11_34 (Or.inr ⟨_, rfl⟩) hs23 ?_
  refine x_aload_n (o := a0) dX11_init_66 rfl ?_
  refine r_bipush (v := (80 : Int32)) dX11_init_67 (by decide) ?_
  obtain ⟨s24, hs24, h⟩ := xb h
  obtain ⟨o25, ho25, h⟩ := xb h
  refine x_newarray (t := 0) (o := o25) dX11_init_69 (by decide) rfl xar_0 (by decide) (by decide) (by decide) (Option.some.inj hs24) (Option.some.inj ho25) ?_
  obtain ⟨s26, hs26, h⟩ := xb h
  refine x_putR (o := a0) (x := o25) dX11_init_71 xp_X11_37 (Or.inr ⟨_, rfl⟩) hs26 ?_
  refine x_aload_n (o := a0) dX11_init_74 rfl ?_
  refine r_bipush (v := (40 : Int32)) dX11_init_75 (by decide) ?_
  obtain ⟨s27, hs27, h⟩ := xb h
  obtain ⟨o28, ho28, h⟩ := xb h
  refine x_newarray (t := 0) (o := o28) dX11_init_77 (by decide) rfl xar_0 (by decide) (by decide) (by decide) (Option.some.inj hs27) (Option.some.inj ho28) ?_
  obtain ⟨s29, hs29, h⟩ := xb h
  refine x_putR (o := a0) (x := o28) dX11_init_79 xp_X11_40 (Or.inr ⟨_, rfl⟩) hs29 ?_
  refine x_aload_n (o := a0) dX11_init_82 rfl ?_
  obtain ⟨v30, hv30, h⟩ := xb h
  refine x_getR (o := a0) dX11_init_83 xf_X11_7 hv30 ?_
  refine r_bipush (v := (6 : Int32)) dX11_init_86 (by decide) ?_
  refine r_iconst (v := (-1 : Int32)) dX11_init_88 (by decide) ?_
  obtain ⟨s31, hs31, h⟩ := xb h
  refine x_iastore (o := v30) dX11_init_89 hs31 ?_
  obtain rfl := Option.some.inj h
  exact r_return dX11_init_90 rfl
theorem S_X11_init (n : Nat) (st : xS) (a0 : Option Nat) (st' : xS) (h : F_X11_init n st a0 = some st') : Ct mX11_init [va_rf a0] st none st' 1 := by
  refine Ct.of (by decide) (by simp only [lgL_R, lgL_I, lgL_L, lgL_0]; decide) ?_
  try simp only [lvA_R]
  exact R_X11_init n st a0 st' h
theorem R_X11_isIn (n : Nat) (st : xS) (a0 : Int32) (a1 : Int32) (a2 : Int32) (rv : Int32) (h : F_X11_isIn n st a0 a1 a2 = some rv) : Rn mX11_isIn 0 [(0, .int a0), (1, .int a1), (2, .int a2)] [] st (some (.int rv)) st 0 := by
  unfold F_X11_isIn at h
  refine r_iload_n (x := a0) dX11_isIn_0 rfl ?_
  refine r_iload_n (x := a1) dX11_isIn_1 rfl ?_
  obtain ⟨q1, hq1, h⟩ := xb h
  have Jq1 : Rn mX11_isIn 15 [] [.int q1] st (some (.int rv)) st 0 := by
    obtain ⟨v2, hv2, h⟩ := xb h
    refine x_eqI (rz_inv2 hv2).1 ?_
    obtain rfl := Option.some.inj h
    exact r_ireturn dX11_isIn_15 .boolean rfl (by rcases (rz_inv2 hv2).2 with e | e <;> rw [e] <;> rfl)
  refine r_icmp_lt (tgt := 14) dX11_isIn_2 (by decide) (fun c => ?_) (fun c => ?_)
  · replace hq1 := (if_pos c).symm.trans hq1
    refine r_iconst (v := (0 : Int32)) dX11_isIn_14 (by decide) ?_
    obtain rfl := Option.some.inj hq1
    exact x_sub [] rfl Jq1
  · replace hq1 := (if_neg c).symm.trans hq1
    refine r_iload_n (x := a0) dX11_isIn_5 rfl ?_
    refine r_iload_n (x := a2) dX11_isIn_6 rfl ?_
    refine r_icmp_gt (tgt := 14) dX11_isIn_7 (by decide) (fun c => ?_) (fun c => ?_)
    · replace hq1 := (if_pos c).symm.trans hq1
      refine r_iconst (v := (0 : Int32)) dX11_isIn_14 (by decide) ?_
      obtain rfl := Option.some.inj hq1
      exact x_sub [] rfl Jq1
    · replace hq1 := (if_neg c).symm.trans hq1
      refine r_iconst (v := (1 : Int32)) dX11_isIn_10 (by decide) ?_
      refine r_goto (tgt := 15) dX11_isIn_11 (by decide) ?_
      obtain rfl := Option.some.inj hq1
      exact x_sub [] rfl Jq1
theorem S_X11_isIn (n : Nat) (st : xS) (a0 : Int32) (a1 : Int32) (a2 : Int32) (rv : Int32) (h : F_X11_isIn n st a0 a1 a2 = some rv) : Ct mX11_isIn [.int a0, .int a1, .int a2] st (some (.int rv)) st 0 := by
  refine Ct.of (by decide) (by simp only [lgL_R, lgL_I, lgL_L, lgL_0]; decide) ?_
  try simp only [lvA_R]
  exact R_X11_isIn n st a0 a1 a2 rv h
theorem R_X11_feed_L20 (n : Nat) {r : Option Value} {st' : xS} : ∀ (k : Nat) (st : xS) (a0 : Option Nat) (a1 : Int32) (a2 : Int32) (a3 : Int32) (a4 : Int32) (a5 : Int32) (a6 : Int32) (q : (xS)), F_X11_feed_L20 n k st a0 a1 a2 a3 a4 a5 a6 = some q → Rn mX11_feed 122 [(0, va_rf a0)] [] q r st' 0 → Rn mX11_feed 20 [(0, va_rf a0), (1, .int a1), (2, .int a2), (3, .int a3), (4, .int a4), (5, .int a5), (6, .int a6)] [] st r st' 0 := by
  intro k
  induction k with
  | zero => intro st a0 a1 a2 a3 a4 a5 a6 q h; cases h
  | succ k ih =>
    intro st a0 a1 a2 a3 a4 a5 a6 q h J
    unfold F_X11_feed_L20 at h
    refine r_iload (x := a6) dX11_feed_20 rfl ?_
    refine r_bipush (v := (20 : Int32)) dX11_feed_22 (by decide) ?_
    refine r_icmp_ge (tgt := 122) dX11_feed_24 (by decide) (fun c => ?_) (fun c => ?_)
    · replace h := (if_pos c).symm.trans h
      obtain rfl := Option.some.inj h
      exact x_sub [0] rfl J
    · replace h := (if_neg c).symm.trans h
      refine r_iload (x := a6) dX11_feed_27 rfl ?_
      refine r_iconst (v := (4 : Int32)) dX11_feed_29 (by decide) ?_
      obtain ⟨q3, hq3, h⟩ := xb h
      have Jq3 : Rn mX11_feed 73 [(0, va_rf a0), (1, .int a1), (2, .int a2), (3, .int a3), (4, .int a4), (5, .int a5), (6, .int a6)] [.int q3] st r st' 0 := by
        refine r_istore (lv' := [(7, .int q3), (0, va_rf a0), (1, .int a1), (2, .int a2), (3, .int a3), (4, .int a4), (5, .int a5), (6, .int a6)]) (x := q3) dX11_feed_73 (by decide) rfl ?_
        refine x_aload_n (o := a0) dX11_feed_75 rfl ?_
        obtain ⟨v4, hv4, h⟩ := xb h
        refine x_getR (o := a0) dX11_feed_76 xf_X11_7 hv4 ?_
        refine r_bipush (v := (10 : Int32)) dX11_feed_79 (by decide) ?_
        refine x_aload_n (o := a0) dX11_feed_81 rfl ?_
        obtain ⟨v5, hv5, h⟩ := xb h
        refine x_getR (o := a0) dX11_feed_82 xf_X11_7 hv5 ?_
        refine r_iconst (v := (4 : Int32)) dX11_feed_85 (by decide) ?_
        obtain ⟨v6, hv6, h⟩ := xb h
        refine x_iaload (o := v5) dX11_feed_86 hv6 ?_
        refine r_iadd dX11_feed_87 ?_
        refine r_iload (x := q3) dX11_feed_88 rfl ?_
        refine r_bipush (v := (24 : Int32)) dX11_feed_90 (by decide) ?_
        refine r_bipush (v := (8 : Int32)) dX11_feed_92 (by decide) ?_
        refine r_iload (x := a6) dX11_feed_94 rfl ?_
        refine r_iconst (v := (4 : Int32)) dX11_feed_96 (by decide) ?_
        obtain ⟨v7, hv7, h⟩ := xb h
        refine x_irem dX11_feed_97 hv7 ?_
        refine r_imul dX11_feed_98 ?_
        refine r_isub dX11_feed_99 ?_
        refine r_ishr dX11_feed_100 ?_
        refine r_sipush (v := (255 : Int32)) dX11_feed_101 (by decide) ?_
        refine r_iand dX11_feed_104 ?_
        obtain ⟨s8, hs8, h⟩ := xb h
        refine x_iastore (o := v4) dX11_feed_105 hs8 ?_
        refine x_aload_n (o := a0) dX11_feed_106 rfl ?_
        obtain ⟨v9, hv9, h⟩ := xb h
        refine x_getR (o := a0) dX11_feed_107 xf_X11_7 hv9 ?_
        refine r_iconst (v := (4 : Int32)) dX11_feed_110 (by decide) ?_
        refine r_dup2 dX11_feed_111 rfl (xrf_cat _) ?_
        obtain ⟨v10, hv10, h⟩ := xb h
        refine x_iaload (o := v9) dX11_feed_112 hv10 ?_
        refine r_iconst (v := (1 : Int32)) dX11_feed_113 (by decide) ?_
        refine r_iadd dX11_feed_114 ?_
        obtain ⟨s11, hs11, h⟩ := xb h
        refine x_iastore (o := v9) dX11_feed_115 hs11 ?_
        obtain ⟨v12, hv12, h⟩ := xb h
        refine x_iinc (c := (1 : Int32)) (lv' := [(6, .int v12), (7, .int q3), (0, va_rf a0), (1, .int a1), (2, .int a2), (3, .int a3), (4, .int a4), (5, .int a5)]) (x := a6) (v := v12) dX11_feed_116 rfl (by decide) (Option.some.inj hv12) (by decide) rfl ?_
        refine r_goto (tgt := 20) dX11_feed_119 (by decide) ?_
        exact x_sub [2, 3, 4, 5, 6, 7, 0] rfl (ih s11 a0 a1 a2 a3 a4 a5 v12 q h J)
      refine r_icmp_ge (tgt := 37) dX11_feed_30 (by decide) (fun c => ?_) (fun c => ?_)
      · replace hq3 := (if_pos c).symm.trans hq3
        refine r_iload (x := a6) dX11_feed_37 rfl ?_
        refine r_bipush (v := (8 : Int32)) dX11_feed_39 (by decide) ?_
        refine r_icmp_ge (tgt := 48) dX11_feed_41 (by decide) (fun c => ?_) (fun c => ?_)
        · replace hq3 := (if_pos c).symm.trans hq3
          refine r_iload (x := a6) dX11_feed_48 rfl ?_
          refine r_bipush (v := (12 : Int32)) dX11_feed_50 (by decide) ?_
          refine r_icmp_ge (tgt := 59) dX11_feed_52 (by decide) (fun c => ?_) (fun c => ?_)
          · replace hq3 := (if_pos c).symm.trans hq3
            refine r_iload (x := a6) dX11_feed_59 rfl ?_
            refine r_bipush (v := (16 : Int32)) dX11_feed_61 (by decide) ?_
            refine r_icmp_ge (tgt := 71) dX11_feed_63 (by decide) (fun c => ?_) (fun c => ?_)
            · replace hq3 := (if_pos c).symm.trans hq3
              refine r_iload (x := a5) dX11_feed_71 rfl ?_
              obtain rfl := Option.some.inj hq3
              exact x_sub [0, 1, 2, 3, 4, 5, 6] rfl Jq3
            · replace hq3 := (if_neg c).symm.trans hq3
              refine r_iload (x := a4) dX11_feed_66 rfl ?_
              refine r_goto (tgt := 73) dX11_feed_68 (by decide) ?_
              obtain rfl := Option.some.inj hq3
              exact x_sub [0, 1, 2, 3, 4, 5, 6] rfl Jq3
          · replace hq3 := (if_neg c).symm.trans hq3
            refine r_iload_n (x := a3) dX11_feed_55 rfl ?_
            refine r_goto (tgt := 73) dX11_feed_56 (by decide) ?_
            obtain rfl := Option.some.inj hq3
            exact x_sub [0, 1, 2, 3, 4, 5, 6] rfl Jq3
        · replace hq3 := (if_neg c).symm.trans hq3
          refine r_iload_n (x := a2) dX11_feed_44 rfl ?_
          refine r_goto (tgt := 73) dX11_feed_45 (by decide) ?_
          obtain rfl := Option.some.inj hq3
          exact x_sub [0, 1, 2, 3, 4, 5, 6] rfl Jq3
      · replace hq3 := (if_neg c).symm.trans hq3
        refine r_iload_n (x := a1) dX11_feed_33 rfl ?_
        refine r_goto (tgt := 73) dX11_feed_34 (by decide) ?_
        obtain rfl := Option.some.inj hq3
        exact x_sub [0, 1, 2, 3, 4, 5, 6] rfl Jq3
theorem R_X11_feed (n : Nat) (st : xS) (a0 : Option Nat) (a1 : Int32) (a2 : Int32) (a3 : Int32) (a4 : Int32) (a5 : Int32) (rv : Int32) (st' : xS) (h : F_X11_feed n st a0 a1 a2 a3 a4 a5 = some (rv, st')) : Rn mX11_feed 0 [(0, va_rf a0), (1, .int a1), (2, .int a2), (3, .int a3), (4, .int a4), (5, .int a5)] [] st (some (.int rv)) st' 0 := by
  unfold F_X11_feed at h
  refine x_aload_n (o := a0) dX11_feed_0 rfl ?_
  obtain ⟨v1, hv1, h⟩ := xb h
  refine x_getR (o := a0) dX11_feed_1 xf_X11_7 hv1 ?_
  refine r_iconst (v := (4 : Int32)) dX11_feed_4 (by decide) ?_
  obtain ⟨v2, hv2, h⟩ := xb h
  refine x_iaload (o := v1) dX11_feed_5 hv2 ?_
  refine r_bipush (v := (20 : Int32)) dX11_feed_6 (by decide) ?_
  refine r_iadd dX11_feed_8 ?_
  refine r_sipush (v := (500 : Int32)) dX11_feed_9 (by decide) ?_
  refine r_icmp_le (tgt := 17) dX11_feed_12 (by decide) (fun c => ?_) (fun c => ?_)
  · replace h := (if_pos c).symm.trans h
    refine r_iconst (v := (0 : Int32)) dX11_feed_17 (by decide) ?_
    refine r_istore (lv' := [(6, .int (0 : Int32)), (0, va_rf a0), (1, .int a1), (2, .int a2), (3, .int a3), (4, .int a4), (5, .int a5)]) (x := (0 : Int32)) dX11_feed_18 (by decide) rfl ?_
    obtain ⟨q13, hq13, h⟩ := xb h
    have Jq13 : Rn mX11_feed 122 [(0, va_rf a0)] [] q13 (some (.int rv)) st' 0 := by
      refine x_aload_n (o := a0) dX11_feed_122 rfl ?_
      obtain ⟨v14, hv14, h⟩ := xb h
      refine x_getR (o := a0) dX11_feed_123 xf_X11_7 hv14 ?_
      refine r_iconst (v := (4 : Int32)) dX11_feed_126 (by decide) ?_
      obtain ⟨v15, hv15, h⟩ := xb h
      refine x_iaload (o := v14) dX11_feed_127 hv15 ?_
      obtain ⟨rfl, rfl⟩ := Prod.mk.inj (Option.some.inj h)
      exact r_ireturn dX11_feed_128 .int rfl rfl
    exact x_sub [1, 2, 3, 4, 5, 6, 0] rfl (R_X11_feed_L20 n n st a0 a1 a2 a3 a4 a5 (0 : Int32) q13 hq13 Jq13)
  · replace h := (if_neg c).symm.trans h
    refine r_iconst (v := (-1 : Int32)) dX11_feed_15 (by decide) ?_
    obtain ⟨rfl, rfl⟩ := Prod.mk.inj (Option.some.inj h)
    exact r_ireturn dX11_feed_16 .int rfl rfl
theorem S_X11_feed (n : Nat) (st : xS) (a0 : Option Nat) (a1 : Int32) (a2 : Int32) (a3 : Int32) (a4 : Int32) (a5 : Int32) (rv : Int32) (st' : xS) (h : F_X11_feed n st a0 a1 a2 a3 a4 a5 = some (rv, st')) : Ct mX11_feed [va_rf a0, .int a1, .int a2, .int a3, .int a4, .int a5] st (some (.int rv)) st' 0 := by
  refine Ct.of (by decide) (by simp only [lgL_R, lgL_I, lgL_L, lgL_0]; decide) ?_
  try simp only [lvA_R]
  exact R_X11_feed n st a0 a1 a2 a3 a4 a5 rv st' h
theorem R_X11_end (n : Nat) (st : xS) (a0 : Option Nat) (a1 : Int32) (rv : Int32) (st' : xS) (h : F_X11_end n st a0 a1 = some (rv, st')) : Rn mX11_end 0 [(0, va_rf a0), (1, .int a1)] [] st (some (.int rv)) st' 0 := by
  unfold F_X11_end at h
  refine r_iload_n (x := a1) dX11_end_0 rfl ?_
  refine r_if_lt (tgt := 14) dX11_end_1 (by decide) (fun c => ?_) (fun c => ?_)
  · replace h := (if_pos c).symm.trans h
    refine r_iconst (v := (-1 : Int32)) dX11_end_14 (by decide) ?_
    obtain ⟨rfl, rfl⟩ := Prod.mk.inj (Option.some.inj h)
    exact r_ireturn dX11_end_15 .int rfl rfl
  · replace h := (if_neg c).symm.trans h
    refine r_iload_n (x := a1) dX11_end_4 rfl ?_
    refine x_aload_n (o := a0) dX11_end_5 rfl ?_
    obtain ⟨v1, hv1, h⟩ := xb h
    refine x_getR (o := a0) dX11_end_6 xf_X11_7 hv1 ?_
    refine r_iconst (v := (4 : Int32)) dX11_end_9 (by decide) ?_
    obtain ⟨v2, hv2, h⟩ := xb h
    refine x_iaload (o := v1) dX11_end_10 hv2 ?_
    refine r_icmp_le (tgt := 16) dX11_end_11 (by decide) (fun c => ?_) (fun c => ?_)
    · replace h := (if_pos c).symm.trans h
      refine x_aload_n (o := a0) dX11_end_16 rfl ?_
      obtain ⟨v3, hv3, h⟩ := xb h
      refine x_getR (o := a0) dX11_end_17 xf_X11_7 hv3 ?_
      refine r_iconst (v := (4 : Int32)) dX11_end_20 (by decide) ?_
      refine r_iload_n (x := a1) dX11_end_21 rfl ?_
      obtain ⟨s4, hs4, h⟩ := xb h
      refine x_iastore (o := v3) dX11_end_22 hs4 ?_
      refine r_iload_n (x := a1) dX11_end_23 rfl ?_
      obtain ⟨rfl, rfl⟩ := Prod.mk.inj (Option.some.inj h)
      exact r_ireturn dX11_end_24 .int rfl rfl
    · replace h := (if_neg c).symm.trans h
      refine r_iconst (v := (-1 : Int32)) dX11_end_14 (by decide) ?_
      obtain ⟨rfl, rfl⟩ := Prod.mk.inj (Option.some.inj h)
      exact r_ireturn dX11_end_15 .int rfl rfl
theorem S_X11_end (n : Nat) (st : xS) (a0 : Option Nat) (a1 : Int32) (rv : Int32) (st' : xS) (h : F_X11_end n st a0 a1 = some (rv, st')) : Ct mX11_end [va_rf a0, .int a1] st (some (.int rv)) st' 0 := by
  refine Ct.of (by decide) (by simp only [lgL_R, lgL_I, lgL_L, lgL_0]; decide) ?_
  try simp only [lvA_R]
  exact R_X11_end n st a0 a1 rv st' h
theorem R_X11_byteAt (n : Nat) (st : xS) (a0 : Option Nat) (a1 : Int32) (rv : Int32) (h : F_X11_byteAt n st a0 a1 = some rv) : Rn mX11_byteAt 0 [(0, va_rf a0), (1, .int a1)] [] st (some (.int rv)) st 0 := by
  unfold F_X11_byteAt at h
  refine r_iload_n (x := a1) dX11_byteAt_0 rfl ?_
  refine x_aload_n (o := a0) dX11_byteAt_1 rfl ?_
  obtain ⟨v1, hv1, h⟩ := xb h
  refine x_getI (o := a0) dX11_byteAt_2 xf_X11_43 hv1 ?_
  obtain ⟨q4, hq4, h⟩ := xb h
  have Jq4 : Rn mX11_byteAt 21 [] [.int q4] st (some (.int rv)) st 0 := by
    obtain rfl := Option.some.inj h
    exact r_ireturn dX11_byteAt_21 .int rfl rfl
  refine r_icmp_ge (tgt := 20) dX11_byteAt_5 (by decide) (fun c => ?_) (fun c => ?_)
  · replace hq4 := (if_pos c).symm.trans hq4
    refine r_iconst (v := (-1 : Int32)) dX11_byteAt_20 (by decide) ?_
    obtain rfl := Option.some.inj hq4
    exact x_sub [] rfl Jq4
  · replace hq4 := (if_neg c).symm.trans hq4
    refine x_aload_n (o := a0) dX11_byteAt_8 rfl ?_
    obtain ⟨v2, hv2, hq4⟩ := xb hq4
    refine x_getR (o := a0) dX11_byteAt_9 xf_X11_7 hv2 ?_
    refine r_bipush (v := (10 : Int32)) dX11_byteAt_12 (by decide) ?_
    refine r_iload_n (x := a1) dX11_byteAt_14 rfl ?_
    refine r_iadd dX11_byteAt_15 ?_
    obtain ⟨v3, hv3, hq4⟩ := xb hq4
    refine x_iaload (o := v2) dX11_byteAt_16 hv3 ?_
    refine r_goto (tgt := 21) dX11_byteAt_17 (by decide) ?_
    obtain rfl := Option.some.inj hq4
    exact x_sub [] rfl Jq4
theorem S_X11_byteAt (n : Nat) (st : xS) (a0 : Option Nat) (a1 : Int32) (rv : Int32) (h : F_X11_byteAt n st a0 a1 = some rv) : Ct mX11_byteAt [va_rf a0, .int a1] st (some (.int rv)) st 0 := by
  refine Ct.of (by decide) (by simp only [lgL_R, lgL_I, lgL_L, lgL_0]; decide) ?_
  try simp only [lvA_R]
  exact R_X11_byteAt n st a0 a1 rv h
theorem R_X11_isLetter (n : Nat) (st : xS) (a0 : Int32) (rv : Int32) (h : F_X11_isLetter n st a0 = some rv) : Rn mX11_isLetter 0 [(0, .int a0)] [] st (some (.int rv)) st 0 := by
  unfold F_X11_isLetter at h
  refine r_iload_n (x := a0) dX11_isLetter_0 rfl ?_
  refine r_bipush (v := (97 : Int32)) dX11_isLetter_1 (by decide) ?_
  obtain ⟨q1, hq1, h⟩ := xb h
  have Jq1 : Rn mX11_isLetter 17 [] [.int q1] st (some (.int rv)) st 0 := by
    obtain ⟨v2, hv2, h⟩ := xb h
    refine x_eqI (rz_inv2 hv2).1 ?_
    obtain rfl := Option.some.inj h
    exact r_ireturn dX11_isLetter_17 .boolean rfl (by rcases (rz_inv2 hv2).2 with e | e <;> rw [e] <;> rfl)
  refine r_icmp_lt (tgt := 16) dX11_isLetter_3 (by decide) (fun c => ?_) (fun c => ?_)
  · replace hq1 := (if_pos c).symm.trans hq1
    refine r_iconst (v := (0 : Int32)) dX11_isLetter_16 (by decide) ?_
    obtain rfl := Option.some.inj hq1
    exact x_sub [] rfl Jq1
  · replace hq1 := (if_neg c).symm.trans hq1
    refine r_iload_n (x := a0) dX11_isLetter_6 rfl ?_
    refine r_bipush (v := (122 : Int32)) dX11_isLetter_7 (by decide) ?_
    refine r_icmp_gt (tgt := 16) dX11_isLetter_9 (by decide) (fun c => ?_) (fun c => ?_)
    · replace hq1 := (if_pos c).symm.trans hq1
      refine r_iconst (v := (0 : Int32)) dX11_isLetter_16 (by decide) ?_
      obtain rfl := Option.some.inj hq1
      exact x_sub [] rfl Jq1
    · replace hq1 := (if_neg c).symm.trans hq1
      refine r_iconst (v := (1 : Int32)) dX11_isLetter_12 (by decide) ?_
      refine r_goto (tgt := 17) dX11_isLetter_13 (by decide) ?_
      obtain rfl := Option.some.inj hq1
      exact x_sub [] rfl Jq1
theorem S_X11_isLetter (n : Nat) (st : xS) (a0 : Int32) (rv : Int32) (h : F_X11_isLetter n st a0 = some rv) : Ct mX11_isLetter [.int a0] st (some (.int rv)) st 0 := by
  refine Ct.of (by decide) (by simp only [lgL_R, lgL_I, lgL_L, lgL_0]; decide) ?_
  try simp only [lvA_R]
  exact R_X11_isLetter n st a0 rv h
theorem R_X11_isDigit (n : Nat) (st : xS) (a0 : Int32) (rv : Int32) (h : F_X11_isDigit n st a0 = some rv) : Rn mX11_isDigit 0 [(0, .int a0)] [] st (some (.int rv)) st 0 := by
  unfold F_X11_isDigit at h
  refine r_iload_n (x := a0) dX11_isDigit_0 rfl ?_
  refine r_bipush (v := (48 : Int32)) dX11_isDigit_1 (by decide) ?_
  obtain ⟨q1, hq1, h⟩ := xb h
  have Jq1 : Rn mX11_isDigit 17 [] [.int q1] st (some (.int rv)) st 0 := by
    obtain ⟨v2, hv2, h⟩ := xb h
    refine x_eqI (rz_inv2 hv2).1 ?_
    obtain rfl := Option.some.inj h
    exact r_ireturn dX11_isDigit_17 .boolean rfl (by rcases (rz_inv2 hv2).2 with e | e <;> rw [e] <;> rfl)
  refine r_icmp_lt (tgt := 16) dX11_isDigit_3 (by decide) (fun c => ?_) (fun c => ?_)
  · replace hq1 := (if_pos c).symm.trans hq1
    refine r_iconst (v := (0 : Int32)) dX11_isDigit_16 (by decide) ?_
    obtain rfl := Option.some.inj hq1
    exact x_sub [] rfl Jq1
  · replace hq1 := (if_neg c).symm.trans hq1
    refine r_iload_n (x := a0) dX11_isDigit_6 rfl ?_
    refine r_bipush (v := (57 : Int32)) dX11_isDigit_7 (by decide) ?_
    refine r_icmp_gt (tgt := 16) dX11_isDigit_9 (by decide) (fun c => ?_) (fun c => ?_)
    · replace hq1 := (if_pos c).symm.trans hq1
      refine r_iconst (v := (0 : Int32)) dX11_isDigit_16 (by decide) ?_
      obtain rfl := Option.some.inj hq1
      exact x_sub [] rfl Jq1
    · replace hq1 := (if_neg c).symm.trans hq1
      refine r_iconst (v := (1 : Int32)) dX11_isDigit_12 (by decide) ?_
      refine r_goto (tgt := 17) dX11_isDigit_13 (by decide) ?_
      obtain rfl := Option.some.inj hq1
      exact x_sub [] rfl Jq1
theorem S_X11_isDigit (n : Nat) (st : xS) (a0 : Int32) (rv : Int32) (h : F_X11_isDigit n st a0 = some rv) : Ct mX11_isDigit [.int a0] st (some (.int rv)) st 0 := by
  refine Ct.of (by decide) (by simp only [lgL_R, lgL_I, lgL_L, lgL_0]; decide) ?_
  try simp only [lvA_R]
  exact R_X11_isDigit n st a0 rv h
theorem R_X11_three (n : Nat) (st : xS) (a0 : Int32) (a1 : Int32) (a2 : Int32) (rv : Int32) (h : F_X11_three n st a0 a1 a2 = some rv) : Rn mX11_three 0 [(0, .int a0), (1, .int a1), (2, .int a2)] [] st (some (.int rv)) st 0 := by
  unfold F_X11_three at h
  refine r_bipush (v := (32 : Int32)) dX11_three_0 (by decide) ?_
  refine r_iload_n (x := a0) dX11_three_2 rfl ?_
  refine r_imul dX11_three_3 ?_
  refine r_iload_n (x := a1) dX11_three_4 rfl ?_
  refine r_iadd dX11_three_5 ?_
  refine r_bipush (v := (32 : Int32)) dX11_three_6 (by decide) ?_
  refine r_imul dX11_three_8 ?_
  refine r_iload_n (x := a2) dX11_three_9 rfl ?_
  refine r_iadd dX11_three_10 ?_
  obtain rfl := Option.some.inj h
  exact r_ireturn dX11_three_11 .int rfl rfl
theorem S_X11_three (n : Nat) (st : xS) (a0 : Int32) (a1 : Int32) (a2 : Int32) (rv : Int32) (h : F_X11_three n st a0 a1 a2 = some rv) : Ct mX11_three [.int a0, .int a1, .int a2] st (some (.int rv)) st 0 := by
  refine Ct.of (by decide) (by simp only [lgL_R, lgL_I, lgL_L, lgL_0]; decide) ?_
  try simp only [lvA_R]
  exact R_X11_three n st a0 a1 a2 rv h

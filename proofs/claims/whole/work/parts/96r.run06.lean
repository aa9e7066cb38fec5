/-! printed by a program: the methods run as their functions say -/
theorem R_X11_miles (n : Nat) (st : xS) (a0 : Option Nat) (a1 : Int32) (a2 : Int32) (a3 : Int32) (rv : Int32) (h : F_X11_miles n st a0 a1 a2 a3 = some rv) : Rn mX11_miles 0 [(0, va_rf a0), (1, .int a1), (2, .int a2), (3, .int a3)] [] st (some (.int rv)) st 2 := by
  unfold F_X11_miles at h
  refine x_aload_n (o := a0) dX11_miles_0 rfl ?_
  refine r_iconst (v := (0 : Int32)) dX11_miles_1 (by decide) ?_
  refine r_iload_n (x := a1) dX11_miles_2 rfl ?_
  obtain ⟨q2, hq2, h⟩ := xb h
  obtain ⟨v1, hv1, h⟩ := xb h
  refine z_callV (as := [.int (0 : Int32), .int a1]) (o := a0) (r1 := (some (.int v1))) (stk := []) (stk2 := [.int v1]) (st1 := st) (d' := 1) dX11_miles_3 xl_X11_130 hq2 (by decide) (Nat.le_trans xs0 (by decide)) rfl rfl (S_X11_isOf n st a0 (0 : Int32) a1 v1 hv1) ?_
  refine r_if_ne (tgt := 11) dX11_miles_6 (by decide) (fun c => ?_) (fun c => ?_)
  · replace h := (if_neg c).symm.trans h
    refine r_iconst (v := (0 : Int32)) dX11_miles_11 (by decide) ?_
    refine r_iload_n (x := a1) dX11_miles_12 rfl ?_
    obtain ⟨v3, hv3, h⟩ := xb h
    refine z_callS (as := [.int (0 : Int32), .int a1]) (r1 := (some (.int v3))) (stk := []) (stk2 := [.int v3]) (st1 := st) (d' := 0) dX11_miles_13 xl_X11_150 (by decide) (Nat.le_trans xs0 (by decide)) rfl rfl (S_X11_placeOf n st (0 : Int32) a1 v3 hv3) ?_
    refine r_istore (lv' := [(4, .int v3), (0, va_rf a0), (1, .int a1), (2, .int a2), (3, .int a3)]) (x := v3) dX11_miles_16 (by decide) rfl ?_
    refine r_iload_n (x := a2) dX11_miles_18 rfl ?_
    refine r_iconst (v := (0 : Int32)) dX11_miles_19 (by decide) ?_
    refine x_aload_n (o := a0) dX11_miles_20 rfl ?_
    obtain ⟨v4, hv4, h⟩ := xb h
    refine x_getR (o := a0) dX11_miles_21 xf_X11_7 hv4 ?_
    refine r_iload (x := v3) dX11_miles_24 rfl ?_
    obtain ⟨v5, hv5, h⟩ := xb h
    refine x_iaload (o := v4) dX11_miles_26 hv5 ?_
    refine r_iconst (v := (1 : Int32)) dX11_miles_27 (by decide) ?_
    refine r_isub dX11_miles_28 ?_
    obtain ⟨v6, hv6, h⟩ := xb h
    refine z_callS (as := [.int a2, .int (0 : Int32), .int (v5 - (1 : Int32))]) (r1 := (some (.int v6))) (stk := []) (stk2 := [.int v6]) (st1 := st) (d' := 0) dX11_miles_29 xl_X11_90 (by decide) (Nat.le_trans xs0 (by decide)) rfl rfl (S_X11_isIn n st a2 (0 : Int32) (v5 - (1 : Int32)) v6 hv6) ?_
    obtain ⟨q12, hq12, h⟩ := xb h
    have Jq12 : Rn mX11_miles 73 [] [.int q12] st (some (.int rv)) st 2 := by
      obtain rfl := Option.some.inj h
      exact r_ireturn dX11_miles_73 .int rfl rfl
    refine r_if_eq (tgt := 72) dX11_miles_32 (by decide) (fun c => ?_) (fun c => ?_)
    · replace hq12 := (if_pos c).symm.trans hq12
      refine r_iconst (v := (-1 : Int32)) dX11_miles_72 (by decide) ?_
      obtain rfl := Option.some.inj hq12
      exact x_sub [] rfl Jq12
    · replace hq12 := (if_neg c).symm.trans hq12
      refine r_iload_n (x := a3) dX11_miles_35 rfl ?_
      refine r_iconst (v := (0 : Int32)) dX11_miles_36 (by decide) ?_
      refine x_aload_n (o := a0) dX11_miles_37 rfl ?_
      obtain ⟨v7, hv7, hq12⟩ := xb hq12
      refine x_getR (o := a0) dX11_miles_38 xf_X11_7 hv7 ?_
      refine r_iload (x := v3) dX11_miles_41 rfl ?_
      obtain ⟨v8, hv8, hq12⟩ := xb hq12
      refine x_iaload (o := v7) dX11_miles_43 hv8 ?_
      refine r_iconst (v := (1 : Int32)) dX11_miles_44 (by decide) ?_
      refine r_isub dX11_miles_45 ?_
      obtain ⟨v9, hv9, hq12⟩ := xb hq12
      refine z_callS (as := [.int a3, .int (0 : Int32), .int (v8 - (1 : Int32))]) (r1 := (some (.int v9))) (stk := []) (stk2 := [.int v9]) (st1 := st) (d' := 0) dX11_miles_46 xl_X11_90 (by decide) (Nat.le_trans xs0 (by decide)) rfl rfl (S_X11_isIn n st a3 (0 : Int32) (v8 - (1 : Int32)) v9 hv9) ?_
      refine r_if_eq (tgt := 72) dX11_miles_49 (by decide) (fun c => ?_) (fun c => ?_)
      · replace hq12 := (if_pos c).symm.trans hq12
        refine r_iconst (v := (-1 : Int32)) dX11_miles_72 (by decide) ?_
        obtain rfl := Option.some.inj hq12
        exact x_sub [] rfl Jq12
      · replace hq12 := (if_neg c).symm.trans hq12
        refine x_aload_n (o := a0) dX11_miles_52 rfl ?_
        obtain ⟨v10, hv10, hq12⟩ := xb hq12
        refine x_getR (o := a0) dX11_miles_53 xf_X11_7 hv10 ?_
        refine r_iload (x := v3) dX11_miles_56 rfl ?_
        refine r_bipush (v := (50 : Int32)) dX11_miles_58 (by decide) ?_
        refine r_iadd dX11_miles_60 ?_
        refine r_bipush (v := (10 : Int32)) dX11_miles_61 (by decide) ?_
        refine r_iload_n (x := a2) dX11_miles_63 rfl ?_
        refine r_imul dX11_miles_64 ?_
        refine r_iadd dX11_miles_65 ?_
        refine r_iload_n (x := a3) dX11_miles_66 rfl ?_
        refine r_iadd dX11_miles_67 ?_
        obtain ⟨v11, hv11, hq12⟩ := xb hq12
        refine x_iaload (o := v10) dX11_miles_68 hv11 ?_
        refine r_goto (tgt := 73) dX11_miles_69 (by decide) ?_
        obtain rfl := Option.some.inj hq12
        exact x_sub [] rfl Jq12
  · replace h := (if_pos c).symm.trans h
    refine r_iconst (v := (-1 : Int32)) dX11_miles_9 (by decide) ?_
    obtain rfl := Option.some.inj h
    exact r_ireturn dX11_miles_10 .int rfl rfl
theorem S_X11_miles (n : Nat) (st : xS) (a0 : Option Nat) (a1 : Int32) (a2 : Int32) (a3 : Int32) (rv : Int32) (h : F_X11_miles n st a0 a1 a2 a3 = some rv) : Ct mX11_miles [va_rf a0, .int a1, .int a2, .int a3] st (some (.int rv)) st 2 := by
  refine Ct.of (by decide) (by simp only [lgL_R, lgL_I, lgL_L, lgL_0]; decide) ?_
  try simp only [lvA_R]
  exact R_X11_miles n st a0 a1 a2 a3 rv h
theorem R_X11_law (n : Nat) (st : xS) (a0 : Option Nat) (a1 : Int32) (a2 : Int32) (rv : Int32) (h : F_X11_law n st a0 a1 a2 = some rv) : Rn mX11_law 0 [(0, va_rf a0), (1, .int a1), (2, .int a2)] [] st (some (.int rv)) st 2 := by
  unfold F_X11_law at h
  refine x_aload_n (o := a0) dX11_law_0 rfl ?_
  refine r_iconst (v := (1 : Int32)) dX11_law_1 (by decide) ?_
  refine r_iload_n (x := a1) dX11_law_2 rfl ?_
  obtain ⟨q2, hq2, h⟩ := xb h
  obtain ⟨v1, hv1, h⟩ := xb h
  refine z_callV (as := [.int (1 : Int32), .int a1]) (o := a0) (r1 := (some (.int v1))) (stk := []) (stk2 := [.int v1]) (st1 := st) (d' := 1) dX11_law_3 xl_X11_130 hq2 (by decide) (Nat.le_trans xs0 (by decide)) rfl rfl (S_X11_isOf n st a0 (1 : Int32) a1 v1 hv1) ?_
  refine r_if_ne (tgt := 11) dX11_law_6 (by decide) (fun c => ?_) (fun c => ?_)
  · replace h := (if_neg c).symm.trans h
    refine r_iload_n (x := a2) dX11_law_11 rfl ?_
    refine r_if_ne (tgt := 26) dX11_law_12 (by decide) (fun c => ?_) (fun c => ?_)
    · replace h := (if_neg c).symm.trans h
      refine r_iload_n (x := a2) dX11_law_26 rfl ?_
      refine r_bipush (v := (10 : Int32)) dX11_law_27 (by decide) ?_
      refine r_bipush (v := (15 : Int32)) dX11_law_29 (by decide) ?_
      obtain ⟨v6, hv6, h⟩ := xb h
      refine z_callS (as := [.int a2, .int (10 : Int32), .int (15 : Int32)]) (r1 := (some (.int v6))) (stk := []) (stk2 := [.int v6]) (st1 := st) (d' := 0) dX11_law_31 xl_X11_90 (by decide) (Nat.le_trans xs0 (by decide)) rfl rfl (S_X11_isIn n st a2 (10 : Int32) (15 : Int32) v6 hv6) ?_
      refine r_if_eq (tgt := 55) dX11_law_34 (by decide) (fun c => ?_) (fun c => ?_)
      · replace h := (if_pos c).symm.trans h
        refine r_iload_n (x := a2) dX11_law_55 rfl ?_
        refine r_bipush (v := (21 : Int32)) dX11_law_56 (by decide) ?_
        refine r_bipush (v := (25 : Int32)) dX11_law_58 (by decide) ?_
        obtain ⟨v7, hv7, h⟩ := xb h
        refine z_callS (as := [.int a2, .int (21 : Int32), .int (25 : Int32)]) (r1 := (some (.int v7))) (stk := []) (stk2 := [.int v7]) (st1 := st) (d' := 0) dX11_law_60 xl_X11_90 (by decide) (Nat.le_trans xs0 (by decide)) rfl rfl (S_X11_isIn n st a2 (21 : Int32) (25 : Int32) v7 hv7) ?_
        obtain ⟨q11, hq11, h⟩ := xb h
        have Jq11 : Rn mX11_law 88 [] [.int q11] st (some (.int rv)) st 2 := by
          obtain rfl := Option.some.inj h
          exact r_ireturn dX11_law_88 .int rfl rfl
        refine r_if_eq (tgt := 87) dX11_law_63 (by decide) (fun c => ?_) (fun c => ?_)
        · replace hq11 := (if_pos c).symm.trans hq11
          refine r_iconst (v := (-1 : Int32)) dX11_law_87 (by decide) ?_
          obtain rfl := Option.some.inj hq11
          exact x_sub [] rfl Jq11
        · replace hq11 := (if_neg c).symm.trans hq11
          refine x_aload_n (o := a0) dX11_law_66 rfl ?_
          obtain ⟨v8, hv8, hq11⟩ := xb hq11
          refine x_getR (o := a0) dX11_law_67 xf_X11_7 hv8 ?_
          refine r_iconst (v := (1 : Int32)) dX11_law_70 (by decide) ?_
          refine r_iload_n (x := a1) dX11_law_71 rfl ?_
          obtain ⟨v9, hv9, hq11⟩ := xb hq11
          refine z_callS (as := [.int (1 : Int32), .int a1]) (r1 := (some (.int v9))) (stk := [va_rf v8]) (stk2 := [.int v9, va_rf v8]) (st1 := st) (d' := 0) dX11_law_72 xl_X11_150 (by decide) (Nat.le_trans (xsA xs0) (by decide)) rfl rfl (S_X11_placeOf n st (1 : Int32) a1 v9 hv9) ?_
          refine r_bipush (v := (7 : Int32)) dX11_law_75 (by decide) ?_
          refine r_iadd dX11_law_77 ?_
          refine r_iload_n (x := a2) dX11_law_78 rfl ?_
          refine r_iadd dX11_law_79 ?_
          refine r_bipush (v := (20 : Int32)) dX11_law_80 (by decide) ?_
          refine r_isub dX11_law_82 ?_
          obtain ⟨v10, hv10, hq11⟩ := xb hq11
          refine x_iaload (o := v8) dX11_law_83 hv10 ?_
          refine r_goto (tgt := 88) dX11_law_84 (by decide) ?_
          obtain rfl := Option.some.inj hq11
          exact x_sub [] rfl Jq11
      · replace h := (if_neg c).symm.trans h
        refine x_aload_n (o := a0) dX11_law_37 rfl ?_
        obtain ⟨v12, hv12, h⟩ := xb h
        refine x_getR (o := a0) dX11_law_38 xf_X11_7 hv12 ?_
        refine r_iconst (v := (1 : Int32)) dX11_law_41 (by decide) ?_
        refine r_iload_n (x := a1) dX11_law_42 rfl ?_
        obtain ⟨v13, hv13, h⟩ := xb h
        refine z_callS (as := [.int (1 : Int32), .int a1]) (r1 := (some (.int v13))) (stk := [va_rf v12]) (stk2 := [.int v13, va_rf v12]) (st1 := st) (d' := 0) dX11_law_43 xl_X11_150 (by decide) (Nat.le_trans (xsA xs0) (by decide)) rfl rfl (S_X11_placeOf n st (1 : Int32) a1 v13 hv13) ?_
        refine r_iconst (v := (1 : Int32)) dX11_law_46 (by decide) ?_
        refine r_iadd dX11_law_47 ?_
        refine r_iload_n (x := a2) dX11_law_48 rfl ?_
        refine r_iadd dX11_law_49 ?_
        refine r_bipush (v := (10 : Int32)) dX11_law_50 (by decide) ?_
        refine r_isub dX11_law_52 ?_
        obtain ⟨v14, hv14, h⟩ := xb h
        refine x_iaload (o := v12) dX11_law_53 hv14 ?_
        obtain rfl := Option.some.inj h
        exact r_ireturn dX11_law_54 .int rfl rfl
    · replace h := (if_pos c).symm.trans h
      refine x_aload_n (o := a0) dX11_law_15 rfl ?_
      obtain ⟨v3, hv3, h⟩ := xb h
      refine x_getR (o := a0) dX11_law_16 xf_X11_7 hv3 ?_
      refine r_iconst (v := (1 : Int32)) dX11_law_19 (by decide) ?_
      refine r_iload_n (x := a1) dX11_law_20 rfl ?_
      obtain ⟨v4, hv4, h⟩ := xb h
      refine z_callS (as := [.int (1 : Int32), .int a1]) (r1 := (some (.int v4))) (stk := [va_rf v3]) (stk2 := [.int v4, va_rf v3]) (st1 := st) (d' := 0) dX11_law_21 xl_X11_150 (by decide) (Nat.le_trans (xsA xs0) (by decide)) rfl rfl (S_X11_placeOf n st (1 : Int32) a1 v4 hv4) ?_
      obtain ⟨v5, hv5, h⟩ := xb h
      refine x_iaload (o := v3) dX11_law_24 hv5 ?_
      obtain rfl := Option.some.inj h
      exact r_ireturn dX11_law_25 .int rfl rfl
  · replace h := (if_pos c).symm.trans h
    refine r_iconst (v := (-1 : Int32)) dX11_law_9 (by decide) ?_
    obtain rfl := Option.some.inj h
    exact r_ireturn dX11_law_10 .int rfl rfl
theorem S_X11_law (n : Nat) (st : xS) (a0 : Option Nat) (a1 : Int32) (a2 : Int32) (rv : Int32) (h : F_X11_law n st a0 a1 a2 = some rv) : Ct mX11_law [va_rf a0, .int a1, .int a2] st (some (.int rv)) st 2 := by
  refine Ct.of (by decide) (by simp only [lgL_R, lgL_I, lgL_L, lgL_0]; decide) ?_
  try simp only [lvA_R]
  exact R_X11_law n st a0 a1 a2 rv h
theorem R_X11_gamesOf (n : Nat) (st : xS) (a0 : Option Nat) (a1 : Int32) (rv : Int32) (h : F_X11_gamesOf n st a0 a1 = some rv) : Rn mX11_gamesOf 0 [(0, va_rf a0), (1, .int a1)] [] st (some (.int rv)) st 1 := by
  unfold F_X11_gamesOf at h
  refine x_aload_n (o := a0) dX11_gamesOf_0 rfl ?_
  obtain ⟨v1, hv1, h⟩ := xb h
  refine x_getR (o := a0) dX11_gamesOf_1 xf_X11_7 hv1 ?_
  refine r_iconst (v := (2 : Int32)) dX11_gamesOf_4 (by decide) ?_
  refine r_iload_n (x := a1) dX11_gamesOf_5 rfl ?_
  obtain ⟨v2, hv2, h⟩ := xb h
  refine z_callS (as := [.int (2 : Int32), .int a1]) (r1 := (some (.int v2))) (stk := [va_rf v1]) (stk2 := [.int v2, va_rf v1]) (st1 := st) (d' := 0) dX11_gamesOf_6 xl_X11_150 (by decide) (Nat.le_trans (xsA xs0) (by decide)) rfl rfl (S_X11_placeOf n st (2 : Int32) a1 v2 hv2) ?_
  obtain ⟨v3, hv3, h⟩ := xb h
  refine x_iaload (o := v1) dX11_gamesOf_9 hv3 ?_
  obtain rfl := Option.some.inj h
  exact r_ireturn dX11_gamesOf_10 .int rfl rfl
theorem S_X11_gamesOf (n : Nat) (st : xS) (a0 : Option Nat) (a1 : Int32) (rv : Int32) (h : F_X11_gamesOf n st a0 a1 = some rv) : Ct mX11_gamesOf [va_rf a0, .int a1] st (some (.int rv)) st 1 := by
  refine Ct.of (by decide) (by simp only [lgL_R, lgL_I, lgL_L, lgL_0]; decide) ?_
  try simp only [lvA_R]
  exact R_X11_gamesOf n st a0 a1 rv h
theorem R_X11_gameOf (n : Nat) (st : xS) (a0 : Option Nat) (a1 : Int32) (a2 : Int32) (a3 : Int32) (rv : Int32) (h : F_X11_gameOf n st a0 a1 a2 a3 = some rv) : Rn mX11_gameOf 0 [(0, va_rf a0), (1, .int a1), (2, .int a2), (3, .int a3)] [] st (some (.int rv)) st 1 := by
  unfold F_X11_gameOf at h
  refine x_aload_n (o := a0) dX11_gameOf_0 rfl ?_
  obtain ⟨v1, hv1, h⟩ := xb h
  refine x_getR (o := a0) dX11_gameOf_1 xf_X11_7 hv1 ?_
  refine r_iconst (v := (2 : Int32)) dX11_gameOf_4 (by decide) ?_
  refine r_iload_n (x := a1) dX11_gameOf_5 rfl ?_
  obtain ⟨v2, hv2, h⟩ := xb h
  refine z_callS (as := [.int (2 : Int32), .int a1]) (r1 := (some (.int v2))) (stk := [va_rf v1]) (stk2 := [.int v2, va_rf v1]) (st1 := st) (d' := 0) dX11_gameOf_6 xl_X11_150 (by decide) (Nat.le_trans (xsA xs0) (by decide)) rfl rfl (S_X11_placeOf n st (2 : Int32) a1 v2 hv2) ?_
  refine r_iconst (v := (1 : Int32)) dX11_gameOf_9 (by decide) ?_
  refine r_iadd dX11_gameOf_10 ?_
  refine r_bipush (v := (6 : Int32)) dX11_gameOf_11 (by decide) ?_
  refine r_iload_n (x := a2) dX11_gameOf_13 rfl ?_
  refine r_imul dX11_gameOf_14 ?_
  refine r_iadd dX11_gameOf_15 ?_
  refine r_iload_n (x := a3) dX11_gameOf_16 rfl ?_
  refine r_iadd dX11_gameOf_17 ?_
  obtain ⟨v3, hv3, h⟩ := xb h
  refine x_iaload (o := v1) dX11_gameOf_18 hv3 ?_
  obtain rfl := Option.some.inj h
  exact r_ireturn dX11_gameOf_19 .int rfl rfl
theorem S_X11_gameOf (n : Nat) (st : xS) (a0 : Option Nat) (a1 : Int32) (a2 : Int32) (a3 : Int32) (rv : Int32) (h : F_X11_gameOf n st a0 a1 a2 a3 = some rv) : Ct mX11_gameOf [va_rf a0, .int a1, .int a2, .int a3] st (some (.int rv)) st 1 := by
  refine Ct.of (by decide) (by simp only [lgL_R, lgL_I, lgL_L, lgL_0]; decide) ?_
  try simp only [lvA_R]
  exact R_X11_gameOf n st a0 a1 a2 a3 rv h
theorem R_X11_plan (n : Nat) (st : xS) (a0 : Option Nat) (a1 : Int32) (a2 : Int32) (a3 : Int32) (rv : Int32) (h : F_X11_plan n st a0 a1 a2 a3 = some rv) : Rn mX11_plan 0 [(0, va_rf a0), (1, .int a1), (2, .int a2), (3, .int a3)] [] st (some (.int rv)) st 2 := by
  unfold F_X11_plan at h
  refine x_aload_n (o := a0) dX11_plan_0 rfl ?_
  refine r_iconst (v := (2 : Int32)) dX11_plan_1 (by decide) ?_
  refine r_iload_n (x := a1) dX11_plan_2 rfl ?_
  obtain ⟨q2, hq2, h⟩ := xb h
  obtain ⟨v1, hv1, h⟩ := xb h
  refine z_callV (as := [.int (2 : Int32), .int a1]) (o := a0) (r1 := (some (.int v1))) (stk := []) (stk2 := [.int v1]) (st1 := st) (d' := 1) dX11_plan_3 xl_X11_130 hq2 (by decide) (Nat.le_trans xs0 (by decide)) rfl rfl (S_X11_isOf n st a0 (2 : Int32) a1 v1 hv1) ?_
  refine r_if_ne (tgt := 12) dX11_plan_6 (by decide) (fun c => ?_) (fun c => ?_)
  · replace h := (if_neg c).symm.trans h
    refine r_iload_n (x := a2) dX11_plan_12 rfl ?_
    refine r_iconst (v := (-1 : Int32)) dX11_plan_13 (by decide) ?_
    refine r_icmp_ne (tgt := 32) dX11_plan_14 (by decide) (fun c => ?_) (fun c => ?_)
    · replace h := (if_neg c).symm.trans h
      refine r_iload_n (x := a2) dX11_plan_32 rfl ?_
      refine r_iconst (v := (0 : Int32)) dX11_plan_33 (by decide) ?_
      refine x_aload_n (o := a0) dX11_plan_34 rfl ?_
      refine r_iload_n (x := a1) dX11_plan_35 rfl ?_
      obtain ⟨q7, hq7, h⟩ := xb h
      obtain ⟨v6, hv6, h⟩ := xb h
      refine z_callV (as := [.int a1]) (o := a0) (r1 := (some (.int v6))) (stk := [.int (0 : Int32), .int a2]) (stk2 := [.int v6, .int (0 : Int32), .int a2]) (st1 := st) (d' := 1) dX11_plan_36 xl_X11_153 hq7 (by decide) (Nat.le_trans (xsI (xsI xs0)) (by decide)) rfl rfl (S_X11_gamesOf n st a0 a1 v6 hv6) ?_
      refine r_iconst (v := (1 : Int32)) dX11_plan_39 (by decide) ?_
      refine r_isub dX11_plan_40 ?_
      obtain ⟨v8, hv8, h⟩ := xb h
      refine z_callS (as := [.int a2, .int (0 : Int32), .int (v6 - (1 : Int32))]) (r1 := (some (.int v8))) (stk := []) (stk2 := [.int v8]) (st1 := st) (d' := 0) dX11_plan_41 xl_X11_90 (by decide) (Nat.le_trans xs0 (by decide)) rfl rfl (S_X11_isIn n st a2 (0 : Int32) (v6 - (1 : Int32)) v8 hv8) ?_
      obtain ⟨q12, hq12, h⟩ := xb h
      have Jq12 : Rn mX11_plan 68 [] [.int q12] st (some (.int rv)) st 2 := by
        obtain rfl := Option.some.inj h
        exact r_ireturn dX11_plan_68 .int rfl rfl
      refine r_if_eq (tgt := 66) dX11_plan_44 (by decide) (fun c => ?_) (fun c => ?_)
      · replace hq12 := (if_pos c).symm.trans hq12
        refine r_bipush (v := (-2 : Int32)) dX11_plan_66 (by decide) ?_
        obtain rfl := Option.some.inj hq12
        exact x_sub [] rfl Jq12
      · replace hq12 := (if_neg c).symm.trans hq12
        refine r_iload_n (x := a3) dX11_plan_47 rfl ?_
        refine r_iconst (v := (0 : Int32)) dX11_plan_48 (by decide) ?_
        refine r_iconst (v := (5 : Int32)) dX11_plan_49 (by decide) ?_
        obtain ⟨v9, hv9, hq12⟩ := xb hq12
        refine z_callS (as := [.int a3, .int (0 : Int32), .int (5 : Int32)]) (r1 := (some (.int v9))) (stk := []) (stk2 := [.int v9]) (st1 := st) (d' := 0) dX11_plan_50 xl_X11_90 (by decide) (Nat.le_trans xs0 (by decide)) rfl rfl (S_X11_isIn n st a3 (0 : Int32) (5 : Int32) v9 hv9) ?_
        refine r_if_eq (tgt := 66) dX11_plan_53 (by decide) (fun c => ?_) (fun c => ?_)
        · replace hq12 := (if_pos c).symm.trans hq12
          refine r_bipush (v := (-2 : Int32)) dX11_plan_66 (by decide) ?_
          obtain rfl := Option.some.inj hq12
          exact x_sub [] rfl Jq12
        · replace hq12 := (if_neg c).symm.trans hq12
          refine x_aload_n (o := a0) dX11_plan_56 rfl ?_
          refine r_iload_n (x := a1) dX11_plan_57 rfl ?_
          refine r_iload_n (x := a2) dX11_plan_58 rfl ?_
          refine r_iload_n (x := a3) dX11_plan_59 rfl ?_
          obtain ⟨q11, hq11, hq12⟩ := xb hq12
          obtain ⟨v10, hv10, hq12⟩ := xb hq12
          refine z_callV (as := [.int a1, .int a2, .int a3]) (o := a0) (r1 := (some (.int v10))) (stk := []) (stk2 := [.int v10]) (st1 := st) (d' := 1) dX11_plan_60 xl_X11_156 hq11 (by decide) (Nat.le_trans xs0 (by decide)) rfl rfl (S_X11_gameOf n st a0 a1 a2 a3 v10 hv10) ?_
          refine r_goto (tgt := 68) dX11_plan_63 (by decide) ?_
          obtain rfl := Option.some.inj hq12
          exact x_sub [] rfl Jq12
    · replace h := (if_pos c).symm.trans h
      refine r_iload_n (x := a3) dX11_plan_17 rfl ?_
      obtain ⟨q5, hq5, h⟩ := xb h
      have Jq5 : Rn mX11_plan 31 [] [.int q5] st (some (.int rv)) st 2 := by
        obtain rfl := Option.some.inj h
        exact r_ireturn dX11_plan_31 .int rfl rfl
      refine r_if_ne (tgt := 29) dX11_plan_18 (by decide) (fun c => ?_) (fun c => ?_)
      · replace hq5 := (if_neg c).symm.trans hq5
        refine r_bipush (v := (-2 : Int32)) dX11_plan_29 (by decide) ?_
        obtain rfl := Option.some.inj hq5
        exact x_sub [] rfl Jq5
      · replace hq5 := (if_pos c).symm.trans hq5
        refine x_aload_n (o := a0) dX11_plan_21 rfl ?_
        refine r_iload_n (x := a1) dX11_plan_22 rfl ?_
        obtain ⟨q4, hq4, hq5⟩ := xb hq5
        obtain ⟨v3, hv3, hq5⟩ := xb hq5
        refine z_callV (as := [.int a1]) (o := a0) (r1 := (some (.int v3))) (stk := []) (stk2 := [.int v3]) (st1 := st) (d' := 1) dX11_plan_23 xl_X11_153 hq4 (by decide) (Nat.le_trans xs0 (by decide)) rfl rfl (S_X11_gamesOf n st a0 a1 v3 hv3) ?_
        refine r_goto (tgt := 31) dX11_plan_26 (by decide) ?_
        obtain rfl := Option.some.inj hq5
        exact x_sub [] rfl Jq5
  · replace h := (if_pos c).symm.trans h
    refine r_bipush (v := (-2 : Int32)) dX11_plan_9 (by decide) ?_
    obtain rfl := Option.some.inj h
    exact r_ireturn dX11_plan_11 .int rfl rfl
theorem S_X11_plan (n : Nat) (st : xS) (a0 : Option Nat) (a1 : Int32) (a2 : Int32) (a3 : Int32) (rv : Int32) (h : F_X11_plan n st a0 a1 a2 a3 = some rv) : Ct mX11_plan [va_rf a0, .int a1, .int a2, .int a3] st (some (.int rv)) st 2 := by
  refine Ct.of (by decide) (by simp only [lgL_R, lgL_I, lgL_L, lgL_0]; decide) ?_
  try simp only [lvA_R]
  exact R_X11_plan n st a0 a1 a2 a3 rv h
theorem R_X11_goes_L32 (n : Nat) {r : Option Value} {st' : xS} : ∀ (k : Nat) (st : xS) (a0 : Option Nat) (a2 : Int32) (a3 : Int32) (a4 : Int32) (a5 : Int32) (q : (Int32)), F_X11_goes_L32 n k st a0 a2 a3 a4 a5 = some q → Rn mX11_goes 115 [(4, .int q)] [] st r st' 2 → Rn mX11_goes 32 [(0, va_rf a0), (2, .int a2), (3, .int a3), (4, .int a4), (5, .int a5)] [] st r st' 2 := by
  intro k
  induction k with
  | zero => intro st a0 a2 a3 a4 a5 q h; cases h
  | succ k ih =>
    intro st a0 a2 a3 a4 a5 q h J
    unfold F_X11_goes_L32 at h
    refine r_iload (x := a5) dX11_goes_32 rfl ?_
    refine x_aload_n (o := a0) dX11_goes_34 rfl ?_
    refine r_iload_n (x := a2) dX11_goes_35 rfl ?_
    obtain ⟨q9, hq9, h⟩ := xb h
    obtain ⟨v8, hv8, h⟩ := xb h
    refine z_callV (as := [.int a2]) (o := a0) (r1 := (some (.int v8))) (stk := [.int a5]) (stk2 := [.int v8, .int a5]) (st1 := st) (d' := 1) dX11_goes_36 xl_X11_153 hq9 (by decide) (Nat.le_trans (xsI xs0) (by decide)) rfl rfl (S_X11_gamesOf n st a0 a2 v8 hv8) ?_
    refine r_icmp_ge (tgt := 115) dX11_goes_39 (by decide) (fun c => ?_) (fun c => ?_)
    · replace h := (if_pos c).symm.trans h
      obtain rfl := Option.some.inj h
      exact x_sub [3] rfl J
    · replace h := (if_neg c).symm.trans h
      refine r_iload (x := a4) dX11_goes_42 rfl ?_
      obtain ⟨q22, hq22, h⟩ := xb h
      have Jq22 : Rn mX11_goes 107 [(0, va_rf a0), (2, .int a2), (3, .int a3), (5, .int a5)] [.int q22] st r st' 2 := by
        refine r_istore (lv' := [(4, .int q22), (0, va_rf a0), (2, .int a2), (3, .int a3), (5, .int a5)]) (x := q22) dX11_goes_107 (by decide) rfl ?_
        obtain ⟨v23, hv23, h⟩ := xb h
        refine x_iinc (c := (1 : Int32)) (lv' := [(5, .int v23), (4, .int q22), (0, va_rf a0), (2, .int a2), (3, .int a3)]) (x := a5) (v := v23) dX11_goes_109 rfl (by decide) (Option.some.inj hv23) (by decide) rfl ?_
        refine r_goto (tgt := 32) dX11_goes_112 (by decide) ?_
        exact x_sub [2, 3, 4, 1, 0] rfl (ih st a0 a2 a3 q22 v23 q h J)
      refine r_if_eq (tgt := 106) dX11_goes_44 (by decide) (fun c => ?_) (fun c => ?_)
      · replace hq22 := (if_pos c).symm.trans hq22
        refine r_iconst (v := (0 : Int32)) dX11_goes_106 (by decide) ?_
        obtain rfl := Option.some.inj hq22
        exact x_sub [0, 1, 2, 4] rfl Jq22
      · replace hq22 := (if_neg c).symm.trans hq22
        refine x_aload_n (o := a0) dX11_goes_47 rfl ?_
        refine r_iload_n (x := a2) dX11_goes_48 rfl ?_
        refine r_iload (x := a5) dX11_goes_49 rfl ?_
        refine r_iconst (v := (0 : Int32)) dX11_goes_51 (by decide) ?_
        obtain ⟨q11, hq11, hq22⟩ := xb hq22
        obtain ⟨v10, hv10, hq22⟩ := xb hq22
        refine z_callV (as := [.int a2, .int a5, .int (0 : Int32)]) (o := a0) (r1 := (some (.int v10))) (stk := []) (stk2 := [.int v10]) (st1 := st) (d' := 1) dX11_goes_52 xl_X11_156 hq11 (by decide) (Nat.le_trans xs0 (by decide)) rfl rfl (S_X11_gameOf n st a0 a2 a5 (0 : Int32) v10 hv10) ?_
        refine x_aload_n (o := a0) dX11_goes_55 rfl ?_
        obtain ⟨v12, hv12, hq22⟩ := xb hq22
        refine x_getR (o := a0) dX11_goes_56 xf_X11_7 hv12 ?_
        refine r_iload_n (x := a3) dX11_goes_59 rfl ?_
        refine r_iconst (v := (1 : Int32)) dX11_goes_60 (by decide) ?_
        refine r_iadd dX11_goes_61 ?_
        obtain ⟨v13, hv13, hq22⟩ := xb hq22
        refine x_iaload (o := v12) dX11_goes_62 hv13 ?_
        refine r_icmp_ge (tgt := 106) dX11_goes_63 (by decide) (fun c => ?_) (fun c => ?_)
        · replace hq22 := (if_pos c).symm.trans hq22
          refine r_iconst (v := (0 : Int32)) dX11_goes_106 (by decide) ?_
          obtain rfl := Option.some.inj hq22
          exact x_sub [0, 1, 2, 4] rfl Jq22
        · replace hq22 := (if_neg c).symm.trans hq22
          refine x_aload_n (o := a0) dX11_goes_66 rfl ?_
          refine r_iload_n (x := a2) dX11_goes_67 rfl ?_
          refine r_iload (x := a5) dX11_goes_68 rfl ?_
          refine r_iconst (v := (1 : Int32)) dX11_goes_70 (by decide) ?_
          obtain ⟨q15, hq15, hq22⟩ := xb hq22
          obtain ⟨v14, hv14, hq22⟩ := xb hq22
          refine z_callV (as := [.int a2, .int a5, .int (1 : Int32)]) (o := a0) (r1 := (some (.int v14))) (stk := []) (stk2 := [.int v14]) (st1 := st) (d' := 1) dX11_goes_71 xl_X11_156 hq15 (by decide) (Nat.le_trans xs0 (by decide)) rfl rfl (S_X11_gameOf n st a0 a2 a5 (1 : Int32) v14 hv14) ?_
          refine x_aload_n (o := a0) dX11_goes_74 rfl ?_
          obtain ⟨v16, hv16, hq22⟩ := xb hq22
          refine x_getR (o := a0) dX11_goes_75 xf_X11_7 hv16 ?_
          refine r_iload_n (x := a3) dX11_goes_78 rfl ?_
          refine r_iconst (v := (1 : Int32)) dX11_goes_79 (by decide) ?_
          refine r_iadd dX11_goes_80 ?_
          obtain ⟨v17, hv17, hq22⟩ := xb hq22
          refine x_iaload (o := v16) dX11_goes_81 hv17 ?_
          refine r_icmp_ge (tgt := 106) dX11_goes_82 (by decide) (fun c => ?_) (fun c => ?_)
          · replace hq22 := (if_pos c).symm.trans hq22
            refine r_iconst (v := (0 : Int32)) dX11_goes_106 (by decide) ?_
            obtain rfl := Option.some.inj hq22
            exact x_sub [0, 1, 2, 4] rfl Jq22
          · replace hq22 := (if_neg c).symm.trans hq22
            refine x_aload_n (o := a0) dX11_goes_85 rfl ?_
            refine r_iload_n (x := a2) dX11_goes_86 rfl ?_
            refine r_iload (x := a5) dX11_goes_87 rfl ?_
            refine r_iconst (v := (5 : Int32)) dX11_goes_89 (by decide) ?_
            obtain ⟨q19, hq19, hq22⟩ := xb hq22
            obtain ⟨v18, hv18, hq22⟩ := xb hq22
            refine z_callV (as := [.int a2, .int a5, .int (5 : Int32)]) (o := a0) (r1 := (some (.int v18))) (stk := []) (stk2 := [.int v18]) (st1 := st) (d' := 1) dX11_goes_90 xl_X11_156 hq19 (by decide) (Nat.le_trans xs0 (by decide)) rfl rfl (S_X11_gameOf n st a0 a2 a5 (5 : Int32) v18 hv18) ?_
            refine x_aload_n (o := a0) dX11_goes_93 rfl ?_
            obtain ⟨v20, hv20, hq22⟩ := xb hq22
            refine x_getR (o := a0) dX11_goes_94 xf_X11_7 hv20 ?_
            refine r_iload_n (x := a3) dX11_goes_97 rfl ?_
            obtain ⟨v21, hv21, hq22⟩ := xb hq22
            refine x_iaload (o := v20) dX11_goes_98 hv21 ?_
            refine r_icmp_ge (tgt := 106) dX11_goes_99 (by decide) (fun c => ?_) (fun c => ?_)
            · replace hq22 := (if_pos c).symm.trans hq22
              refine r_iconst (v := (0 : Int32)) dX11_goes_106 (by decide) ?_
              obtain rfl := Option.some.inj hq22
              exact x_sub [0, 1, 2, 4] rfl Jq22
            · replace hq22 := (if_neg c).symm.trans hq22
              refine r_iconst (v := (1 : Int32)) dX11_goes_102 (by decide) ?_
              refine r_goto (tgt := 107) dX11_goes_103 (by decide) ?_
              obtain rfl := Option.some.inj hq22
              exact x_sub [0, 1, 2, 4] rfl Jq22
theorem R_X11_goes (n : Nat) (st : xS) (a0 : Option Nat) (a1 : Int32) (a2 : Int32) (rv : Int32) (h : F_X11_goes n st a0 a1 a2 = some rv) : Rn mX11_goes 0 [(0, va_rf a0), (1, .int a1), (2, .int a2)] [] st (some (.int rv)) st 2 := by
  unfold F_X11_goes at h
  refine x_aload_n (o := a0) dX11_goes_0 rfl ?_
  refine r_iconst (v := (0 : Int32)) dX11_goes_1 (by decide) ?_
  refine r_iload_n (x := a1) dX11_goes_2 rfl ?_
  obtain ⟨q2, hq2, h⟩ := xb h
  obtain ⟨v1, hv1, h⟩ := xb h
  refine z_callV (as := [.int (0 : Int32), .int a1]) (o := a0) (r1 := (some (.int v1))) (stk := []) (stk2 := [.int v1]) (st1 := st) (d' := 1) dX11_goes_3 xl_X11_130 hq2 (by decide) (Nat.le_trans xs0 (by decide)) rfl rfl (S_X11_isOf n st a0 (0 : Int32) a1 v1 hv1) ?_
  refine r_if_eq (tgt := 18) dX11_goes_6 (by decide) (fun c => ?_) (fun c => ?_)
  · replace h := (if_pos c).symm.trans h
    refine r_iconst (v := (0 : Int32)) dX11_goes_18 (by decide) ?_
    obtain ⟨v3, hv3, h⟩ := xb h
    refine x_eqI (rz_inv2 hv3).1 ?_
    obtain rfl := Option.some.inj h
    exact r_ireturn dX11_goes_19 .boolean rfl (by rcases (rz_inv2 hv3).2 with e | e <;> rw [e] <;> rfl)
  · replace h := (if_neg c).symm.trans h
    refine x_aload_n (o := a0) dX11_goes_9 rfl ?_
    refine r_iconst (v := (2 : Int32)) dX11_goes_10 (by decide) ?_
    refine r_iload_n (x := a2) dX11_goes_11 rfl ?_
    obtain ⟨q5, hq5, h⟩ := xb h
    obtain ⟨v4, hv4, h⟩ := xb h
    refine z_callV (as := [.int (2 : Int32), .int a2]) (o := a0) (r1 := (some (.int v4))) (stk := []) (stk2 := [.int v4]) (st1 := st) (d' := 1) dX11_goes_12 xl_X11_130 hq5 (by decide) (Nat.le_trans xs0 (by decide)) rfl rfl (S_X11_isOf n st a0 (2 : Int32) a2 v4 hv4) ?_
    refine r_if_ne (tgt := 20) dX11_goes_15 (by decide) (fun c => ?_) (fun c => ?_)
    · replace h := (if_neg c).symm.trans h
      refine r_iconst (v := (0 : Int32)) dX11_goes_20 (by decide) ?_
      refine r_iload_n (x := a1) dX11_goes_21 rfl ?_
      obtain ⟨v7, hv7, h⟩ := xb h
      refine z_callS (as := [.int (0 : Int32), .int a1]) (r1 := (some (.int v7))) (stk := []) (stk2 := [.int v7]) (st1 := st) (d' := 0) dX11_goes_22 xl_X11_150 (by decide) (Nat.le_trans xs0 (by decide)) rfl rfl (S_X11_placeOf n st (0 : Int32) a1 v7 hv7) ?_
      refine r_istore_n (lv' := [(3, .int v7), (0, va_rf a0), (1, .int a1), (2, .int a2)]) (x := v7) dX11_goes_25 (by decide) rfl ?_
      refine r_iconst (v := (1 : Int32)) dX11_goes_26 (by decide) ?_
      refine r_istore (lv' := [(4, .int (1 : Int32)), (3, .int v7), (0, va_rf a0), (1, .int a1), (2, .int a2)]) (x := (1 : Int32)) dX11_goes_27 (by decide) rfl ?_
      refine r_iconst (v := (0 : Int32)) dX11_goes_29 (by decide) ?_
      refine r_istore (lv' := [(5, .int (0 : Int32)), (4, .int (1 : Int32)), (3, .int v7), (0, va_rf a0), (1, .int a1), (2, .int a2)]) (x := (0 : Int32)) dX11_goes_30 (by decide) rfl ?_
      obtain ⟨q24, hq24, h⟩ := xb h
      have Jq24 : Rn mX11_goes 115 [(4, .int q24)] [] st (some (.int rv)) st 2 := by
        refine r_iload (x := q24) dX11_goes_115 rfl ?_
        obtain ⟨v25, hv25, h⟩ := xb h
        refine x_eqI (rz_inv2 hv25).1 ?_
        obtain rfl := Option.some.inj h
        exact r_ireturn dX11_goes_117 .boolean rfl (by rcases (rz_inv2 hv25).2 with e | e <;> rw [e] <;> rfl)
      exact x_sub [3, 5, 2, 1, 0] rfl (R_X11_goes_L32 n n st a0 a2 v7 (1 : Int32) (0 : Int32) q24 hq24 Jq24)
    · replace h := (if_pos c).symm.trans h
      refine r_iconst (v := (0 : Int32)) dX11_goes_18 (by decide) ?_
      obtain ⟨v6, hv6, h⟩ := xb h
      refine x_eqI (rz_inv2 hv6).1 ?_
      obtain rfl := Option.some.inj h
      exact r_ireturn dX11_goes_19 .boolean rfl (by rcases (rz_inv2 hv6).2 with e | e <;> rw [e] <;> rfl)
theorem S_X11_goes (n : Nat) (st : xS) (a0 : Option Nat) (a1 : Int32) (a2 : Int32) (rv : Int32) (h : F_X11_goes n st a0 a1 a2 = some rv) : Ct mX11_goes [va_rf a0, .int a1, .int a2] st (some (.int rv)) st 2 := by
  refine Ct.of (by decide) (by simp only [lgL_R, lgL_I, lgL_L, lgL_0]; decide) ?_
  try simp only [lvA_R]
  exact R_X11_goes n st a0 a1 a2 rv h
theorem R_X11_ownOf (n : Nat) (st : xS) (a0 : Option Nat) (a1 : Int32) (a2 : Int32) (rv : Int32) (h : F_X11_ownOf n st a0 a1 a2 = some rv) : Rn mX11_ownOf 0 [(0, va_rf a0), (1, .int a1), (2, .int a2)] [] st (some (.int rv)) st 0 := by
  unfold F_X11_ownOf at h
  refine x_aload_n (o := a0) dX11_ownOf_0 rfl ?_
  obtain ⟨v1, hv1, h⟩ := xb h
  refine x_getR (o := a0) dX11_ownOf_1 xf_X11_7 hv1 ?_
  refine r_iload_n (x := a1) dX11_ownOf_4 rfl ?_
  refine r_bipush (v := (32 : Int32)) dX11_ownOf_5 (by decide) ?_
  refine r_iadd dX11_ownOf_7 ?_
  refine r_iload_n (x := a2) dX11_ownOf_8 rfl ?_
  refine r_iadd dX11_ownOf_9 ?_
  obtain ⟨v2, hv2, h⟩ := xb h
  refine x_iaload (o := v1) dX11_ownOf_10 hv2 ?_
  obtain rfl := Option.some.inj h
  exact r_ireturn dX11_ownOf_11 .int rfl rfl
theorem S_X11_ownOf (n : Nat) (st : xS) (a0 : Option Nat) (a1 : Int32) (a2 : Int32) (rv : Int32) (h : F_X11_ownOf n st a0 a1 a2 = some rv) : Ct mX11_ownOf [va_rf a0, .int a1, .int a2] st (some (.int rv)) st 0 := by
  refine Ct.of (by decide) (by simp only [lgL_R, lgL_I, lgL_L, lgL_0]; decide) ?_
  try simp only [lvA_R]
  exact R_X11_ownOf n st a0 a1 a2 rv h
theorem R_X11_groundOf (n : Nat) (st : xS) (a0 : Option Nat) (a1 : Int32) (a2 : Int32) (a3 : Int32) (rv : Int32) (h : F_X11_groundOf n st a0 a1 a2 a3 = some rv) : Rn mX11_groundOf 0 [(0, va_rf a0), (1, .int a1), (2, .int a2), (3, .int a3)] [] st (some (.int rv)) st 2 := by
  unfold F_X11_groundOf at h
  refine x_aload_n (o := a0) dX11_groundOf_0 rfl ?_
  refine r_iload_n (x := a2) dX11_groundOf_1 rfl ?_
  refine r_iload_n (x := a3) dX11_groundOf_2 rfl ?_
  refine r_iconst (v := (5 : Int32)) dX11_groundOf_3 (by decide) ?_
  obtain ⟨q2, hq2, h⟩ := xb h
  obtain ⟨v1, hv1, h⟩ := xb h
  refine z_callV (as := [.int a2, .int a3, .int (5 : Int32)]) (o := a0) (r1 := (some (.int v1))) (stk := []) (stk2 := [.int v1]) (st1 := st) (d' := 1) dX11_groundOf_4 xl_X11_156 hq2 (by decide) (Nat.le_trans xs0 (by decide)) rfl rfl (S_X11_gameOf n st a0 a2 a3 (5 : Int32) v1 hv1) ?_
  refine r_istore (lv' := [(4, .int v1), (0, va_rf a0), (1, .int a1), (2, .int a2), (3, .int a3)]) (x := v1) dX11_groundOf_7 (by decide) rfl ?_
  refine r_iload (x := v1) dX11_groundOf_9 rfl ?_
  obtain ⟨q7, hq7, h⟩ := xb h
  have Jq7 : Rn mX11_groundOf 31 [] [.int q7] st (some (.int rv)) st 2 := by
    obtain rfl := Option.some.inj h
    exact r_ireturn dX11_groundOf_31 .int rfl rfl
  refine r_if_ge (tgt := 29) dX11_groundOf_11 (by decide) (fun c => ?_) (fun c => ?_)
  · replace hq7 := (if_pos c).symm.trans hq7
    refine r_iload (x := v1) dX11_groundOf_29 rfl ?_
    obtain rfl := Option.some.inj hq7
    exact x_sub [] rfl Jq7
  · replace hq7 := (if_neg c).symm.trans hq7
    refine x_aload_n (o := a0) dX11_groundOf_14 rfl ?_
    refine r_iload_n (x := a1) dX11_groundOf_15 rfl ?_
    refine x_aload_n (o := a0) dX11_groundOf_16 rfl ?_
    refine r_iload_n (x := a2) dX11_groundOf_17 rfl ?_
    refine r_iload_n (x := a3) dX11_groundOf_18 rfl ?_
    refine r_iconst (v := (0 : Int32)) dX11_groundOf_19 (by decide) ?_
    obtain ⟨q4, hq4, hq7⟩ := xb hq7
    obtain ⟨v3, hv3, hq7⟩ := xb hq7
    refine z_callV (as := [.int a2, .int a3, .int (0 : Int32)]) (o := a0) (r1 := (some (.int v3))) (stk := [.int a1, va_rf a0]) (stk2 := [.int v3, .int a1, va_rf a0]) (st1 := st) (d' := 1) dX11_groundOf_20 xl_X11_156 hq4 (by decide) (Nat.le_trans (xsI (xsA xs0)) (by decide)) rfl rfl (S_X11_gameOf n st a0 a2 a3 (0 : Int32) v3 hv3) ?_
    obtain ⟨q6, hq6, hq7⟩ := xb hq7
    obtain ⟨v5, hv5, hq7⟩ := xb hq7
    refine z_callV (as := [.int a1, .int v3]) (o := a0) (r1 := (some (.int v5))) (stk := []) (stk2 := [.int v5]) (st1 := st) (d' := 0) dX11_groundOf_23 xl_X11_159 hq6 (by decide) (Nat.le_trans xs0 (by decide)) rfl rfl (S_X11_ownOf n st a0 a1 v3 v5 hv5) ?_
    refine r_goto (tgt := 31) dX11_groundOf_26 (by decide) ?_
    obtain rfl := Option.some.inj hq7
    exact x_sub [] rfl Jq7
theorem S_X11_groundOf (n : Nat) (st : xS) (a0 : Option Nat) (a1 : Int32) (a2 : Int32) (a3 : Int32) (rv : Int32) (h : F_X11_groundOf n st a0 a1 a2 a3 = some rv) : Ct mX11_groundOf [va_rf a0, .int a1, .int a2, .int a3] st (some (.int rv)) st 2 := by
  refine Ct.of (by decide) (by simp only [lgL_R, lgL_I, lgL_L, lgL_0]; decide) ?_
  try simp only [lvA_R]
  exact R_X11_groundOf n st a0 a1 a2 a3 rv h
theorem R_X11_loudOf (n : Nat) (st : xS) (a0 : Option Nat) (a1 : Int32) (a2 : Int32) (a3 : Int32) (rv : Int32) (h : F_X11_loudOf n st a0 a1 a2 a3 = some rv) : Rn mX11_loudOf 0 [(0, va_rf a0), (1, .int a1), (2, .int a2), (3, .int a3)] [] st (some (.int rv)) st 3 := by
  unfold F_X11_loudOf at h
  refine x_aload_n (o := a0) dX11_loudOf_0 rfl ?_
  refine r_iload_n (x := a1) dX11_loudOf_1 rfl ?_
  refine r_iload_n (x := a2) dX11_loudOf_2 rfl ?_
  refine r_iload_n (x := a3) dX11_loudOf_3 rfl ?_
  obtain ⟨q2, hq2, h⟩ := xb h
  obtain ⟨v1, hv1, h⟩ := xb h
  refine z_callV (as := [.int a1, .int a2, .int a3]) (o := a0) (r1 := (some (.int v1))) (stk := []) (stk2 := [.int v1]) (st1 := st) (d' := 2) dX11_loudOf_4 xl_X11_162 hq2 (by decide) (Nat.le_trans xs0 (by decide)) rfl rfl (S_X11_groundOf n st a0 a1 a2 a3 v1 hv1) ?_
  refine r_istore (lv' := [(4, .int v1), (0, va_rf a0), (1, .int a1), (2, .int a2), (3, .int a3)]) (x := v1) dX11_loudOf_7 (by decide) rfl ?_
  refine x_aload_n (o := a0) dX11_loudOf_9 rfl ?_
  refine r_iload_n (x := a2) dX11_loudOf_10 rfl ?_
  refine r_iload_n (x := a3) dX11_loudOf_11 rfl ?_
  refine r_iconst (v := (3 : Int32)) dX11_loudOf_12 (by decide) ?_
  obtain ⟨q4, hq4, h⟩ := xb h
  obtain ⟨v3, hv3, h⟩ := xb h
  refine z_callV (as := [.int a2, .int a3, .int (3 : Int32)]) (o := a0) (r1 := (some (.int v3))) (stk := []) (stk2 := [.int v3]) (st1 := st) (d' := 1) dX11_loudOf_13 xl_X11_156 hq4 (by decide) (Nat.le_trans xs0 (by decide)) rfl rfl (S_X11_gameOf n st a0 a2 a3 (3 : Int32) v3 hv3) ?_
  obtain ⟨q10, hq10, h⟩ := xb h
  have Jq10 : Rn mX11_loudOf 50 [] [.int q10] st (some (.int rv)) st 3 := by
    obtain rfl := Option.some.inj h
    exact r_ireturn dX11_loudOf_50 .int rfl rfl
  refine r_if_ne (tgt := 23) dX11_loudOf_16 (by decide) (fun c => ?_) (fun c => ?_)
  · replace hq10 := (if_neg c).symm.trans hq10
    refine x_aload_n (o := a0) dX11_loudOf_23 rfl ?_
    obtain ⟨v5, hv5, hq10⟩ := xb hq10
    refine x_getR (o := a0) dX11_loudOf_24 xf_X11_7 hv5 ?_
    refine r_iload_n (x := a1) dX11_loudOf_27 rfl ?_
    refine r_bipush (v := (22 : Int32)) dX11_loudOf_28 (by decide) ?_
    refine r_iadd dX11_loudOf_30 ?_
    refine r_iload (x := v1) dX11_loudOf_31 rfl ?_
    refine r_iadd dX11_loudOf_33 ?_
    obtain ⟨v6, hv6, hq10⟩ := xb hq10
    refine x_iaload (o := v5) dX11_loudOf_34 hv6 ?_
    refine r_iconst (v := (1 : Int32)) dX11_loudOf_35 (by decide) ?_
    refine x_aload_n (o := a0) dX11_loudOf_36 rfl ?_
    obtain ⟨v7, hv7, hq10⟩ := xb hq10
    refine x_getR (o := a0) dX11_loudOf_37 xf_X11_7 hv7 ?_
    refine r_iload_n (x := a1) dX11_loudOf_40 rfl ?_
    refine r_bipush (v := (12 : Int32)) dX11_loudOf_41 (by decide) ?_
    refine r_iadd dX11_loudOf_43 ?_
    refine r_iload (x := v1) dX11_loudOf_44 rfl ?_
    refine r_iadd dX11_loudOf_46 ?_
    obtain ⟨v8, hv8, hq10⟩ := xb hq10
    refine x_iaload (o := v7) dX11_loudOf_47 hv8 ?_
    refine r_iadd dX11_loudOf_48 ?_
    obtain ⟨v9, hv9, hq10⟩ := xb hq10
    refine x_idiv dX11_loudOf_49 hv9 ?_
    obtain rfl := Option.some.inj hq10
    exact x_sub [] rfl Jq10
  · replace hq10 := (if_pos c).symm.trans hq10
    refine r_iconst (v := (0 : Int32)) dX11_loudOf_19 (by decide) ?_
    refine r_goto (tgt := 50) dX11_loudOf_20 (by decide) ?_
    obtain rfl := Option.some.inj hq10
    exact x_sub [] rfl Jq10
theorem S_X11_loudOf (n : Nat) (st : xS) (a0 : Option Nat) (a1 : Int32) (a2 : Int32) (a3 : Int32) (rv : Int32) (h : F_X11_loudOf n st a0 a1 a2 a3 = some rv) : Ct mX11_loudOf [va_rf a0, .int a1, .int a2, .int a3] st (some (.int rv)) st 3 := by
  refine Ct.of (by decide) (by simp only [lgL_R, lgL_I, lgL_L, lgL_0]; decide) ?_
  try simp only [lvA_R]
  exact R_X11_loudOf n st a0 a1 a2 a3 rv h
theorem R_X11_restOf_L7 (n : Nat) {r : Option Value} {st' : xS} : ∀ (k : Nat) (st : xS) (a0 : Option Nat) (a1 : Int32) (a2 : Int32) (a3 : Int32) (a4 : Int32) (a5 : Int32) (q : (Int32)), F_X11_restOf_L7 n k st a0 a1 a2 a3 a4 a5 = some q → Rn mX11_restOf 61 [(4, .int q)] [] st r st' 2 → Rn mX11_restOf 7 [(0, va_rf a0), (1, .int a1), (2, .int a2), (3, .int a3), (4, .int a4), (5, .int a5)] [] st r st' 2 := by
  intro k
  induction k with
  | zero => intro st a0 a1 a2 a3 a4 a5 q h; cases h
  | succ k ih =>
    intro st a0 a1 a2 a3 a4 a5 q h J
    unfold F_X11_restOf_L7 at h
    refine r_iload (x := a5) dX11_restOf_7 rfl ?_
    refine r_iload_n (x := a2) dX11_restOf_9 rfl ?_
    refine r_icmp_ge (tgt := 61) dX11_restOf_10 (by decide) (fun c => ?_) (fun c => ?_)
    · replace h := (if_pos c).symm.trans h
      obtain rfl := Option.some.inj h
      exact x_sub [4] rfl J
    · replace h := (if_neg c).symm.trans h
      refine x_aload_n (o := a0) dX11_restOf_13 rfl ?_
      refine r_iload_n (x := a1) dX11_restOf_14 rfl ?_
      refine r_iload (x := a5) dX11_restOf_15 rfl ?_
      refine r_iconst (v := (0 : Int32)) dX11_restOf_17 (by decide) ?_
      obtain ⟨q2, hq2, h⟩ := xb h
      obtain ⟨v1, hv1, h⟩ := xb h
      refine z_callV (as := [.int a1, .int a5, .int (0 : Int32)]) (o := a0) (r1 := (some (.int v1))) (stk := []) (stk2 := [.int v1]) (st1 := st) (d' := 1) dX11_restOf_18 xl_X11_156 hq2 (by decide) (Nat.le_trans xs0 (by decide)) rfl rfl (S_X11_gameOf n st a0 a1 a5 (0 : Int32) v1 hv1) ?_
      refine r_iload_n (x := a3) dX11_restOf_21 rfl ?_
      obtain ⟨q15, hq15, h⟩ := xb h
      have Jq15 : Rn mX11_restOf 55 [(0, va_rf a0), (1, .int a1), (2, .int a2), (3, .int a3), (4, .int q15), (5, .int a5)] [] st r st' 2 := by
        obtain ⟨v16, hv16, h⟩ := xb h
        refine x_iinc (c := (1 : Int32)) (lv' := [(5, .int v16), (0, va_rf a0), (1, .int a1), (2, .int a2), (3, .int a3), (4, .int q15)]) (x := a5) (v := v16) dX11_restOf_55 rfl (by decide) (Option.some.inj hv16) (by decide) rfl ?_
        refine r_goto (tgt := 7) dX11_restOf_58 (by decide) ?_
        exact x_sub [1, 2, 3, 4, 5, 0] rfl (ih st a0 a1 a2 a3 q15 v16 q h J)
      refine r_icmp_eq (tgt := 37) dX11_restOf_22 (by decide) (fun c => ?_) (fun c => ?_)
      · replace hq15 := (if_pos c).symm.trans hq15
        refine x_aload_n (o := a0) dX11_restOf_37 rfl ?_
        refine r_iload_n (x := a1) dX11_restOf_38 rfl ?_
        refine r_iload_n (x := a2) dX11_restOf_39 rfl ?_
        refine r_iconst (v := (2 : Int32)) dX11_restOf_40 (by decide) ?_
        obtain ⟨q4, hq4, hq15⟩ := xb hq15
        obtain ⟨v3, hv3, hq15⟩ := xb hq15
        refine z_callV (as := [.int a1, .int a2, .int (2 : Int32)]) (o := a0) (r1 := (some (.int v3))) (stk := []) (stk2 := [.int v3]) (st1 := st) (d' := 1) dX11_restOf_41 xl_X11_156 hq4 (by decide) (Nat.le_trans xs0 (by decide)) rfl rfl (S_X11_gameOf n st a0 a1 a2 (2 : Int32) v3 hv3) ?_
        refine x_aload_n (o := a0) dX11_restOf_44 rfl ?_
        refine r_iload_n (x := a1) dX11_restOf_45 rfl ?_
        refine r_iload (x := a5) dX11_restOf_46 rfl ?_
        refine r_iconst (v := (2 : Int32)) dX11_restOf_48 (by decide) ?_
        obtain ⟨q6, hq6, hq15⟩ := xb hq15
        obtain ⟨v5, hv5, hq15⟩ := xb hq15
        refine z_callV (as := [.int a1, .int a5, .int (2 : Int32)]) (o := a0) (r1 := (some (.int v5))) (stk := [.int v3]) (stk2 := [.int v5, .int v3]) (st1 := st) (d' := 1) dX11_restOf_49 xl_X11_156 hq6 (by decide) (Nat.le_trans (xsI xs0) (by decide)) rfl rfl (S_X11_gameOf n st a0 a1 a5 (2 : Int32) v5 hv5) ?_
        refine r_isub dX11_restOf_52 ?_
        obtain ⟨v7, hv7, hq15⟩ := xb hq15
        refine x_eqI (Option.some.inj hv7) ?_
        refine r_istore (lv' := [(4, .int v7), (0, va_rf a0), (1, .int a1), (2, .int a2), (3, .int a3), (5, .int a5)]) (x := v7) dX11_restOf_53 (by decide) rfl ?_
        obtain rfl := Option.some.inj hq15
        exact x_sub [1, 2, 3, 4, 0, 5] rfl Jq15
      · replace hq15 := (if_neg c).symm.trans hq15
        refine x_aload_n (o := a0) dX11_restOf_25 rfl ?_
        refine r_iload_n (x := a1) dX11_restOf_26 rfl ?_
        refine r_iload (x := a5) dX11_restOf_27 rfl ?_
        refine r_iconst (v := (1 : Int32)) dX11_restOf_29 (by decide) ?_
        obtain ⟨q9, hq9, hq15⟩ := xb hq15
        obtain ⟨v8, hv8, hq15⟩ := xb hq15
        refine z_callV (as := [.int a1, .int a5, .int (1 : Int32)]) (o := a0) (r1 := (some (.int v8))) (stk := []) (stk2 := [.int v8]) (st1 := st) (d' := 1) dX11_restOf_30 xl_X11_156 hq9 (by decide) (Nat.le_trans xs0 (by decide)) rfl rfl (S_X11_gameOf n st a0 a1 a5 (1 : Int32) v8 hv8) ?_
        refine r_iload_n (x := a3) dX11_restOf_33 rfl ?_
        refine r_icmp_ne (tgt := 55) dX11_restOf_34 (by decide) (fun c => ?_) (fun c => ?_)
        · replace hq15 := (if_neg c).symm.trans hq15
          obtain rfl := Option.some.inj hq15
          exact x_sub [0, 1, 2, 3, 4, 5] rfl Jq15
        · replace hq15 := (if_pos c).symm.trans hq15
          refine x_aload_n (o := a0) dX11_restOf_37 rfl ?_
          refine r_iload_n (x := a1) dX11_restOf_38 rfl ?_
          refine r_iload_n (x := a2) dX11_restOf_39 rfl ?_
          refine r_iconst (v := (2 : Int32)) dX11_restOf_40 (by decide) ?_
          obtain ⟨q11, hq11, hq15⟩ := xb hq15
          obtain ⟨v10, hv10, hq15⟩ := xb hq15
          refine z_callV (as := [.int a1, .int a2, .int (2 : Int32)]) (o := a0) (r1 := (some (.int v10))) (stk := []) (stk2 := [.int v10]) (st1 := st) (d' := 1) dX11_restOf_41 xl_X11_156 hq11 (by decide) (Nat.le_trans xs0 (by decide)) rfl rfl (S_X11_gameOf n st a0 a1 a2 (2 : Int32) v10 hv10) ?_
          refine x_aload_n (o := a0) dX11_restOf_44 rfl ?_
          refine r_iload_n (x := a1) dX11_restOf_45 rfl ?_
          refine r_iload (x := a5) dX11_restOf_46 rfl ?_
          refine r_iconst (v := (2 : Int32)) dX11_restOf_48 (by decide) ?_
          obtain ⟨q13, hq13, hq15⟩ := xb hq15
          obtain ⟨v12, hv12, hq15⟩ := xb hq15
          refine z_callV (as := [.int a1, .int a5, .int (2 : Int32)]) (o := a0) (r1 := (some (.int v12))) (stk := [.int v10]) (stk2 := [.int v12, .int v10]) (st1 := st) (d' := 1) dX11_restOf_49 xl_X11_156 hq13 (by decide) (Nat.le_trans (xsI xs0) (by decide)) rfl rfl (S_X11_gameOf n st a0 a1 a5 (2 : Int32) v12 hv12) ?_
          refine r_isub dX11_restOf_52 ?_
          obtain ⟨v14, hv14, hq15⟩ := xb hq15
          refine x_eqI (Option.some.inj hv14) ?_
          refine r_istore (lv' := [(4, .int v14), (0, va_rf a0), (1, .int a1), (2, .int a2), (3, .int a3), (5, .int a5)]) (x := v14) dX11_restOf_53 (by decide) rfl ?_
          obtain rfl := Option.some.inj hq15
          exact x_sub [1, 2, 3, 4, 0, 5] rfl Jq15
theorem R_X11_restOf (n : Nat) (st : xS) (a0 : Option Nat) (a1 : Int32) (a2 : Int32) (a3 : Int32) (rv : Int32) (h : F_X11_restOf n st a0 a1 a2 a3 = some rv) : Rn mX11_restOf 0 [(0, va_rf a0), (1, .int a1), (2, .int a2), (3, .int a3)] [] st (some (.int rv)) st 2 := by
  unfold F_X11_restOf at h
  refine r_bipush (v := (30 : Int32)) dX11_restOf_0 (by decide) ?_
  refine r_istore (lv' := [(4, .int (30 : Int32)), (0, va_rf a0), (1, .int a1), (2, .int a2), (3, .int a3)]) (x := (30 : Int32)) dX11_restOf_2 (by decide) rfl ?_
  refine r_iconst (v := (0 : Int32)) dX11_restOf_4 (by decide) ?_
  refine r_istore (lv' := [(5, .int (0 : Int32)), (4, .int (30 : Int32)), (0, va_rf a0), (1, .int a1), (2, .int a2), (3, .int a3)]) (x := (0 : Int32)) dX11_restOf_5 (by decide) rfl ?_
  obtain ⟨q17, hq17, h⟩ := xb h
  have Jq17 : Rn mX11_restOf 61 [(4, .int q17)] [] st (some (.int rv)) st 2 := by
    refine r_iload (x := q17) dX11_restOf_61 rfl ?_
    obtain rfl := Option.some.inj h
    exact r_ireturn dX11_restOf_63 .int rfl rfl
  exact x_sub [2, 3, 4, 5, 1, 0] rfl (R_X11_restOf_L7 n n st a0 a1 a2 a3 (30 : Int32) (0 : Int32) q17 hq17 Jq17)
theorem S_X11_restOf (n : Nat) (st : xS) (a0 : Option Nat) (a1 : Int32) (a2 : Int32) (a3 : Int32) (rv : Int32) (h : F_X11_restOf n st a0 a1 a2 a3 = some rv) : Ct mX11_restOf [va_rf a0, .int a1, .int a2, .int a3] st (some (.int rv)) st 2 := by
  refine Ct.of (by decide) (by simp only [lgL_R, lgL_I, lgL_L, lgL_0]; decide) ?_
  try simp only [lvA_R]
  exact R_X11_restOf n st a0 a1 a2 a3 rv h
theorem R_X11_timesOf (n : Nat) (st : xS) (a0 : Option Nat) (a1 : Int32) (a2 : Int32) (a3 : Int32) (a4 : Int32) (a5 : Int32) (rv : Int32) (h : F_X11_timesOf n st a0 a1 a2 a3 a4 a5 = some rv) : Rn mX11_timesOf 0 [(0, va_rf a0), (1, .int a1), (2, .int a2), (3, .int a3), (4, .int a4), (5, .int a5)] [] st (some (.int rv)) st 4 := by
  unfold F_X11_timesOf at h
  refine x_aload_n (o := a0) dX11_timesOf_0 rfl ?_
  refine r_iload_n (x := a3) dX11_timesOf_1 rfl ?_
  refine r_iload (x := a4) dX11_timesOf_2 rfl ?_
  refine r_iconst (v := (0 : Int32)) dX11_timesOf_4 (by decide) ?_
  obtain ⟨q2, hq2, h⟩ := xb h
  obtain ⟨v1, hv1, h⟩ := xb h
  refine z_callV (as := [.int a3, .int a4, .int (0 : Int32)]) (o := a0) (r1 := (some (.int v1))) (stk := []) (stk2 := [.int v1]) (st1 := st) (d' := 1) dX11_timesOf_5 xl_X11_156 hq2 (by decide) (Nat.le_trans xs0 (by decide)) rfl rfl (S_X11_gameOf n st a0 a3 a4 (0 : Int32) v1 hv1) ?_
  refine r_istore (lv' := [(6, .int v1), (0, va_rf a0), (1, .int a1), (2, .int a2), (3, .int a3), (4, .int a4), (5, .int a5)]) (x := v1) dX11_timesOf_8 (by decide) rfl ?_
  refine x_aload_n (o := a0) dX11_timesOf_10 rfl ?_
  refine r_iload_n (x := a3) dX11_timesOf_11 rfl ?_
  refine r_iload (x := a4) dX11_timesOf_12 rfl ?_
  refine r_iconst (v := (1 : Int32)) dX11_timesOf_14 (by decide) ?_
  obtain ⟨q4, hq4, h⟩ := xb h
  obtain ⟨v3, hv3, h⟩ := xb h
  refine z_callV (as := [.int a3, .int a4, .int (1 : Int32)]) (o := a0) (r1 := (some (.int v3))) (stk := []) (stk2 := [.int v3]) (st1 := st) (d' := 1) dX11_timesOf_15 xl_X11_156 hq4 (by decide) (Nat.le_trans xs0 (by decide)) rfl rfl (S_X11_gameOf n st a0 a3 a4 (1 : Int32) v3 hv3) ?_
  refine r_istore (lv' := [(7, .int v3), (6, .int v1), (0, va_rf a0), (1, .int a1), (2, .int a2), (3, .int a3), (4, .int a4), (5, .int a5)]) (x := v3) dX11_timesOf_18 (by decide) rfl ?_
  refine x_aload_n (o := a0) dX11_timesOf_20 rfl ?_
  refine r_iload_n (x := a1) dX11_timesOf_21 rfl ?_
  refine r_iload_n (x := a3) dX11_timesOf_22 rfl ?_
  refine r_iload (x := a4) dX11_timesOf_23 rfl ?_
  obtain ⟨q6, hq6, h⟩ := xb h
  obtain ⟨v5, hv5, h⟩ := xb h
  refine z_callV (as := [.int a1, .int a3, .int a4]) (o := a0) (r1 := (some (.int v5))) (stk := []) (stk2 := [.int v5]) (st1 := st) (d' := 2) dX11_timesOf_25 xl_X11_162 hq6 (by decide) (Nat.le_trans xs0 (by decide)) rfl rfl (S_X11_groundOf n st a0 a1 a3 a4 v5 hv5) ?_
  refine r_istore (lv' := [(8, .int v5), (7, .int v3), (6, .int v1), (0, va_rf a0), (1, .int a1), (2, .int a2), (3, .int a3), (4, .int a4), (5, .int a5)]) (x := v5) dX11_timesOf_28 (by decide) rfl ?_
  refine x_aload_n (o := a0) dX11_timesOf_30 rfl ?_
  refine r_iload_n (x := a1) dX11_timesOf_31 rfl ?_
  refine r_iload (x := v3) dX11_timesOf_32 rfl ?_
  obtain ⟨q8, hq8, h⟩ := xb h
  obtain ⟨v7, hv7, h⟩ := xb h
  refine z_callV (as := [.int a1, .int v3]) (o := a0) (r1 := (some (.int v7))) (stk := []) (stk2 := [.int v7]) (st1 := st) (d' := 0) dX11_timesOf_34 xl_X11_159 hq8 (by decide) (Nat.le_trans xs0 (by decide)) rfl rfl (S_X11_ownOf n st a0 a1 v3 v7 hv7) ?_
  refine r_istore (lv' := [(9, .int v7), (8, .int v5), (7, .int v3), (6, .int v1), (0, va_rf a0), (1, .int a1), (2, .int a2), (3, .int a3), (4, .int a4), (5, .int a5)]) (x := v7) dX11_timesOf_37 (by decide) rfl ?_
  refine x_aload_n (o := a0) dX11_timesOf_39 rfl ?_
  obtain ⟨v9, hv9, h⟩ := xb h
  refine x_getR (o := a0) dX11_timesOf_40 xf_X11_7 hv9 ?_
  refine r_iload_n (x := a2) dX11_timesOf_43 rfl ?_
  refine r_bipush (v := (7 : Int32)) dX11_timesOf_44 (by decide) ?_
  refine r_iadd dX11_timesOf_46 ?_
  refine r_iload (x := a5) dX11_timesOf_47 rfl ?_
  refine r_iadd dX11_timesOf_49 ?_
  obtain ⟨v10, hv10, h⟩ := xb h
  refine x_iaload (o := v9) dX11_timesOf_50 hv10 ?_
  refine r_istore (lv' := [(10, .int v10), (9, .int v7), (8, .int v5), (7, .int v3), (6, .int v1), (0, va_rf a0), (1, .int a1), (2, .int a2), (3, .int a3), (4, .int a4), (5, .int a5)]) (x := v10) dX11_timesOf_51 (by decide) rfl ?_
  refine r_iload (x := a5) dX11_timesOf_53 rfl ?_
  refine r_if_ne (tgt := 83) dX11_timesOf_55 (by decide) (fun c => ?_) (fun c => ?_)
  · replace h := (if_neg c).symm.trans h
    refine r_iload (x := a5) dX11_timesOf_83 rfl ?_
    refine r_iconst (v := (1 : Int32)) dX11_timesOf_85 (by decide) ?_
    refine r_icmp_ne (tgt := 111) dX11_timesOf_86 (by decide) (fun c => ?_) (fun c => ?_)
    · replace h := (if_neg c).symm.trans h
      refine r_iload (x := a5) dX11_timesOf_111 rfl ?_
      refine r_iconst (v := (2 : Int32)) dX11_timesOf_113 (by decide) ?_
      refine r_icmp_ne (tgt := 151) dX11_timesOf_114 (by decide) (fun c => ?_) (fun c => ?_)
      · replace h := (if_neg c).symm.trans h
        refine r_iload (x := a5) dX11_timesOf_151 rfl ?_
        refine r_iconst (v := (3 : Int32)) dX11_timesOf_153 (by decide) ?_
        refine r_icmp_ne (tgt := 169) dX11_timesOf_154 (by decide) (fun c => ?_) (fun c => ?_)
        · replace h := (if_neg c).symm.trans h
          refine r_iload (x := a5) dX11_timesOf_169 rfl ?_
          refine r_iconst (v := (4 : Int32)) dX11_timesOf_171 (by decide) ?_
          refine r_icmp_ne (tgt := 202) dX11_timesOf_172 (by decide) (fun c => ?_) (fun c => ?_)
          · replace h := (if_neg c).symm.trans h
            refine x_aload_n (o := a0) dX11_timesOf_202 rfl ?_
            obtain ⟨v31, hv31, h⟩ := xb h
            refine x_getR (o := a0) dX11_timesOf_203 xf_X11_7 hv31 ?_
            refine r_iload_n (x := a1) dX11_timesOf_206 rfl ?_
            refine r_iconst (v := (2 : Int32)) dX11_timesOf_207 (by decide) ?_
            refine r_iadd dX11_timesOf_208 ?_
            refine r_iload (x := v5) dX11_timesOf_209 rfl ?_
            refine r_iadd dX11_timesOf_211 ?_
            obtain ⟨v32, hv32, h⟩ := xb h
            refine x_iaload (o := v31) dX11_timesOf_212 hv32 ?_
            refine x_aload_n (o := a0) dX11_timesOf_213 rfl ?_
            obtain ⟨v33, hv33, h⟩ := xb h
            refine x_getR (o := a0) dX11_timesOf_214 xf_X11_7 hv33 ?_
            refine r_iload_n (x := a1) dX11_timesOf_217 rfl ?_
            refine r_iconst (v := (2 : Int32)) dX11_timesOf_218 (by decide) ?_
            refine r_iadd dX11_timesOf_219 ?_
            refine r_iload (x := v7) dX11_timesOf_220 rfl ?_
            refine r_iadd dX11_timesOf_222 ?_
            obtain ⟨v34, hv34, h⟩ := xb h
            refine x_iaload (o := v33) dX11_timesOf_223 hv34 ?_
            refine r_isub dX11_timesOf_224 ?_
            obtain ⟨v35, hv35, h⟩ := xb h
            refine x_eqI (Option.some.inj hv35) ?_
            refine r_istore (lv' := [(11, .int v35), (10, .int v10), (9, .int v7), (8, .int v5), (7, .int v3), (6, .int v1), (0, va_rf a0), (1, .int a1), (2, .int a2), (3, .int a3), (4, .int a4), (5, .int a5)]) (x := v35) dX11_timesOf_225 (by decide) rfl ?_
            refine r_iload (x := v35) dX11_timesOf_227 rfl ?_
            obtain ⟨q37, hq37, h⟩ := xb h
            have Jq37 : Rn mX11_timesOf 241 [] [.int q37] st (some (.int rv)) st 4 := by
              obtain rfl := Option.some.inj h
              exact r_ireturn dX11_timesOf_241 .int rfl rfl
            refine r_if_ge (tgt := 236) dX11_timesOf_229 (by decide) (fun c => ?_) (fun c => ?_)
            · replace hq37 := (if_pos c).symm.trans hq37
              refine r_iload (x := v35) dX11_timesOf_236 rfl ?_
              refine r_iload (x := v10) dX11_timesOf_238 rfl ?_
              obtain ⟨v36, hv36, hq37⟩ := xb hq37
              refine x_idiv dX11_timesOf_240 hv36 ?_
              obtain rfl := Option.some.inj hq37
              exact x_sub [] rfl Jq37
            · replace hq37 := (if_neg c).symm.trans hq37
              refine r_iconst (v := (0 : Int32)) dX11_timesOf_232 (by decide) ?_
              refine r_goto (tgt := 241) dX11_timesOf_233 (by decide) ?_
              obtain rfl := Option.some.inj hq37
              exact x_sub [] rfl Jq37
          · replace h := (if_pos c).symm.trans h
            refine x_aload_n (o := a0) dX11_timesOf_175 rfl ?_
            refine r_iload_n (x := a3) dX11_timesOf_176 rfl ?_
            refine r_iload (x := a4) dX11_timesOf_177 rfl ?_
            refine r_iconst (v := (4 : Int32)) dX11_timesOf_179 (by decide) ?_
            obtain ⟨q26, hq26, h⟩ := xb h
            obtain ⟨v25, hv25, h⟩ := xb h
            refine z_callV (as := [.int a3, .int a4, .int (4 : Int32)]) (o := a0) (r1 := (some (.int v25))) (stk := []) (stk2 := [.int v25]) (st1 := st) (d' := 1) dX11_timesOf_180 xl_X11_156 hq26 (by decide) (Nat.le_trans xs0 (by decide)) rfl rfl (S_X11_gameOf n st a0 a3 a4 (4 : Int32) v25 hv25) ?_
            obtain ⟨q30, hq30, h⟩ := xb h
            have Jq30 : Rn mX11_timesOf 201 [] [.int q30] st (some (.int rv)) st 4 := by
              obtain rfl := Option.some.inj h
              exact r_ireturn dX11_timesOf_201 .int rfl rfl
            refine r_if_ne (tgt := 190) dX11_timesOf_183 (by decide) (fun c => ?_) (fun c => ?_)
            · replace hq30 := (if_neg c).symm.trans hq30
              refine x_aload_n (o := a0) dX11_timesOf_190 rfl ?_
              refine r_iload_n (x := a1) dX11_timesOf_191 rfl ?_
              refine r_iload_n (x := a3) dX11_timesOf_192 rfl ?_
              refine r_iload (x := a4) dX11_timesOf_193 rfl ?_
              obtain ⟨q28, hq28, hq30⟩ := xb hq30
              obtain ⟨v27, hv27, hq30⟩ := xb hq30
              refine z_callV (as := [.int a1, .int a3, .int a4]) (o := a0) (r1 := (some (.int v27))) (stk := []) (stk2 := [.int v27]) (st1 := st) (d' := 3) dX11_timesOf_195 xl_X11_168 hq28 (by decide) (Nat.le_trans xs0 (by decide)) rfl rfl (S_X11_loudOf n st a0 a1 a3 a4 v27 hv27) ?_
              refine r_iload (x := v10) dX11_timesOf_198 rfl ?_
              obtain ⟨v29, hv29, hq30⟩ := xb hq30
              refine x_idiv dX11_timesOf_200 hv29 ?_
              obtain rfl := Option.some.inj hq30
              exact x_sub [] rfl Jq30
            · replace hq30 := (if_pos c).symm.trans hq30
              refine r_iconst (v := (0 : Int32)) dX11_timesOf_186 (by decide) ?_
              refine r_goto (tgt := 201) dX11_timesOf_187 (by decide) ?_
              obtain rfl := Option.some.inj hq30
              exact x_sub [] rfl Jq30
        · replace h := (if_pos c).symm.trans h
          refine x_aload_n (o := a0) dX11_timesOf_157 rfl ?_
          refine r_iload_n (x := a1) dX11_timesOf_158 rfl ?_
          refine r_iload_n (x := a3) dX11_timesOf_159 rfl ?_
          refine r_iload (x := a4) dX11_timesOf_160 rfl ?_
          obtain ⟨q23, hq23, h⟩ := xb h
          obtain ⟨v22, hv22, h⟩ := xb h
          refine z_callV (as := [.int a1, .int a3, .int a4]) (o := a0) (r1 := (some (.int v22))) (stk := []) (stk2 := [.int v22]) (st1 := st) (d' := 3) dX11_timesOf_162 xl_X11_168 hq23 (by decide) (Nat.le_trans xs0 (by decide)) rfl rfl (S_X11_loudOf n st a0 a1 a3 a4 v22 hv22) ?_
          refine r_iload (x := v10) dX11_timesOf_165 rfl ?_
          obtain ⟨v24, hv24, h⟩ := xb h
          refine x_idiv dX11_timesOf_167 hv24 ?_
          obtain rfl := Option.some.inj h
          exact r_ireturn dX11_timesOf_168 .int rfl rfl
      · replace h := (if_pos c).symm.trans h
        refine x_aload_n (o := a0) dX11_timesOf_117 rfl ?_
        refine r_iload_n (x := a3) dX11_timesOf_118 rfl ?_
        refine r_iload (x := a4) dX11_timesOf_119 rfl ?_
        refine r_iload (x := v3) dX11_timesOf_121 rfl ?_
        obtain ⟨q18, hq18, h⟩ := xb h
        obtain ⟨v17, hv17, h⟩ := xb h
        refine z_callV (as := [.int a3, .int a4, .int v3]) (o := a0) (r1 := (some (.int v17))) (stk := []) (stk2 := [.int v17]) (st1 := st) (d' := 2) dX11_timesOf_123 xl_X11_165 hq18 (by decide) (Nat.le_trans xs0 (by decide)) rfl rfl (S_X11_restOf n st a0 a3 a4 v3 v17 hv17) ?_
        refine r_iload (x := v10) dX11_timesOf_126 rfl ?_
        obtain ⟨q21, hq21, h⟩ := xb h
        have Jq21 : Rn mX11_timesOf 150 [] [.int q21] st (some (.int rv)) st 4 := by
          obtain rfl := Option.some.inj h
          exact r_ireturn dX11_timesOf_150 .int rfl rfl
        refine r_icmp_ge (tgt := 149) dX11_timesOf_128 (by decide) (fun c => ?_) (fun c => ?_)
        · replace hq21 := (if_pos c).symm.trans hq21
          refine r_iconst (v := (0 : Int32)) dX11_timesOf_149 (by decide) ?_
          obtain rfl := Option.some.inj hq21
          exact x_sub [] rfl Jq21
        · replace hq21 := (if_neg c).symm.trans hq21
          refine x_aload_n (o := a0) dX11_timesOf_131 rfl ?_
          refine r_iload_n (x := a3) dX11_timesOf_132 rfl ?_
          refine r_iload (x := a4) dX11_timesOf_133 rfl ?_
          refine r_iload (x := v1) dX11_timesOf_135 rfl ?_
          obtain ⟨q20, hq20, hq21⟩ := xb hq21
          obtain ⟨v19, hv19, hq21⟩ := xb hq21
          refine z_callV (as := [.int a3, .int a4, .int v1]) (o := a0) (r1 := (some (.int v19))) (stk := []) (stk2 := [.int v19]) (st1 := st) (d' := 2) dX11_timesOf_137 xl_X11_165 hq20 (by decide) (Nat.le_trans xs0 (by decide)) rfl rfl (S_X11_restOf n st a0 a3 a4 v1 v19 hv19) ?_
          refine r_iload (x := v10) dX11_timesOf_140 rfl ?_
          refine r_icmp_lt (tgt := 149) dX11_timesOf_142 (by decide) (fun c => ?_) (fun c => ?_)
          · replace hq21 := (if_pos c).symm.trans hq21
            refine r_iconst (v := (0 : Int32)) dX11_timesOf_149 (by decide) ?_
            obtain rfl := Option.some.inj hq21
            exact x_sub [] rfl Jq21
          · replace hq21 := (if_neg c).symm.trans hq21
            refine r_iconst (v := (1 : Int32)) dX11_timesOf_145 (by decide) ?_
            refine r_goto (tgt := 150) dX11_timesOf_146 (by decide) ?_
            obtain rfl := Option.some.inj hq21
            exact x_sub [] rfl Jq21
    · replace h := (if_pos c).symm.trans h
      refine x_aload_n (o := a0) dX11_timesOf_89 rfl ?_
      obtain ⟨v14, hv14, h⟩ := xb h
      refine x_getR (o := a0) dX11_timesOf_90 xf_X11_7 hv14 ?_
      refine r_iload_n (x := a1) dX11_timesOf_93 rfl ?_
      refine r_bipush (v := (50 : Int32)) dX11_timesOf_94 (by decide) ?_
      refine r_iadd dX11_timesOf_96 ?_
      refine r_bipush (v := (10 : Int32)) dX11_timesOf_97 (by decide) ?_
      refine r_iload (x := v7) dX11_timesOf_99 rfl ?_
      refine r_imul dX11_timesOf_101 ?_
      refine r_iadd dX11_timesOf_102 ?_
      refine r_iload (x := v5) dX11_timesOf_103 rfl ?_
      refine r_iadd dX11_timesOf_105 ?_
      obtain ⟨v15, hv15, h⟩ := xb h
      refine x_iaload (o := v14) dX11_timesOf_106 hv15 ?_
      refine r_iload (x := v10) dX11_timesOf_107 rfl ?_
      obtain ⟨v16, hv16, h⟩ := xb h
      refine x_idiv dX11_timesOf_109 hv16 ?_
      obtain rfl := Option.some.inj h
      exact r_ireturn dX11_timesOf_110 .int rfl rfl
  · replace h := (if_pos c).symm.trans h
    refine r_iload (x := v5) dX11_timesOf_58 rfl ?_
    refine x_aload_n (o := a0) dX11_timesOf_60 rfl ?_
    refine r_iload_n (x := a1) dX11_timesOf_61 rfl ?_
    refine r_iload (x := v1) dX11_timesOf_62 rfl ?_
    obtain ⟨q12, hq12, h⟩ := xb h
    obtain ⟨v11, hv11, h⟩ := xb h
    refine z_callV (as := [.int a1, .int v1]) (o := a0) (r1 := (some (.int v11))) (stk := [.int v5]) (stk2 := [.int v11, .int v5]) (st1 := st) (d' := 0) dX11_timesOf_64 xl_X11_159 hq12 (by decide) (Nat.le_trans (xsI xs0) (by decide)) rfl rfl (S_X11_ownOf n st a0 a1 v1 v11 hv11) ?_
    obtain ⟨q13, hq13, h⟩ := xb h
    have Jq13 : Rn mX11_timesOf 82 [] [.int q13] st (some (.int rv)) st 4 := by
      obtain rfl := Option.some.inj h
      exact r_ireturn dX11_timesOf_82 .int rfl rfl
    refine r_icmp_ne (tgt := 81) dX11_timesOf_67 (by decide) (fun c => ?_) (fun c => ?_)
    · replace hq13 := (if_neg c).symm.trans hq13
      refine r_iconst (v := (0 : Int32)) dX11_timesOf_81 (by decide) ?_
      obtain rfl := Option.some.inj hq13
      exact x_sub [] rfl Jq13
    · replace hq13 := (if_pos c).symm.trans hq13
      refine r_iload (x := v5) dX11_timesOf_70 rfl ?_
      refine r_iload (x := v7) dX11_timesOf_72 rfl ?_
      refine r_icmp_eq (tgt := 81) dX11_timesOf_74 (by decide) (fun c => ?_) (fun c => ?_)
      · replace hq13 := (if_pos c).symm.trans hq13
        refine r_iconst (v := (0 : Int32)) dX11_timesOf_81 (by decide) ?_
        obtain rfl := Option.some.inj hq13
        exact x_sub [] rfl Jq13
      · replace hq13 := (if_neg c).symm.trans hq13
        refine r_iconst (v := (1 : Int32)) dX11_timesOf_77 (by decide) ?_
        refine r_goto (tgt := 82) dX11_timesOf_78 (by decide) ?_
        obtain rfl := Option.some.inj hq13
        exact x_sub [] rfl Jq13
theorem S_X11_timesOf (n : Nat) (st : xS) (a0 : Option Nat) (a1 : Int32) (a2 : Int32) (a3 : Int32) (a4 : Int32) (a5 : Int32) (rv : Int32) (h : F_X11_timesOf n st a0 a1 a2 a3 a4 a5 = some rv) : Ct mX11_timesOf [va_rf a0, .int a1, .int a2, .int a3, .int a4, .int a5] st (some (.int rv)) st 4 := by
  refine Ct.of (by decide) (by simp only [lgL_R, lgL_I, lgL_L, lgL_0]; decide) ?_
  try simp only [lvA_R]
  exact R_X11_timesOf n st a0 a1 a2 a3 a4 a5 rv h
theorem R_X11_partOf (n : Nat) (st : xS) (a0 : Option Nat) (a1 : Int32) (a2 : Int32) (a3 : Int32) (a4 : Int32) (a5 : Int32) (rv : Int32) (h : F_X11_partOf n st a0 a1 a2 a3 a4 a5 = some rv) : Rn mX11_partOf 0 [(0, va_rf a0), (1, .int a1), (2, .int a2), (3, .int a3), (4, .int a4), (5, .int a5)] [] st (some (.int rv)) st 5 := by
  unfold F_X11_partOf at h
  refine x_aload_n (o := a0) dX11_partOf_0 rfl ?_
  obtain ⟨v1, hv1, h⟩ := xb h
  refine x_getR (o := a0) dX11_partOf_1 xf_X11_7 hv1 ?_
  refine r_iload_n (x := a2) dX11_partOf_4 rfl ?_
  refine r_iconst (v := (1 : Int32)) dX11_partOf_5 (by decide) ?_
  refine r_iadd dX11_partOf_6 ?_
  refine r_iload (x := a5) dX11_partOf_7 rfl ?_
  refine r_iadd dX11_partOf_9 ?_
  obtain ⟨v2, hv2, h⟩ := xb h
  refine x_iaload (o := v1) dX11_partOf_10 hv2 ?_
  refine x_aload_n (o := a0) dX11_partOf_11 rfl ?_
  refine r_iload_n (x := a1) dX11_partOf_12 rfl ?_
  refine r_iload_n (x := a2) dX11_partOf_13 rfl ?_
  refine r_iload_n (x := a3) dX11_partOf_14 rfl ?_
  refine r_iload (x := a4) dX11_partOf_15 rfl ?_
  refine r_iload (x := a5) dX11_partOf_17 rfl ?_
  obtain ⟨q4, hq4, h⟩ := xb h
  obtain ⟨v3, hv3, h⟩ := xb h
  refine z_callV (as := [.int a1, .int a2, .int a3, .int a4, .int a5]) (o := a0) (r1 := (some (.int v3))) (stk := [.int v2]) (stk2 := [.int v3, .int v2]) (st1 := st) (d' := 4) dX11_partOf_19 xl_X11_171 hq4 (by decide) (Nat.le_trans (xsI xs0) (by decide)) rfl rfl (S_X11_timesOf n st a0 a1 a2 a3 a4 a5 v3 hv3) ?_
  refine r_imul dX11_partOf_22 ?_
  obtain ⟨v5, hv5, h⟩ := xb h
  refine x_eqI (Option.some.inj hv5) ?_
  refine r_istore (lv' := [(6, .int v5), (0, va_rf a0), (1, .int a1), (2, .int a2), (3, .int a3), (4, .int a4), (5, .int a5)]) (x := v5) dX11_partOf_23 (by decide) rfl ?_
  refine r_iload (x := v5) dX11_partOf_25 rfl ?_
  refine r_bipush (v := (50 : Int32)) dX11_partOf_27 (by decide) ?_
  obtain ⟨q6, hq6, h⟩ := xb h
  have Jq6 : Rn mX11_partOf 39 [] [.int q6] st (some (.int rv)) st 5 := by
    obtain rfl := Option.some.inj h
    exact r_ireturn dX11_partOf_39 .int rfl rfl
  refine r_icmp_le (tgt := 37) dX11_partOf_29 (by decide) (fun c => ?_) (fun c => ?_)
  · replace hq6 := (if_pos c).symm.trans hq6
    refine r_iload (x := v5) dX11_partOf_37 rfl ?_
    obtain rfl := Option.some.inj hq6
    exact x_sub [] rfl Jq6
  · replace hq6 := (if_neg c).symm.trans hq6
    refine r_bipush (v := (50 : Int32)) dX11_partOf_32 (by decide) ?_
    refine r_goto (tgt := 39) dX11_partOf_34 (by decide) ?_
    obtain rfl := Option.some.inj hq6
    exact x_sub [] rfl Jq6
theorem S_X11_partOf (n : Nat) (st : xS) (a0 : Option Nat) (a1 : Int32) (a2 : Int32) (a3 : Int32) (a4 : Int32) (a5 : Int32) (rv : Int32) (h : F_X11_partOf n st a0 a1 a2 a3 a4 a5 = some rv) : Ct mX11_partOf [va_rf a0, .int a1, .int a2, .int a3, .int a4, .int a5] st (some (.int rv)) st 5 := by
  refine Ct.of (by decide) (by simp only [lgL_R, lgL_I, lgL_L, lgL_0]; decide) ?_
  try simp only [lvA_R]
  exact R_X11_partOf n st a0 a1 a2 a3 a4 a5 rv h
theorem R_X11_edgeOf_L6 (n : Nat) {r : Option Value} {st' : xS} : ∀ (k : Nat) (st : xS) (a0 : Option Nat) (a1 : Int32) (a2 : Int32) (a3 : Int32) (a4 : Int32) (a5 : Int32) (a6 : Int32) (q : (Int32)), F_X11_edgeOf_L6 n k st a0 a1 a2 a3 a4 a5 a6 = some q → Rn mX11_edgeOf 48 [(5, .int q)] [] st r st' 6 → Rn mX11_edgeOf 6 [(0, va_rf a0), (1, .int a1), (2, .int a2), (3, .int a3), (4, .int a4), (5, .int a5), (6, .int a6)] [] st r st' 6 := by
  intro k
  induction k with
  | zero => intro st a0 a1 a2 a3 a4 a5 a6 q h; cases h
  | succ k ih =>
    intro st a0 a1 a2 a3 a4 a5 a6 q h J
    unfold F_X11_edgeOf_L6 at h
    refine r_iload (x := a6) dX11_edgeOf_6 rfl ?_
    refine r_bipush (v := (6 : Int32)) dX11_edgeOf_8 (by decide) ?_
    refine r_icmp_ge (tgt := 48) dX11_edgeOf_10 (by decide) (fun c => ?_) (fun c => ?_)
    · replace h := (if_pos c).symm.trans h
      obtain rfl := Option.some.inj h
      exact x_sub [5] rfl J
    · replace h := (if_neg c).symm.trans h
      refine r_iload (x := a5) dX11_edgeOf_13 rfl ?_
      refine r_iload (x := a6) dX11_edgeOf_15 rfl ?_
      refine x_aload_n (o := a0) dX11_edgeOf_17 rfl ?_
      obtain ⟨v1, hv1, h⟩ := xb h
      refine x_getI (o := a0) dX11_edgeOf_18 xf_X11_23 hv1 ?_
      obtain ⟨q4, hq4, h⟩ := xb h
      have Jq4 : Rn mX11_edgeOf 39 [(0, va_rf a0), (1, .int a1), (2, .int a2), (3, .int a3), (4, .int a4), (6, .int a6)] [.int q4, .int a5] st r st' 6 := by
        refine r_iadd dX11_edgeOf_39 ?_
        obtain ⟨v5, hv5, h⟩ := xb h
        refine x_eqI (Option.some.inj hv5) ?_
        refine r_istore (lv' := [(5, .int v5), (0, va_rf a0), (1, .int a1), (2, .int a2), (3, .int a3), (4, .int a4), (6, .int a6)]) (x := v5) dX11_edgeOf_40 (by decide) rfl ?_
        obtain ⟨v6, hv6, h⟩ := xb h
        refine x_iinc (c := (1 : Int32)) (lv' := [(6, .int v6), (5, .int v5), (0, va_rf a0), (1, .int a1), (2, .int a2), (3, .int a3), (4, .int a4)]) (x := a6) (v := v6) dX11_edgeOf_42 rfl (by decide) (Option.some.inj hv6) (by decide) rfl ?_
        refine r_goto (tgt := 6) dX11_edgeOf_45 (by decide) ?_
        exact x_sub [2, 3, 4, 5, 6, 1, 0] rfl (ih st a0 a1 a2 a3 a4 v5 v6 q h J)
      refine r_icmp_ne (tgt := 28) dX11_edgeOf_21 (by decide) (fun c => ?_) (fun c => ?_)
      · replace hq4 := (if_neg c).symm.trans hq4
        refine x_aload_n (o := a0) dX11_edgeOf_28 rfl ?_
        refine r_iload_n (x := a1) dX11_edgeOf_29 rfl ?_
        refine r_iload_n (x := a2) dX11_edgeOf_30 rfl ?_
        refine r_iload_n (x := a3) dX11_edgeOf_31 rfl ?_
        refine r_iload (x := a4) dX11_edgeOf_32 rfl ?_
        refine r_iload (x := a6) dX11_edgeOf_34 rfl ?_
        obtain ⟨q3, hq3, hq4⟩ := xb hq4
        obtain ⟨v2, hv2, hq4⟩ := xb hq4
        refine z_callV (as := [.int a1, .int a2, .int a3, .int a4, .int a6]) (o := a0) (r1 := (some (.int v2))) (stk := [.int a5]) (stk2 := [.int v2, .int a5]) (st1 := st) (d' := 5) dX11_edgeOf_36 xl_X11_175 hq3 (by decide) (Nat.le_trans (xsI xs0) (by decide)) rfl rfl (S_X11_partOf n st a0 a1 a2 a3 a4 a6 v2 hv2) ?_
        obtain rfl := Option.some.inj hq4
        exact x_sub [0, 1, 2, 3, 4, 6] rfl Jq4
      · replace hq4 := (if_pos c).symm.trans hq4
        refine r_iconst (v := (0 : Int32)) dX11_edgeOf_24 (by decide) ?_
        refine r_goto (tgt := 39) dX11_edgeOf_25 (by decide) ?_
        obtain rfl := Option.some.inj hq4
        exact x_sub [0, 1, 2, 3, 4, 6] rfl Jq4
theorem R_X11_edgeOf (n : Nat) (st : xS) (a0 : Option Nat) (a1 : Int32) (a2 : Int32) (a3 : Int32) (a4 : Int32) (rv : Int32) (h : F_X11_edgeOf n st a0 a1 a2 a3 a4 = some rv) : Rn mX11_edgeOf 0 [(0, va_rf a0), (1, .int a1), (2, .int a2), (3, .int a3), (4, .int a4)] [] st (some (.int rv)) st 6 := by
  unfold F_X11_edgeOf at h
  refine r_iconst (v := (0 : Int32)) dX11_edgeOf_0 (by decide) ?_
  refine r_istore (lv' := [(5, .int (0 : Int32)), (0, va_rf a0), (1, .int a1), (2, .int a2), (3, .int a3), (4, .int a4)]) (x := (0 : Int32)) dX11_edgeOf_1 (by decide) rfl ?_
  refine r_iconst (v := (0 : Int32)) dX11_edgeOf_3 (by decide) ?_
  refine r_istore (lv' := [(6, .int (0 : Int32)), (5, .int (0 : Int32)), (0, va_rf a0), (1, .int a1), (2, .int a2), (3, .int a3), (4, .int a4)]) (x := (0 : Int32)) dX11_edgeOf_4 (by decide) rfl ?_
  obtain ⟨q7, hq7, h⟩ := xb h
  have Jq7 : Rn mX11_edgeOf 48 [(5, .int q7)] [] st (some (.int rv)) st 6 := by
    refine r_iload (x := q7) dX11_edgeOf_48 rfl ?_
    obtain rfl := Option.some.inj h
    exact r_ireturn dX11_edgeOf_50 .int rfl rfl
  exact x_sub [2, 3, 4, 5, 6, 1, 0] rfl (R_X11_edgeOf_L6 n n st a0 a1 a2 a3 a4 (0 : Int32) (0 : Int32) q7 hq7 Jq7)
theorem S_X11_edgeOf (n : Nat) (st : xS) (a0 : Option Nat) (a1 : Int32) (a2 : Int32) (a3 : Int32) (a4 : Int32) (rv : Int32) (h : F_X11_edgeOf n st a0 a1 a2 a3 a4 = some rv) : Ct mX11_edgeOf [va_rf a0, .int a1, .int a2, .int a3, .int a4] st (some (.int rv)) st 6 := by
  refine Ct.of (by decide) (by simp only [lgL_R, lgL_I, lgL_L, lgL_0]; decide) ?_
  try simp only [lvA_R]
  exact R_X11_edgeOf n st a0 a1 a2 a3 a4 rv h
theorem R_X11_ofHundred (n : Nat) (st : xS) (a0 : Int32) (rv : Int32) (h : F_X11_ofHundred n st a0 = some rv) : Rn mX11_ofHundred 0 [(0, .int a0)] [] st (some (.int rv)) st 0 := by
  unfold F_X11_ofHundred at h
  refine r_iload_n (x := a0) dX11_ofHundred_0 rfl ?_
  obtain ⟨q1, hq1, h⟩ := xb h
  have Jq1 : Rn mX11_ofHundred 20 [] [.int q1] st (some (.int rv)) st 0 := by
    obtain rfl := Option.some.inj h
    exact r_ireturn dX11_ofHundred_20 .int rfl rfl
  refine r_if_ge (tgt := 8) dX11_ofHundred_1 (by decide) (fun c => ?_) (fun c => ?_)
  · replace hq1 := (if_pos c).symm.trans hq1
    refine r_iload_n (x := a0) dX11_ofHundred_8 rfl ?_
    refine r_bipush (v := (100 : Int32)) dX11_ofHundred_9 (by decide) ?_
    refine r_icmp_le (tgt := 19) dX11_ofHundred_11 (by decide) (fun c => ?_) (fun c => ?_)
    · replace hq1 := (if_pos c).symm.trans hq1
      refine r_iload_n (x := a0) dX11_ofHundred_19 rfl ?_
      obtain rfl := Option.some.inj hq1
      exact x_sub [] rfl Jq1
    · replace hq1 := (if_neg c).symm.trans hq1
      refine r_bipush (v := (100 : Int32)) dX11_ofHundred_14 (by decide) ?_
      refine r_goto (tgt := 20) dX11_ofHundred_16 (by decide) ?_
      obtain rfl := Option.some.inj hq1
      exact x_sub [] rfl Jq1
  · replace hq1 := (if_neg c).symm.trans hq1
    refine r_iconst (v := (0 : Int32)) dX11_ofHundred_4 (by decide) ?_
    refine r_goto (tgt := 20) dX11_ofHundred_5 (by decide) ?_
    obtain rfl := Option.some.inj hq1
    exact x_sub [] rfl Jq1
theorem S_X11_ofHundred (n : Nat) (st : xS) (a0 : Int32) (rv : Int32) (h : F_X11_ofHundred n st a0 = some rv) : Ct mX11_ofHundred [.int a0] st (some (.int rv)) st 0 := by
  refine Ct.of (by decide) (by simp only [lgL_R, lgL_I, lgL_L, lgL_0]; decide) ?_
  try simp only [lvA_R]
  exact R_X11_ofHundred n st a0 rv h
theorem R_X11_goalOf (n : Nat) (st : xS) (a0 : Option Nat) (a1 : Int32) (a2 : Int32) (a3 : Int32) (a4 : Int32) (a5 : Int32) (rv : Int32) (h : F_X11_goalOf n st a0 a1 a2 a3 a4 a5 = some rv) : Rn mX11_goalOf 0 [(0, va_rf a0), (1, .int a1), (2, .int a2), (3, .int a3), (4, .int a4), (5, .int a5)] [] st (some (.int rv)) st 7 := by
  unfold F_X11_goalOf at h
  refine x_aload_n (o := a0) dX11_goalOf_0 rfl ?_
  obtain ⟨v1, hv1, h⟩ := xb h
  refine x_getR (o := a0) dX11_goalOf_1 xf_X11_7 hv1 ?_
  refine r_iload_n (x := a1) dX11_goalOf_4 rfl ?_
  refine r_bipush (v := (40 : Int32)) dX11_goalOf_5 (by decide) ?_
  refine r_iadd dX11_goalOf_7 ?_
  refine x_aload_n (o := a0) dX11_goalOf_8 rfl ?_
  refine r_iload_n (x := a3) dX11_goalOf_9 rfl ?_
  refine r_iload (x := a4) dX11_goalOf_10 rfl ?_
  refine r_iconst (v := (0 : Int32)) dX11_goalOf_12 (by decide) ?_
  obtain ⟨q3, hq3, h⟩ := xb h
  obtain ⟨v2, hv2, h⟩ := xb h
  refine z_callV (as := [.int a3, .int a4, .int (0 : Int32)]) (o := a0) (r1 := (some (.int v2))) (stk := [.int (a1 + (40 : Int32)), va_rf v1]) (stk2 := [.int v2, .int (a1 + (40 : Int32)), va_rf v1]) (st1 := st) (d' := 1) dX11_goalOf_13 xl_X11_156 hq3 (by decide) (Nat.le_trans (xsI (xsA xs0)) (by decide)) rfl rfl (S_X11_gameOf n st a0 a3 a4 (0 : Int32) v2 hv2) ?_
  refine r_iadd dX11_goalOf_16 ?_
  obtain ⟨v4, hv4, h⟩ := xb h
  refine x_iaload (o := v1) dX11_goalOf_17 hv4 ?_
  refine x_aload_n (o := a0) dX11_goalOf_18 rfl ?_
  obtain ⟨v5, hv5, h⟩ := xb h
  refine x_getR (o := a0) dX11_goalOf_19 xf_X11_7 hv5 ?_
  refine r_iload_n (x := a1) dX11_goalOf_22 rfl ?_
  refine r_bipush (v := (40 : Int32)) dX11_goalOf_23 (by decide) ?_
  refine r_iadd dX11_goalOf_25 ?_
  refine x_aload_n (o := a0) dX11_goalOf_26 rfl ?_
  refine r_iload_n (x := a3) dX11_goalOf_27 rfl ?_
  refine r_iload (x := a4) dX11_goalOf_28 rfl ?_
  refine r_iconst (v := (1 : Int32)) dX11_goalOf_30 (by decide) ?_
  obtain ⟨q7, hq7, h⟩ := xb h
  obtain ⟨v6, hv6, h⟩ := xb h
  refine z_callV (as := [.int a3, .int a4, .int (1 : Int32)]) (o := a0) (r1 := (some (.int v6))) (stk := [.int (a1 + (40 : Int32)), va_rf v5, .int v4]) (stk2 := [.int v6, .int (a1 + (40 : Int32)), va_rf v5, .int v4]) (st1 := st) (d' := 1) dX11_goalOf_31 xl_X11_156 hq7 (by decide) (Nat.le_trans (xsI (xsA (xsI xs0))) (by decide)) rfl rfl (S_X11_gameOf n st a0 a3 a4 (1 : Int32) v6 hv6) ?_
  refine r_iadd dX11_goalOf_34 ?_
  obtain ⟨v8, hv8, h⟩ := xb h
  refine x_iaload (o := v5) dX11_goalOf_35 hv8 ?_
  refine r_isub dX11_goalOf_36 ?_
  obtain ⟨v9, hv9, h⟩ := xb h
  refine x_eqI (Option.some.inj hv9) ?_
  refine r_istore (lv' := [(6, .int v9), (0, va_rf a0), (1, .int a1), (2, .int a2), (3, .int a3), (4, .int a4), (5, .int a5)]) (x := v9) dX11_goalOf_37 (by decide) rfl ?_
  refine r_iload (x := a5) dX11_goalOf_39 rfl ?_
  obtain ⟨q16, hq16, h⟩ := xb h
  have Jq16 : Rn mX11_goalOf 75 [] [.int q16] st (some (.int rv)) st 7 := by
    obtain ⟨v17, hv17, h⟩ := xb h
    refine z_callS (as := [.int q16]) (r1 := (some (.int v17))) (stk := []) (stk2 := [.int v17]) (st1 := st) (d' := 0) dX11_goalOf_75 xl_X11_182 (by decide) (Nat.le_trans xs0 (by decide)) rfl rfl (S_X11_ofHundred n st q16 v17 hv17) ?_
    obtain rfl := Option.some.inj h
    exact r_ireturn dX11_goalOf_78 .int rfl rfl
  refine r_if_eq (tgt := 66) dX11_goalOf_41 (by decide) (fun c => ?_) (fun c => ?_)
  · replace hq16 := (if_pos c).symm.trans hq16
    refine x_aload_n (o := a0) dX11_goalOf_66 rfl ?_
    obtain ⟨v10, hv10, hq16⟩ := xb hq16
    refine x_getR (o := a0) dX11_goalOf_67 xf_X11_7 hv10 ?_
    refine r_iload_n (x := a2) dX11_goalOf_70 rfl ?_
    obtain ⟨v11, hv11, hq16⟩ := xb hq16
    refine x_iaload (o := v10) dX11_goalOf_71 hv11 ?_
    refine r_iload (x := v9) dX11_goalOf_72 rfl ?_
    refine r_isub dX11_goalOf_74 ?_
    obtain rfl := Option.some.inj hq16
    exact x_sub [] rfl Jq16
  · replace hq16 := (if_neg c).symm.trans hq16
    refine x_aload_n (o := a0) dX11_goalOf_44 rfl ?_
    obtain ⟨v12, hv12, hq16⟩ := xb hq16
    refine x_getR (o := a0) dX11_goalOf_45 xf_X11_7 hv12 ?_
    refine r_iload_n (x := a2) dX11_goalOf_48 rfl ?_
    obtain ⟨v13, hv13, hq16⟩ := xb hq16
    refine x_iaload (o := v12) dX11_goalOf_49 hv13 ?_
    refine r_iload (x := v9) dX11_goalOf_50 rfl ?_
    refine r_iadd dX11_goalOf_52 ?_
    refine x_aload_n (o := a0) dX11_goalOf_53 rfl ?_
    refine r_iload_n (x := a1) dX11_goalOf_54 rfl ?_
    refine r_iload_n (x := a2) dX11_goalOf_55 rfl ?_
    refine r_iload_n (x := a3) dX11_goalOf_56 rfl ?_
    refine r_iload (x := a4) dX11_goalOf_57 rfl ?_
    obtain ⟨q15, hq15, hq16⟩ := xb hq16
    obtain ⟨v14, hv14, hq16⟩ := xb hq16
    refine z_callV (as := [.int a1, .int a2, .int a3, .int a4]) (o := a0) (r1 := (some (.int v14))) (stk := [.int (v13 + v9)]) (stk2 := [.int v14, .int (v13 + v9)]) (st1 := st) (d' := 6) dX11_goalOf_59 xl_X11_178 hq15 (by decide) (Nat.le_trans (xsI xs0) (by decide)) rfl rfl (S_X11_edgeOf n st a0 a1 a2 a3 a4 v14 hv14) ?_
    refine r_iadd dX11_goalOf_62 ?_
    refine r_goto (tgt := 75) dX11_goalOf_63 (by decide) ?_
    obtain rfl := Option.some.inj hq16
    exact x_sub [] rfl Jq16
theorem S_X11_goalOf (n : Nat) (st : xS) (a0 : Option Nat) (a1 : Int32) (a2 : Int32) (a3 : Int32) (a4 : Int32) (a5 : Int32) (rv : Int32) (h : F_X11_goalOf n st a0 a1 a2 a3 a4 a5 = some rv) : Ct mX11_goalOf [va_rf a0, .int a1, .int a2, .int a3, .int a4, .int a5] st (some (.int rv)) st 7 := by
  refine Ct.of (by decide) (by simp only [lgL_R, lgL_I, lgL_L, lgL_0]; decide) ?_
  try simp only [lvA_R]
  exact R_X11_goalOf n st a0 a1 a2 a3 a4 a5 rv h
theorem R_X11_shots_L21 (n : Nat) {r : Option Value} {st' : xS} : ∀ (k : Nat) (st : xS) (a0 : Int32) (a1 : Int32) (a2 : Int64) (a4 : Int32) (q : (Int64)), F_X11_shots_L21 n k st a0 a1 a2 a4 = some q → Rn mX11_shots 52 [(2, .long q)] [] st r st' 0 → Rn mX11_shots 21 [(0, .int a0), (1, .int a1), (2, .long a2), (4, .int a4)] [] st r st' 0 := by
  intro k
  induction k with
  | zero => intro st a0 a1 a2 a4 q h; cases h
  | succ k ih =>
    intro st a0 a1 a2 a4 q h J
    unfold F_X11_shots_L21 at h
    refine r_iload (x := a4) dX11_shots_21 rfl ?_
    refine r_iconst (v := (3 : Int32)) dX11_shots_23 (by decide) ?_
    refine r_icmp_ge (tgt := 52) dX11_shots_24 (by decide) (fun c => ?_) (fun c => ?_)
    · replace h := (if_pos c).symm.trans h
      obtain rfl := Option.some.inj h
      exact x_sub [2] rfl J
    · replace h := (if_neg c).symm.trans h
      refine r_lload_n (x := a2) dX11_shots_27 rfl ?_
      refine r_iload (x := a4) dX11_shots_28 rfl ?_
      refine r_iload_n (x := a1) dX11_shots_30 rfl ?_
      obtain ⟨q2, hq2, h⟩ := xb h
      have Jq2 : Rn mX11_shots 44 [(0, .int a0), (1, .int a1), (4, .int a4)] [.long q2, .long a2] st r st' 0 := by
        refine r_lmul dX11_shots_44 ?_
        obtain ⟨v3, hv3, h⟩ := xb h
        refine x_eqL (Option.some.inj hv3) ?_
        refine r_lstore_n (lv' := [(2, .long v3), (0, .int a0), (1, .int a1), (4, .int a4)]) (x := v3) dX11_shots_45 (by decide) rfl ?_
        obtain ⟨v4, hv4, h⟩ := xb h
        refine x_iinc (c := (1 : Int32)) (lv' := [(4, .int v4), (2, .long v3), (0, .int a0), (1, .int a1)]) (x := a4) (v := v4) dX11_shots_46 rfl (by decide) (Option.some.inj hv4) (by decide) rfl ?_
        refine r_goto (tgt := 21) dX11_shots_49 (by decide) ?_
        exact x_sub [2, 3, 1, 0] rfl (ih st a0 a1 v3 v4 q h J)
      refine r_icmp_ge (tgt := 39) dX11_shots_31 (by decide) (fun c => ?_) (fun c => ?_)
      · replace hq2 := (if_pos c).symm.trans hq2
        refine r_bipush (v := (100 : Int32)) dX11_shots_39 (by decide) ?_
        refine r_iload_n (x := a0) dX11_shots_41 rfl ?_
        refine r_isub dX11_shots_42 ?_
        refine r_i2l dX11_shots_43 ?_
        obtain rfl := Option.some.inj hq2
        exact x_sub [0, 1, 3] rfl Jq2
      · replace hq2 := (if_neg c).symm.trans hq2
        refine r_iload_n (x := a0) dX11_shots_34 rfl ?_
        refine r_i2l dX11_shots_35 ?_
        refine r_goto (tgt := 44) dX11_shots_36 (by decide) ?_
        obtain rfl := Option.some.inj hq2
        exact x_sub [0, 1, 3] rfl Jq2
theorem R_X11_shots (n : Nat) (st : xS) (a0 : Int32) (a1 : Int32) (rv : Int64) (h : F_X11_shots n st a0 a1 = some rv) : Rn mX11_shots 0 [(0, .int a0), (1, .int a1)] [] st (some (.long rv)) st 0 := by
  unfold F_X11_shots at h
  refine r_iload_n (x := a1) dX11_shots_0 rfl ?_
  refine r_iconst (v := (1 : Int32)) dX11_shots_1 (by decide) ?_
  obtain ⟨q1, hq1, h⟩ := xb h
  have Jq1 : Rn mX11_shots 17 [(0, .int a0), (1, .int a1)] [.long q1] st (some (.long rv)) st 0 := by
    refine r_lstore_n (lv' := [(2, .long q1), (0, .int a0), (1, .int a1)]) (x := q1) dX11_shots_17 (by decide) rfl ?_
    refine r_iconst (v := (0 : Int32)) dX11_shots_18 (by decide) ?_
    refine r_istore (lv' := [(4, .int (0 : Int32)), (2, .long q1), (0, .int a0), (1, .int a1)]) (x := (0 : Int32)) dX11_shots_19 (by decide) rfl ?_
    obtain ⟨q5, hq5, h⟩ := xb h
    have Jq5 : Rn mX11_shots 52 [(2, .long q5)] [] st (some (.long rv)) st 0 := by
      refine r_lload_n (x := q5) dX11_shots_52 rfl ?_
      obtain rfl := Option.some.inj h
      exact r_lreturn dX11_shots_53 rfl
    exact x_sub [2, 3, 1, 0] rfl (R_X11_shots_L21 n n st a0 a1 q1 (0 : Int32) q5 hq5 Jq5)
  refine r_icmp_eq (tgt := 10) dX11_shots_2 (by decide) (fun c => ?_) (fun c => ?_)
  · replace hq1 := (if_pos c).symm.trans hq1
    refine r_ldc2 (v := (3 : Int64)) dX11_shots_10 xk_X11_185 ?_
    refine r_goto (tgt := 17) dX11_shots_13 (by decide) ?_
    obtain rfl := Option.some.inj hq1
    exact x_sub [0, 1] rfl Jq1
  · replace hq1 := (if_neg c).symm.trans hq1
    refine r_iload_n (x := a1) dX11_shots_5 rfl ?_
    refine r_iconst (v := (2 : Int32)) dX11_shots_6 (by decide) ?_
    refine r_icmp_ne (tgt := 16) dX11_shots_7 (by decide) (fun c => ?_) (fun c => ?_)
    · replace hq1 := (if_neg c).symm.trans hq1
      refine r_lconst (v := (1 : Int64)) dX11_shots_16 (by decide) ?_
      obtain rfl := Option.some.inj hq1
      exact x_sub [0, 1] rfl Jq1
    · replace hq1 := (if_pos c).symm.trans hq1
      refine r_ldc2 (v := (3 : Int64)) dX11_shots_10 xk_X11_185 ?_
      refine r_goto (tgt := 17) dX11_shots_13 (by decide) ?_
      obtain rfl := Option.some.inj hq1
      exact x_sub [0, 1] rfl Jq1
theorem S_X11_shots (n : Nat) (st : xS) (a0 : Int32) (a1 : Int32) (rv : Int64) (h : F_X11_shots n st a0 a1 = some rv) : Ct mX11_shots [.int a0, .int a1] st (some (.long rv)) st 0 := by
  refine Ct.of (by decide) (by simp only [lgL_R, lgL_I, lgL_L, lgL_0]; decide) ?_
  try simp only [lvA_R]
  exact R_X11_shots n st a0 a1 rv h
theorem R_X11_chanceOf_L39 (n : Nat) {r : Option Value} {st' : xS} : ∀ (k : Nat) (st : xS) (a5 : Int32) (a6 : Int32) (a7 : Int32) (a8 : Int64) (a10 : Int32) (a11 : Int32) (q : (Int64)), F_X11_chanceOf_L39 n k st a5 a6 a7 a8 a10 a11 = some q → Rn mX11_chanceOf 107 [(5, .int a5), (6, .int a6), (7, .int a7), (8, .long q), (10, .int a10)] [] st r st' 8 → Rn mX11_chanceOf 39 [(5, .int a5), (6, .int a6), (7, .int a7), (8, .long a8), (10, .int a10), (11, .int a11)] [] st r st' 8 := by
  intro k
  induction k with
  | zero => intro st a5 a6 a7 a8 a10 a11 q h; cases h
  | succ k ih =>
    intro st a5 a6 a7 a8 a10 a11 q h J
    unfold F_X11_chanceOf_L39 at h
    refine r_iload (x := a11) dX11_chanceOf_39 rfl ?_
    refine r_iconst (v := (4 : Int32)) dX11_chanceOf_41 (by decide) ?_
    refine r_icmp_ge (tgt := 107) dX11_chanceOf_42 (by decide) (fun c => ?_) (fun c => ?_)
    · replace h := (if_pos c).symm.trans h
      obtain rfl := Option.some.inj h
      exact x_sub [0, 1, 2, 3, 4] rfl J
    · replace h := (if_neg c).symm.trans h
      refine r_iload (x := a10) dX11_chanceOf_45 rfl ?_
      refine r_iload (x := a11) dX11_chanceOf_47 rfl ?_
      obtain ⟨q5, hq5, h⟩ := xb h
      have Jq5 : Rn mX11_chanceOf 68 [(5, .int a5), (6, .int a6), (7, .int a7), (8, .long a8), (10, .int a10), (11, .int a11)] [.int q5] st r st' 8 := by
        refine r_istore (lv' := [(12, .int q5), (5, .int a5), (6, .int a6), (7, .int a7), (8, .long a8), (10, .int a10), (11, .int a11)]) (x := q5) dX11_chanceOf_68 (by decide) rfl ?_
        refine r_lload (x := a8) dX11_chanceOf_70 rfl ?_
        refine r_iload (x := q5) dX11_chanceOf_72 rfl ?_
        refine r_iload (x := a5) dX11_chanceOf_74 rfl ?_
        obtain ⟨q8, hq8, h⟩ := xb h
        have Jq8 : Rn mX11_chanceOf 98 [(5, .int a5), (6, .int a6), (7, .int a7), (10, .int a10), (11, .int a11)] [.long q8, .long a8] st r st' 8 := by
          refine r_ladd dX11_chanceOf_98 ?_
          obtain ⟨v9, hv9, h⟩ := xb h
          refine x_eqL (Option.some.inj hv9) ?_
          refine r_lstore (lv' := [(8, .long v9), (5, .int a5), (6, .int a6), (7, .int a7), (10, .int a10), (11, .int a11)]) (x := v9) dX11_chanceOf_99 (by decide) rfl ?_
          obtain ⟨v10, hv10, h⟩ := xb h
          refine x_iinc (c := (1 : Int32)) (lv' := [(11, .int v10), (8, .long v9), (5, .int a5), (6, .int a6), (7, .int a7), (10, .int a10)]) (x := a11) (v := v10) dX11_chanceOf_101 rfl (by decide) (Option.some.inj hv10) (by decide) rfl ?_
          refine r_goto (tgt := 39) dX11_chanceOf_104 (by decide) ?_
          exact x_sub [2, 3, 4, 1, 5, 0] rfl (ih st a5 a6 a7 v9 a10 v10 q h J)
        refine r_icmp_ne (tgt := 97) dX11_chanceOf_76 (by decide) (fun c => ?_) (fun c => ?_)
        · replace hq8 := (if_neg c).symm.trans hq8
          refine r_lconst (v := (0 : Int64)) dX11_chanceOf_97 (by decide) ?_
          obtain rfl := Option.some.inj hq8
          exact x_sub [1, 2, 3, 5, 6] rfl Jq8
        · replace hq8 := (if_pos c).symm.trans hq8
          refine r_iload (x := a6) dX11_chanceOf_79 rfl ?_
          refine r_iload (x := a10) dX11_chanceOf_81 rfl ?_
          obtain ⟨v6, hv6, hq8⟩ := xb hq8
          refine z_callS (as := [.int a6, .int a10]) (r1 := (some (.long v6))) (stk := [.long a8]) (stk2 := [.long v6, .long a8]) (st1 := st) (d' := 0) dX11_chanceOf_83 xl_X11_191 (by decide) (Nat.le_trans (xsJ xs0) (by decide)) rfl rfl (S_X11_shots n st a6 a10 v6 hv6) ?_
          refine r_iload (x := a7) dX11_chanceOf_86 rfl ?_
          refine r_iload (x := a11) dX11_chanceOf_88 rfl ?_
          obtain ⟨v7, hv7, hq8⟩ := xb hq8
          refine z_callS (as := [.int a7, .int a11]) (r1 := (some (.long v7))) (stk := [.long v6, .long a8]) (stk2 := [.long v7, .long v6, .long a8]) (st1 := st) (d' := 0) dX11_chanceOf_90 xl_X11_191 (by decide) (Nat.le_trans (xsJ (xsJ xs0)) (by decide)) rfl rfl (S_X11_shots n st a7 a11 v7 hv7) ?_
          refine r_lmul dX11_chanceOf_93 ?_
          refine r_goto (tgt := 98) dX11_chanceOf_94 (by decide) ?_
          obtain rfl := Option.some.inj hq8
          exact x_sub [1, 2, 3, 5, 6] rfl Jq8
      refine r_icmp_le (tgt := 56) dX11_chanceOf_49 (by decide) (fun c => ?_) (fun c => ?_)
      · replace hq5 := (if_pos c).symm.trans hq5
        refine r_iload (x := a10) dX11_chanceOf_56 rfl ?_
        refine r_iload (x := a11) dX11_chanceOf_58 rfl ?_
        refine r_icmp_ne (tgt := 67) dX11_chanceOf_60 (by decide) (fun c => ?_) (fun c => ?_)
        · replace hq5 := (if_neg c).symm.trans hq5
          refine r_iconst (v := (2 : Int32)) dX11_chanceOf_67 (by decide) ?_
          obtain rfl := Option.some.inj hq5
          exact x_sub [0, 1, 2, 3, 4, 5] rfl Jq5
        · replace hq5 := (if_pos c).symm.trans hq5
          refine r_iconst (v := (1 : Int32)) dX11_chanceOf_63 (by decide) ?_
          refine r_goto (tgt := 68) dX11_chanceOf_64 (by decide) ?_
          obtain rfl := Option.some.inj hq5
          exact x_sub [0, 1, 2, 3, 4, 5] rfl Jq5
      · replace hq5 := (if_neg c).symm.trans hq5
        refine r_iconst (v := (0 : Int32)) dX11_chanceOf_52 (by decide) ?_
        refine r_goto (tgt := 68) dX11_chanceOf_53 (by decide) ?_
        obtain rfl := Option.some.inj hq5
        exact x_sub [0, 1, 2, 3, 4, 5] rfl Jq5
theorem R_X11_chanceOf_L30 (n : Nat) {r : Option Value} {st' : xS} : ∀ (k : Nat) (st : xS) (a5 : Int32) (a6 : Int32) (a7 : Int32) (a8 : Int64) (a10 : Int32) (q : (Int64)), F_X11_chanceOf_L30 n k st a5 a6 a7 a8 a10 = some q → Rn mX11_chanceOf 113 [(8, .long q)] [] st r st' 8 → Rn mX11_chanceOf 30 [(5, .int a5), (6, .int a6), (7, .int a7), (8, .long a8), (10, .int a10)] [] st r st' 8 := by
  intro k
  induction k with
  | zero => intro st a5 a6 a7 a8 a10 q h; cases h
  | succ k ih =>
    intro st a5 a6 a7 a8 a10 q h J
    unfold F_X11_chanceOf_L30 at h
    refine r_iload (x := a10) dX11_chanceOf_30 rfl ?_
    refine r_iconst (v := (4 : Int32)) dX11_chanceOf_32 (by decide) ?_
    refine r_icmp_ge (tgt := 113) dX11_chanceOf_33 (by decide) (fun c => ?_) (fun c => ?_)
    · replace h := (if_pos c).symm.trans h
      obtain rfl := Option.some.inj h
      exact x_sub [3] rfl J
    · replace h := (if_neg c).symm.trans h
      refine r_iconst (v := (0 : Int32)) dX11_chanceOf_36 (by decide) ?_
      refine r_istore (lv' := [(11, .int (0 : Int32)), (5, .int a5), (6, .int a6), (7, .int a7), (8, .long a8), (10, .int a10)]) (x := (0 : Int32)) dX11_chanceOf_37 (by decide) rfl ?_
      obtain ⟨q11, hq11, h⟩ := xb h
      have Jq11 : Rn mX11_chanceOf 107 [(5, .int a5), (6, .int a6), (7, .int a7), (8, .long q11), (10, .int a10)] [] st r st' 8 := by
        obtain ⟨v12, hv12, h⟩ := xb h
        refine x_iinc (c := (1 : Int32)) (lv' := [(10, .int v12), (5, .int a5), (6, .int a6), (7, .int a7), (8, .long q11)]) (x := a10) (v := v12) dX11_chanceOf_107 rfl (by decide) (Option.some.inj hv12) (by decide) rfl ?_
        refine r_goto (tgt := 30) dX11_chanceOf_110 (by decide) ?_
        exact x_sub [1, 2, 3, 4, 0] rfl (ih st a5 a6 a7 q11 v12 q h J)
      exact x_sub [1, 2, 3, 4, 5, 0] rfl (R_X11_chanceOf_L39 n n st a5 a6 a7 a8 a10 (0 : Int32) q11 hq11 Jq11)
theorem R_X11_chanceOf (n : Nat) (st : xS) (a0 : Option Nat) (a1 : Int32) (a2 : Int32) (a3 : Int32) (a4 : Int32) (a5 : Int32) (rv : Int64) (h : F_X11_chanceOf n st a0 a1 a2 a3 a4 a5 = some rv) : Rn mX11_chanceOf 0 [(0, va_rf a0), (1, .int a1), (2, .int a2), (3, .int a3), (4, .int a4), (5, .int a5)] [] st (some (.long rv)) st 8 := by
  unfold F_X11_chanceOf at h
  refine x_aload_n (o := a0) dX11_chanceOf_0 rfl ?_
  refine r_iload_n (x := a1) dX11_chanceOf_1 rfl ?_
  refine r_iload_n (x := a2) dX11_chanceOf_2 rfl ?_
  refine r_iload_n (x := a3) dX11_chanceOf_3 rfl ?_
  refine r_iload (x := a4) dX11_chanceOf_4 rfl ?_
  refine r_iconst (v := (1 : Int32)) dX11_chanceOf_6 (by decide) ?_
  obtain ⟨q2, hq2, h⟩ := xb h
  obtain ⟨v1, hv1, h⟩ := xb h
  refine z_callV (as := [.int a1, .int a2, .int a3, .int a4, .int (1 : Int32)]) (o := a0) (r1 := (some (.int v1))) (stk := []) (stk2 := [.int v1]) (st1 := st) (d' := 7) dX11_chanceOf_7 xl_X11_187 hq2 (by decide) (Nat.le_trans xs0 (by decide)) rfl rfl (S_X11_goalOf n st a0 a1 a2 a3 a4 (1 : Int32) v1 hv1) ?_
  refine r_istore (lv' := [(6, .int v1), (0, va_rf a0), (1, .int a1), (2, .int a2), (3, .int a3), (4, .int a4), (5, .int a5)]) (x := v1) dX11_chanceOf_10 (by decide) rfl ?_
  refine x_aload_n (o := a0) dX11_chanceOf_12 rfl ?_
  refine r_iload_n (x := a1) dX11_chanceOf_13 rfl ?_
  refine r_iload_n (x := a2) dX11_chanceOf_14 rfl ?_
  refine r_iload_n (x := a3) dX11_chanceOf_15 rfl ?_
  refine r_iload (x := a4) dX11_chanceOf_16 rfl ?_
  refine r_iconst (v := (0 : Int32)) dX11_chanceOf_18 (by decide) ?_
  obtain ⟨q4, hq4, h⟩ := xb h
  obtain ⟨v3, hv3, h⟩ := xb h
  refine z_callV (as := [.int a1, .int a2, .int a3, .int a4, .int (0 : Int32)]) (o := a0) (r1 := (some (.int v3))) (stk := []) (stk2 := [.int v3]) (st1 := st) (d' := 7) dX11_chanceOf_19 xl_X11_187 hq4 (by decide) (Nat.le_trans xs0 (by decide)) rfl rfl (S_X11_goalOf n st a0 a1 a2 a3 a4 (0 : Int32) v3 hv3) ?_
  refine r_istore (lv' := [(7, .int v3), (6, .int v1), (0, va_rf a0), (1, .int a1), (2, .int a2), (3, .int a3), (4, .int a4), (5, .int a5)]) (x := v3) dX11_chanceOf_22 (by decide) rfl ?_
  refine r_lconst (v := (0 : Int64)) dX11_chanceOf_24 (by decide) ?_
  refine r_lstore (lv' := [(8, .long (0 : Int64)), (7, .int v3), (6, .int v1), (0, va_rf a0), (1, .int a1), (2, .int a2), (3, .int a3), (4, .int a4), (5, .int a5)]) (x := (0 : Int64)) dX11_chanceOf_25 (by decide) rfl ?_
  refine r_iconst (v := (0 : Int32)) dX11_chanceOf_27 (by decide) ?_
  refine r_istore (lv' := [(10, .int (0 : Int32)), (8, .long (0 : Int64)), (7, .int v3), (6, .int v1), (0, va_rf a0), (1, .int a1), (2, .int a2), (3, .int a3), (4, .int a4), (5, .int a5)]) (x := (0 : Int32)) dX11_chanceOf_28 (by decide) rfl ?_
  obtain ⟨q13, hq13, h⟩ := xb h
  have Jq13 : Rn mX11_chanceOf 113 [(8, .long q13)] [] st (some (.long rv)) st 8 := by
    refine r_lload (x := q13) dX11_chanceOf_113 rfl ?_
    obtain rfl := Option.some.inj h
    exact r_lreturn dX11_chanceOf_115 rfl
  exact x_sub [9, 3, 2, 1, 0] rfl (R_X11_chanceOf_L30 n n st a5 v1 v3 (0 : Int64) (0 : Int32) q13 hq13 Jq13)
theorem S_X11_chanceOf (n : Nat) (st : xS) (a0 : Option Nat) (a1 : Int32) (a2 : Int32) (a3 : Int32) (a4 : Int32) (a5 : Int32) (rv : Int64) (h : F_X11_chanceOf n st a0 a1 a2 a3 a4 a5 = some rv) : Ct mX11_chanceOf [va_rf a0, .int a1, .int a2, .int a3, .int a4, .int a5] st (some (.long rv)) st 8 := by
  refine Ct.of (by decide) (by simp only [lgL_R, lgL_I, lgL_L, lgL_0]; decide) ?_
  try simp only [lvA_R]
  exact R_X11_chanceOf n st a0 a1 a2 a3 a4 a5 rv h
theorem R_X11_hopeOf (n : Nat) (st : xS) (a0 : Option Nat) (a1 : Int32) (a2 : Int32) (a3 : Int32) (a4 : Int32) (rv : Int64) (h : F_X11_hopeOf n st a0 a1 a2 a3 a4 = some rv) : Rn mX11_hopeOf 0 [(0, va_rf a0), (1, .int a1), (2, .int a2), (3, .int a3), (4, .int a4)] [] st (some (.long rv)) st 9 := by
  unfold F_X11_hopeOf at h
  refine r_ldc2 (v := (3 : Int64)) dX11_hopeOf_0 xk_X11_185 ?_
  refine x_aload_n (o := a0) dX11_hopeOf_3 rfl ?_
  refine r_iload_n (x := a1) dX11_hopeOf_4 rfl ?_
  refine r_iload_n (x := a2) dX11_hopeOf_5 rfl ?_
  refine r_iload_n (x := a3) dX11_hopeOf_6 rfl ?_
  refine r_iload (x := a4) dX11_hopeOf_7 rfl ?_
  refine r_iconst (v := (0 : Int32)) dX11_hopeOf_9 (by decide) ?_
  obtain ⟨q2, hq2, h⟩ := xb h
  obtain ⟨v1, hv1, h⟩ := xb h
  refine z_callV (as := [.int a1, .int a2, .int a3, .int a4, .int (0 : Int32)]) (o := a0) (r1 := (some (.long v1))) (stk := [.long (3 : Int64)]) (stk2 := [.long v1, .long (3 : Int64)]) (st1 := st) (d' := 8) dX11_hopeOf_10 xl_X11_195 hq2 (by decide) (Nat.le_trans (xsJ xs0) (by decide)) rfl rfl (S_X11_chanceOf n st a0 a1 a2 a3 a4 (0 : Int32) v1 hv1) ?_
  refine r_lmul dX11_hopeOf_13 ?_
  refine x_aload_n (o := a0) dX11_hopeOf_14 rfl ?_
  refine r_iload_n (x := a1) dX11_hopeOf_15 rfl ?_
  refine r_iload_n (x := a2) dX11_hopeOf_16 rfl ?_
  refine r_iload_n (x := a3) dX11_hopeOf_17 rfl ?_
  refine r_iload (x := a4) dX11_hopeOf_18 rfl ?_
  refine r_iconst (v := (1 : Int32)) dX11_hopeOf_20 (by decide) ?_
  obtain ⟨q4, hq4, h⟩ := xb h
  obtain ⟨v3, hv3, h⟩ := xb h
  refine z_callV (as := [.int a1, .int a2, .int a3, .int a4, .int (1 : Int32)]) (o := a0) (r1 := (some (.long v3))) (stk := [.long ((3 : Int64) * v1)]) (stk2 := [.long v3, .long ((3 : Int64) * v1)]) (st1 := st) (d' := 8) dX11_hopeOf_21 xl_X11_195 hq4 (by decide) (Nat.le_trans (xsJ xs0) (by decide)) rfl rfl (S_X11_chanceOf n st a0 a1 a2 a3 a4 (1 : Int32) v3 hv3) ?_
  refine r_ladd dX11_hopeOf_24 ?_
  obtain rfl := Option.some.inj h
  exact r_lreturn dX11_hopeOf_25 rfl
theorem S_X11_hopeOf (n : Nat) (st : xS) (a0 : Option Nat) (a1 : Int32) (a2 : Int32) (a3 : Int32) (a4 : Int32) (rv : Int64) (h : F_X11_hopeOf n st a0 a1 a2 a3 a4 = some rv) : Ct mX11_hopeOf [va_rf a0, .int a1, .int a2, .int a3, .int a4] st (some (.long rv)) st 9 := by
  refine Ct.of (by decide) (by simp only [lgL_R, lgL_I, lgL_L, lgL_0]; decide) ?_
  try simp only [lvA_R]
  exact R_X11_hopeOf n st a0 a1 a2 a3 a4 rv h
theorem R_X11_isGame (n : Nat) (st : xS) (a0 : Option Nat) (a1 : Int32) (a2 : Int32) (a3 : Int32) (a4 : Int32) (rv : Int32) (h : F_X11_isGame n st a0 a1 a2 a3 a4 = some rv) : Rn mX11_isGame 0 [(0, va_rf a0), (1, .int a1), (2, .int a2), (3, .int a3), (4, .int a4)] [] st (some (.int rv)) st 3 := by
  unfold F_X11_isGame at h
  refine x_aload_n (o := a0) dX11_isGame_0 rfl ?_
  refine r_iload_n (x := a1) dX11_isGame_1 rfl ?_
  refine r_iload_n (x := a3) dX11_isGame_2 rfl ?_
  obtain ⟨q2, hq2, h⟩ := xb h
  obtain ⟨v1, hv1, h⟩ := xb h
  refine z_callV (as := [.int a1, .int a3]) (o := a0) (r1 := (some (.int v1))) (stk := []) (stk2 := [.int v1]) (st1 := st) (d' := 2) dX11_isGame_3 xl_X11_199 hq2 (by decide) (Nat.le_trans xs0 (by decide)) rfl rfl (S_X11_goes n st a0 a1 a3 v1 hv1) ?_
  obtain ⟨q8, hq8, h⟩ := xb h
  have Jq8 : Rn mX11_isGame 39 [] [.int q8] st (some (.int rv)) st 3 := by
    obtain ⟨v9, hv9, h⟩ := xb h
    refine x_eqI (rz_inv2 hv9).1 ?_
    obtain rfl := Option.some.inj h
    exact r_ireturn dX11_isGame_39 .boolean rfl (by rcases (rz_inv2 hv9).2 with e | e <;> rw [e] <;> rfl)
  refine r_if_eq (tgt := 38) dX11_isGame_6 (by decide) (fun c => ?_) (fun c => ?_)
  · replace hq8 := (if_pos c).symm.trans hq8
    refine r_iconst (v := (0 : Int32)) dX11_isGame_38 (by decide) ?_
    obtain rfl := Option.some.inj hq8
    exact x_sub [] rfl Jq8
  · replace hq8 := (if_neg c).symm.trans hq8
    refine x_aload_n (o := a0) dX11_isGame_9 rfl ?_
    refine r_iconst (v := (1 : Int32)) dX11_isGame_10 (by decide) ?_
    refine r_iload_n (x := a2) dX11_isGame_11 rfl ?_
    obtain ⟨q4, hq4, hq8⟩ := xb hq8
    obtain ⟨v3, hv3, hq8⟩ := xb hq8
    refine z_callV (as := [.int (1 : Int32), .int a2]) (o := a0) (r1 := (some (.int v3))) (stk := []) (stk2 := [.int v3]) (st1 := st) (d' := 1) dX11_isGame_12 xl_X11_130 hq4 (by decide) (Nat.le_trans xs0 (by decide)) rfl rfl (S_X11_isOf n st a0 (1 : Int32) a2 v3 hv3) ?_
    refine r_if_eq (tgt := 38) dX11_isGame_15 (by decide) (fun c => ?_) (fun c => ?_)
    · replace hq8 := (if_pos c).symm.trans hq8
      refine r_iconst (v := (0 : Int32)) dX11_isGame_38 (by decide) ?_
      obtain rfl := Option.some.inj hq8
      exact x_sub [] rfl Jq8
    · replace hq8 := (if_neg c).symm.trans hq8
      refine r_iload (x := a4) dX11_isGame_18 rfl ?_
      refine r_iconst (v := (0 : Int32)) dX11_isGame_20 (by decide) ?_
      refine x_aload_n (o := a0) dX11_isGame_21 rfl ?_
      refine r_iload_n (x := a3) dX11_isGame_22 rfl ?_
      obtain ⟨q6, hq6, hq8⟩ := xb hq8
      obtain ⟨v5, hv5, hq8⟩ := xb hq8
      refine z_callV (as := [.int a3]) (o := a0) (r1 := (some (.int v5))) (stk := [.int (0 : Int32), .int a4]) (stk2 := [.int v5, .int (0 : Int32), .int a4]) (st1 := st) (d' := 1) dX11_isGame_23 xl_X11_153 hq6 (by decide) (Nat.le_trans (xsI (xsI xs0)) (by decide)) rfl rfl (S_X11_gamesOf n st a0 a3 v5 hv5) ?_
      refine r_iconst (v := (1 : Int32)) dX11_isGame_26 (by decide) ?_
      refine r_isub dX11_isGame_27 ?_
      obtain ⟨v7, hv7, hq8⟩ := xb hq8
      refine z_callS (as := [.int a4, .int (0 : Int32), .int (v5 - (1 : Int32))]) (r1 := (some (.int v7))) (stk := []) (stk2 := [.int v7]) (st1 := st) (d' := 0) dX11_isGame_28 xl_X11_90 (by decide) (Nat.le_trans xs0 (by decide)) rfl rfl (S_X11_isIn n st a4 (0 : Int32) (v5 - (1 : Int32)) v7 hv7) ?_
      refine r_if_eq (tgt := 38) dX11_isGame_31 (by decide) (fun c => ?_) (fun c => ?_)
      · replace hq8 := (if_pos c).symm.trans hq8
        refine r_iconst (v := (0 : Int32)) dX11_isGame_38 (by decide) ?_
        obtain rfl := Option.some.inj hq8
        exact x_sub [] rfl Jq8
      · replace hq8 := (if_neg c).symm.trans hq8
        refine r_iconst (v := (1 : Int32)) dX11_isGame_34 (by decide) ?_
        refine r_goto (tgt := 39) dX11_isGame_35 (by decide) ?_
        obtain rfl := Option.some.inj hq8
        exact x_sub [] rfl Jq8
theorem S_X11_isGame (n : Nat) (st : xS) (a0 : Option Nat) (a1 : Int32) (a2 : Int32) (a3 : Int32) (a4 : Int32) (rv : Int32) (h : F_X11_isGame n st a0 a1 a2 a3 a4 = some rv) : Ct mX11_isGame [va_rf a0, .int a1, .int a2, .int a3, .int a4] st (some (.int rv)) st 3 := by
  refine Ct.of (by decide) (by simp only [lgL_R, lgL_I, lgL_L, lgL_0]; decide) ?_
  try simp only [lvA_R]
  exact R_X11_isGame n st a0 a1 a2 a3 a4 rv h
theorem R_X11_worth (n : Nat) (st : xS) (a0 : Option Nat) (a1 : Int32) (a2 : Int32) (a3 : Int32) (a4 : Int32) (a5 : Int32) (rv : Int32) (h : F_X11_worth n st a0 a1 a2 a3 a4 a5 = some rv) : Rn mX11_worth 0 [(0, va_rf a0), (1, .int a1), (2, .int a2), (3, .int a3), (4, .int a4), (5, .int a5)] [] st (some (.int rv)) st 8 := by
  unfold F_X11_worth at h
  refine x_aload_n (o := a0) dX11_worth_0 rfl ?_
  refine r_iload_n (x := a1) dX11_worth_1 rfl ?_
  refine r_iload_n (x := a2) dX11_worth_2 rfl ?_
  refine r_iload_n (x := a3) dX11_worth_3 rfl ?_
  refine r_iload (x := a4) dX11_worth_4 rfl ?_
  obtain ⟨q2, hq2, h⟩ := xb h
  obtain ⟨v1, hv1, h⟩ := xb h
  refine z_callV (as := [.int a1, .int a2, .int a3, .int a4]) (o := a0) (r1 := (some (.int v1))) (stk := []) (stk2 := [.int v1]) (st1 := st) (d' := 3) dX11_worth_6 xl_X11_202 hq2 (by decide) (Nat.le_trans xs0 (by decide)) rfl rfl (S_X11_isGame n st a0 a1 a2 a3 a4 v1 hv1) ?_
  refine r_if_eq (tgt := 23) dX11_worth_9 (by decide) (fun c => ?_) (fun c => ?_)
  · replace h := (if_pos c).symm.trans h
    refine r_iconst (v := (-1 : Int32)) dX11_worth_23 (by decide) ?_
    obtain rfl := Option.some.inj h
    exact r_ireturn dX11_worth_24 .int rfl rfl
  · replace h := (if_neg c).symm.trans h
    refine r_iload (x := a5) dX11_worth_12 rfl ?_
    refine r_iconst (v := (0 : Int32)) dX11_worth_14 (by decide) ?_
    refine r_bipush (v := (9 : Int32)) dX11_worth_15 (by decide) ?_
    obtain ⟨v3, hv3, h⟩ := xb h
    refine z_callS (as := [.int a5, .int (0 : Int32), .int (9 : Int32)]) (r1 := (some (.int v3))) (stk := []) (stk2 := [.int v3]) (st1 := st) (d' := 0) dX11_worth_17 xl_X11_90 (by decide) (Nat.le_trans xs0 (by decide)) rfl rfl (S_X11_isIn n st a5 (0 : Int32) (9 : Int32) v3 hv3) ?_
    refine r_if_ne (tgt := 25) dX11_worth_20 (by decide) (fun c => ?_) (fun c => ?_)
    · replace h := (if_neg c).symm.trans h
      refine r_iconst (v := (0 : Int32)) dX11_worth_25 (by decide) ?_
      refine r_iload_n (x := a1) dX11_worth_26 rfl ?_
      obtain ⟨v4, hv4, h⟩ := xb h
      refine z_callS (as := [.int (0 : Int32), .int a1]) (r1 := (some (.int v4))) (stk := []) (stk2 := [.int v4]) (st1 := st) (d' := 0) dX11_worth_27 xl_X11_150 (by decide) (Nat.le_trans xs0 (by decide)) rfl rfl (S_X11_placeOf n st (0 : Int32) a1 v4 hv4) ?_
      refine r_istore (lv' := [(6, .int v4), (0, va_rf a0), (1, .int a1), (2, .int a2), (3, .int a3), (4, .int a4), (5, .int a5)]) (x := v4) dX11_worth_30 (by decide) rfl ?_
      refine r_iconst (v := (1 : Int32)) dX11_worth_32 (by decide) ?_
      refine r_iload_n (x := a2) dX11_worth_33 rfl ?_
      obtain ⟨v5, hv5, h⟩ := xb h
      refine z_callS (as := [.int (1 : Int32), .int a2]) (r1 := (some (.int v5))) (stk := []) (stk2 := [.int v5]) (st1 := st) (d' := 0) dX11_worth_34 xl_X11_150 (by decide) (Nat.le_trans xs0 (by decide)) rfl rfl (S_X11_placeOf n st (1 : Int32) a2 v5 hv5) ?_
      refine r_istore (lv' := [(7, .int v5), (6, .int v4), (0, va_rf a0), (1, .int a1), (2, .int a2), (3, .int a3), (4, .int a4), (5, .int a5)]) (x := v5) dX11_worth_37 (by decide) rfl ?_
      refine r_iload (x := a5) dX11_worth_39 rfl ?_
      refine r_bipush (v := (6 : Int32)) dX11_worth_41 (by decide) ?_
      refine r_icmp_ge (tgt := 60) dX11_worth_43 (by decide) (fun c => ?_) (fun c => ?_)
      · replace h := (if_pos c).symm.trans h
        refine r_iload (x := a5) dX11_worth_60 rfl ?_
        refine r_bipush (v := (6 : Int32)) dX11_worth_62 (by decide) ?_
        obtain ⟨q13, hq13, h⟩ := xb h
        have Jq13 : Rn mX11_worth 123 [] [.int q13] st (some (.int rv)) st 8 := by
          obtain rfl := Option.some.inj h
          exact r_ireturn dX11_worth_123 .int rfl rfl
        refine r_icmp_ne (tgt := 81) dX11_worth_64 (by decide) (fun c => ?_) (fun c => ?_)
        · replace hq13 := (if_neg c).symm.trans hq13
          refine r_iload (x := a5) dX11_worth_81 rfl ?_
          refine r_bipush (v := (7 : Int32)) dX11_worth_83 (by decide) ?_
          refine r_icmp_ne (tgt := 100) dX11_worth_85 (by decide) (fun c => ?_) (fun c => ?_)
          · replace hq13 := (if_neg c).symm.trans hq13
            refine x_aload_n (o := a0) dX11_worth_100 rfl ?_
            refine r_iload (x := v4) dX11_worth_101 rfl ?_
            refine r_iload (x := v5) dX11_worth_103 rfl ?_
            refine r_iload_n (x := a3) dX11_worth_105 rfl ?_
            refine r_iload (x := a4) dX11_worth_106 rfl ?_
            refine r_iload (x := a5) dX11_worth_108 rfl ?_
            refine r_bipush (v := (8 : Int32)) dX11_worth_110 (by decide) ?_
            obtain ⟨q10, hq10, hq13⟩ := xb hq13
            have Jq10 : Rn mX11_worth 120 [] [.int q10, .int a4, .int a3, .int v5, .int v4, va_rf a0] st (some (.int rv)) st 8 := by
              obtain ⟨q12, hq12, hq13⟩ := xb hq13
              obtain ⟨v11, hv11, hq13⟩ := xb hq13
              refine z_callV (as := [.int v4, .int v5, .int a3, .int a4, .int q10]) (o := a0) (r1 := (some (.int v11))) (stk := []) (stk2 := [.int v11]) (st1 := st) (d' := 7) dX11_worth_120 xl_X11_187 hq12 (by decide) (Nat.le_trans xs0 (by decide)) rfl rfl (S_X11_goalOf n st a0 v4 v5 a3 a4 q10 v11 hv11) ?_
              obtain rfl := Option.some.inj hq13
              exact x_sub [] rfl Jq13
            refine r_icmp_ne (tgt := 119) dX11_worth_112 (by decide) (fun c => ?_) (fun c => ?_)
            · replace hq10 := (if_neg c).symm.trans hq10
              refine r_iconst (v := (0 : Int32)) dX11_worth_119 (by decide) ?_
              obtain rfl := Option.some.inj hq10
              exact x_sub [] rfl Jq10
            · replace hq10 := (if_pos c).symm.trans hq10
              refine r_iconst (v := (1 : Int32)) dX11_worth_115 (by decide) ?_
              refine r_goto (tgt := 120) dX11_worth_116 (by decide) ?_
              obtain rfl := Option.some.inj hq10
              exact x_sub [] rfl Jq10
          · replace hq13 := (if_pos c).symm.trans hq13
            refine x_aload_n (o := a0) dX11_worth_88 rfl ?_
            refine r_iload (x := v4) dX11_worth_89 rfl ?_
            refine r_iload_n (x := a3) dX11_worth_91 rfl ?_
            refine r_iload (x := a4) dX11_worth_92 rfl ?_
            obtain ⟨q9, hq9, hq13⟩ := xb hq13
            obtain ⟨v8, hv8, hq13⟩ := xb hq13
            refine z_callV (as := [.int v4, .int a3, .int a4]) (o := a0) (r1 := (some (.int v8))) (stk := []) (stk2 := [.int v8]) (st1 := st) (d' := 3) dX11_worth_94 xl_X11_168 hq9 (by decide) (Nat.le_trans xs0 (by decide)) rfl rfl (S_X11_loudOf n st a0 v4 a3 a4 v8 hv8) ?_
            refine r_goto (tgt := 123) dX11_worth_97 (by decide) ?_
            obtain rfl := Option.some.inj hq13
            exact x_sub [] rfl Jq13
        · replace hq13 := (if_pos c).symm.trans hq13
          refine x_aload_n (o := a0) dX11_worth_67 rfl ?_
          refine r_iload (x := v4) dX11_worth_68 rfl ?_
          refine r_iload (x := v5) dX11_worth_70 rfl ?_
          refine r_iload_n (x := a3) dX11_worth_72 rfl ?_
          refine r_iload (x := a4) dX11_worth_73 rfl ?_
          obtain ⟨q7, hq7, hq13⟩ := xb hq13
          obtain ⟨v6, hv6, hq13⟩ := xb hq13
          refine z_callV (as := [.int v4, .int v5, .int a3, .int a4]) (o := a0) (r1 := (some (.int v6))) (stk := []) (stk2 := [.int v6]) (st1 := st) (d' := 6) dX11_worth_75 xl_X11_178 hq7 (by decide) (Nat.le_trans xs0 (by decide)) rfl rfl (S_X11_edgeOf n st a0 v4 v5 a3 a4 v6 hv6) ?_
          refine r_goto (tgt := 123) dX11_worth_78 (by decide) ?_
          obtain rfl := Option.some.inj hq13
          exact x_sub [] rfl Jq13
      · replace h := (if_neg c).symm.trans h
        refine x_aload_n (o := a0) dX11_worth_46 rfl ?_
        refine r_iload (x := v4) dX11_worth_47 rfl ?_
        refine r_iload (x := v5) dX11_worth_49 rfl ?_
        refine r_iload_n (x := a3) dX11_worth_51 rfl ?_
        refine r_iload (x := a4) dX11_worth_52 rfl ?_
        refine r_iload (x := a5) dX11_worth_54 rfl ?_
        obtain ⟨q15, hq15, h⟩ := xb h
        obtain ⟨v14, hv14, h⟩ := xb h
        refine z_callV (as := [.int v4, .int v5, .int a3, .int a4, .int a5]) (o := a0) (r1 := (some (.int v14))) (stk := []) (stk2 := [.int v14]) (st1 := st) (d' := 5) dX11_worth_56 xl_X11_175 hq15 (by decide) (Nat.le_trans xs0 (by decide)) rfl rfl (S_X11_partOf n st a0 v4 v5 a3 a4 a5 v14 hv14) ?_
        obtain rfl := Option.some.inj h
        exact r_ireturn dX11_worth_59 .int rfl rfl
    · replace h := (if_pos c).symm.trans h
      refine r_iconst (v := (-1 : Int32)) dX11_worth_23 (by decide) ?_
      obtain rfl := Option.some.inj h
      exact r_ireturn dX11_worth_24 .int rfl rfl
theorem S_X11_worth (n : Nat) (st : xS) (a0 : Option Nat) (a1 : Int32) (a2 : Int32) (a3 : Int32) (a4 : Int32) (a5 : Int32) (rv : Int32) (h : F_X11_worth n st a0 a1 a2 a3 a4 a5 = some rv) : Ct mX11_worth [va_rf a0, .int a1, .int a2, .int a3, .int a4, .int a5] st (some (.int rv)) st 8 := by
  refine Ct.of (by decide) (by simp only [lgL_R, lgL_I, lgL_L, lgL_0]; decide) ?_
  try simp only [lvA_R]
  exact R_X11_worth n st a0 a1 a2 a3 a4 a5 rv h
theorem R_X11_chance (n : Nat) (st : xS) (a0 : Option Nat) (a1 : Int32) (a2 : Int32) (a3 : Int32) (a4 : Int32) (a5 : Int32) (rv : Int64) (h : F_X11_chance n st a0 a1 a2 a3 a4 a5 = some rv) : Rn mX11_chance 0 [(0, va_rf a0), (1, .int a1), (2, .int a2), (3, .int a3), (4, .int a4), (5, .int a5)] [] st (some (.long rv)) st 10 := by
  unfold F_X11_chance at h
  refine x_aload_n (o := a0) dX11_chance_0 rfl ?_
  refine r_iload_n (x := a1) dX11_chance_1 rfl ?_
  refine r_iload_n (x := a2) dX11_chance_2 rfl ?_
  refine r_iload_n (x := a3) dX11_chance_3 rfl ?_
  refine r_iload (x := a4) dX11_chance_4 rfl ?_
  obtain ⟨q2, hq2, h⟩ := xb h
  obtain ⟨v1, hv1, h⟩ := xb h
  refine z_callV (as := [.int a1, .int a2, .int a3, .int a4]) (o := a0) (r1 := (some (.int v1))) (stk := []) (stk2 := [.int v1]) (st1 := st) (d' := 3) dX11_chance_6 xl_X11_202 hq2 (by decide) (Nat.le_trans xs0 (by decide)) rfl rfl (S_X11_isGame n st a0 a1 a2 a3 a4 v1 hv1) ?_
  refine r_if_eq (tgt := 22) dX11_chance_9 (by decide) (fun c => ?_) (fun c => ?_)
  · replace h := (if_pos c).symm.trans h
    refine r_ldc2 (v := (-1 : Int64)) dX11_chance_22 xk_X11_206 ?_
    obtain rfl := Option.some.inj h
    exact r_lreturn dX11_chance_25 rfl
  · replace h := (if_neg c).symm.trans h
    refine r_iload (x := a5) dX11_chance_12 rfl ?_
    refine r_iconst (v := (0 : Int32)) dX11_chance_14 (by decide) ?_
    refine r_iconst (v := (3 : Int32)) dX11_chance_15 (by decide) ?_
    obtain ⟨v3, hv3, h⟩ := xb h
    refine z_callS (as := [.int a5, .int (0 : Int32), .int (3 : Int32)]) (r1 := (some (.int v3))) (stk := []) (stk2 := [.int v3]) (st1 := st) (d' := 0) dX11_chance_16 xl_X11_90 (by decide) (Nat.le_trans xs0 (by decide)) rfl rfl (S_X11_isIn n st a5 (0 : Int32) (3 : Int32) v3 hv3) ?_
    refine r_if_ne (tgt := 26) dX11_chance_19 (by decide) (fun c => ?_) (fun c => ?_)
    · replace h := (if_neg c).symm.trans h
      refine r_iload (x := a5) dX11_chance_26 rfl ?_
      refine r_iconst (v := (3 : Int32)) dX11_chance_28 (by decide) ?_
      obtain ⟨q12, hq12, h⟩ := xb h
      have Jq12 : Rn mX11_chance 71 [] [.long q12] st (some (.long rv)) st 10 := by
        obtain rfl := Option.some.inj h
        exact r_lreturn dX11_chance_71 rfl
      refine r_icmp_ne (tgt := 52) dX11_chance_29 (by decide) (fun c => ?_) (fun c => ?_)
      · replace hq12 := (if_neg c).symm.trans hq12
        refine x_aload_n (o := a0) dX11_chance_52 rfl ?_
        refine r_iconst (v := (0 : Int32)) dX11_chance_53 (by decide) ?_
        refine r_iload_n (x := a1) dX11_chance_54 rfl ?_
        obtain ⟨v8, hv8, hq12⟩ := xb hq12
        refine z_callS (as := [.int (0 : Int32), .int a1]) (r1 := (some (.int v8))) (stk := [va_rf a0]) (stk2 := [.int v8, va_rf a0]) (st1 := st) (d' := 0) dX11_chance_55 xl_X11_150 (by decide) (Nat.le_trans (xsA xs0) (by decide)) rfl rfl (S_X11_placeOf n st (0 : Int32) a1 v8 hv8) ?_
        refine r_iconst (v := (1 : Int32)) dX11_chance_58 (by decide) ?_
        refine r_iload_n (x := a2) dX11_chance_59 rfl ?_
        obtain ⟨v9, hv9, hq12⟩ := xb hq12
        refine z_callS (as := [.int (1 : Int32), .int a2]) (r1 := (some (.int v9))) (stk := [.int v8, va_rf a0]) (stk2 := [.int v9, .int v8, va_rf a0]) (st1 := st) (d' := 0) dX11_chance_60 xl_X11_150 (by decide) (Nat.le_trans (xsI (xsA xs0)) (by decide)) rfl rfl (S_X11_placeOf n st (1 : Int32) a2 v9 hv9) ?_
        refine r_iload_n (x := a3) dX11_chance_63 rfl ?_
        refine r_iload (x := a4) dX11_chance_64 rfl ?_
        refine r_iload (x := a5) dX11_chance_66 rfl ?_
        obtain ⟨q11, hq11, hq12⟩ := xb hq12
        obtain ⟨v10, hv10, hq12⟩ := xb hq12
        refine z_callV (as := [.int v8, .int v9, .int a3, .int a4, .int a5]) (o := a0) (r1 := (some (.long v10))) (stk := []) (stk2 := [.long v10]) (st1 := st) (d' := 8) dX11_chance_68 xl_X11_195 hq11 (by decide) (Nat.le_trans xs0 (by decide)) rfl rfl (S_X11_chanceOf n st a0 v8 v9 a3 a4 a5 v10 hv10) ?_
        obtain rfl := Option.some.inj hq12
        exact x_sub [] rfl Jq12
      · replace hq12 := (if_pos c).symm.trans hq12
        refine x_aload_n (o := a0) dX11_chance_32 rfl ?_
        refine r_iconst (v := (0 : Int32)) dX11_chance_33 (by decide) ?_
        refine r_iload_n (x := a1) dX11_chance_34 rfl ?_
        obtain ⟨v4, hv4, hq12⟩ := xb hq12
        refine z_callS (as := [.int (0 : Int32), .int a1]) (r1 := (some (.int v4))) (stk := [va_rf a0]) (stk2 := [.int v4, va_rf a0]) (st1 := st) (d' := 0) dX11_chance_35 xl_X11_150 (by decide) (Nat.le_trans (xsA xs0) (by decide)) rfl rfl (S_X11_placeOf n st (0 : Int32) a1 v4 hv4) ?_
        refine r_iconst (v := (1 : Int32)) dX11_chance_38 (by decide) ?_
        refine r_iload_n (x := a2) dX11_chance_39 rfl ?_
        obtain ⟨v5, hv5, hq12⟩ := xb hq12
        refine z_callS (as := [.int (1 : Int32), .int a2]) (r1 := (some (.int v5))) (stk := [.int v4, va_rf a0]) (stk2 := [.int v5, .int v4, va_rf a0]) (st1 := st) (d' := 0) dX11_chance_40 xl_X11_150 (by decide) (Nat.le_trans (xsI (xsA xs0)) (by decide)) rfl rfl (S_X11_placeOf n st (1 : Int32) a2 v5 hv5) ?_
        refine r_iload_n (x := a3) dX11_chance_43 rfl ?_
        refine r_iload (x := a4) dX11_chance_44 rfl ?_
        obtain ⟨q7, hq7, hq12⟩ := xb hq12
        obtain ⟨v6, hv6, hq12⟩ := xb hq12
        refine z_callV (as := [.int v4, .int v5, .int a3, .int a4]) (o := a0) (r1 := (some (.long v6))) (stk := []) (stk2 := [.long v6]) (st1 := st) (d' := 9) dX11_chance_46 xl_X11_208 hq7 (by decide) (Nat.le_trans xs0 (by decide)) rfl rfl (S_X11_hopeOf n st a0 v4 v5 a3 a4 v6 hv6) ?_
        refine r_goto (tgt := 71) dX11_chance_49 (by decide) ?_
        obtain rfl := Option.some.inj hq12
        exact x_sub [] rfl Jq12
    · replace h := (if_pos c).symm.trans h
      refine r_ldc2 (v := (-1 : Int64)) dX11_chance_22 xk_X11_206 ?_
      obtain rfl := Option.some.inj h
      exact r_lreturn dX11_chance_25 rfl
theorem S_X11_chance (n : Nat) (st : xS) (a0 : Option Nat) (a1 : Int32) (a2 : Int32) (a3 : Int32) (a4 : Int32) (a5 : Int32) (rv : Int64) (h : F_X11_chance n st a0 a1 a2 a3 a4 a5 = some rv) : Ct mX11_chance [va_rf a0, .int a1, .int a2, .int a3, .int a4, .int a5] st (some (.long rv)) st 10 := by
  refine Ct.of (by decide) (by simp only [lgL_R, lgL_I, lgL_L, lgL_0]; decide) ?_
  try simp only [lvA_R]
  exact R_X11_chance n st a0 a1 a2 a3 a4 a5 rv h
theorem R_X11_drawn (n : Nat) (st : xS) (a0 : Option Nat) (a1 : Int32) (rv : Int32) (st' : xS) (h : F_X11_drawn n st a0 a1 = some (rv, st')) : Rn mX11_drawn 0 [(0, va_rf a0), (1, .int a1)] [] st (some (.int rv)) st' 0 := by
  unfold F_X11_drawn at h
  refine x_aload_n (o := a0) dX11_drawn_0 rfl ?_
  refine x_aload_n (o := a0) dX11_drawn_1 rfl ?_
  obtain ⟨v1, hv1, h⟩ := xb h
  refine x_getI (o := a0) dX11_drawn_2 xf_X11_212 hv1 ?_
  refine r_ldc (v := (1103515245 : Int32)) dX11_drawn_5 xk_X11_215 ?_
  refine r_imul dX11_drawn_7 ?_
  refine r_sipush (v := (12345 : Int32)) dX11_drawn_8 (by decide) ?_
  refine r_iadd dX11_drawn_11 ?_
  obtain ⟨s2, hs2, h⟩ := xb h
  refine x_putI (o := a0) dX11_drawn_12 (xp_X11_212 _) hs2 ?_
  refine x_aload_n (o := a0) dX11_drawn_15 rfl ?_
  obtain ⟨v3, hv3, h⟩ := xb h
  refine x_getI (o := a0) dX11_drawn_16 xf_X11_212 hv3 ?_
  refine r_bipush (v := (16 : Int32)) dX11_drawn_19 (by decide) ?_
  refine r_iushr dX11_drawn_21 ?_
  refine r_iload_n (x := a1) dX11_drawn_22 rfl ?_
  obtain ⟨v4, hv4, h⟩ := xb h
  refine x_irem dX11_drawn_23 hv4 ?_
  obtain ⟨rfl, rfl⟩ := Prod.mk.inj (Option.some.inj h)
  exact r_ireturn dX11_drawn_24 .int rfl rfl
theorem S_X11_drawn (n : Nat) (st : xS) (a0 : Option Nat) (a1 : Int32) (rv : Int32) (st' : xS) (h : F_X11_drawn n st a0 a1 = some (rv, st')) : Ct mX11_drawn [va_rf a0, .int a1] st (some (.int rv)) st' 0 := by
  refine Ct.of (by decide) (by simp only [lgL_R, lgL_I, lgL_L, lgL_0]; decide) ?_
  try simp only [lvA_R]
  exact R_X11_drawn n st a0 a1 rv st' h
theorem R_X11_goals_L4 (n : Nat) {r : Option Value} {st' : xS} : ∀ (k : Nat) (st : xS) (a0 : Option Nat) (a1 : Int32) (a2 : Int32) (a3 : Int32) (q : (Int32 × xS)), F_X11_goals_L4 n k st a0 a1 a2 a3 = some q → Rn mX11_goals 33 [(2, .int q.1)] [] q.2 r st' 1 → Rn mX11_goals 4 [(0, va_rf a0), (1, .int a1), (2, .int a2), (3, .int a3)] [] st r st' 1 := by
  intro k
  induction k with
  | zero => intro st a0 a1 a2 a3 q h; cases h
  | succ k ih =>
    intro st a0 a1 a2 a3 q h J
    unfold F_X11_goals_L4 at h
    refine r_iload_n (x := a3) dX11_goals_4 rfl ?_
    refine r_iconst (v := (3 : Int32)) dX11_goals_5 (by decide) ?_
    refine r_icmp_ge (tgt := 33) dX11_goals_6 (by decide) (fun c => ?_) (fun c => ?_)
    · replace h := (if_pos c).symm.trans h
      obtain rfl := Option.some.inj h
      exact x_sub [2] rfl J
    · replace h := (if_neg c).symm.trans h
      refine r_iload_n (x := a2) dX11_goals_9 rfl ?_
      refine x_aload_n (o := a0) dX11_goals_10 rfl ?_
      refine r_bipush (v := (100 : Int32)) dX11_goals_11 (by decide) ?_
      obtain ⟨q2, hq2, h⟩ := xb h
      obtain ⟨p1, hp1, h⟩ := xb h
      refine z_callV (as := [.int (100 : Int32)]) (o := a0) (r1 := (some (.int p1.1))) (stk := [.int a2]) (stk2 := [.int p1.1, .int a2]) (st1 := p1.2) (d' := 0) dX11_goals_13 xl_X11_216 hq2 (by decide) (Nat.le_trans (xsI xs0) (by decide)) rfl rfl (S_X11_drawn n st a0 (100 : Int32) p1.1 p1.2 hp1) ?_
      refine r_iload_n (x := a1) dX11_goals_16 rfl ?_
      obtain ⟨q3, hq3, h⟩ := xb h
      have Jq3 : Rn mX11_goals 25 [(0, va_rf a0), (1, .int a1), (3, .int a3)] [.int q3, .int a2] p1.2 r st' 1 := by
        refine r_iadd dX11_goals_25 ?_
        obtain ⟨v4, hv4, h⟩ := xb h
        refine x_eqI (Option.some.inj hv4) ?_
        refine r_istore_n (lv' := [(2, .int v4), (0, va_rf a0), (1, .int a1), (3, .int a3)]) (x := v4) dX11_goals_26 (by decide) rfl ?_
        obtain ⟨v5, hv5, h⟩ := xb h
        refine x_iinc (c := (1 : Int32)) (lv' := [(3, .int v5), (2, .int v4), (0, va_rf a0), (1, .int a1)]) (x := a3) (v := v5) dX11_goals_27 rfl (by decide) (Option.some.inj hv5) (by decide) rfl ?_
        refine r_goto (tgt := 4) dX11_goals_30 (by decide) ?_
        exact x_sub [2, 3, 1, 0] rfl (ih p1.2 a0 a1 v4 v5 q h J)
      refine r_icmp_ge (tgt := 24) dX11_goals_17 (by decide) (fun c => ?_) (fun c => ?_)
      · replace hq3 := (if_pos c).symm.trans hq3
        refine r_iconst (v := (0 : Int32)) dX11_goals_24 (by decide) ?_
        obtain rfl := Option.some.inj hq3
        exact x_sub [0, 1, 3] rfl Jq3
      · replace hq3 := (if_neg c).symm.trans hq3
        refine r_iconst (v := (1 : Int32)) dX11_goals_20 (by decide) ?_
        refine r_goto (tgt := 25) dX11_goals_21 (by decide) ?_
        obtain rfl := Option.some.inj hq3
        exact x_sub [0, 1, 3] rfl Jq3
theorem R_X11_goals (n : Nat) (st : xS) (a0 : Option Nat) (a1 : Int32) (rv : Int32) (st' : xS) (h : F_X11_goals n st a0 a1 = some (rv, st')) : Rn mX11_goals 0 [(0, va_rf a0), (1, .int a1)] [] st (some (.int rv)) st' 1 := by
  unfold F_X11_goals at h
  refine r_iconst (v := (0 : Int32)) dX11_goals_0 (by decide) ?_
  refine r_istore_n (lv' := [(2, .int (0 : Int32)), (0, va_rf a0), (1, .int a1)]) (x := (0 : Int32)) dX11_goals_1 (by decide) rfl ?_
  refine r_iconst (v := (0 : Int32)) dX11_goals_2 (by decide) ?_
  refine r_istore_n (lv' := [(3, .int (0 : Int32)), (2, .int (0 : Int32)), (0, va_rf a0), (1, .int a1)]) (x := (0 : Int32)) dX11_goals_3 (by decide) rfl ?_
  obtain ⟨q6, hq6, h⟩ := xb h
  have Jq6 : Rn mX11_goals 33 [(2, .int q6.1)] [] q6.2 (some (.int rv)) st' 1 := by
    refine r_iload_n (x := q6.1) dX11_goals_33 rfl ?_
    obtain ⟨rfl, rfl⟩ := Prod.mk.inj (Option.some.inj h)
    exact r_ireturn dX11_goals_34 .int rfl rfl
  exact x_sub [2, 3, 1, 0] rfl (R_X11_goals_L4 n n st a0 a1 (0 : Int32) (0 : Int32) q6 hq6 Jq6)
theorem S_X11_goals (n : Nat) (st : xS) (a0 : Option Nat) (a1 : Int32) (rv : Int32) (st' : xS) (h : F_X11_goals n st a0 a1 = some (rv, st')) : Ct mX11_goals [va_rf a0, .int a1] st (some (.int rv)) st' 1 := by
  refine Ct.of (by decide) (by simp only [lgL_R, lgL_I, lgL_L, lgL_0]; decide) ?_
  try simp only [lvA_R]
  exact R_X11_goals n st a0 a1 rv st' h
theorem R_X11_noteAt (n : Nat) (st : xS) (a0 : Option Nat) (a1 : Int32) (a2 : Int32) (rv : Int32) (h : F_X11_noteAt n st a0 a1 a2 = some rv) : Rn mX11_noteAt 0 [(0, va_rf a0), (1, .int a1), (2, .int a2)] [] st (some (.int rv)) st 0 := by
  unfold F_X11_noteAt at h
  refine x_aload_n (o := a0) dX11_noteAt_0 rfl ?_
  obtain ⟨v1, hv1, h⟩ := xb h
  refine x_getR (o := a0) dX11_noteAt_1 xf_X11_7 hv1 ?_
  refine r_sipush (v := (1730 : Int32)) dX11_noteAt_4 (by decide) ?_
  refine r_bipush (v := (10 : Int32)) dX11_noteAt_7 (by decide) ?_
  refine r_iload_n (x := a1) dX11_noteAt_9 rfl ?_
  refine r_imul dX11_noteAt_10 ?_
  refine r_iadd dX11_noteAt_11 ?_
  refine r_iload_n (x := a2) dX11_noteAt_12 rfl ?_
  refine r_iadd dX11_noteAt_13 ?_
  obtain ⟨v2, hv2, h⟩ := xb h
  refine x_iaload (o := v1) dX11_noteAt_14 hv2 ?_
  obtain rfl := Option.some.inj h
  exact r_ireturn dX11_noteAt_15 .int rfl rfl
theorem S_X11_noteAt (n : Nat) (st : xS) (a0 : Option Nat) (a1 : Int32) (a2 : Int32) (rv : Int32) (h : F_X11_noteAt n st a0 a1 a2 = some rv) : Ct mX11_noteAt [va_rf a0, .int a1, .int a2] st (some (.int rv)) st 0 := by
  refine Ct.of (by decide) (by simp only [lgL_R, lgL_I, lgL_L, lgL_0]; decide) ?_
  try simp only [lvA_R]
  exact R_X11_noteAt n st a0 a1 a2 rv h
theorem R_X11_notes (n : Nat) (st : xS) (a0 : Option Nat) (a1 : Int32) (a2 : Int32) (a3 : Int32) (st' : xS) (h : F_X11_notes n st a0 a1 a2 a3 = some st') : Rn mX11_notes 0 [(0, va_rf a0), (1, .int a1), (2, .int a2), (3, .int a3)] [] st none st' 0 := by
  unfold F_X11_notes at h
  refine x_aload_n (o := a0) dX11_notes_0 rfl ?_
  obtain ⟨v1, hv1, h⟩ := xb h
  refine x_getR (o := a0) dX11_notes_1 xf_X11_7 hv1 ?_
  refine r_sipush (v := (1730 : Int32)) dX11_notes_4 (by decide) ?_
  refine r_bipush (v := (10 : Int32)) dX11_notes_7 (by decide) ?_
  refine r_iload_n (x := a1) dX11_notes_9 rfl ?_
  refine r_imul dX11_notes_10 ?_
  refine r_iadd dX11_notes_11 ?_
  refine r_iload_n (x := a2) dX11_notes_12 rfl ?_
  refine r_iadd dX11_notes_13 ?_
  refine r_iload_n (x := a3) dX11_notes_14 rfl ?_
  obtain ⟨s2, hs2, h⟩ := xb h
  refine x_iastore (o := v1) dX11_notes_15 hs2 ?_
  obtain rfl := Option.some.inj h
  exact r_return dX11_notes_16 rfl
theorem S_X11_notes (n : Nat) (st : xS) (a0 : Option Nat) (a1 : Int32) (a2 : Int32) (a3 : Int32) (st' : xS) (h : F_X11_notes n st a0 a1 a2 a3 = some st') : Ct mX11_notes [va_rf a0, .int a1, .int a2, .int a3] st none st' 0 := by
  refine Ct.of (by decide) (by simp only [lgL_R, lgL_I, lgL_L, lgL_0]; decide) ?_
  try simp only [lvA_R]
  exact R_X11_notes n st a0 a1 a2 a3 st' h
theorem R_X11_play_L71 (n : Nat) {r : Option Value} {st' : xS} : ∀ (k : Nat) (st : xS) (a0 : Option Nat) (a3 : Int32) (a5 : Int32) (a6 : Int32) (a7 : Int32) (a8 : Int32) (q : (xS)), F_X11_play_L71 n k st a0 a3 a5 a6 a7 a8 = some q → Rn mX11_play 319 [(0, va_rf a0), (3, .int a3)] [] q r st' 8 → Rn mX11_play 71 [(0, va_rf a0), (3, .int a3), (5, .int a5), (6, .int a6), (7, .int a7), (8, .int a8)] [] st r st' 8 := by
  intro k
  induction k with
  | zero => intro st a0 a3 a5 a6 a7 a8 q h; cases h
  | succ k ih =>
    intro st a0 a3 a5 a6 a7 a8 q h J
    unfold F_X11_play_L71 at h
    refine r_iload (x := a8) dX11_play_71 rfl ?_
    refine x_aload_n (o := a0) dX11_play_73 rfl ?_
    refine r_iload_n (x := a3) dX11_play_74 rfl ?_
    obtain ⟨q14, hq14, h⟩ := xb h
    obtain ⟨v13, hv13, h⟩ := xb h
    refine z_callV (as := [.int a3]) (o := a0) (r1 := (some (.int v13))) (stk := [.int a8]) (stk2 := [.int v13, .int a8]) (st1 := st) (d' := 1) dX11_play_75 xl_X11_153 hq14 (by decide) (Nat.le_trans (xsI xs0) (by decide)) rfl rfl (S_X11_gamesOf n st a0 a3 v13 hv13) ?_
    refine r_icmp_ge (tgt := 319) dX11_play_78 (by decide) (fun c => ?_) (fun c => ?_)
    · replace h := (if_pos c).symm.trans h
      obtain rfl := Option.some.inj h
      exact x_sub [0, 1] rfl J
    · replace h := (if_neg c).symm.trans h
      refine x_aload_n (o := a0) dX11_play_81 rfl ?_
      obtain ⟨v15, hv15, h⟩ := xb h
      refine x_getR (o := a0) dX11_play_82 xf_X11_7 hv15 ?_
      refine r_iconst (v := (3 : Int32)) dX11_play_85 (by decide) ?_
      obtain ⟨v16, hv16, h⟩ := xb h
      refine x_iaload (o := v15) dX11_play_86 hv16 ?_
      refine r_istore (lv' := [(9, .int v16), (0, va_rf a0), (3, .int a3), (5, .int a5), (6, .int a6), (7, .int a7), (8, .int a8)]) (x := v16) dX11_play_87 (by decide) rfl ?_
      refine x_aload_n (o := a0) dX11_play_89 rfl ?_
      refine x_aload_n (o := a0) dX11_play_90 rfl ?_
      refine r_iload (x := a6) dX11_play_91 rfl ?_
      refine r_iload (x := a7) dX11_play_93 rfl ?_
      refine r_iload_n (x := a3) dX11_play_95 rfl ?_
      refine r_iload (x := a8) dX11_play_96 rfl ?_
      refine r_iconst (v := (1 : Int32)) dX11_play_98 (by decide) ?_
      obtain ⟨q18, hq18, h⟩ := xb h
      obtain ⟨v17, hv17, h⟩ := xb h
      refine z_callV (as := [.int a6, .int a7, .int a3, .int a8, .int (1 : Int32)]) (o := a0) (r1 := (some (.int v17))) (stk := [va_rf a0]) (stk2 := [.int v17, va_rf a0]) (st1 := st) (d' := 7) dX11_play_99 xl_X11_187 hq18 (by decide) (Nat.le_trans (xsA xs0) (by decide)) rfl rfl (S_X11_goalOf n st a0 a6 a7 a3 a8 (1 : Int32) v17 hv17) ?_
      obtain ⟨q20, hq20, h⟩ := xb h
      obtain ⟨p19, hp19, h⟩ := xb h
      refine z_callV (as := [.int v17]) (o := a0) (r1 := (some (.int p19.1))) (stk := []) (stk2 := [.int p19.1]) (st1 := p19.2) (d' := 1) dX11_play_102 xl_X11_219 hq20 (by decide) (Nat.le_trans xs0 (by decide)) rfl rfl (S_X11_goals n st a0 v17 p19.1 p19.2 hp19) ?_
      refine r_istore (lv' := [(10, .int p19.1), (9, .int v16), (0, va_rf a0), (3, .int a3), (5, .int a5), (6, .int a6), (7, .int a7), (8, .int a8)]) (x := p19.1) dX11_play_105 (by decide) rfl ?_
      refine x_aload_n (o := a0) dX11_play_107 rfl ?_
      refine x_aload_n (o := a0) dX11_play_108 rfl ?_
      refine r_iload (x := a6) dX11_play_109 rfl ?_
      refine r_iload (x := a7) dX11_play_111 rfl ?_
      refine r_iload_n (x := a3) dX11_play_113 rfl ?_
      refine r_iload (x := a8) dX11_play_114 rfl ?_
      refine r_iconst (v := (0 : Int32)) dX11_play_116 (by decide) ?_
      obtain ⟨q22, hq22, h⟩ := xb h
      obtain ⟨v21, hv21, h⟩ := xb h
      refine z_callV (as := [.int a6, .int a7, .int a3, .int a8, .int (0 : Int32)]) (o := a0) (r1 := (some (.int v21))) (stk := [va_rf a0]) (stk2 := [.int v21, va_rf a0]) (st1 := p19.2) (d' := 7) dX11_play_117 xl_X11_187 hq22 (by decide) (Nat.le_trans (xsA xs0) (by decide)) rfl rfl (S_X11_goalOf n p19.2 a0 a6 a7 a3 a8 (0 : Int32) v21 hv21) ?_
      obtain ⟨q24, hq24, h⟩ := xb h
      obtain ⟨p23, hp23, h⟩ := xb h
      refine z_callV (as := [.int v21]) (o := a0) (r1 := (some (.int p23.1))) (stk := []) (stk2 := [.int p23.1]) (st1 := p23.2) (d' := 1) dX11_play_120 xl_X11_219 hq24 (by decide) (Nat.le_trans xs0 (by decide)) rfl rfl (S_X11_goals n p19.2 a0 v21 p23.1 p23.2 hp23) ?_
      refine r_istore (lv' := [(11, .int p23.1), (10, .int p19.1), (9, .int v16), (0, va_rf a0), (3, .int a3), (5, .int a5), (6, .int a6), (7, .int a7), (8, .int a8)]) (x := p23.1) dX11_play_123 (by decide) rfl ?_
      refine x_aload_n (o := a0) dX11_play_125 rfl ?_
      refine r_iload (x := v16) dX11_play_126 rfl ?_
      refine r_iconst (v := (0 : Int32)) dX11_play_128 (by decide) ?_
      refine x_aload_n (o := a0) dX11_play_129 rfl ?_
      refine r_iload_n (x := a3) dX11_play_130 rfl ?_
      refine r_iload (x := a8) dX11_play_131 rfl ?_
      refine r_iconst (v := (0 : Int32)) dX11_play_133 (by decide) ?_
      obtain ⟨q26, hq26, h⟩ := xb h
      obtain ⟨v25, hv25, h⟩ := xb h
      refine z_callV (as := [.int a3, .int a8, .int (0 : Int32)]) (o := a0) (r1 := (some (.int v25))) (stk := [.int (0 : Int32), .int v16, va_rf a0]) (stk2 := [.int v25, .int (0 : Int32), .int v16, va_rf a0]) (st1 := p23.2) (d' := 1) dX11_play_134 xl_X11_156 hq26 (by decide) (Nat.le_trans (xsI (xsI (xsA xs0))) (by decide)) rfl rfl (S_X11_gameOf n p23.2 a0 a3 a8 (0 : Int32) v25 hv25) ?_
      obtain ⟨q28, hq28, h⟩ := xb h
      obtain ⟨s27, hs27, h⟩ := xb h
      refine z_callV (as := [.int v16, .int (0 : Int32), .int v25]) (o := a0) (r1 := none) (stk := []) (stk2 := []) (st1 := s27) (d' := 0) dX11_play_137 xl_X11_222 hq28 (by decide) (Nat.le_trans xs0 (by decide)) rfl rfl (S_X11_notes n p23.2 a0 v16 (0 : Int32) v25 s27 hs27) ?_
      refine x_aload_n (o := a0) dX11_play_140 rfl ?_
      refine r_iload (x := v16) dX11_play_141 rfl ?_
      refine r_iconst (v := (1 : Int32)) dX11_play_143 (by decide) ?_
      refine x_aload_n (o := a0) dX11_play_144 rfl ?_
      refine r_iload_n (x := a3) dX11_play_145 rfl ?_
      refine r_iload (x := a8) dX11_play_146 rfl ?_
      refine r_iconst (v := (1 : Int32)) dX11_play_148 (by decide) ?_
      obtain ⟨q30, hq30, h⟩ := xb h
      obtain ⟨v29, hv29, h⟩ := xb h
      refine z_callV (as := [.int a3, .int a8, .int (1 : Int32)]) (o := a0) (r1 := (some (.int v29))) (stk := [.int (1 : Int32), .int v16, va_rf a0]) (stk2 := [.int v29, .int (1 : Int32), .int v16, va_rf a0]) (st1 := s27) (d' := 1) dX11_play_149 xl_X11_156 hq30 (by decide) (Nat.le_trans (xsI (xsI (xsA xs0))) (by decide)) rfl rfl (S_X11_gameOf n s27 a0 a3 a8 (1 : Int32) v29 hv29) ?_
      obtain ⟨q32, hq32, h⟩ := xb h
      obtain ⟨s31, hs31, h⟩ := xb h
      refine z_callV (as := [.int v16, .int (1 : Int32), .int v29]) (o := a0) (r1 := none) (stk := []) (stk2 := []) (st1 := s31) (d' := 0) dX11_play_152 xl_X11_222 hq32 (by decide) (Nat.le_trans xs0 (by decide)) rfl rfl (S_X11_notes n s27 a0 v16 (1 : Int32) v29 s31 hs31) ?_
      refine x_aload_n (o := a0) dX11_play_155 rfl ?_
      refine r_iload (x := v16) dX11_play_156 rfl ?_
      refine r_iconst (v := (2 : Int32)) dX11_play_158 (by decide) ?_
      refine r_iload (x := a5) dX11_play_159 rfl ?_
      obtain ⟨q34, hq34, h⟩ := xb h
      obtain ⟨s33, hs33, h⟩ := xb h
      refine z_callV (as := [.int v16, .int (2 : Int32), .int a5]) (o := a0) (r1 := none) (stk := []) (stk2 := []) (st1 := s33) (d' := 0) dX11_play_161 xl_X11_222 hq34 (by decide) (Nat.le_trans xs0 (by decide)) rfl rfl (S_X11_notes n s31 a0 v16 (2 : Int32) a5 s33 hs33) ?_
      refine x_aload_n (o := a0) dX11_play_164 rfl ?_
      refine r_iload (x := v16) dX11_play_165 rfl ?_
      refine r_iconst (v := (3 : Int32)) dX11_play_167 (by decide) ?_
      refine r_iload (x := p19.1) dX11_play_168 rfl ?_
      obtain ⟨q36, hq36, h⟩ := xb h
      obtain ⟨s35, hs35, h⟩ := xb h
      refine z_callV (as := [.int v16, .int (3 : Int32), .int p19.1]) (o := a0) (r1 := none) (stk := []) (stk2 := []) (st1 := s35) (d' := 0) dX11_play_170 xl_X11_222 hq36 (by decide) (Nat.le_trans xs0 (by decide)) rfl rfl (S_X11_notes n s33 a0 v16 (3 : Int32) p19.1 s35 hs35) ?_
      refine x_aload_n (o := a0) dX11_play_173 rfl ?_
      refine r_iload (x := v16) dX11_play_174 rfl ?_
      refine r_iconst (v := (4 : Int32)) dX11_play_176 (by decide) ?_
      refine r_iload (x := p23.1) dX11_play_177 rfl ?_
      obtain ⟨q38, hq38, h⟩ := xb h
      obtain ⟨s37, hs37, h⟩ := xb h
      refine z_callV (as := [.int v16, .int (4 : Int32), .int p23.1]) (o := a0) (r1 := none) (stk := []) (stk2 := []) (st1 := s37) (d' := 0) dX11_play_179 xl_X11_222 hq38 (by decide) (Nat.le_trans xs0 (by decide)) rfl rfl (S_X11_notes n s35 a0 v16 (4 : Int32) p23.1 s37 hs37) ?_
      refine x_aload_n (o := a0) dX11_play_182 rfl ?_
      refine r_iload (x := v16) dX11_play_183 rfl ?_
      refine r_iconst (v := (5 : Int32)) dX11_play_185 (by decide) ?_
      refine x_aload_n (o := a0) dX11_play_186 rfl ?_
      refine r_iconst (v := (4 : Int32)) dX11_play_187 (by decide) ?_
      obtain ⟨q40, hq40, h⟩ := xb h
      obtain ⟨p39, hp39, h⟩ := xb h
      refine z_callV (as := [.int (4 : Int32)]) (o := a0) (r1 := (some (.int p39.1))) (stk := [.int (5 : Int32), .int v16, va_rf a0]) (stk2 := [.int p39.1, .int (5 : Int32), .int v16, va_rf a0]) (st1 := p39.2) (d' := 0) dX11_play_188 xl_X11_216 hq40 (by decide) (Nat.le_trans (xsI (xsI (xsA xs0))) (by decide)) rfl rfl (S_X11_drawn n s37 a0 (4 : Int32) p39.1 p39.2 hp39) ?_
      obtain ⟨q42, hq42, h⟩ := xb h
      obtain ⟨s41, hs41, h⟩ := xb h
      refine z_callV (as := [.int v16, .int (5 : Int32), .int p39.1]) (o := a0) (r1 := none) (stk := []) (stk2 := []) (st1 := s41) (d' := 0) dX11_play_191 xl_X11_222 hq42 (by decide) (Nat.le_trans xs0 (by decide)) rfl rfl (S_X11_notes n p39.2 a0 v16 (5 : Int32) p39.1 s41 hs41) ?_
      refine x_aload_n (o := a0) dX11_play_194 rfl ?_
      refine r_iload (x := v16) dX11_play_195 rfl ?_
      refine r_bipush (v := (6 : Int32)) dX11_play_197 (by decide) ?_
      refine x_aload_n (o := a0) dX11_play_199 rfl ?_
      refine r_iconst (v := (4 : Int32)) dX11_play_200 (by decide) ?_
      obtain ⟨q44, hq44, h⟩ := xb h
      obtain ⟨p43, hp43, h⟩ := xb h
      refine z_callV (as := [.int (4 : Int32)]) (o := a0) (r1 := (some (.int p43.1))) (stk := [.int (6 : Int32), .int v16, va_rf a0]) (stk2 := [.int p43.1, .int (6 : Int32), .int v16, va_rf a0]) (st1 := p43.2) (d' := 0) dX11_play_201 xl_X11_216 hq44 (by decide) (Nat.le_trans (xsI (xsI (xsA xs0))) (by decide)) rfl rfl (S_X11_drawn n s41 a0 (4 : Int32) p43.1 p43.2 hp43) ?_
      refine x_aload_n (o := a0) dX11_play_204 rfl ?_
      refine r_iload (x := a6) dX11_play_205 rfl ?_
      refine r_iload (x := a7) dX11_play_207 rfl ?_
      refine r_iload_n (x := a3) dX11_play_209 rfl ?_
      refine r_iload (x := a8) dX11_play_210 rfl ?_
      refine r_iconst (v := (4 : Int32)) dX11_play_212 (by decide) ?_
      obtain ⟨q46, hq46, h⟩ := xb h
      obtain ⟨v45, hv45, h⟩ := xb h
      refine z_callV (as := [.int a6, .int a7, .int a3, .int a8, .int (4 : Int32)]) (o := a0) (r1 := (some (.int v45))) (stk := [.int p43.1, .int (6 : Int32), .int v16, va_rf a0]) (stk2 := [.int v45, .int p43.1, .int (6 : Int32), .int v16, va_rf a0]) (st1 := p43.2) (d' := 5) dX11_play_213 xl_X11_175 hq46 (by decide) (Nat.le_trans (xsI (xsI (xsI (xsA xs0)))) (by decide)) rfl rfl (S_X11_partOf n p43.2 a0 a6 a7 a3 a8 (4 : Int32) v45 hv45) ?_
      obtain ⟨q47, hq47, h⟩ := xb h
      have Jq47 : Rn mX11_play 224 [(0, va_rf a0), (3, .int a3), (5, .int a5), (6, .int a6), (7, .int a7), (8, .int a8), (9, .int v16), (10, .int p19.1), (11, .int p23.1)] [.int q47, .int p43.1, .int (6 : Int32), .int v16, va_rf a0] p43.2 r st' 8 := by
        refine r_iadd dX11_play_224 ?_
        obtain ⟨q49, hq49, h⟩ := xb h
        obtain ⟨s48, hs48, h⟩ := xb h
        refine z_callV (as := [.int v16, .int (6 : Int32), .int (p43.1 + q47)]) (o := a0) (r1 := none) (stk := []) (stk2 := []) (st1 := s48) (d' := 0) dX11_play_225 xl_X11_222 hq49 (by decide) (Nat.le_trans xs0 (by decide)) rfl rfl (S_X11_notes n p43.2 a0 v16 (6 : Int32) (p43.1 + q47) s48 hs48) ?_
        refine x_aload_n (o := a0) dX11_play_228 rfl ?_
        refine r_iload (x := v16) dX11_play_229 rfl ?_
        refine r_bipush (v := (7 : Int32)) dX11_play_231 (by decide) ?_
        refine r_iconst (v := (1 : Int32)) dX11_play_233 (by decide) ?_
        refine x_aload_n (o := a0) dX11_play_234 rfl ?_
        refine r_iconst (v := (3 : Int32)) dX11_play_235 (by decide) ?_
        obtain ⟨q51, hq51, h⟩ := xb h
        obtain ⟨p50, hp50, h⟩ := xb h
        refine z_callV (as := [.int (3 : Int32)]) (o := a0) (r1 := (some (.int p50.1))) (stk := [.int (1 : Int32), .int (7 : Int32), .int v16, va_rf a0]) (stk2 := [.int p50.1, .int (1 : Int32), .int (7 : Int32), .int v16, va_rf a0]) (st1 := p50.2) (d' := 0) dX11_play_236 xl_X11_216 hq51 (by decide) (Nat.le_trans (xsI (xsI (xsI (xsA xs0)))) (by decide)) rfl rfl (S_X11_drawn n s48 a0 (3 : Int32) p50.1 p50.2 hp50) ?_
        refine r_iadd dX11_play_239 ?_
        refine x_aload_n (o := a0) dX11_play_240 rfl ?_
        refine r_iload_n (x := a3) dX11_play_241 rfl ?_
        refine r_iload (x := a8) dX11_play_242 rfl ?_
        refine r_iconst (v := (4 : Int32)) dX11_play_244 (by decide) ?_
        obtain ⟨q53, hq53, h⟩ := xb h
        obtain ⟨v52, hv52, h⟩ := xb h
        refine z_callV (as := [.int a3, .int a8, .int (4 : Int32)]) (o := a0) (r1 := (some (.int v52))) (stk := [.int ((1 : Int32) + p50.1), .int (7 : Int32), .int v16, va_rf a0]) (stk2 := [.int v52, .int ((1 : Int32) + p50.1), .int (7 : Int32), .int v16, va_rf a0]) (st1 := p50.2) (d' := 1) dX11_play_245 xl_X11_156 hq53 (by decide) (Nat.le_trans (xsI (xsI (xsI (xsA xs0)))) (by decide)) rfl rfl (S_X11_gameOf n p50.2 a0 a3 a8 (4 : Int32) v52 hv52) ?_
        refine r_iconst (v := (1 : Int32)) dX11_play_248 (by decide) ?_
        obtain ⟨q54, hq54, h⟩ := xb h
        have Jq54 : Rn mX11_play 266 [(0, va_rf a0), (3, .int a3), (5, .int a5), (6, .int a6), (7, .int a7), (8, .int a8), (9, .int v16)] [.int q54, .int ((1 : Int32) + p50.1), .int (7 : Int32), .int v16, va_rf a0] p50.2 r st' 8 := by
          refine r_iadd dX11_play_266 ?_
          obtain ⟨q56, hq56, h⟩ := xb h
          obtain ⟨s55, hs55, h⟩ := xb h
          refine z_callV (as := [.int v16, .int (7 : Int32), .int (((1 : Int32) + p50.1) + q54)]) (o := a0) (r1 := none) (stk := []) (stk2 := []) (st1 := s55) (d' := 0) dX11_play_267 xl_X11_222 hq56 (by decide) (Nat.le_trans xs0 (by decide)) rfl rfl (S_X11_notes n p50.2 a0 v16 (7 : Int32) (((1 : Int32) + p50.1) + q54) s55 hs55) ?_
          refine x_aload_n (o := a0) dX11_play_270 rfl ?_
          refine r_iload (x := v16) dX11_play_271 rfl ?_
          refine r_bipush (v := (8 : Int32)) dX11_play_273 (by decide) ?_
          refine x_aload_n (o := a0) dX11_play_275 rfl ?_
          refine r_iload (x := a6) dX11_play_276 rfl ?_
          refine r_iload_n (x := a3) dX11_play_278 rfl ?_
          refine r_iload (x := a8) dX11_play_279 rfl ?_
          obtain ⟨q58, hq58, h⟩ := xb h
          obtain ⟨v57, hv57, h⟩ := xb h
          refine z_callV (as := [.int a6, .int a3, .int a8]) (o := a0) (r1 := (some (.int v57))) (stk := [.int (8 : Int32), .int v16, va_rf a0]) (stk2 := [.int v57, .int (8 : Int32), .int v16, va_rf a0]) (st1 := s55) (d' := 3) dX11_play_281 xl_X11_168 hq58 (by decide) (Nat.le_trans (xsI (xsI (xsA xs0))) (by decide)) rfl rfl (S_X11_loudOf n s55 a0 a6 a3 a8 v57 hv57) ?_
          obtain ⟨q60, hq60, h⟩ := xb h
          obtain ⟨s59, hs59, h⟩ := xb h
          refine z_callV (as := [.int v16, .int (8 : Int32), .int v57]) (o := a0) (r1 := none) (stk := []) (stk2 := []) (st1 := s59) (d' := 0) dX11_play_284 xl_X11_222 hq60 (by decide) (Nat.le_trans xs0 (by decide)) rfl rfl (S_X11_notes n s55 a0 v16 (8 : Int32) v57 s59 hs59) ?_
          refine x_aload_n (o := a0) dX11_play_287 rfl ?_
          refine r_iload (x := v16) dX11_play_288 rfl ?_
          refine r_bipush (v := (9 : Int32)) dX11_play_290 (by decide) ?_
          refine x_aload_n (o := a0) dX11_play_292 rfl ?_
          refine r_iload_n (x := a3) dX11_play_293 rfl ?_
          refine r_iload (x := a8) dX11_play_294 rfl ?_
          refine r_iconst (v := (4 : Int32)) dX11_play_296 (by decide) ?_
          obtain ⟨q62, hq62, h⟩ := xb h
          obtain ⟨v61, hv61, h⟩ := xb h
          refine z_callV (as := [.int a3, .int a8, .int (4 : Int32)]) (o := a0) (r1 := (some (.int v61))) (stk := [.int (9 : Int32), .int v16, va_rf a0]) (stk2 := [.int v61, .int (9 : Int32), .int v16, va_rf a0]) (st1 := s59) (d' := 1) dX11_play_297 xl_X11_156 hq62 (by decide) (Nat.le_trans (xsI (xsI (xsA xs0))) (by decide)) rfl rfl (S_X11_gameOf n s59 a0 a3 a8 (4 : Int32) v61 hv61) ?_
          obtain ⟨q64, hq64, h⟩ := xb h
          obtain ⟨s63, hs63, h⟩ := xb h
          refine z_callV (as := [.int v16, .int (9 : Int32), .int v61]) (o := a0) (r1 := none) (stk := []) (stk2 := []) (st1 := s63) (d' := 0) dX11_play_300 xl_X11_222 hq64 (by decide) (Nat.le_trans xs0 (by decide)) rfl rfl (S_X11_notes n s59 a0 v16 (9 : Int32) v61 s63 hs63) ?_
          refine x_aload_n (o := a0) dX11_play_303 rfl ?_
          obtain ⟨v65, hv65, h⟩ := xb h
          refine x_getR (o := a0) dX11_play_304 xf_X11_7 hv65 ?_
          refine r_iconst (v := (3 : Int32)) dX11_play_307 (by decide) ?_
          refine r_dup2 dX11_play_308 rfl (xrf_cat _) ?_
          obtain ⟨v66, hv66, h⟩ := xb h
          refine x_iaload (o := v65) dX11_play_309 hv66 ?_
          refine r_iconst (v := (1 : Int32)) dX11_play_310 (by decide) ?_
          refine r_iadd dX11_play_311 ?_
          obtain ⟨s67, hs67, h⟩ := xb h
          refine x_iastore (o := v65) dX11_play_312 hs67 ?_
          obtain ⟨v68, hv68, h⟩ := xb h
          refine x_iinc (c := (1 : Int32)) (lv' := [(8, .int v68), (0, va_rf a0), (3, .int a3), (5, .int a5), (6, .int a6), (7, .int a7), (9, .int v16)]) (x := a8) (v := v68) dX11_play_313 rfl (by decide) (Option.some.inj hv68) (by decide) rfl ?_
          refine r_goto (tgt := 71) dX11_play_316 (by decide) ?_
          exact x_sub [1, 2, 3, 4, 5, 0] rfl (ih s67 a0 a3 a5 a6 a7 v68 q h J)
        refine r_icmp_ne (tgt := 265) dX11_play_249 (by decide) (fun c => ?_) (fun c => ?_)
        · replace hq54 := (if_neg c).symm.trans hq54
          refine r_iconst (v := (0 : Int32)) dX11_play_265 (by decide) ?_
          obtain rfl := Option.some.inj hq54
          exact x_sub [0, 1, 2, 3, 4, 5, 6] rfl Jq54
        · replace hq54 := (if_pos c).symm.trans hq54
          refine r_iload (x := p19.1) dX11_play_252 rfl ?_
          refine r_iload (x := p23.1) dX11_play_254 rfl ?_
          refine r_iconst (v := (1 : Int32)) dX11_play_256 (by decide) ?_
          refine r_isub dX11_play_257 ?_
          refine r_icmp_ne (tgt := 265) dX11_play_258 (by decide) (fun c => ?_) (fun c => ?_)
          · replace hq54 := (if_neg c).symm.trans hq54
            refine r_iconst (v := (0 : Int32)) dX11_play_265 (by decide) ?_
            obtain rfl := Option.some.inj hq54
            exact x_sub [0, 1, 2, 3, 4, 5, 6] rfl Jq54
          · replace hq54 := (if_pos c).symm.trans hq54
            refine r_iconst (v := (2 : Int32)) dX11_play_261 (by decide) ?_
            refine r_goto (tgt := 266) dX11_play_262 (by decide) ?_
            obtain rfl := Option.some.inj hq54
            exact x_sub [0, 1, 2, 3, 4, 5, 6] rfl Jq54
      refine r_if_le (tgt := 223) dX11_play_216 (by decide) (fun c => ?_) (fun c => ?_)
      · replace hq47 := (if_pos c).symm.trans hq47
        refine r_iconst (v := (0 : Int32)) dX11_play_223 (by decide) ?_
        obtain rfl := Option.some.inj hq47
        exact x_sub [3, 4, 5, 6, 7, 8, 2, 1, 0] rfl Jq47
      · replace hq47 := (if_neg c).symm.trans hq47
        refine r_iconst (v := (1 : Int32)) dX11_play_219 (by decide) ?_
        refine r_goto (tgt := 224) dX11_play_220 (by decide) ?_
        obtain rfl := Option.some.inj hq47
        exact x_sub [3, 4, 5, 6, 7, 8, 2, 1, 0] rfl Jq47
theorem R_X11_play (n : Nat) (st : xS) (a0 : Option Nat) (a1 : Int32) (a2 : Int32) (a3 : Int32) (a4 : Int32) (a5 : Int32) (rv : Int32) (st' : xS) (h : F_X11_play n st a0 a1 a2 a3 a4 a5 = some (rv, st')) : Rn mX11_play 0 [(0, va_rf a0), (1, .int a1), (2, .int a2), (3, .int a3), (4, .int a4), (5, .int a5)] [] st (some (.int rv)) st' 8 := by
  unfold F_X11_play at h
  refine x_aload_n (o := a0) dX11_play_0 rfl ?_
  refine r_iload_n (x := a1) dX11_play_1 rfl ?_
  refine r_iload_n (x := a3) dX11_play_2 rfl ?_
  obtain ⟨q2, hq2, h⟩ := xb h
  obtain ⟨v1, hv1, h⟩ := xb h
  refine z_callV (as := [.int a1, .int a3]) (o := a0) (r1 := (some (.int v1))) (stk := []) (stk2 := [.int v1]) (st1 := st) (d' := 2) dX11_play_3 xl_X11_199 hq2 (by decide) (Nat.le_trans xs0 (by decide)) rfl rfl (S_X11_goes n st a0 a1 a3 v1 hv1) ?_
  refine r_if_eq (tgt := 46) dX11_play_6 (by decide) (fun c => ?_) (fun c => ?_)
  · replace h := (if_pos c).symm.trans h
    refine r_iconst (v := (-1 : Int32)) dX11_play_46 (by decide) ?_
    obtain ⟨rfl, rfl⟩ := Prod.mk.inj (Option.some.inj h)
    exact r_ireturn dX11_play_47 .int rfl rfl
  · replace h := (if_neg c).symm.trans h
    refine x_aload_n (o := a0) dX11_play_9 rfl ?_
    refine r_iconst (v := (1 : Int32)) dX11_play_10 (by decide) ?_
    refine r_iload_n (x := a2) dX11_play_11 rfl ?_
    obtain ⟨q4, hq4, h⟩ := xb h
    obtain ⟨v3, hv3, h⟩ := xb h
    refine z_callV (as := [.int (1 : Int32), .int a2]) (o := a0) (r1 := (some (.int v3))) (stk := []) (stk2 := [.int v3]) (st1 := st) (d' := 1) dX11_play_12 xl_X11_130 hq4 (by decide) (Nat.le_trans xs0 (by decide)) rfl rfl (S_X11_isOf n st a0 (1 : Int32) a2 v3 hv3) ?_
    refine r_if_eq (tgt := 46) dX11_play_15 (by decide) (fun c => ?_) (fun c => ?_)
    · replace h := (if_pos c).symm.trans h
      refine r_iconst (v := (-1 : Int32)) dX11_play_46 (by decide) ?_
      obtain ⟨rfl, rfl⟩ := Prod.mk.inj (Option.some.inj h)
      exact r_ireturn dX11_play_47 .int rfl rfl
    · replace h := (if_neg c).symm.trans h
      refine r_iload (x := a5) dX11_play_18 rfl ?_
      refine r_iconst (v := (0 : Int32)) dX11_play_20 (by decide) ?_
      refine r_bipush (v := (59 : Int32)) dX11_play_21 (by decide) ?_
      obtain ⟨v5, hv5, h⟩ := xb h
      refine z_callS (as := [.int a5, .int (0 : Int32), .int (59 : Int32)]) (r1 := (some (.int v5))) (stk := []) (stk2 := [.int v5]) (st1 := st) (d' := 0) dX11_play_23 xl_X11_90 (by decide) (Nat.le_trans xs0 (by decide)) rfl rfl (S_X11_isIn n st a5 (0 : Int32) (59 : Int32) v5 hv5) ?_
      refine r_if_eq (tgt := 46) dX11_play_26 (by decide) (fun c => ?_) (fun c => ?_)
      · replace h := (if_pos c).symm.trans h
        refine r_iconst (v := (-1 : Int32)) dX11_play_46 (by decide) ?_
        obtain ⟨rfl, rfl⟩ := Prod.mk.inj (Option.some.inj h)
        exact r_ireturn dX11_play_47 .int rfl rfl
      · replace h := (if_neg c).symm.trans h
        refine x_aload_n (o := a0) dX11_play_29 rfl ?_
        obtain ⟨v6, hv6, h⟩ := xb h
        refine x_getR (o := a0) dX11_play_30 xf_X11_7 hv6 ?_
        refine r_iconst (v := (3 : Int32)) dX11_play_33 (by decide) ?_
        obtain ⟨v7, hv7, h⟩ := xb h
        refine x_iaload (o := v6) dX11_play_34 hv7 ?_
        refine x_aload_n (o := a0) dX11_play_35 rfl ?_
        refine r_iload_n (x := a3) dX11_play_36 rfl ?_
        obtain ⟨q9, hq9, h⟩ := xb h
        obtain ⟨v8, hv8, h⟩ := xb h
        refine z_callV (as := [.int a3]) (o := a0) (r1 := (some (.int v8))) (stk := [.int v7]) (stk2 := [.int v8, .int v7]) (st1 := st) (d' := 1) dX11_play_37 xl_X11_153 hq9 (by decide) (Nat.le_trans (xsI xs0) (by decide)) rfl rfl (S_X11_gamesOf n st a0 a3 v8 hv8) ?_
        refine r_iadd dX11_play_40 ?_
        refine r_bipush (v := (80 : Int32)) dX11_play_41 (by decide) ?_
        refine r_icmp_le (tgt := 48) dX11_play_43 (by decide) (fun c => ?_) (fun c => ?_)
        · replace h := (if_pos c).symm.trans h
          refine r_iconst (v := (0 : Int32)) dX11_play_48 (by decide) ?_
          refine r_iload_n (x := a1) dX11_play_49 rfl ?_
          obtain ⟨v10, hv10, h⟩ := xb h
          refine z_callS (as := [.int (0 : Int32), .int a1]) (r1 := (some (.int v10))) (stk := []) (stk2 := [.int v10]) (st1 := st) (d' := 0) dX11_play_50 xl_X11_150 (by decide) (Nat.le_trans xs0 (by decide)) rfl rfl (S_X11_placeOf n st (0 : Int32) a1 v10 hv10) ?_
          refine r_istore (lv' := [(6, .int v10), (0, va_rf a0), (1, .int a1), (2, .int a2), (3, .int a3), (4, .int a4), (5, .int a5)]) (x := v10) dX11_play_53 (by decide) rfl ?_
          refine r_iconst (v := (1 : Int32)) dX11_play_55 (by decide) ?_
          refine r_iload_n (x := a2) dX11_play_56 rfl ?_
          obtain ⟨v11, hv11, h⟩ := xb h
          refine z_callS (as := [.int (1 : Int32), .int a2]) (r1 := (some (.int v11))) (stk := []) (stk2 := [.int v11]) (st1 := st) (d' := 0) dX11_play_57 xl_X11_150 (by decide) (Nat.le_trans xs0 (by decide)) rfl rfl (S_X11_placeOf n st (1 : Int32) a2 v11 hv11) ?_
          refine r_istore (lv' := [(7, .int v11), (6, .int v10), (0, va_rf a0), (1, .int a1), (2, .int a2), (3, .int a3), (4, .int a4), (5, .int a5)]) (x := v11) dX11_play_60 (by decide) rfl ?_
          refine x_aload_n (o := a0) dX11_play_62 rfl ?_
          refine r_iload (x := a4) dX11_play_63 rfl ?_
          obtain ⟨s12, hs12, h⟩ := xb h
          refine x_putI (o := a0) dX11_play_65 (xp_X11_212 _) hs12 ?_
          refine r_iconst (v := (0 : Int32)) dX11_play_68 (by decide) ?_
          refine r_istore (lv' := [(8, .int (0 : Int32)), (7, .int v11), (6, .int v10), (0, va_rf a0), (1, .int a1), (2, .int a2), (3, .int a3), (4, .int a4), (5, .int a5)]) (x := (0 : Int32)) dX11_play_69 (by decide) rfl ?_
          obtain ⟨q69, hq69, h⟩ := xb h
          have Jq69 : Rn mX11_play 319 [(0, va_rf a0), (3, .int a3)] [] q69 (some (.int rv)) st' 8 := by
            refine x_aload_n (o := a0) dX11_play_319 rfl ?_
            refine r_iload_n (x := a3) dX11_play_320 rfl ?_
            obtain ⟨q71, hq71, h⟩ := xb h
            obtain ⟨v70, hv70, h⟩ := xb h
            refine z_callV (as := [.int a3]) (o := a0) (r1 := (some (.int v70))) (stk := []) (stk2 := [.int v70]) (st1 := q69) (d' := 1) dX11_play_321 xl_X11_153 hq71 (by decide) (Nat.le_trans xs0 (by decide)) rfl rfl (S_X11_gamesOf n q69 a0 a3 v70 hv70) ?_
            obtain ⟨rfl, rfl⟩ := Prod.mk.inj (Option.some.inj h)
            exact r_ireturn dX11_play_324 .int rfl rfl
          exact x_sub [3, 6, 8, 2, 1, 0] rfl (R_X11_play_L71 n n s12 a0 a3 a5 v10 v11 (0 : Int32) q69 hq69 Jq69)
        · replace h := (if_neg c).symm.trans h
          refine r_iconst (v := (-1 : Int32)) dX11_play_46 (by decide) ?_
          obtain ⟨rfl, rfl⟩ := Prod.mk.inj (Option.some.inj h)
          exact r_ireturn dX11_play_47 .int rfl rfl
theorem S_X11_play (n : Nat) (st : xS) (a0 : Option Nat) (a1 : Int32) (a2 : Int32) (a3 : Int32) (a4 : Int32) (a5 : Int32) (rv : Int32) (st' : xS) (h : F_X11_play n st a0 a1 a2 a3 a4 a5 = some (rv, st')) : Ct mX11_play [va_rf a0, .int a1, .int a2, .int a3, .int a4, .int a5] st (some (.int rv)) st' 8 := by
  refine Ct.of (by decide) (by simp only [lgL_R, lgL_I, lgL_L, lgL_0]; decide) ?_
  try simp only [lvA_R]
  exact R_X11_play n st a0 a1 a2 a3 a4 a5 rv st' h
theorem R_X11_note (n : Nat) (st : xS) (a0 : Option Nat) (a1 : Int32) (a2 : Int32) (a3 : Int32) (a4 : Int32) (a5 : Int32) (a6 : Int32) (a7 : Int32) (a8 : Int32) (rv : Int32) (st' : xS) (h : F_X11_note n st a0 a1 a2 a3 a4 a5 a6 a7 a8 = some (rv, st')) : Rn mX11_note 0 [(0, va_rf a0), (1, .int a1), (2, .int a2), (3, .int a3), (4, .int a4), (5, .int a5), (6, .int a6), (7, .int a7), (8, .int a8)] [] st (some (.int rv)) st' 1 := by
  unfold F_X11_note at h
  refine r_iload_n (x := a1) dX11_note_0 rfl ?_
  refine r_iconst (v := (0 : Int32)) dX11_note_1 (by decide) ?_
  refine r_bipush (v := (7 : Int32)) dX11_note_2 (by decide) ?_
  obtain ⟨v1, hv1, h⟩ := xb h
  refine z_callS (as := [.int a1, .int (0 : Int32), .int (7 : Int32)]) (r1 := (some (.int v1))) (stk := []) (stk2 := [.int v1]) (st1 := st) (d' := 0) dX11_note_4 xl_X11_90 (by decide) (Nat.le_trans xs0 (by decide)) rfl rfl (S_X11_isIn n st a1 (0 : Int32) (7 : Int32) v1 hv1) ?_
  obtain ⟨q9, hq9, h⟩ := xb h
  have Jq9 : Rn mX11_note 96 [(0, va_rf a0), (1, .int a1), (2, .int a2), (3, .int a3), (4, .int a4), (5, .int a5), (6, .int a6), (7, .int a7), (8, .int a8)] [.int q9] st (some (.int rv)) st' 1 := by
    refine r_istore (lv' := [(9, .int q9), (0, va_rf a0), (1, .int a1), (2, .int a2), (3, .int a3), (4, .int a4), (5, .int a5), (6, .int a6), (7, .int a7), (8, .int a8)]) (x := q9) dX11_note_96 (by decide) rfl ?_
    refine r_iload (x := q9) dX11_note_98 rfl ?_
    refine r_if_eq (tgt := 114) dX11_note_100 (by decide) (fun c => ?_) (fun c => ?_)
    · replace h := (if_pos c).symm.trans h
      refine r_iconst (v := (-1 : Int32)) dX11_note_114 (by decide) ?_
      obtain ⟨rfl, rfl⟩ := Prod.mk.inj (Option.some.inj h)
      exact r_ireturn dX11_note_115 .int rfl rfl
    · replace h := (if_neg c).symm.trans h
      refine x_aload_n (o := a0) dX11_note_103 rfl ?_
      obtain ⟨v10, hv10, h⟩ := xb h
      refine x_getR (o := a0) dX11_note_104 xf_X11_7 hv10 ?_
      refine r_iconst (v := (3 : Int32)) dX11_note_107 (by decide) ?_
      obtain ⟨v11, hv11, h⟩ := xb h
      refine x_iaload (o := v10) dX11_note_108 hv11 ?_
      refine r_bipush (v := (80 : Int32)) dX11_note_109 (by decide) ?_
      refine r_icmp_ne (tgt := 116) dX11_note_111 (by decide) (fun c => ?_) (fun c => ?_)
      · replace h := (if_neg c).symm.trans h
        refine x_aload_n (o := a0) dX11_note_116 rfl ?_
        obtain ⟨v12, hv12, h⟩ := xb h
        refine x_getR (o := a0) dX11_note_117 xf_X11_7 hv12 ?_
        refine r_iconst (v := (3 : Int32)) dX11_note_120 (by decide) ?_
        obtain ⟨v13, hv13, h⟩ := xb h
        refine x_iaload (o := v12) dX11_note_121 hv13 ?_
        refine r_istore (lv' := [(10, .int v13), (9, .int q9), (0, va_rf a0), (1, .int a1), (2, .int a2), (3, .int a3), (4, .int a4), (5, .int a5), (6, .int a6), (7, .int a7), (8, .int a8)]) (x := v13) dX11_note_122 (by decide) rfl ?_
        refine x_aload_n (o := a0) dX11_note_124 rfl ?_
        refine r_iload (x := v13) dX11_note_125 rfl ?_
        refine r_iconst (v := (0 : Int32)) dX11_note_127 (by decide) ?_
        refine r_iload_n (x := a1) dX11_note_128 rfl ?_
        obtain ⟨q15, hq15, h⟩ := xb h
        obtain ⟨s14, hs14, h⟩ := xb h
        refine z_callV (as := [.int v13, .int (0 : Int32), .int a1]) (o := a0) (r1 := none) (stk := []) (stk2 := []) (st1 := s14) (d' := 0) dX11_note_129 xl_X11_222 hq15 (by decide) (Nat.le_trans xs0 (by decide)) rfl rfl (S_X11_notes n st a0 v13 (0 : Int32) a1 s14 hs14) ?_
        refine x_aload_n (o := a0) dX11_note_132 rfl ?_
        refine r_iload (x := v13) dX11_note_133 rfl ?_
        refine r_iconst (v := (1 : Int32)) dX11_note_135 (by decide) ?_
        refine r_iload_n (x := a2) dX11_note_136 rfl ?_
        obtain ⟨q17, hq17, h⟩ := xb h
        obtain ⟨s16, hs16, h⟩ := xb h
        refine z_callV (as := [.int v13, .int (1 : Int32), .int a2]) (o := a0) (r1 := none) (stk := []) (stk2 := []) (st1 := s16) (d' := 0) dX11_note_137 xl_X11_222 hq17 (by decide) (Nat.le_trans xs0 (by decide)) rfl rfl (S_X11_notes n s14 a0 v13 (1 : Int32) a2 s16 hs16) ?_
        refine x_aload_n (o := a0) dX11_note_140 rfl ?_
        refine r_iload (x := v13) dX11_note_141 rfl ?_
        refine r_iconst (v := (2 : Int32)) dX11_note_143 (by decide) ?_
        refine r_iload_n (x := a3) dX11_note_144 rfl ?_
        obtain ⟨q19, hq19, h⟩ := xb h
        obtain ⟨s18, hs18, h⟩ := xb h
        refine z_callV (as := [.int v13, .int (2 : Int32), .int a3]) (o := a0) (r1 := none) (stk := []) (stk2 := []) (st1 := s18) (d' := 0) dX11_note_145 xl_X11_222 hq19 (by decide) (Nat.le_trans xs0 (by decide)) rfl rfl (S_X11_notes n s16 a0 v13 (2 : Int32) a3 s18 hs18) ?_
        refine x_aload_n (o := a0) dX11_note_148 rfl ?_
        refine r_iload (x := v13) dX11_note_149 rfl ?_
        refine r_iconst (v := (3 : Int32)) dX11_note_151 (by decide) ?_
        refine r_iload (x := a4) dX11_note_152 rfl ?_
        refine r_bipush (v := (10 : Int32)) dX11_note_154 (by decide) ?_
        obtain ⟨v20, hv20, h⟩ := xb h
        refine x_idiv dX11_note_156 hv20 ?_
        obtain ⟨q22, hq22, h⟩ := xb h
        obtain ⟨s21, hs21, h⟩ := xb h
        refine z_callV (as := [.int v13, .int (3 : Int32), .int v20]) (o := a0) (r1 := none) (stk := []) (stk2 := []) (st1 := s21) (d' := 0) dX11_note_157 xl_X11_222 hq22 (by decide) (Nat.le_trans xs0 (by decide)) rfl rfl (S_X11_notes n s18 a0 v13 (3 : Int32) v20 s21 hs21) ?_
        refine x_aload_n (o := a0) dX11_note_160 rfl ?_
        refine r_iload (x := v13) dX11_note_161 rfl ?_
        refine r_iconst (v := (4 : Int32)) dX11_note_163 (by decide) ?_
        refine r_iload (x := a4) dX11_note_164 rfl ?_
        refine r_bipush (v := (10 : Int32)) dX11_note_166 (by decide) ?_
        obtain ⟨v23, hv23, h⟩ := xb h
        refine x_irem dX11_note_168 hv23 ?_
        obtain ⟨q25, hq25, h⟩ := xb h
        obtain ⟨s24, hs24, h⟩ := xb h
        refine z_callV (as := [.int v13, .int (4 : Int32), .int v23]) (o := a0) (r1 := none) (stk := []) (stk2 := []) (st1 := s24) (d' := 0) dX11_note_169 xl_X11_222 hq25 (by decide) (Nat.le_trans xs0 (by decide)) rfl rfl (S_X11_notes n s21 a0 v13 (4 : Int32) v23 s24 hs24) ?_
        refine x_aload_n (o := a0) dX11_note_172 rfl ?_
        refine r_iload (x := v13) dX11_note_173 rfl ?_
        refine r_iconst (v := (5 : Int32)) dX11_note_175 (by decide) ?_
        refine r_iload (x := a5) dX11_note_176 rfl ?_
        refine r_bipush (v := (10 : Int32)) dX11_note_178 (by decide) ?_
        obtain ⟨v26, hv26, h⟩ := xb h
        refine x_idiv dX11_note_180 hv26 ?_
        obtain ⟨q28, hq28, h⟩ := xb h
        obtain ⟨s27, hs27, h⟩ := xb h
        refine z_callV (as := [.int v13, .int (5 : Int32), .int v26]) (o := a0) (r1 := none) (stk := []) (stk2 := []) (st1 := s27) (d' := 0) dX11_note_181 xl_X11_222 hq28 (by decide) (Nat.le_trans xs0 (by decide)) rfl rfl (S_X11_notes n s24 a0 v13 (5 : Int32) v26 s27 hs27) ?_
        refine x_aload_n (o := a0) dX11_note_184 rfl ?_
        refine r_iload (x := v13) dX11_note_185 rfl ?_
        refine r_bipush (v := (6 : Int32)) dX11_note_187 (by decide) ?_
        refine r_iload (x := a5) dX11_note_189 rfl ?_
        refine r_bipush (v := (10 : Int32)) dX11_note_191 (by decide) ?_
        obtain ⟨v29, hv29, h⟩ := xb h
        refine x_irem dX11_note_193 hv29 ?_
        obtain ⟨q31, hq31, h⟩ := xb h
        obtain ⟨s30, hs30, h⟩ := xb h
        refine z_callV (as := [.int v13, .int (6 : Int32), .int v29]) (o := a0) (r1 := none) (stk := []) (stk2 := []) (st1 := s30) (d' := 0) dX11_note_194 xl_X11_222 hq31 (by decide) (Nat.le_trans xs0 (by decide)) rfl rfl (S_X11_notes n s27 a0 v13 (6 : Int32) v29 s30 hs30) ?_
        refine x_aload_n (o := a0) dX11_note_197 rfl ?_
        refine r_iload (x := v13) dX11_note_198 rfl ?_
        refine r_bipush (v := (7 : Int32)) dX11_note_200 (by decide) ?_
        refine r_iload (x := a6) dX11_note_202 rfl ?_
        obtain ⟨q33, hq33, h⟩ := xb h
        obtain ⟨s32, hs32, h⟩ := xb h
        refine z_callV (as := [.int v13, .int (7 : Int32), .int a6]) (o := a0) (r1 := none) (stk := []) (stk2 := []) (st1 := s32) (d' := 0) dX11_note_204 xl_X11_222 hq33 (by decide) (Nat.le_trans xs0 (by decide)) rfl rfl (S_X11_notes n s30 a0 v13 (7 : Int32) a6 s32 hs32) ?_
        refine x_aload_n (o := a0) dX11_note_207 rfl ?_
        refine r_iload (x := v13) dX11_note_208 rfl ?_
        refine r_bipush (v := (8 : Int32)) dX11_note_210 (by decide) ?_
        refine r_iload (x := a7) dX11_note_212 rfl ?_
        obtain ⟨q35, hq35, h⟩ := xb h
        obtain ⟨s34, hs34, h⟩ := xb h
        refine z_callV (as := [.int v13, .int (8 : Int32), .int a7]) (o := a0) (r1 := none) (stk := []) (stk2 := []) (st1 := s34) (d' := 0) dX11_note_214 xl_X11_222 hq35 (by decide) (Nat.le_trans xs0 (by decide)) rfl rfl (S_X11_notes n s32 a0 v13 (8 : Int32) a7 s34 hs34) ?_
        refine x_aload_n (o := a0) dX11_note_217 rfl ?_
        refine r_iload (x := v13) dX11_note_218 rfl ?_
        refine r_bipush (v := (9 : Int32)) dX11_note_220 (by decide) ?_
        refine r_iload (x := a8) dX11_note_222 rfl ?_
        obtain ⟨q37, hq37, h⟩ := xb h
        obtain ⟨s36, hs36, h⟩ := xb h
        refine z_callV (as := [.int v13, .int (9 : Int32), .int a8]) (o := a0) (r1 := none) (stk := []) (stk2 := []) (st1 := s36) (d' := 0) dX11_note_224 xl_X11_222 hq37 (by decide) (Nat.le_trans xs0 (by decide)) rfl rfl (S_X11_notes n s34 a0 v13 (9 : Int32) a8 s36 hs36) ?_
        refine x_aload_n (o := a0) dX11_note_227 rfl ?_
        obtain ⟨v38, hv38, h⟩ := xb h
        refine x_getR (o := a0) dX11_note_228 xf_X11_7 hv38 ?_
        refine r_iconst (v := (3 : Int32)) dX11_note_231 (by decide) ?_
        refine r_dup2 dX11_note_232 rfl (xrf_cat _) ?_
        obtain ⟨v39, hv39, h⟩ := xb h
        refine x_iaload (o := v38) dX11_note_233 hv39 ?_
        refine r_iconst (v := (1 : Int32)) dX11_note_234 (by decide) ?_
        refine r_iadd dX11_note_235 ?_
        obtain ⟨s40, hs40, h⟩ := xb h
        refine x_iastore (o := v38) dX11_note_236 hs40 ?_
        refine r_iload (x := v13) dX11_note_237 rfl ?_
        obtain ⟨rfl, rfl⟩ := Prod.mk.inj (Option.some.inj h)
        exact r_ireturn dX11_note_239 .int rfl rfl
      · replace h := (if_pos c).symm.trans h
        refine r_iconst (v := (-1 : Int32)) dX11_note_114 (by decide) ?_
        obtain ⟨rfl, rfl⟩ := Prod.mk.inj (Option.some.inj h)
        exact r_ireturn dX11_note_115 .int rfl rfl
  refine r_if_eq (tgt := 95) dX11_note_7 (by decide) (fun c => ?_) (fun c => ?_)
  · replace hq9 := (if_pos c).symm.trans hq9
    refine r_iconst (v := (0 : Int32)) dX11_note_95 (by decide) ?_
    obtain rfl := Option.some.inj hq9
    exact x_sub [0, 1, 2, 3, 4, 5, 6, 7, 8] rfl Jq9
  · replace hq9 := (if_neg c).symm.trans hq9
    refine r_iload_n (x := a2) dX11_note_10 rfl ?_
    refine r_iconst (v := (0 : Int32)) dX11_note_11 (by decide) ?_
    refine r_bipush (v := (7 : Int32)) dX11_note_12 (by decide) ?_
    obtain ⟨v2, hv2, hq9⟩ := xb hq9
    refine z_callS (as := [.int a2, .int (0 : Int32), .int (7 : Int32)]) (r1 := (some (.int v2))) (stk := []) (stk2 := [.int v2]) (st1 := st) (d' := 0) dX11_note_14 xl_X11_90 (by decide) (Nat.le_trans xs0 (by decide)) rfl rfl (S_X11_isIn n st a2 (0 : Int32) (7 : Int32) v2 hv2) ?_
    refine r_if_eq (tgt := 95) dX11_note_17 (by decide) (fun c => ?_) (fun c => ?_)
    · replace hq9 := (if_pos c).symm.trans hq9
      refine r_iconst (v := (0 : Int32)) dX11_note_95 (by decide) ?_
      obtain rfl := Option.some.inj hq9
      exact x_sub [0, 1, 2, 3, 4, 5, 6, 7, 8] rfl Jq9
    · replace hq9 := (if_neg c).symm.trans hq9
      refine r_iload_n (x := a1) dX11_note_20 rfl ?_
      refine r_iload_n (x := a2) dX11_note_21 rfl ?_
      refine r_icmp_eq (tgt := 95) dX11_note_22 (by decide) (fun c => ?_) (fun c => ?_)
      · replace hq9 := (if_pos c).symm.trans hq9
        refine r_iconst (v := (0 : Int32)) dX11_note_95 (by decide) ?_
        obtain rfl := Option.some.inj hq9
        exact x_sub [0, 1, 2, 3, 4, 5, 6, 7, 8] rfl Jq9
      · replace hq9 := (if_neg c).symm.trans hq9
        refine r_iload_n (x := a3) dX11_note_25 rfl ?_
        refine r_iconst (v := (0 : Int32)) dX11_note_26 (by decide) ?_
        refine r_bipush (v := (59 : Int32)) dX11_note_27 (by decide) ?_
        obtain ⟨v3, hv3, hq9⟩ := xb hq9
        refine z_callS (as := [.int a3, .int (0 : Int32), .int (59 : Int32)]) (r1 := (some (.int v3))) (stk := []) (stk2 := [.int v3]) (st1 := st) (d' := 0) dX11_note_29 xl_X11_90 (by decide) (Nat.le_trans xs0 (by decide)) rfl rfl (S_X11_isIn n st a3 (0 : Int32) (59 : Int32) v3 hv3) ?_
        refine r_if_eq (tgt := 95) dX11_note_32 (by decide) (fun c => ?_) (fun c => ?_)
        · replace hq9 := (if_pos c).symm.trans hq9
          refine r_iconst (v := (0 : Int32)) dX11_note_95 (by decide) ?_
          obtain rfl := Option.some.inj hq9
          exact x_sub [0, 1, 2, 3, 4, 5, 6, 7, 8] rfl Jq9
        · replace hq9 := (if_neg c).symm.trans hq9
          refine r_iload (x := a4) dX11_note_35 rfl ?_
          refine r_iconst (v := (0 : Int32)) dX11_note_37 (by decide) ?_
          refine r_bipush (v := (99 : Int32)) dX11_note_38 (by decide) ?_
          obtain ⟨v4, hv4, hq9⟩ := xb hq9
          refine z_callS (as := [.int a4, .int (0 : Int32), .int (99 : Int32)]) (r1 := (some (.int v4))) (stk := []) (stk2 := [.int v4]) (st1 := st) (d' := 0) dX11_note_40 xl_X11_90 (by decide) (Nat.le_trans xs0 (by decide)) rfl rfl (S_X11_isIn n st a4 (0 : Int32) (99 : Int32) v4 hv4) ?_
          refine r_if_eq (tgt := 95) dX11_note_43 (by decide) (fun c => ?_) (fun c => ?_)
          · replace hq9 := (if_pos c).symm.trans hq9
            refine r_iconst (v := (0 : Int32)) dX11_note_95 (by decide) ?_
            obtain rfl := Option.some.inj hq9
            exact x_sub [0, 1, 2, 3, 4, 5, 6, 7, 8] rfl Jq9
          · replace hq9 := (if_neg c).symm.trans hq9
            refine r_iload (x := a5) dX11_note_46 rfl ?_
            refine r_iconst (v := (0 : Int32)) dX11_note_48 (by decide) ?_
            refine r_bipush (v := (99 : Int32)) dX11_note_49 (by decide) ?_
            obtain ⟨v5, hv5, hq9⟩ := xb hq9
            refine z_callS (as := [.int a5, .int (0 : Int32), .int (99 : Int32)]) (r1 := (some (.int v5))) (stk := []) (stk2 := [.int v5]) (st1 := st) (d' := 0) dX11_note_51 xl_X11_90 (by decide) (Nat.le_trans xs0 (by decide)) rfl rfl (S_X11_isIn n st a5 (0 : Int32) (99 : Int32) v5 hv5) ?_
            refine r_if_eq (tgt := 95) dX11_note_54 (by decide) (fun c => ?_) (fun c => ?_)
            · replace hq9 := (if_pos c).symm.trans hq9
              refine r_iconst (v := (0 : Int32)) dX11_note_95 (by decide) ?_
              obtain rfl := Option.some.inj hq9
              exact x_sub [0, 1, 2, 3, 4, 5, 6, 7, 8] rfl Jq9
            · replace hq9 := (if_neg c).symm.trans hq9
              refine r_iload (x := a6) dX11_note_57 rfl ?_
              refine r_iconst (v := (0 : Int32)) dX11_note_59 (by decide) ?_
              refine r_bipush (v := (19 : Int32)) dX11_note_60 (by decide) ?_
              obtain ⟨v6, hv6, hq9⟩ := xb hq9
              refine z_callS (as := [.int a6, .int (0 : Int32), .int (19 : Int32)]) (r1 := (some (.int v6))) (stk := []) (stk2 := [.int v6]) (st1 := st) (d' := 0) dX11_note_62 xl_X11_90 (by decide) (Nat.le_trans xs0 (by decide)) rfl rfl (S_X11_isIn n st a6 (0 : Int32) (19 : Int32) v6 hv6) ?_
              refine r_if_eq (tgt := 95) dX11_note_65 (by decide) (fun c => ?_) (fun c => ?_)
              · replace hq9 := (if_pos c).symm.trans hq9
                refine r_iconst (v := (0 : Int32)) dX11_note_95 (by decide) ?_
                obtain rfl := Option.some.inj hq9
                exact x_sub [0, 1, 2, 3, 4, 5, 6, 7, 8] rfl Jq9
              · replace hq9 := (if_neg c).symm.trans hq9
                refine r_iload (x := a7) dX11_note_68 rfl ?_
                refine r_iconst (v := (0 : Int32)) dX11_note_70 (by decide) ?_
                refine r_sipush (v := (999 : Int32)) dX11_note_71 (by decide) ?_
                obtain ⟨v7, hv7, hq9⟩ := xb hq9
                refine z_callS (as := [.int a7, .int (0 : Int32), .int (999 : Int32)]) (r1 := (some (.int v7))) (stk := []) (stk2 := [.int v7]) (st1 := st) (d' := 0) dX11_note_74 xl_X11_90 (by decide) (Nat.le_trans xs0 (by decide)) rfl rfl (S_X11_isIn n st a7 (0 : Int32) (999 : Int32) v7 hv7) ?_
                refine r_if_eq (tgt := 95) dX11_note_77 (by decide) (fun c => ?_) (fun c => ?_)
                · replace hq9 := (if_pos c).symm.trans hq9
                  refine r_iconst (v := (0 : Int32)) dX11_note_95 (by decide) ?_
                  obtain rfl := Option.some.inj hq9
                  exact x_sub [0, 1, 2, 3, 4, 5, 6, 7, 8] rfl Jq9
                · replace hq9 := (if_neg c).symm.trans hq9
                  refine r_iload (x := a8) dX11_note_80 rfl ?_
                  refine r_iconst (v := (0 : Int32)) dX11_note_82 (by decide) ?_
                  refine r_bipush (v := (7 : Int32)) dX11_note_83 (by decide) ?_
                  obtain ⟨v8, hv8, hq9⟩ := xb hq9
                  refine z_callS (as := [.int a8, .int (0 : Int32), .int (7 : Int32)]) (r1 := (some (.int v8))) (stk := []) (stk2 := [.int v8]) (st1 := st) (d' := 0) dX11_note_85 xl_X11_90 (by decide) (Nat.le_trans xs0 (by decide)) rfl rfl (S_X11_isIn n st a8 (0 : Int32) (7 : Int32) v8 hv8) ?_
                  refine r_if_eq (tgt := 95) dX11_note_88 (by decide) (fun c => ?_) (fun c => ?_)
                  · replace hq9 := (if_pos c).symm.trans hq9
                    refine r_iconst (v := (0 : Int32)) dX11_note_95 (by decide) ?_
                    obtain rfl := Option.some.inj hq9
                    exact x_sub [0, 1, 2, 3, 4, 5, 6, 7, 8] rfl Jq9
                  · replace hq9 := (if_neg c).symm.trans hq9
                    refine r_iconst (v := (1 : Int32)) dX11_note_91 (by decide) ?_
                    refine r_goto (tgt := 96) dX11_note_92 (by decide) ?_
                    obtain rfl := Option.some.inj hq9
                    exact x_sub [0, 1, 2, 3, 4, 5, 6, 7, 8] rfl Jq9
theorem S_X11_note (n : Nat) (st : xS) (a0 : Option Nat) (a1 : Int32) (a2 : Int32) (a3 : Int32) (a4 : Int32) (a5 : Int32) (a6 : Int32) (a7 : Int32) (a8 : Int32) (rv : Int32) (st' : xS) (h : F_X11_note n st a0 a1 a2 a3 a4 a5 a6 a7 a8 = some (rv, st')) : Ct mX11_note [va_rf a0, .int a1, .int a2, .int a3, .int a4, .int a5, .int a6, .int a7, .int a8] st (some (.int rv)) st' 1 := by
  refine Ct.of (by decide) (by simp only [lgL_R, lgL_I, lgL_L, lgL_0]; decide) ?_
  try simp only [lvA_R]
  exact R_X11_note n st a0 a1 a2 a3 a4 a5 a6 a7 a8 rv st' h
theorem R_X11_noted (n : Nat) (st : xS) (a0 : Option Nat) (a1 : Int32) (a2 : Int32) (rv : Int32) (h : F_X11_noted n st a0 a1 a2 = some rv) : Rn mX11_noted 0 [(0, va_rf a0), (1, .int a1), (2, .int a2)] [] st (some (.int rv)) st 1 := by
  unfold F_X11_noted at h
  refine r_iload_n (x := a1) dX11_noted_0 rfl ?_
  refine r_iconst (v := (0 : Int32)) dX11_noted_1 (by decide) ?_
  refine x_aload_n (o := a0) dX11_noted_2 rfl ?_
  obtain ⟨v1, hv1, h⟩ := xb h
  refine x_getR (o := a0) dX11_noted_3 xf_X11_7 hv1 ?_
  refine r_iconst (v := (3 : Int32)) dX11_noted_6 (by decide) ?_
  obtain ⟨v2, hv2, h⟩ := xb h
  refine x_iaload (o := v1) dX11_noted_7 hv2 ?_
  refine r_iconst (v := (1 : Int32)) dX11_noted_8 (by decide) ?_
  refine r_isub dX11_noted_9 ?_
  obtain ⟨v3, hv3, h⟩ := xb h
  refine z_callS (as := [.int a1, .int (0 : Int32), .int (v2 - (1 : Int32))]) (r1 := (some (.int v3))) (stk := []) (stk2 := [.int v3]) (st1 := st) (d' := 0) dX11_noted_10 xl_X11_90 (by decide) (Nat.le_trans xs0 (by decide)) rfl rfl (S_X11_isIn n st a1 (0 : Int32) (v2 - (1 : Int32)) v3 hv3) ?_
  obtain ⟨q7, hq7, h⟩ := xb h
  have Jq7 : Rn mX11_noted 36 [] [.int q7] st (some (.int rv)) st 1 := by
    obtain rfl := Option.some.inj h
    exact r_ireturn dX11_noted_36 .int rfl rfl
  refine r_if_eq (tgt := 35) dX11_noted_13 (by decide) (fun c => ?_) (fun c => ?_)
  · replace hq7 := (if_pos c).symm.trans hq7
    refine r_iconst (v := (-1 : Int32)) dX11_noted_35 (by decide) ?_
    obtain rfl := Option.some.inj hq7
    exact x_sub [] rfl Jq7
  · replace hq7 := (if_neg c).symm.trans hq7
    refine r_iload_n (x := a2) dX11_noted_16 rfl ?_
    refine r_iconst (v := (0 : Int32)) dX11_noted_17 (by decide) ?_
    refine r_bipush (v := (9 : Int32)) dX11_noted_18 (by decide) ?_
    obtain ⟨v4, hv4, hq7⟩ := xb hq7
    refine z_callS (as := [.int a2, .int (0 : Int32), .int (9 : Int32)]) (r1 := (some (.int v4))) (stk := []) (stk2 := [.int v4]) (st1 := st) (d' := 0) dX11_noted_20 xl_X11_90 (by decide) (Nat.le_trans xs0 (by decide)) rfl rfl (S_X11_isIn n st a2 (0 : Int32) (9 : Int32) v4 hv4) ?_
    refine r_if_eq (tgt := 35) dX11_noted_23 (by decide) (fun c => ?_) (fun c => ?_)
    · replace hq7 := (if_pos c).symm.trans hq7
      refine r_iconst (v := (-1 : Int32)) dX11_noted_35 (by decide) ?_
      obtain rfl := Option.some.inj hq7
      exact x_sub [] rfl Jq7
    · replace hq7 := (if_neg c).symm.trans hq7
      refine x_aload_n (o := a0) dX11_noted_26 rfl ?_
      refine r_iload_n (x := a1) dX11_noted_27 rfl ?_
      refine r_iload_n (x := a2) dX11_noted_28 rfl ?_
      obtain ⟨q6, hq6, hq7⟩ := xb hq7
      obtain ⟨v5, hv5, hq7⟩ := xb hq7
      refine z_callV (as := [.int a1, .int a2]) (o := a0) (r1 := (some (.int v5))) (stk := []) (stk2 := [.int v5]) (st1 := st) (d' := 0) dX11_noted_29 xl_X11_226 hq6 (by decide) (Nat.le_trans xs0 (by decide)) rfl rfl (S_X11_noteAt n st a0 a1 a2 v5 hv5) ?_
      refine r_goto (tgt := 36) dX11_noted_32 (by decide) ?_
      obtain rfl := Option.some.inj hq7
      exact x_sub [] rfl Jq7
theorem S_X11_noted (n : Nat) (st : xS) (a0 : Option Nat) (a1 : Int32) (a2 : Int32) (rv : Int32) (h : F_X11_noted n st a0 a1 a2 = some rv) : Ct mX11_noted [va_rf a0, .int a1, .int a2] st (some (.int rv)) st 1 := by
  refine Ct.of (by decide) (by simp only [lgL_R, lgL_I, lgL_L, lgL_0]; decide) ?_
  try simp only [lvA_R]
  exact R_X11_noted n st a0 a1 a2 rv h
theorem R_X11_isOfYears (n : Nat) (st : xS) (a0 : Option Nat) (a1 : Int32) (a2 : Int32) (a3 : Int32) (rv : Int32) (h : F_X11_isOfYears n st a0 a1 a2 a3 = some rv) : Rn mX11_isOfYears 0 [(0, va_rf a0), (1, .int a1), (2, .int a2), (3, .int a3)] [] st (some (.int rv)) st 1 := by
  unfold F_X11_isOfYears at h
  refine x_aload_n (o := a0) dX11_isOfYears_0 rfl ?_
  refine r_iload_n (x := a1) dX11_isOfYears_1 rfl ?_
  refine r_iconst (v := (2 : Int32)) dX11_isOfYears_2 (by decide) ?_
  obtain ⟨q2, hq2, h⟩ := xb h
  obtain ⟨v1, hv1, h⟩ := xb h
  refine z_callV (as := [.int a1, .int (2 : Int32)]) (o := a0) (r1 := (some (.int v1))) (stk := []) (stk2 := [.int v1]) (st1 := st) (d' := 0) dX11_isOfYears_3 xl_X11_226 hq2 (by decide) (Nat.le_trans xs0 (by decide)) rfl rfl (S_X11_noteAt n st a0 a1 (2 : Int32) v1 hv1) ?_
  refine r_iload_n (x := a2) dX11_isOfYears_6 rfl ?_
  refine r_iload_n (x := a3) dX11_isOfYears_7 rfl ?_
  obtain ⟨v3, hv3, h⟩ := xb h
  refine z_callS (as := [.int v1, .int a2, .int a3]) (r1 := (some (.int v3))) (stk := []) (stk2 := [.int v3]) (st1 := st) (d' := 0) dX11_isOfYears_8 xl_X11_90 (by decide) (Nat.le_trans xs0 (by decide)) rfl rfl (S_X11_isIn n st v1 a2 a3 v3 hv3) ?_
  obtain ⟨v4, hv4, h⟩ := xb h
  refine x_eqI (rz_inv2 hv4).1 ?_
  obtain rfl := Option.some.inj h
  exact r_ireturn dX11_isOfYears_11 .boolean rfl (by rcases (rz_inv2 hv4).2 with e | e <;> rw [e] <;> rfl)
theorem S_X11_isOfYears (n : Nat) (st : xS) (a0 : Option Nat) (a1 : Int32) (a2 : Int32) (a3 : Int32) (rv : Int32) (h : F_X11_isOfYears n st a0 a1 a2 a3 = some rv) : Ct mX11_isOfYears [va_rf a0, .int a1, .int a2, .int a3] st (some (.int rv)) st 1 := by
  refine Ct.of (by decide) (by simp only [lgL_R, lgL_I, lgL_L, lgL_0]; decide) ?_
  try simp only [lvA_R]
  exact R_X11_isOfYears n st a0 a1 a2 a3 rv h
theorem R_X11_marginOf (n : Nat) (st : xS) (a0 : Option Nat) (a1 : Int32) (rv : Int32) (h : F_X11_marginOf n st a0 a1 = some rv) : Rn mX11_marginOf 0 [(0, va_rf a0), (1, .int a1)] [] st (some (.int rv)) st 1 := by
  unfold F_X11_marginOf at h
  refine x_aload_n (o := a0) dX11_marginOf_0 rfl ?_
  refine r_iload_n (x := a1) dX11_marginOf_1 rfl ?_
  refine r_iconst (v := (3 : Int32)) dX11_marginOf_2 (by decide) ?_
  obtain ⟨q2, hq2, h⟩ := xb h
  obtain ⟨v1, hv1, h⟩ := xb h
  refine z_callV (as := [.int a1, .int (3 : Int32)]) (o := a0) (r1 := (some (.int v1))) (stk := []) (stk2 := [.int v1]) (st1 := st) (d' := 0) dX11_marginOf_3 xl_X11_226 hq2 (by decide) (Nat.le_trans xs0 (by decide)) rfl rfl (S_X11_noteAt n st a0 a1 (3 : Int32) v1 hv1) ?_
  refine x_aload_n (o := a0) dX11_marginOf_6 rfl ?_
  refine r_iload_n (x := a1) dX11_marginOf_7 rfl ?_
  refine r_iconst (v := (4 : Int32)) dX11_marginOf_8 (by decide) ?_
  obtain ⟨q4, hq4, h⟩ := xb h
  obtain ⟨v3, hv3, h⟩ := xb h
  refine z_callV (as := [.int a1, .int (4 : Int32)]) (o := a0) (r1 := (some (.int v3))) (stk := [.int v1]) (stk2 := [.int v3, .int v1]) (st1 := st) (d' := 0) dX11_marginOf_9 xl_X11_226 hq4 (by decide) (Nat.le_trans (xsI xs0) (by decide)) rfl rfl (S_X11_noteAt n st a0 a1 (4 : Int32) v3 hv3) ?_
  refine r_isub dX11_marginOf_12 ?_
  obtain rfl := Option.some.inj h
  exact r_ireturn dX11_marginOf_13 .int rfl rfl
theorem S_X11_marginOf (n : Nat) (st : xS) (a0 : Option Nat) (a1 : Int32) (rv : Int32) (h : F_X11_marginOf n st a0 a1 = some rv) : Ct mX11_marginOf [va_rf a0, .int a1] st (some (.int rv)) st 1 := by
  refine Ct.of (by decide) (by simp only [lgL_R, lgL_I, lgL_L, lgL_0]; decide) ?_
  try simp only [lvA_R]
  exact R_X11_marginOf n st a0 a1 rv h
theorem R_X11_sum_L17 (n : Nat) {r : Option Value} {st' : xS} : ∀ (k : Nat) (st : xS) (a0 : Option Nat) (a1 : Int32) (a2 : Int32) (a3 : Int32) (a4 : Int32) (a5 : Int32) (q : (Int32)), F_X11_sum_L17 n k st a0 a1 a2 a3 a4 a5 = some q → Rn mX11_sum 132 [(4, .int q)] [] st r st' 2 → Rn mX11_sum 17 [(0, va_rf a0), (1, .int a1), (2, .int a2), (3, .int a3), (4, .int a4), (5, .int a5)] [] st r st' 2 := by
  intro k
  induction k with
  | zero => intro st a0 a1 a2 a3 a4 a5 q h; cases h
  | succ k ih =>
    intro st a0 a1 a2 a3 a4 a5 q h J
    unfold F_X11_sum_L17 at h
    refine r_iload (x := a5) dX11_sum_17 rfl ?_
    refine x_aload_n (o := a0) dX11_sum_19 rfl ?_
    obtain ⟨v2, hv2, h⟩ := xb h
    refine x_getR (o := a0) dX11_sum_20 xf_X11_7 hv2 ?_
    refine r_iconst (v := (3 : Int32)) dX11_sum_23 (by decide) ?_
    obtain ⟨v3, hv3, h⟩ := xb h
    refine x_iaload (o := v2) dX11_sum_24 hv3 ?_
    refine r_icmp_ge (tgt := 132) dX11_sum_25 (by decide) (fun c => ?_) (fun c => ?_)
    · replace h := (if_pos c).symm.trans h
      obtain rfl := Option.some.inj h
      exact x_sub [4] rfl J
    · replace h := (if_neg c).symm.trans h
      refine x_aload_n (o := a0) dX11_sum_28 rfl ?_
      refine r_iload (x := a5) dX11_sum_29 rfl ?_
      refine r_iload_n (x := a1) dX11_sum_31 rfl ?_
      refine r_iload_n (x := a2) dX11_sum_32 rfl ?_
      obtain ⟨q5, hq5, h⟩ := xb h
      obtain ⟨v4, hv4, h⟩ := xb h
      refine z_callV (as := [.int a5, .int a1, .int a2]) (o := a0) (r1 := (some (.int v4))) (stk := []) (stk2 := [.int v4]) (st1 := st) (d' := 1) dX11_sum_33 xl_X11_229 hq5 (by decide) (Nat.le_trans xs0 (by decide)) rfl rfl (S_X11_isOfYears n st a0 a5 a1 a2 v4 hv4) ?_
      obtain ⟨q12, hq12, h⟩ := xb h
      have Jq12 : Rn mX11_sum 126 [(0, va_rf a0), (1, .int a1), (2, .int a2), (3, .int a3), (4, .int q12), (5, .int a5)] [] st r st' 2 := by
        obtain ⟨v13, hv13, h⟩ := xb h
        refine x_iinc (c := (1 : Int32)) (lv' := [(5, .int v13), (0, va_rf a0), (1, .int a1), (2, .int a2), (3, .int a3), (4, .int q12)]) (x := a5) (v := v13) dX11_sum_126 rfl (by decide) (Option.some.inj hv13) (by decide) rfl ?_
        refine r_goto (tgt := 17) dX11_sum_129 (by decide) ?_
        exact x_sub [1, 2, 3, 4, 5, 0] rfl (ih st a0 a1 a2 a3 q12 v13 q h J)
      refine r_if_ne (tgt := 42) dX11_sum_36 (by decide) (fun c => ?_) (fun c => ?_)
      · replace hq12 := (if_neg c).symm.trans hq12
        refine x_aload_n (o := a0) dX11_sum_42 rfl ?_
        refine r_iload (x := a5) dX11_sum_43 rfl ?_
        obtain ⟨q7, hq7, hq12⟩ := xb hq12
        obtain ⟨v6, hv6, hq12⟩ := xb hq12
        refine z_callV (as := [.int a5]) (o := a0) (r1 := (some (.int v6))) (stk := []) (stk2 := [.int v6]) (st1 := st) (d' := 1) dX11_sum_45 xl_X11_232 hq7 (by decide) (Nat.le_trans xs0 (by decide)) rfl rfl (S_X11_marginOf n st a0 a5 v6 hv6) ?_
        refine r_istore (lv' := [(6, .int v6), (0, va_rf a0), (1, .int a1), (2, .int a2), (3, .int a3), (4, .int a4), (5, .int a5)]) (x := v6) dX11_sum_48 (by decide) rfl ?_
        refine r_iload (x := a4) dX11_sum_50 rfl ?_
        refine r_iload_n (x := a3) dX11_sum_52 rfl ?_
        obtain ⟨q10, hq10, hq12⟩ := xb hq12
        have Jq10 : Rn mX11_sum 123 [(0, va_rf a0), (1, .int a1), (2, .int a2), (3, .int a3), (5, .int a5)] [.int q10, .int a4] st r st' 2 := by
          refine r_iadd dX11_sum_123 ?_
          obtain ⟨v11, hv11, hq12⟩ := xb hq12
          refine x_eqI (Option.some.inj hv11) ?_
          refine r_istore (lv' := [(4, .int v11), (0, va_rf a0), (1, .int a1), (2, .int a2), (3, .int a3), (5, .int a5)]) (x := v11) dX11_sum_124 (by decide) rfl ?_
          obtain rfl := Option.some.inj hq12
          exact x_sub [1, 2, 3, 4, 0, 5] rfl Jq12
        refine r_if_ne (tgt := 60) dX11_sum_53 (by decide) (fun c => ?_) (fun c => ?_)
        · replace hq10 := (if_neg c).symm.trans hq10
          refine r_iload_n (x := a3) dX11_sum_60 rfl ?_
          refine r_iconst (v := (1 : Int32)) dX11_sum_61 (by decide) ?_
          refine r_icmp_ne (tgt := 78) dX11_sum_62 (by decide) (fun c => ?_) (fun c => ?_)
          · replace hq10 := (if_neg c).symm.trans hq10
            refine r_iload_n (x := a3) dX11_sum_78 rfl ?_
            refine r_iconst (v := (2 : Int32)) dX11_sum_79 (by decide) ?_
            refine r_icmp_ne (tgt := 96) dX11_sum_80 (by decide) (fun c => ?_) (fun c => ?_)
            · replace hq10 := (if_neg c).symm.trans hq10
              refine r_iload_n (x := a3) dX11_sum_96 rfl ?_
              refine r_iconst (v := (3 : Int32)) dX11_sum_97 (by decide) ?_
              refine r_icmp_ne (tgt := 114) dX11_sum_98 (by decide) (fun c => ?_) (fun c => ?_)
              · replace hq10 := (if_neg c).symm.trans hq10
                refine x_aload_n (o := a0) dX11_sum_114 rfl ?_
                refine r_iload (x := a5) dX11_sum_115 rfl ?_
                refine r_iload_n (x := a3) dX11_sum_117 rfl ?_
                refine r_iconst (v := (1 : Int32)) dX11_sum_118 (by decide) ?_
                refine r_isub dX11_sum_119 ?_
                obtain ⟨q9, hq9, hq10⟩ := xb hq10
                obtain ⟨v8, hv8, hq10⟩ := xb hq10
                refine z_callV (as := [.int a5, .int (a3 - (1 : Int32))]) (o := a0) (r1 := (some (.int v8))) (stk := [.int a4]) (stk2 := [.int v8, .int a4]) (st1 := st) (d' := 0) dX11_sum_120 xl_X11_226 hq9 (by decide) (Nat.le_trans (xsI xs0) (by decide)) rfl rfl (S_X11_noteAt n st a0 a5 (a3 - (1 : Int32)) v8 hv8) ?_
                obtain rfl := Option.some.inj hq10
                exact x_sub [1, 2, 3, 4, 6] rfl Jq10
              · replace hq10 := (if_pos c).symm.trans hq10
                refine r_iload (x := v6) dX11_sum_101 rfl ?_
                refine r_if_ge (tgt := 110) dX11_sum_103 (by decide) (fun c => ?_) (fun c => ?_)
                · replace hq10 := (if_pos c).symm.trans hq10
                  refine r_iconst (v := (0 : Int32)) dX11_sum_110 (by decide) ?_
                  refine r_goto (tgt := 123) dX11_sum_111 (by decide) ?_
                  obtain rfl := Option.some.inj hq10
                  exact x_sub [1, 2, 3, 4, 6] rfl Jq10
                · replace hq10 := (if_neg c).symm.trans hq10
                  refine r_iconst (v := (1 : Int32)) dX11_sum_106 (by decide) ?_
                  refine r_goto (tgt := 123) dX11_sum_107 (by decide) ?_
                  obtain rfl := Option.some.inj hq10
                  exact x_sub [1, 2, 3, 4, 6] rfl Jq10
            · replace hq10 := (if_pos c).symm.trans hq10
              refine r_iload (x := v6) dX11_sum_83 rfl ?_
              refine r_if_ne (tgt := 92) dX11_sum_85 (by decide) (fun c => ?_) (fun c => ?_)
              · replace hq10 := (if_neg c).symm.trans hq10
                refine r_iconst (v := (0 : Int32)) dX11_sum_92 (by decide) ?_
                refine r_goto (tgt := 123) dX11_sum_93 (by decide) ?_
                obtain rfl := Option.some.inj hq10
                exact x_sub [1, 2, 3, 4, 6] rfl Jq10
              · replace hq10 := (if_pos c).symm.trans hq10
                refine r_iconst (v := (1 : Int32)) dX11_sum_88 (by decide) ?_
                refine r_goto (tgt := 123) dX11_sum_89 (by decide) ?_
                obtain rfl := Option.some.inj hq10
                exact x_sub [1, 2, 3, 4, 6] rfl Jq10
          · replace hq10 := (if_pos c).symm.trans hq10
            refine r_iload (x := v6) dX11_sum_65 rfl ?_
            refine r_if_le (tgt := 74) dX11_sum_67 (by decide) (fun c => ?_) (fun c => ?_)
            · replace hq10 := (if_pos c).symm.trans hq10
              refine r_iconst (v := (0 : Int32)) dX11_sum_74 (by decide) ?_
              refine r_goto (tgt := 123) dX11_sum_75 (by decide) ?_
              obtain rfl := Option.some.inj hq10
              exact x_sub [1, 2, 3, 4, 6] rfl Jq10
            · replace hq10 := (if_neg c).symm.trans hq10
              refine r_iconst (v := (1 : Int32)) dX11_sum_70 (by decide) ?_
              refine r_goto (tgt := 123) dX11_sum_71 (by decide) ?_
              obtain rfl := Option.some.inj hq10
              exact x_sub [1, 2, 3, 4, 6] rfl Jq10
        · replace hq10 := (if_pos c).symm.trans hq10
          refine r_iconst (v := (1 : Int32)) dX11_sum_56 (by decide) ?_
          refine r_goto (tgt := 123) dX11_sum_57 (by decide) ?_
          obtain rfl := Option.some.inj hq10
          exact x_sub [1, 2, 3, 4, 6] rfl Jq10
      · replace hq12 := (if_pos c).symm.trans hq12
        refine r_goto (tgt := 126) dX11_sum_39 (by decide) ?_
        obtain rfl := Option.some.inj hq12
        exact x_sub [0, 1, 2, 3, 4, 5] rfl Jq12
theorem R_X11_sum (n : Nat) (st : xS) (a0 : Option Nat) (a1 : Int32) (a2 : Int32) (a3 : Int32) (rv : Int32) (h : F_X11_sum n st a0 a1 a2 a3 = some rv) : Rn mX11_sum 0 [(0, va_rf a0), (1, .int a1), (2, .int a2), (3, .int a3)] [] st (some (.int rv)) st 2 := by
  unfold F_X11_sum at h
  refine r_iload_n (x := a3) dX11_sum_0 rfl ?_
  refine r_iconst (v := (0 : Int32)) dX11_sum_1 (by decide) ?_
  refine r_iconst (v := (5 : Int32)) dX11_sum_2 (by decide) ?_
  obtain ⟨v1, hv1, h⟩ := xb h
  refine z_callS (as := [.int a3, .int (0 : Int32), .int (5 : Int32)]) (r1 := (some (.int v1))) (stk := []) (stk2 := [.int v1]) (st1 := st) (d' := 0) dX11_sum_3 xl_X11_90 (by decide) (Nat.le_trans xs0 (by decide)) rfl rfl (S_X11_isIn n st a3 (0 : Int32) (5 : Int32) v1 hv1) ?_
  refine r_if_ne (tgt := 11) dX11_sum_6 (by decide) (fun c => ?_) (fun c => ?_)
  · replace h := (if_neg c).symm.trans h
    refine r_iconst (v := (0 : Int32)) dX11_sum_11 (by decide) ?_
    refine r_istore (lv' := [(4, .int (0 : Int32)), (0, va_rf a0), (1, .int a1), (2, .int a2), (3, .int a3)]) (x := (0 : Int32)) dX11_sum_12 (by decide) rfl ?_
    refine r_iconst (v := (0 : Int32)) dX11_sum_14 (by decide) ?_
    refine r_istore (lv' := [(5, .int (0 : Int32)), (4, .int (0 : Int32)), (0, va_rf a0), (1, .int a1), (2, .int a2), (3, .int a3)]) (x := (0 : Int32)) dX11_sum_15 (by decide) rfl ?_
    obtain ⟨q14, hq14, h⟩ := xb h
    have Jq14 : Rn mX11_sum 132 [(4, .int q14)] [] st (some (.int rv)) st 2 := by
      refine r_iload (x := q14) dX11_sum_132 rfl ?_
      obtain rfl := Option.some.inj h
      exact r_ireturn dX11_sum_134 .int rfl rfl
    exact x_sub [2, 3, 4, 5, 1, 0] rfl (R_X11_sum_L17 n n st a0 a1 a2 a3 (0 : Int32) (0 : Int32) q14 hq14 Jq14)
  · replace h := (if_pos c).symm.trans h
    refine r_iconst (v := (-1 : Int32)) dX11_sum_9 (by decide) ?_
    obtain rfl := Option.some.inj h
    exact r_ireturn dX11_sum_10 .int rfl rfl
theorem S_X11_sum (n : Nat) (st : xS) (a0 : Option Nat) (a1 : Int32) (a2 : Int32) (a3 : Int32) (rv : Int32) (h : F_X11_sum n st a0 a1 a2 a3 = some rv) : Ct mX11_sum [va_rf a0, .int a1, .int a2, .int a3] st (some (.int rv)) st 2 := by
  refine Ct.of (by decide) (by simp only [lgL_R, lgL_I, lgL_L, lgL_0]; decide) ?_
  try simp only [lvA_R]
  exact R_X11_sum n st a0 a1 a2 a3 rv h
theorem R_X11_isBy (n : Nat) (st : xS) (a0 : Option Nat) (a1 : Int32) (a2 : Int32) (rv : Int32) (h : F_X11_isBy n st a0 a1 a2 = some rv) : Rn mX11_isBy 0 [(0, va_rf a0), (1, .int a1), (2, .int a2)] [] st (some (.int rv)) st 1 := by
  unfold F_X11_isBy at h
  refine x_aload_n (o := a0) dX11_isBy_0 rfl ?_
  refine r_iload_n (x := a1) dX11_isBy_1 rfl ?_
  refine r_iconst (v := (0 : Int32)) dX11_isBy_2 (by decide) ?_
  obtain ⟨q2, hq2, h⟩ := xb h
  obtain ⟨v1, hv1, h⟩ := xb h
  refine z_callV (as := [.int a1, .int (0 : Int32)]) (o := a0) (r1 := (some (.int v1))) (stk := []) (stk2 := [.int v1]) (st1 := st) (d' := 0) dX11_isBy_3 xl_X11_226 hq2 (by decide) (Nat.le_trans xs0 (by decide)) rfl rfl (S_X11_noteAt n st a0 a1 (0 : Int32) v1 hv1) ?_
  refine r_iload_n (x := a2) dX11_isBy_6 rfl ?_
  obtain ⟨q5, hq5, h⟩ := xb h
  have Jq5 : Rn mX11_isBy 25 [] [.int q5] st (some (.int rv)) st 1 := by
    obtain ⟨v6, hv6, h⟩ := xb h
    refine x_eqI (rz_inv2 hv6).1 ?_
    obtain rfl := Option.some.inj h
    exact r_ireturn dX11_isBy_25 .boolean rfl (by rcases (rz_inv2 hv6).2 with e | e <;> rw [e] <;> rfl)
  refine r_icmp_eq (tgt := 20) dX11_isBy_7 (by decide) (fun c => ?_) (fun c => ?_)
  · replace hq5 := (if_pos c).symm.trans hq5
    refine r_iconst (v := (1 : Int32)) dX11_isBy_20 (by decide) ?_
    refine r_goto (tgt := 25) dX11_isBy_21 (by decide) ?_
    obtain rfl := Option.some.inj hq5
    exact x_sub [] rfl Jq5
  · replace hq5 := (if_neg c).symm.trans hq5
    refine x_aload_n (o := a0) dX11_isBy_10 rfl ?_
    refine r_iload_n (x := a1) dX11_isBy_11 rfl ?_
    refine r_iconst (v := (1 : Int32)) dX11_isBy_12 (by decide) ?_
    obtain ⟨q4, hq4, hq5⟩ := xb hq5
    obtain ⟨v3, hv3, hq5⟩ := xb hq5
    refine z_callV (as := [.int a1, .int (1 : Int32)]) (o := a0) (r1 := (some (.int v3))) (stk := []) (stk2 := [.int v3]) (st1 := st) (d' := 0) dX11_isBy_13 xl_X11_226 hq4 (by decide) (Nat.le_trans xs0 (by decide)) rfl rfl (S_X11_noteAt n st a0 a1 (1 : Int32) v3 hv3) ?_
    refine r_iload_n (x := a2) dX11_isBy_16 rfl ?_
    refine r_icmp_ne (tgt := 24) dX11_isBy_17 (by decide) (fun c => ?_) (fun c => ?_)
    · replace hq5 := (if_neg c).symm.trans hq5
      refine r_iconst (v := (0 : Int32)) dX11_isBy_24 (by decide) ?_
      obtain rfl := Option.some.inj hq5
      exact x_sub [] rfl Jq5
    · replace hq5 := (if_pos c).symm.trans hq5
      refine r_iconst (v := (1 : Int32)) dX11_isBy_20 (by decide) ?_
      refine r_goto (tgt := 25) dX11_isBy_21 (by decide) ?_
      obtain rfl := Option.some.inj hq5
      exact x_sub [] rfl Jq5
theorem S_X11_isBy (n : Nat) (st : xS) (a0 : Option Nat) (a1 : Int32) (a2 : Int32) (rv : Int32) (h : F_X11_isBy n st a0 a1 a2 = some rv) : Ct mX11_isBy [va_rf a0, .int a1, .int a2] st (some (.int rv)) st 1 := by
  refine Ct.of (by decide) (by simp only [lgL_R, lgL_I, lgL_L, lgL_0]; decide) ?_
  try simp only [lvA_R]
  exact R_X11_isBy n st a0 a1 a2 rv h

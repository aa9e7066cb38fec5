/-! printed by a program: the methods run as their functions say -/
theorem R_X7_step_L0 (n : Nat) {r : Option Value} {st' : xS} : ∀ (k : Nat) (st : xS) (a0 : Option Nat) (q : (xS)), F_X7_step_L0 n k st a0 = some q → Rn mX7_step 38 [(0, va_rf a0)] [] q r st' 2 → Rn mX7_step 0 [(0, va_rf a0)] [] st r st' 2 := by
  intro k
  induction k with
  | zero => intro st a0 q h; cases h
  | succ k ih =>
    intro st a0 q h J
    unfold F_X7_step_L0 at h
    refine x_aload_n (o := a0) dX7_step_0 rfl ?_
    obtain ⟨v1, hv1, h⟩ := xb h
    refine x_getI (o := a0) dX7_step_1 xf_X7_19 hv1 ?_
    refine x_aload_n (o := a0) dX7_step_4 rfl ?_
    obtain ⟨v2, hv2, h⟩ := xb h
    refine x_getI (o := a0) dX7_step_5 xf_X7_15 hv2 ?_
    refine r_icmp_ge (tgt := 38) dX7_step_8 (by decide) (fun c => ?_) (fun c => ?_)
    · replace h := (if_pos c).symm.trans h
      obtain rfl := Option.some.inj h
      exact x_sub [0] rfl J
    · replace h := (if_neg c).symm.trans h
      refine x_aload_n (o := a0) dX7_step_11 rfl ?_
      refine x_aload_n (o := a0) dX7_step_12 rfl ?_
      obtain ⟨v3, hv3, h⟩ := xb h
      refine x_getI (o := a0) dX7_step_13 xf_X7_19 hv3 ?_
      obtain ⟨q5, hq5, h⟩ := xb h
      obtain ⟨v4, hv4, h⟩ := xb h
      refine z_callV (as := [.int v3]) (o := a0) (r1 := (some (.int v4))) (stk := []) (stk2 := [.int v4]) (st1 := st) (d' := 0) dX7_step_16 xl_X7_142 hq5 (by decide) (Nat.le_trans xs0 (by decide)) rfl rfl (S_X7_signAt n st a0 v3 v4 hv4) ?_
      obtain ⟨v6, hv6, h⟩ := xb h
      refine z_callS (as := [.int v4]) (r1 := (some (.int v6))) (stk := []) (stk2 := [.int v6]) (st1 := st) (d' := 0) dX7_step_19 xl_X7_145 (by decide) (Nat.le_trans xs0 (by decide)) rfl rfl (S_X7_isBlank n st v4 v6 hv6) ?_
      refine r_if_eq (tgt := 38) dX7_step_22 (by decide) (fun c => ?_) (fun c => ?_)
      · replace h := (if_pos c).symm.trans h
        obtain rfl := Option.some.inj h
        exact x_sub [0] rfl J
      · replace h := (if_neg c).symm.trans h
        refine x_aload_n (o := a0) dX7_step_25 rfl ?_
        refine x_dupR (o := a0) dX7_step_26 ?_
        obtain ⟨v7, hv7, h⟩ := xb h
        refine x_getI (o := a0) dX7_step_27 xf_X7_19 hv7 ?_
        refine r_iconst (v := (1 : Int32)) dX7_step_30 (by decide) ?_
        refine r_iadd dX7_step_31 ?_
        obtain ⟨s8, hs8, h⟩ := xb h
        refine x_putI (o := a0) dX7_step_32 (xp_X7_19 _) hs8 ?_
        refine r_goto (tgt := 0) dX7_step_35 (by decide) ?_
        exact x_sub [0] rfl (ih s8 a0 q h J)
theorem R_X7_step_L80 (n : Nat) {r : Option Value} {st' : xS} : ∀ (k : Nat) (st : xS) (a0 : Option Nat) (q : (xS)), F_X7_step_L80 n k st a0 = some q → Rn mX7_step 157 [] [] q r st' 2 → Rn mX7_step 80 [(0, va_rf a0)] [] st r st' 2 := by
  intro k
  induction k with
  | zero => intro st a0 q h; cases h
  | succ k ih =>
    intro st a0 q h J
    unfold F_X7_step_L80 at h
    refine x_aload_n (o := a0) dX7_step_80 rfl ?_
    obtain ⟨v25, hv25, h⟩ := xb h
    refine x_getI (o := a0) dX7_step_81 xf_X7_19 hv25 ?_
    refine x_aload_n (o := a0) dX7_step_84 rfl ?_
    obtain ⟨v26, hv26, h⟩ := xb h
    refine x_getI (o := a0) dX7_step_85 xf_X7_15 hv26 ?_
    refine r_icmp_ge (tgt := 157) dX7_step_88 (by decide) (fun c => ?_) (fun c => ?_)
    · replace h := (if_pos c).symm.trans h
      obtain rfl := Option.some.inj h
      exact x_sub [] rfl J
    · replace h := (if_neg c).symm.trans h
      refine x_aload_n (o := a0) dX7_step_91 rfl ?_
      refine x_aload_n (o := a0) dX7_step_92 rfl ?_
      obtain ⟨v27, hv27, h⟩ := xb h
      refine x_getI (o := a0) dX7_step_93 xf_X7_19 hv27 ?_
      obtain ⟨q29, hq29, h⟩ := xb h
      obtain ⟨v28, hv28, h⟩ := xb h
      refine z_callV (as := [.int v27]) (o := a0) (r1 := (some (.int v28))) (stk := []) (stk2 := [.int v28]) (st1 := st) (d' := 0) dX7_step_96 xl_X7_142 hq29 (by decide) (Nat.le_trans xs0 (by decide)) rfl rfl (S_X7_signAt n st a0 v27 v28 hv28) ?_
      obtain ⟨v30, hv30, h⟩ := xb h
      refine z_callS (as := [.int v28]) (r1 := (some (.int v30))) (stk := []) (stk2 := [.int v30]) (st1 := st) (d' := 0) dX7_step_99 xl_X7_148 (by decide) (Nat.le_trans xs0 (by decide)) rfl rfl (S_X7_isLetter n st v28 v30 hv30) ?_
      refine r_if_eq (tgt := 157) dX7_step_102 (by decide) (fun c => ?_) (fun c => ?_)
      · replace h := (if_pos c).symm.trans h
        obtain rfl := Option.some.inj h
        exact x_sub [] rfl J
      · replace h := (if_neg c).symm.trans h
        refine x_aload_n (o := a0) dX7_step_105 rfl ?_
        refine x_dupR (o := a0) dX7_step_106 ?_
        obtain ⟨v31, hv31, h⟩ := xb h
        refine x_getI (o := a0) dX7_step_107 xf_X7_19 hv31 ?_
        refine r_iconst (v := (1 : Int32)) dX7_step_110 (by decide) ?_
        refine r_iadd dX7_step_111 ?_
        obtain ⟨s32, hs32, h⟩ := xb h
        refine x_putI (o := a0) dX7_step_112 (xp_X7_19 _) hs32 ?_
        refine r_goto (tgt := 80) dX7_step_115 (by decide) ?_
        exact x_sub [0] rfl (ih s32 a0 q h J)
theorem R_X7_step (n : Nat) (st : xS) (a0 : Option Nat) (st' : xS) (h : F_X7_step n st a0 = some st') : Rn mX7_step 0 [(0, va_rf a0)] [] st none st' 2 := by
  unfold F_X7_step at h
  obtain ⟨q9, hq9, h⟩ := xb h
  have Jq9 : Rn mX7_step 38 [(0, va_rf a0)] [] q9 none st' 2 := by
    refine x_aload_n (o := a0) dX7_step_38 rfl ?_
    refine x_aload_n (o := a0) dX7_step_39 rfl ?_
    obtain ⟨v10, hv10, h⟩ := xb h
    refine x_getI (o := a0) dX7_step_40 xf_X7_19 hv10 ?_
    obtain ⟨s11, hs11, h⟩ := xb h
    refine x_putI (o := a0) dX7_step_43 (xp_X7_25 _) hs11 ?_
    refine x_aload_n (o := a0) dX7_step_46 rfl ?_
    refine x_aload_n (o := a0) dX7_step_47 rfl ?_
    obtain ⟨v12, hv12, h⟩ := xb h
    refine x_getI (o := a0) dX7_step_48 xf_X7_25 hv12 ?_
    obtain ⟨q14, hq14, h⟩ := xb h
    obtain ⟨v13, hv13, h⟩ := xb h
    refine z_callV (as := [.int v12]) (o := a0) (r1 := (some (.int v13))) (stk := []) (stk2 := [.int v13]) (st1 := s11) (d' := 0) dX7_step_51 xl_X7_142 hq14 (by decide) (Nat.le_trans xs0 (by decide)) rfl rfl (S_X7_signAt n s11 a0 v12 v13 hv13) ?_
    refine r_istore_n (lv' := [(1, .int v13), (0, va_rf a0)]) (x := v13) dX7_step_54 (by decide) (congrArg (List.cons _) (xfY (xk1 0 1 _) rfl)) ?_
    refine r_iload_n (x := v13) dX7_step_55 rfl ?_
    refine r_iconst (v := (-1 : Int32)) dX7_step_56 (by decide) ?_
    obtain ⟨q34, hq34, h⟩ := xb h
    have Jq34 : Rn mX7_step 157 [] [] q34 none st' 2 := by
      obtain rfl := Option.some.inj h
      exact r_return dX7_step_157 rfl
    refine r_icmp_ne (tgt := 68) dX7_step_57 (by decide) (fun c => ?_) (fun c => ?_)
    · replace hq34 := (if_neg c).symm.trans hq34
      refine r_iload_n (x := v13) dX7_step_68 rfl ?_
      obtain ⟨v16, hv16, hq34⟩ := xb hq34
      refine z_callS (as := [.int v13]) (r1 := (some (.int v16))) (stk := []) (stk2 := [.int v16]) (st1 := s11) (d' := 0) dX7_step_69 xl_X7_148 (by decide) (Nat.le_trans xs0 (by decide)) rfl rfl (S_X7_isLetter n s11 v13 v16 hv16) ?_
      refine r_if_eq (tgt := 118) dX7_step_72 (by decide) (fun c => ?_) (fun c => ?_)
      · replace hq34 := (if_pos c).symm.trans hq34
        refine r_iload_n (x := v13) dX7_step_118 rfl ?_
        obtain ⟨v17, hv17, hq34⟩ := xb hq34
        refine z_callS (as := [.int v13]) (r1 := (some (.int v17))) (stk := []) (stk2 := [.int v17]) (st1 := s11) (d' := 0) dX7_step_119 xl_X7_151 (by decide) (Nat.le_trans xs0 (by decide)) rfl rfl (S_X7_isDigit n s11 v13 v17 hv17) ?_
        refine r_if_eq (tgt := 132) dX7_step_122 (by decide) (fun c => ?_) (fun c => ?_)
        · replace hq34 := (if_pos c).symm.trans hq34
          refine x_aload_n (o := a0) dX7_step_132 rfl ?_
          refine r_iload_n (x := v13) dX7_step_133 rfl ?_
          refine r_bipush (v := (59 : Int32)) dX7_step_134 (by decide) ?_
          obtain ⟨q18, hq18, hq34⟩ := xb hq34
          have Jq18 : Rn mX7_step 144 [(0, va_rf a0)] [.int q18, va_rf a0] s11 none st' 2 := by
            obtain ⟨s19, hs19, hq34⟩ := xb hq34
            refine x_putI (o := a0) dX7_step_144 (xp_X7_22 _) hs19 ?_
            refine x_aload_n (o := a0) dX7_step_147 rfl ?_
            refine x_dupR (o := a0) dX7_step_148 ?_
            obtain ⟨v20, hv20, hq34⟩ := xb hq34
            refine x_getI (o := a0) dX7_step_149 xf_X7_19 hv20 ?_
            refine r_iconst (v := (1 : Int32)) dX7_step_152 (by decide) ?_
            refine r_iadd dX7_step_153 ?_
            obtain ⟨s21, hs21, hq34⟩ := xb hq34
            refine x_putI (o := a0) dX7_step_154 (xp_X7_19 _) hs21 ?_
            obtain rfl := Option.some.inj hq34
            exact x_sub [] rfl Jq34
          refine r_icmp_ne (tgt := 143) dX7_step_136 (by decide) (fun c => ?_) (fun c => ?_)
          · replace hq18 := (if_neg c).symm.trans hq18
            refine r_iconst (v := (4 : Int32)) dX7_step_143 (by decide) ?_
            obtain rfl := Option.some.inj hq18
            exact x_sub [1] rfl Jq18
          · replace hq18 := (if_pos c).symm.trans hq18
            refine r_iconst (v := (3 : Int32)) dX7_step_139 (by decide) ?_
            refine r_goto (tgt := 144) dX7_step_140 (by decide) ?_
            obtain rfl := Option.some.inj hq18
            exact x_sub [1] rfl Jq18
        · replace hq34 := (if_neg c).symm.trans hq34
          refine x_aload_n (o := a0) dX7_step_125 rfl ?_
          obtain ⟨q23, hq23, hq34⟩ := xb hq34
          obtain ⟨s22, hs22, hq34⟩ := xb hq34
          refine z_callV (as := []) (o := a0) (r1 := none) (stk := []) (stk2 := []) (st1 := s22) (d' := 1) dX7_step_126 xl_X7_154 hq23 (by decide) (Nat.le_trans xs0 (by decide)) rfl rfl (S_X7_stepNumber n s11 a0  s22 hs22) ?_
          refine r_goto (tgt := 157) dX7_step_129 (by decide) ?_
          obtain rfl := Option.some.inj hq34
          exact x_sub [] rfl Jq34
      · replace hq34 := (if_neg c).symm.trans hq34
        refine x_aload_n (o := a0) dX7_step_75 rfl ?_
        refine r_iconst (v := (1 : Int32)) dX7_step_76 (by decide) ?_
        obtain ⟨s24, hs24, hq34⟩ := xb hq34
        refine x_putI (o := a0) dX7_step_77 (xp_X7_22 _) hs24 ?_
        obtain ⟨q33, hq33, hq34⟩ := xb hq34
        have Jq33 : Rn mX7_step 157 [] [] q33 none st' 2 := by
          obtain rfl := Option.some.inj hq34
          exact x_sub [] rfl Jq34
        exact x_sub [1] rfl (R_X7_step_L80 n n s24 a0 q33 hq33 Jq33)
    · replace hq34 := (if_pos c).symm.trans hq34
      refine x_aload_n (o := a0) dX7_step_60 rfl ?_
      refine r_iconst (v := (0 : Int32)) dX7_step_61 (by decide) ?_
      obtain ⟨s15, hs15, hq34⟩ := xb hq34
      refine x_putI (o := a0) dX7_step_62 (xp_X7_22 _) hs15 ?_
      refine r_goto (tgt := 157) dX7_step_65 (by decide) ?_
      obtain rfl := Option.some.inj hq34
      exact x_sub [] rfl Jq34
  exact x_sub [0] rfl (R_X7_step_L0 n n st a0 q9 hq9 Jq9)
theorem S_X7_step (n : Nat) (st : xS) (a0 : Option Nat) (st' : xS) (h : F_X7_step n st a0 = some st') : Ct mX7_step [va_rf a0] st none st' 2 := by
  refine Ct.of (by decide) (by simp only [lgL_R, lgL_I, lgL_L, lgL_0]; decide) ?_
  try simp only [lvA_R]
  exact R_X7_step n st a0 st' h
theorem R_X7_readLine_L42 (n : Nat) (rv : Int32) (st' : xS) : ∀ (k : Nat) (st : xS) (a0 : Option Nat) (a2 : Option Nat) (a3 : Int32) (a4 : Int32) (a5 : Int32) (a6 : Int32), F_X7_readLine_L42 n k st a0 a2 a3 a4 a5 a6 = some (rv, st') → Rn mX7_readLine 42 [(0, va_rf a0), (2, va_rf a2), (3, .int a3), (4, .int a4), (5, .int a5), (6, .int a6)] [] st (some (.int rv)) st' 9 := by
  intro k
  induction k with
  | zero => intro st a0 a2 a3 a4 a5 a6 h; cases h
  | succ k ih =>
    intro st a0 a2 a3 a4 a5 a6 h
    unfold F_X7_readLine_L42 at h
    refine r_iload (x := a6) dX7_readLine_42 rfl ?_
    refine r_iconst (v := (3 : Int32)) dX7_readLine_44 (by decide) ?_
    refine r_icmp_ge (tgt := 105) dX7_readLine_45 (by decide) (fun c => ?_) (fun c => ?_)
    · replace h := (if_pos c).symm.trans h
      refine x_aload_n (o := a0) dX7_readLine_105 rfl ?_
      obtain ⟨q9, hq9, h⟩ := xb h
      obtain ⟨s8, hs8, h⟩ := xb h
      refine z_callV (as := []) (o := a0) (r1 := none) (stk := []) (stk2 := []) (st1 := s8) (d' := 2) dX7_readLine_106 xl_X7_50 hq9 (by decide) (Nat.le_trans xs0 (by decide)) rfl rfl (S_X7_step n st a0  s8 hs8) ?_
      refine x_aload_n (o := a0) dX7_readLine_109 rfl ?_
      obtain ⟨v10, hv10, h⟩ := xb h
      refine x_getI (o := a0) dX7_readLine_110 xf_X7_22 hv10 ?_
      refine r_iconst (v := (3 : Int32)) dX7_readLine_113 (by decide) ?_
      refine r_icmp_eq (tgt := 119) dX7_readLine_114 (by decide) (fun c => ?_) (fun c => ?_)
      · replace h := (if_pos c).symm.trans h
        refine x_aload_n (o := a0) dX7_readLine_119 rfl ?_
        obtain ⟨v11, hv11, h⟩ := xb h
        refine x_getI (o := a0) dX7_readLine_120 xf_X7_38 hv11 ?_
        obtain ⟨q14, hq14, h⟩ := xb h
        have Jq14 : Rn mX7_readLine 136 [] [] q14 (some (.int rv)) st' 9 := by
          refine r_iconst (v := (1 : Int32)) dX7_readLine_136 (by decide) ?_
          obtain ⟨v15, hv15, h⟩ := xb h
          refine x_eqI (rz_inv2 hv15).1 ?_
          obtain ⟨rfl, rfl⟩ := Prod.mk.inj (Option.some.inj h)
          exact r_ireturn dX7_readLine_137 .boolean rfl (by rcases (rz_inv2 hv15).2 with e | e <;> rw [e] <;> rfl)
        refine r_if_ne (tgt := 136) dX7_readLine_123 (by decide) (fun c => ?_) (fun c => ?_)
        · replace hq14 := (if_neg c).symm.trans hq14
          obtain rfl := Option.some.inj hq14
          exact x_sub [] rfl Jq14
        · replace hq14 := (if_pos c).symm.trans hq14
          refine x_aload_n (o := a0) dX7_readLine_126 rfl ?_
          refine r_iload (x := a4) dX7_readLine_127 rfl ?_
          refine r_iload (x := a5) dX7_readLine_129 rfl ?_
          refine r_iload_n (x := a3) dX7_readLine_131 rfl ?_
          refine x_aload_n (o := a2) dX7_readLine_132 rfl ?_
          obtain ⟨q13, hq13, hq14⟩ := xb hq14
          obtain ⟨s12, hs12, hq14⟩ := xb hq14
          refine z_callV (as := [.int a4, .int a5, .int a3, va_rf a2]) (o := a0) (r1 := none) (stk := []) (stk2 := []) (st1 := s12) (d' := 3) dX7_readLine_133 xl_X7_68 hq13 (by decide) (Nat.le_trans xs0 (by decide)) rfl rfl (S_X7_check n s8 a0 a4 a5 a3 a2 s12 hs12) ?_
          obtain rfl := Option.some.inj hq14
          exact x_sub [] rfl Jq14
      · replace h := (if_neg c).symm.trans h
        refine r_iconst (v := (0 : Int32)) dX7_readLine_117 (by decide) ?_
        obtain ⟨v16, hv16, h⟩ := xb h
        refine x_eqI (rz_inv2 hv16).1 ?_
        obtain ⟨rfl, rfl⟩ := Prod.mk.inj (Option.some.inj h)
        exact r_ireturn dX7_readLine_118 .boolean rfl (by rcases (rz_inv2 hv16).2 with e | e <;> rw [e] <;> rfl)
    · replace h := (if_neg c).symm.trans h
      refine x_aload_n (o := a0) dX7_readLine_48 rfl ?_
      obtain ⟨v17, hv17, h⟩ := xb h
      refine x_getR (o := a0) dX7_readLine_49 xf_X7_31 hv17 ?_
      refine r_iload (x := a6) dX7_readLine_52 rfl ?_
      refine r_iconst (v := (0 : Int32)) dX7_readLine_54 (by decide) ?_
      obtain ⟨s18, hs18, h⟩ := xb h
      refine x_iastore (o := v17) dX7_readLine_55 hs18 ?_
      refine r_iload (x := a6) dX7_readLine_56 rfl ?_
      refine r_iload (x := a5) dX7_readLine_58 rfl ?_
      refine r_icmp_ge (tgt := 99) dX7_readLine_60 (by decide) (fun c => ?_) (fun c => ?_)
      · replace h := (if_pos c).symm.trans h
        obtain ⟨v19, hv19, h⟩ := xb h
        refine x_iinc (c := (1 : Int32)) (lv' := [(6, .int v19), (0, va_rf a0), (2, va_rf a2), (3, .int a3), (4, .int a4), (5, .int a5)]) (x := a6) (v := v19) dX7_readLine_99 rfl (by decide) (Option.some.inj hv19) (by decide) rfl ?_
        refine r_goto (tgt := 42) dX7_readLine_102 (by decide) ?_
        exact x_sub [1, 2, 3, 4, 5, 0] rfl (ih s18 a0 a2 a3 a4 a5 v19 h)
      · replace h := (if_neg c).symm.trans h
        refine x_aload_n (o := a0) dX7_readLine_63 rfl ?_
        obtain ⟨q21, hq21, h⟩ := xb h
        obtain ⟨s20, hs20, h⟩ := xb h
        refine z_callV (as := []) (o := a0) (r1 := none) (stk := []) (stk2 := []) (st1 := s20) (d' := 2) dX7_readLine_64 xl_X7_50 hq21 (by decide) (Nat.le_trans xs0 (by decide)) rfl rfl (S_X7_step n s18 a0  s20 hs20) ?_
        refine x_aload_n (o := a0) dX7_readLine_67 rfl ?_
        obtain ⟨v22, hv22, h⟩ := xb h
        refine x_getI (o := a0) dX7_readLine_68 xf_X7_22 hv22 ?_
        refine r_iconst (v := (2 : Int32)) dX7_readLine_71 (by decide) ?_
        refine r_icmp_eq (tgt := 77) dX7_readLine_72 (by decide) (fun c => ?_) (fun c => ?_)
        · replace h := (if_pos c).symm.trans h
          refine x_aload_n (o := a0) dX7_readLine_77 rfl ?_
          obtain ⟨v23, hv23, h⟩ := xb h
          refine x_getR (o := a0) dX7_readLine_78 xf_X7_31 hv23 ?_
          refine r_iload (x := a6) dX7_readLine_81 rfl ?_
          refine x_aload_n (o := a0) dX7_readLine_83 rfl ?_
          obtain ⟨v24, hv24, h⟩ := xb h
          refine x_getI (o := a0) dX7_readLine_84 xf_X7_28 hv24 ?_
          obtain ⟨s25, hs25, h⟩ := xb h
          refine x_iastore (o := v23) dX7_readLine_87 hs25 ?_
          refine x_aload_n (o := a0) dX7_readLine_88 rfl ?_
          obtain ⟨v26, hv26, h⟩ := xb h
          refine x_getR (o := a0) dX7_readLine_89 xf_X7_35 hv26 ?_
          refine r_iload (x := a6) dX7_readLine_92 rfl ?_
          refine x_aload_n (o := a0) dX7_readLine_94 rfl ?_
          obtain ⟨v27, hv27, h⟩ := xb h
          refine x_getI (o := a0) dX7_readLine_95 xf_X7_25 hv27 ?_
          obtain ⟨s28, hs28, h⟩ := xb h
          refine x_iastore (o := v26) dX7_readLine_98 hs28 ?_
          obtain ⟨v29, hv29, h⟩ := xb h
          refine x_iinc (c := (1 : Int32)) (lv' := [(6, .int v29), (0, va_rf a0), (2, va_rf a2), (3, .int a3), (4, .int a4), (5, .int a5)]) (x := a6) (v := v29) dX7_readLine_99 rfl (by decide) (Option.some.inj hv29) (by decide) rfl ?_
          refine r_goto (tgt := 42) dX7_readLine_102 (by decide) ?_
          exact x_sub [1, 2, 3, 4, 5, 0] rfl (ih s28 a0 a2 a3 a4 a5 v29 h)
        · replace h := (if_neg c).symm.trans h
          refine r_iconst (v := (0 : Int32)) dX7_readLine_75 (by decide) ?_
          obtain ⟨v30, hv30, h⟩ := xb h
          refine x_eqI (rz_inv2 hv30).1 ?_
          obtain ⟨rfl, rfl⟩ := Prod.mk.inj (Option.some.inj h)
          exact r_ireturn dX7_readLine_76 .boolean rfl (by rcases (rz_inv2 hv30).2 with e | e <;> rw [e] <;> rfl)
theorem R_X7_readLine (n : Nat) (st : xS) (a0 : Option Nat) (a1 : Int32) (a2 : Option Nat) (rv : Int32) (st' : xS) (h : F_X7_readLine n st a0 a1 a2 = some (rv, st')) : Rn mX7_readLine 0 [(0, va_rf a0), (1, .int a1), (2, va_rf a2)] [] st (some (.int rv)) st' 9 := by
  unfold F_X7_readLine at h
  refine x_aload_n (o := a0) dX7_readLine_0 rfl ?_
  obtain ⟨v1, hv1, h⟩ := xb h
  refine x_getI (o := a0) dX7_readLine_1 xf_X7_25 hv1 ?_
  refine r_istore_n (lv' := [(3, .int v1), (0, va_rf a0), (1, .int a1), (2, va_rf a2)]) (x := v1) dX7_readLine_4 (by decide) (congrArg (List.cons _) (xfY rfl (xfY rfl (xfY (xk1 2 3 _) rfl)))) ?_
  refine x_aload_n (o := a0) dX7_readLine_5 rfl ?_
  obtain ⟨v2, hv2, h⟩ := xb h
  refine x_getI (o := a0) dX7_readLine_6 xf_X7_22 hv2 ?_
  refine r_iconst (v := (1 : Int32)) dX7_readLine_9 (by decide) ?_
  obtain ⟨q5, hq5, h⟩ := xb h
  have Jq5 : Rn mX7_readLine 22 [(0, va_rf a0), (2, va_rf a2), (3, .int v1)] [.int q5] st (some (.int rv)) st' 9 := by
    refine r_istore (lv' := [(4, .int q5), (0, va_rf a0), (2, va_rf a2), (3, .int v1)]) (x := q5) dX7_readLine_22 (by decide) rfl ?_
    refine r_iload (x := q5) dX7_readLine_24 rfl ?_
    refine r_iconst (v := (-1 : Int32)) dX7_readLine_26 (by decide) ?_
    refine r_icmp_ne (tgt := 32) dX7_readLine_27 (by decide) (fun c => ?_) (fun c => ?_)
    · replace h := (if_neg c).symm.trans h
      refine r_iload (x := q5) dX7_readLine_32 rfl ?_
      obtain ⟨v7, hv7, h⟩ := xb h
      refine z_callS (as := [.int q5]) (r1 := (some (.int v7))) (stk := []) (stk2 := [.int v7]) (st1 := st) (d' := 0) dX7_readLine_34 xl_X7_65 (by decide) (Nat.le_trans xs0 (by decide)) rfl rfl (S_X7_numbersOf n st q5 v7 hv7) ?_
      refine r_istore (lv' := [(5, .int v7), (4, .int q5), (0, va_rf a0), (2, va_rf a2), (3, .int v1)]) (x := v7) dX7_readLine_37 (by decide) rfl ?_
      refine r_iconst (v := (0 : Int32)) dX7_readLine_39 (by decide) ?_
      refine r_istore (lv' := [(6, .int (0 : Int32)), (5, .int v7), (4, .int q5), (0, va_rf a0), (2, va_rf a2), (3, .int v1)]) (x := (0 : Int32)) dX7_readLine_40 (by decide) rfl ?_
      exact x_sub [3, 4, 5, 2, 1, 0] rfl (R_X7_readLine_L42 n rv st' n st a0 a2 v1 q5 v7 (0 : Int32) h)
    · replace h := (if_pos c).symm.trans h
      refine r_iconst (v := (0 : Int32)) dX7_readLine_30 (by decide) ?_
      obtain ⟨v6, hv6, h⟩ := xb h
      refine x_eqI (rz_inv2 hv6).1 ?_
      obtain ⟨rfl, rfl⟩ := Prod.mk.inj (Option.some.inj h)
      exact r_ireturn dX7_readLine_31 .boolean rfl (by rcases (rz_inv2 hv6).2 with e | e <;> rw [e] <;> rfl)
  refine r_icmp_ne (tgt := 21) dX7_readLine_10 (by decide) (fun c => ?_) (fun c => ?_)
  · replace hq5 := (if_neg c).symm.trans hq5
    refine r_iconst (v := (-1 : Int32)) dX7_readLine_21 (by decide) ?_
    obtain rfl := Option.some.inj hq5
    exact x_sub [1, 3, 0] rfl Jq5
  · replace hq5 := (if_pos c).symm.trans hq5
    refine x_aload_n (o := a0) dX7_readLine_13 rfl ?_
    refine r_iload_n (x := a1) dX7_readLine_14 rfl ?_
    obtain ⟨q4, hq4, hq5⟩ := xb hq5
    obtain ⟨v3, hv3, hq5⟩ := xb hq5
    refine z_callV (as := [.int a1]) (o := a0) (r1 := (some (.int v3))) (stk := []) (stk2 := [.int v3]) (st1 := st) (d' := 8) dX7_readLine_15 xl_X7_61 hq4 (by decide) (Nat.le_trans xs0 (by decide)) rfl rfl (S_X7_formOf n st a0 a1 v3 hv3) ?_
    refine r_goto (tgt := 22) dX7_readLine_18 (by decide) ?_
    obtain rfl := Option.some.inj hq5
    exact x_sub [1, 3, 0] rfl Jq5
theorem S_X7_readLine (n : Nat) (st : xS) (a0 : Option Nat) (a1 : Int32) (a2 : Option Nat) (rv : Int32) (st' : xS) (h : F_X7_readLine n st a0 a1 a2 = some (rv, st')) : Ct mX7_readLine [va_rf a0, .int a1, va_rf a2] st (some (.int rv)) st' 9 := by
  refine Ct.of (by decide) (by simp only [lgL_R, lgL_I, lgL_L, lgL_0]; decide) ?_
  try simp only [lvA_R]
  exact R_X7_readLine n st a0 a1 a2 rv st' h
theorem R_X7_read_L33 (n : Nat) (st' : xS) : ∀ (k : Nat) (st : xS) (a0 : Option Nat) (a3 : Int32) (a4 : Option Nat) (a5 : Int32), F_X7_read_L33 n k st a0 a3 a4 a5 = some st' → Rn mX7_read 33 [(0, va_rf a0), (3, .int a3), (4, va_rf a4), (5, .int a5)] [] st none st' 10 := by
  intro k
  induction k with
  | zero => intro st a0 a3 a4 a5 h; cases h
  | succ k ih =>
    intro st a0 a3 a4 a5 h
    unfold F_X7_read_L33 at h
    refine r_iload (x := a5) dX7_read_33 rfl ?_
    refine x_aload_n (o := a0) dX7_read_35 rfl ?_
    obtain ⟨v7, hv7, h⟩ := xb h
    refine x_getI (o := a0) dX7_read_36 xf_X7_15 hv7 ?_
    refine r_icmp_gt (tgt := 80) dX7_read_39 (by decide) (fun c => ?_) (fun c => ?_)
    · replace h := (if_pos c).symm.trans h
      obtain rfl := Option.some.inj h
      exact r_return dX7_read_80 rfl
    · replace h := (if_neg c).symm.trans h
      refine x_aload_n (o := a0) dX7_read_42 rfl ?_
      obtain ⟨q9, hq9, h⟩ := xb h
      obtain ⟨s8, hs8, h⟩ := xb h
      refine z_callV (as := []) (o := a0) (r1 := none) (stk := []) (stk2 := []) (st1 := s8) (d' := 2) dX7_read_43 xl_X7_50 hq9 (by decide) (Nat.le_trans xs0 (by decide)) rfl rfl (S_X7_step n st a0  s8 hs8) ?_
      refine x_aload_n (o := a0) dX7_read_46 rfl ?_
      obtain ⟨v10, hv10, h⟩ := xb h
      refine x_getI (o := a0) dX7_read_47 xf_X7_22 hv10 ?_
      refine r_if_ne (tgt := 54) dX7_read_50 (by decide) (fun c => ?_) (fun c => ?_)
      · replace h := (if_neg c).symm.trans h
        refine x_aload_n (o := a0) dX7_read_54 rfl ?_
        refine r_iload_n (x := a3) dX7_read_55 rfl ?_
        refine x_aload (o := a4) dX7_read_56 rfl ?_
        obtain ⟨q12, hq12, h⟩ := xb h
        obtain ⟨p11, hp11, h⟩ := xb h
        refine z_callV (as := [.int a3, va_rf a4]) (o := a0) (r1 := (some (.int p11.1))) (stk := []) (stk2 := [.int p11.1]) (st1 := p11.2) (d' := 9) dX7_read_58 xl_X7_53 hq12 (by decide) (Nat.le_trans xs0 (by decide)) rfl rfl (S_X7_readLine n s8 a0 a3 a4 p11.1 p11.2 hp11) ?_
        refine r_if_ne (tgt := 74) dX7_read_61 (by decide) (fun c => ?_) (fun c => ?_)
        · replace h := (if_neg c).symm.trans h
          obtain ⟨v16, hv16, h⟩ := xb h
          refine x_iinc (c := (1 : Int32)) (lv' := [(5, .int v16), (0, va_rf a0), (3, .int a3), (4, va_rf a4)]) (x := a5) (v := v16) dX7_read_74 rfl (by decide) (Option.some.inj hv16) (by decide) (congrArg (List.cons _) (xfY rfl (xfY rfl (xfY (xk1 4 5 _) (xfN rfl rfl))))) ?_
          refine r_goto (tgt := 33) dX7_read_77 (by decide) ?_
          exact x_sub [1, 2, 3, 0] rfl (ih p11.2 a0 a3 a4 v16 h)
        · replace h := (if_pos c).symm.trans h
          refine x_aload_n (o := a0) dX7_read_64 rfl ?_
          refine r_iconst (v := (1 : Int32)) dX7_read_65 (by decide) ?_
          refine x_aload_n (o := a0) dX7_read_66 rfl ?_
          obtain ⟨v13, hv13, h⟩ := xb h
          refine x_getI (o := a0) dX7_read_67 xf_X7_25 hv13 ?_
          obtain ⟨q15, hq15, h⟩ := xb h
          obtain ⟨s14, hs14, h⟩ := xb h
          refine z_callV (as := [.int (1 : Int32), .int v13]) (o := a0) (r1 := none) (stk := []) (stk2 := []) (st1 := s14) (d' := 0) dX7_read_70 xl_X7_57 hq15 (by decide) (Nat.le_trans xs0 (by decide)) rfl rfl (S_X7_fail n p11.2 a0 (1 : Int32) v13 s14 hs14) ?_
          obtain rfl := Option.some.inj h
          exact r_return dX7_read_73 rfl
      · replace h := (if_pos c).symm.trans h
        obtain rfl := Option.some.inj h
        exact r_return dX7_read_53 rfl
theorem R_X7_read (n : Nat) (st : xS) (a0 : Option Nat) (a1 : Option Nat) (a2 : Int32) (a3 : Int32) (a4 : Option Nat) (st' : xS) (h : F_X7_read n st a0 a1 a2 a3 a4 = some st') : Rn mX7_read 0 [(0, va_rf a0), (1, va_rf a1), (2, .int a2), (3, .int a3), (4, va_rf a4)] [] st none st' 10 := by
  unfold F_X7_read at h
  refine x_aload_n (o := a0) dX7_read_0 rfl ?_
  refine x_aload_n (o := a1) dX7_read_1 rfl ?_
  obtain ⟨s1, hs1, h⟩ := xb h
  refine x_putR (o := a0) (x := a1) dX7_read_2 (xp_X7_9 _) (Or.inr ⟨_, rfl⟩) hs1 ?_
  refine x_aload_n (o := a0) dX7_read_5 rfl ?_
  refine r_iload_n (x := a2) dX7_read_6 rfl ?_
  refine x_aload_n (o := a1) dX7_read_7 rfl ?_
  obtain ⟨v2, hv2, h⟩ := xb h
  refine x_alen (o := a1) dX7_read_8 hv2 ?_
  refine r_mmin dX7_read_9 xm_X7_44 xm1_min xm2 xm3_min (by decide) (Nat.le_trans (xsA xs0) (by decide)) ?_
  obtain ⟨s3, hs3, h⟩ := xb h
  refine x_putI (o := a0) dX7_read_12 (xp_X7_15 _) hs3 ?_
  refine x_aload_n (o := a0) dX7_read_15 rfl ?_
  refine r_iconst (v := (0 : Int32)) dX7_read_16 (by decide) ?_
  obtain ⟨s4, hs4, h⟩ := xb h
  refine x_putI (o := a0) dX7_read_17 (xp_X7_19 _) hs4 ?_
  refine x_aload_n (o := a0) dX7_read_20 rfl ?_
  refine r_iconst (v := (0 : Int32)) dX7_read_21 (by decide) ?_
  obtain ⟨s5, hs5, h⟩ := xb h
  refine x_putI (o := a0) dX7_read_22 (xp_X7_38 _) hs5 ?_
  refine x_aload_n (o := a0) dX7_read_25 rfl ?_
  refine r_iconst (v := (-1 : Int32)) dX7_read_26 (by decide) ?_
  obtain ⟨s6, hs6, h⟩ := xb h
  refine x_putI (o := a0) dX7_read_27 (xp_X7_41 _) hs6 ?_
  refine r_iconst (v := (0 : Int32)) dX7_read_30 (by decide) ?_
  refine r_istore (lv' := [(5, .int (0 : Int32)), (0, va_rf a0), (1, va_rf a1), (2, .int a2), (3, .int a3), (4, va_rf a4)]) (x := (0 : Int32)) dX7_read_31 (by decide) (congrArg (List.cons _) (xfY rfl (xfY rfl (xfY rfl (xfY rfl (xfY (xk1 4 5 _) rfl)))))) ?_
  exact x_sub [1, 4, 5, 0] rfl (R_X7_read_L33 n st' n s6 a0 a3 a4 (0 : Int32) h)
theorem S_X7_read (n : Nat) (st : xS) (a0 : Option Nat) (a1 : Option Nat) (a2 : Int32) (a3 : Int32) (a4 : Option Nat) (st' : xS) (h : F_X7_read n st a0 a1 a2 a3 a4 = some st') : Ct mX7_read [va_rf a0, va_rf a1, .int a2, .int a3, va_rf a4] st none st' 10 := by
  refine Ct.of (by decide) (by simp only [lgL_R, lgL_I, lgL_L, lgL_0]; decide) ?_
  try simp only [lvA_R]
  exact R_X7_read n st a0 a1 a2 a3 a4 st' h
theorem R_X8_init (n : Nat) (st : xS) (a0 : Option Nat) (st' : xS) (h : F_X8_init n st a0 = some st') : Rn mX8_init 0 [(0, va_rf a0)] [] st none st' 1 := by
  unfold F_X8_init at h
  refine x_aload_n (o := a0) dX8_init_0 rfl ?_
  obtain ⟨b1, hb1, h⟩ := xb h
  refine x_objInit (o := a0) dX8_init_1 xo_X8_3 xo_2 xo_3 (by decide) (Nat.le_trans xs0 (by decide)) hb1 ?_
  refine x_aload_n (o := a0) dX8_init_4 rfl ?_
  refine r_bipush (v := (8 : Int32)) dX8_init_5 (by decide) ?_
  obtain ⟨s2, hs2, h⟩ := xb h
  obtain ⟨o3, ho3, h⟩ := xb h
  refine x_newarray (t := 0) (o := o3) dX8_init_7 (by decide) rfl xar_0 (by decide) (by decide) (by decide) (Option.some.inj hs2) (Option.some.inj ho3) ?_
  obtain ⟨s4, hs4, h⟩ := xb h
  refine x_putR (o := a0) (x := o3) dX8_init_9 xp_X8_9 (Or.inr ⟨_, rfl⟩) hs4 ?_
  refine x_aload_n (o := a0) dX8_init_12 rfl ?_
  refine r_bipush (v := (8 : Int32)) dX8_init_13 (by decide) ?_
  obtain ⟨s5, hs5, h⟩ := xb h
  obtain ⟨o6, ho6, h⟩ := xb h
  refine x_newarray (t := 0) (o := o6) dX8_init_15 (by decide) rfl xar_0 (by decide) (by decide) (by decide) (Option.some.inj hs5) (Option.some.inj ho6) ?_
  obtain ⟨s7, hs7, h⟩ := xb h
  refine x_putR (o := a0) (x := o6) dX8_init_17 xp_X8_15 (Or.inr ⟨_, rfl⟩) hs7 ?_
  refine x_aload_n (o := a0) dX8_init_20 rfl ?_
  refine r_bipush (v := (8 : Int32)) dX8_init_21 (by decide) ?_
  obtain ⟨s8, hs8, h⟩ := xb h
  obtain ⟨o9, ho9, h⟩ := xb h
  refine x_newarray (t := 0) (o := o9) dX8_init_23 (by decide) rfl xar_0 (by decide) (by decide) (by decide) (Option.some.inj hs8) (Option.some.inj ho9) ?_
  obtain ⟨s10, hs10, h⟩ := xb h
  refine x_putR (o := a0) (x := o9) dX8_init_25 xp_X8_18 (Or.inr ⟨_, rfl⟩) hs10 ?_
  refine x_aload_n (o := a0) dX8_init_28 rfl ?_
  refine r_bipush (v := (8 : Int32)) dX8_init_29 (by decide) ?_
  obtain ⟨s11, hs11, h⟩ := xb h
  obtain ⟨o12, ho12, h⟩ := xb h
  refine x_newarray (t := 0) (o := o12) dX8_init_31 (by decide) rfl xar_0 (by decide) (by decide) (by decide) (Option.some.inj hs11) (Option.some.inj ho12) ?_
  obtain ⟨s13, hs13, h⟩ := xb h
  refine x_putR (o := a0) (x := o12) dX8_init_33 xp_X8_21 (Or.inr ⟨_, rfl⟩) hs13 ?_
  obtain rfl := Option.some.inj h
  exact r_return dX8_init_36 rfl
theorem S_X8_init (n : Nat) (st : xS) (a0 : Option Nat) (st' : xS) (h : F_X8_init n st a0 = some st') : Ct mX8_init [va_rf a0] st none st' 1 := by
  refine Ct.of (by decide) (by simp only [lgL_R, lgL_I, lgL_L, lgL_0]; decide) ?_
  try simp only [lvA_R]
  exact R_X8_init n st a0 st' h
theorem R_X8_clear_L2 (n : Nat) {r : Option Value} {st' : xS} : ∀ (k : Nat) (st : xS) (a0 : Option Nat) (a1 : Int32) (q : (xS)), F_X8_clear_L2 n k st a0 a1 = some q → Rn mX8_clear 42 [] [] q r st' 0 → Rn mX8_clear 2 [(0, va_rf a0), (1, .int a1)] [] st r st' 0 := by
  intro k
  induction k with
  | zero => intro st a0 a1 q h; cases h
  | succ k ih =>
    intro st a0 a1 q h J
    unfold F_X8_clear_L2 at h
    refine r_iload_n (x := a1) dX8_clear_2 rfl ?_
    refine r_bipush (v := (8 : Int32)) dX8_clear_3 (by decide) ?_
    refine r_icmp_ge (tgt := 42) dX8_clear_5 (by decide) (fun c => ?_) (fun c => ?_)
    · replace h := (if_pos c).symm.trans h
      obtain rfl := Option.some.inj h
      exact x_sub [] rfl J
    · replace h := (if_neg c).symm.trans h
      refine x_aload_n (o := a0) dX8_clear_8 rfl ?_
      obtain ⟨v1, hv1, h⟩ := xb h
      refine x_getR (o := a0) dX8_clear_9 xf_X8_9 hv1 ?_
      refine r_iload_n (x := a1) dX8_clear_12 rfl ?_
      refine r_iconst (v := (0 : Int32)) dX8_clear_13 (by decide) ?_
      obtain ⟨s2, hs2, h⟩ := xb h
      refine x_iastore (o := v1) dX8_clear_14 hs2 ?_
      refine x_aload_n (o := a0) dX8_clear_15 rfl ?_
      obtain ⟨v3, hv3, h⟩ := xb h
      refine x_getR (o := a0) dX8_clear_16 xf_X8_15 hv3 ?_
      refine r_iload_n (x := a1) dX8_clear_19 rfl ?_
      refine r_iconst (v := (0 : Int32)) dX8_clear_20 (by decide) ?_
      obtain ⟨s4, hs4, h⟩ := xb h
      refine x_iastore (o := v3) dX8_clear_21 hs4 ?_
      refine x_aload_n (o := a0) dX8_clear_22 rfl ?_
      obtain ⟨v5, hv5, h⟩ := xb h
      refine x_getR (o := a0) dX8_clear_23 xf_X8_18 hv5 ?_
      refine r_iload_n (x := a1) dX8_clear_26 rfl ?_
      refine r_iconst (v := (0 : Int32)) dX8_clear_27 (by decide) ?_
      obtain ⟨s6, hs6, h⟩ := xb h
      refine x_iastore (o := v5) dX8_clear_28 hs6 ?_
      refine x_aload_n (o := a0) dX8_clear_29 rfl ?_
      obtain ⟨v7, hv7, h⟩ := xb h
      refine x_getR (o := a0) dX8_clear_30 xf_X8_21 hv7 ?_
      refine r_iload_n (x := a1) dX8_clear_33 rfl ?_
      refine r_iconst (v := (0 : Int32)) dX8_clear_34 (by decide) ?_
      obtain ⟨s8, hs8, h⟩ := xb h
      refine x_iastore (o := v7) dX8_clear_35 hs8 ?_
      obtain ⟨v9, hv9, h⟩ := xb h
      refine x_iinc (c := (1 : Int32)) (lv' := [(1, .int v9), (0, va_rf a0)]) (x := a1) (v := v9) dX8_clear_36 rfl (by decide) (Option.some.inj hv9) (by decide) (congrArg (List.cons _) (xfY (xk1 0 1 _) (xfN rfl rfl))) ?_
      refine r_goto (tgt := 2) dX8_clear_39 (by decide) ?_
      exact x_sub [1, 0] rfl (ih s8 a0 v9 q h J)
theorem R_X8_clear (n : Nat) (st : xS) (a0 : Option Nat) (st' : xS) (h : F_X8_clear n st a0 = some st') : Rn mX8_clear 0 [(0, va_rf a0)] [] st none st' 0 := by
  unfold F_X8_clear at h
  refine r_iconst (v := (0 : Int32)) dX8_clear_0 (by decide) ?_
  refine r_istore_n (lv' := [(1, .int (0 : Int32)), (0, va_rf a0)]) (x := (0 : Int32)) dX8_clear_1 (by decide) (congrArg (List.cons _) (xfY (xk1 0 1 _) rfl)) ?_
  obtain ⟨q10, hq10, h⟩ := xb h
  have Jq10 : Rn mX8_clear 42 [] [] q10 none st' 0 := by
    obtain rfl := Option.some.inj h
    exact r_return dX8_clear_42 rfl
  exact x_sub [1, 0] rfl (R_X8_clear_L2 n n st a0 (0 : Int32) q10 hq10 Jq10)
theorem S_X8_clear (n : Nat) (st : xS) (a0 : Option Nat) (st' : xS) (h : F_X8_clear n st a0 = some st') : Ct mX8_clear [va_rf a0] st none st' 0 := by
  refine Ct.of (by decide) (by simp only [lgL_R, lgL_I, lgL_L, lgL_0]; decide) ?_
  try simp only [lvA_R]
  exact R_X8_clear n st a0 st' h
theorem R_X10_pointsBy (n : Nat) (st : xS) (a0 : Int32) (rv : Int32) (h : F_X10_pointsBy n st a0 = some rv) : Rn mX10_pointsBy 0 [(0, .int a0)] [] st (some (.int rv)) st 0 := by
  unfold F_X10_pointsBy at h
  refine r_iload_n (x := a0) dX10_pointsBy_0 rfl ?_
  refine r_if_le (tgt := 6) dX10_pointsBy_1 (by decide) (fun c => ?_) (fun c => ?_)
  · replace h := (if_pos c).symm.trans h
    refine r_iload_n (x := a0) dX10_pointsBy_6 rfl ?_
    obtain ⟨q1, hq1, h⟩ := xb h
    have Jq1 : Rn mX10_pointsBy 15 [] [.int q1] st (some (.int rv)) st 0 := by
      obtain rfl := Option.some.inj h
      exact r_ireturn dX10_pointsBy_15 .int rfl rfl
    refine r_if_ne (tgt := 14) dX10_pointsBy_7 (by decide) (fun c => ?_) (fun c => ?_)
    · replace hq1 := (if_neg c).symm.trans hq1
      refine r_iconst (v := (0 : Int32)) dX10_pointsBy_14 (by decide) ?_
      obtain rfl := Option.some.inj hq1
      exact x_sub [] rfl Jq1
    · replace hq1 := (if_pos c).symm.trans hq1
      refine r_iconst (v := (1 : Int32)) dX10_pointsBy_10 (by decide) ?_
      refine r_goto (tgt := 15) dX10_pointsBy_11 (by decide) ?_
      obtain rfl := Option.some.inj hq1
      exact x_sub [] rfl Jq1
  · replace h := (if_neg c).symm.trans h
    refine r_iconst (v := (3 : Int32)) dX10_pointsBy_4 (by decide) ?_
    obtain rfl := Option.some.inj h
    exact r_ireturn dX10_pointsBy_5 .int rfl rfl
theorem S_X10_pointsBy (n : Nat) (st : xS) (a0 : Int32) (rv : Int32) (h : F_X10_pointsBy n st a0 = some rv) : Ct mX10_pointsBy [.int a0] st (some (.int rv)) st 0 := by
  refine Ct.of (by decide) (by simp only [lgL_R, lgL_I, lgL_L, lgL_0]; decide) ?_
  try simp only [lvA_R]
  exact R_X10_pointsBy n st a0 rv h
theorem R_X8_add (n : Nat) (st : xS) (a0 : Option Nat) (a1 : Int32) (a2 : Int32) (a3 : Int32) (st' : xS) (h : F_X8_add n st a0 a1 a2 a3 = some st') : Rn mX8_add 0 [(0, va_rf a0), (1, .int a1), (2, .int a2), (3, .int a3)] [] st none st' 1 := by
  unfold F_X8_add at h
  refine r_iload_n (x := a1) dX8_add_0 rfl ?_
  obtain ⟨q14, hq14, h⟩ := xb h
  have Jq14 : Rn mX8_add 57 [] [] q14 none st' 1 := by
    obtain rfl := Option.some.inj h
    exact r_return dX8_add_57 rfl
  refine r_if_lt (tgt := 57) dX8_add_1 (by decide) (fun c => ?_) (fun c => ?_)
  · replace hq14 := (if_pos c).symm.trans hq14
    obtain rfl := Option.some.inj hq14
    exact x_sub [] rfl Jq14
  · replace hq14 := (if_neg c).symm.trans hq14
    refine r_iload_n (x := a1) dX8_add_4 rfl ?_
    refine r_bipush (v := (8 : Int32)) dX8_add_5 (by decide) ?_
    refine r_icmp_ge (tgt := 57) dX8_add_7 (by decide) (fun c => ?_) (fun c => ?_)
    · replace hq14 := (if_pos c).symm.trans hq14
      obtain rfl := Option.some.inj hq14
      exact x_sub [] rfl Jq14
    · replace hq14 := (if_neg c).symm.trans hq14
      refine x_aload_n (o := a0) dX8_add_10 rfl ?_
      obtain ⟨v1, hv1, hq14⟩ := xb hq14
      refine x_getR (o := a0) dX8_add_11 xf_X8_9 hv1 ?_
      refine r_iload_n (x := a1) dX8_add_14 rfl ?_
      refine r_dup2 dX8_add_15 rfl (xrf_cat _) ?_
      obtain ⟨v2, hv2, hq14⟩ := xb hq14
      refine x_iaload (o := v1) dX8_add_16 hv2 ?_
      refine r_iconst (v := (1 : Int32)) dX8_add_17 (by decide) ?_
      refine r_iadd dX8_add_18 ?_
      obtain ⟨s3, hs3, hq14⟩ := xb hq14
      refine x_iastore (o := v1) dX8_add_19 hs3 ?_
      refine x_aload_n (o := a0) dX8_add_20 rfl ?_
      obtain ⟨v4, hv4, hq14⟩ := xb hq14
      refine x_getR (o := a0) dX8_add_21 xf_X8_15 hv4 ?_
      refine r_iload_n (x := a1) dX8_add_24 rfl ?_
      refine r_dup2 dX8_add_25 rfl (xrf_cat _) ?_
      obtain ⟨v5, hv5, hq14⟩ := xb hq14
      refine x_iaload (o := v4) dX8_add_26 hv5 ?_
      refine r_iload_n (x := a2) dX8_add_27 rfl ?_
      refine r_iload_n (x := a3) dX8_add_28 rfl ?_
      refine r_isub dX8_add_29 ?_
      obtain ⟨v6, hv6, hq14⟩ := xb hq14
      refine z_callS (as := [.int (a2 - a3)]) (r1 := (some (.int v6))) (stk := [.int v5, .int a1, va_rf v4]) (stk2 := [.int v6, .int v5, .int a1, va_rf v4]) (st1 := s3) (d' := 0) dX8_add_30 xl_X8_24 (by decide) (Nat.le_trans (xsI (xsI (xsA xs0))) (by decide)) rfl rfl (S_X10_pointsBy n s3 (a2 - a3) v6 hv6) ?_
      refine r_iadd dX8_add_33 ?_
      obtain ⟨s7, hs7, hq14⟩ := xb hq14
      refine x_iastore (o := v4) dX8_add_34 hs7 ?_
      refine x_aload_n (o := a0) dX8_add_35 rfl ?_
      obtain ⟨v8, hv8, hq14⟩ := xb hq14
      refine x_getR (o := a0) dX8_add_36 xf_X8_18 hv8 ?_
      refine r_iload_n (x := a1) dX8_add_39 rfl ?_
      refine r_dup2 dX8_add_40 rfl (xrf_cat _) ?_
      obtain ⟨v9, hv9, hq14⟩ := xb hq14
      refine x_iaload (o := v8) dX8_add_41 hv9 ?_
      refine r_iload_n (x := a2) dX8_add_42 rfl ?_
      refine r_iload_n (x := a3) dX8_add_43 rfl ?_
      refine r_isub dX8_add_44 ?_
      refine r_iadd dX8_add_45 ?_
      obtain ⟨s10, hs10, hq14⟩ := xb hq14
      refine x_iastore (o := v8) dX8_add_46 hs10 ?_
      refine x_aload_n (o := a0) dX8_add_47 rfl ?_
      obtain ⟨v11, hv11, hq14⟩ := xb hq14
      refine x_getR (o := a0) dX8_add_48 xf_X8_21 hv11 ?_
      refine r_iload_n (x := a1) dX8_add_51 rfl ?_
      refine r_dup2 dX8_add_52 rfl (xrf_cat _) ?_
      obtain ⟨v12, hv12, hq14⟩ := xb hq14
      refine x_iaload (o := v11) dX8_add_53 hv12 ?_
      refine r_iload_n (x := a2) dX8_add_54 rfl ?_
      refine r_iadd dX8_add_55 ?_
      obtain ⟨s13, hs13, hq14⟩ := xb hq14
      refine x_iastore (o := v11) dX8_add_56 hs13 ?_
      obtain rfl := Option.some.inj hq14
      exact x_sub [] rfl Jq14
theorem S_X8_add (n : Nat) (st : xS) (a0 : Option Nat) (a1 : Int32) (a2 : Int32) (a3 : Int32) (st' : xS) (h : F_X8_add n st a0 a1 a2 a3 = some st') : Ct mX8_add [va_rf a0, .int a1, .int a2, .int a3] st none st' 1 := by
  refine Ct.of (by decide) (by simp only [lgL_R, lgL_I, lgL_L, lgL_0]; decide) ?_
  try simp only [lvA_R]
  exact R_X8_add n st a0 a1 a2 a3 st' h
theorem R_X8_pointsOf (n : Nat) (st : xS) (a0 : Option Nat) (a1 : Int32) (rv : Int32) (h : F_X8_pointsOf n st a0 a1 = some rv) : Rn mX8_pointsOf 0 [(0, va_rf a0), (1, .int a1)] [] st (some (.int rv)) st 1 := by
  unfold F_X8_pointsOf at h
  refine x_aload_n (o := a0) dX8_pointsOf_0 rfl ?_
  obtain ⟨v1, hv1, h⟩ := xb h
  refine x_getR (o := a0) dX8_pointsOf_1 xf_X8_15 hv1 ?_
  refine r_iload_n (x := a1) dX8_pointsOf_4 rfl ?_
  obtain ⟨v2, hv2, h⟩ := xb h
  refine z_callS (as := [va_rf v1, .int a1]) (r1 := (some (.int v2))) (stk := []) (stk2 := [.int v2]) (st1 := st) (d' := 0) dX8_pointsOf_5 xl_X8_28 (by decide) (Nat.le_trans xs0 (by decide)) rfl rfl (S_X10_valueAt n st v1 a1 v2 hv2) ?_
  obtain rfl := Option.some.inj h
  exact r_ireturn dX8_pointsOf_8 .int rfl rfl
theorem S_X8_pointsOf (n : Nat) (st : xS) (a0 : Option Nat) (a1 : Int32) (rv : Int32) (h : F_X8_pointsOf n st a0 a1 = some rv) : Ct mX8_pointsOf [va_rf a0, .int a1] st (some (.int rv)) st 1 := by
  refine Ct.of (by decide) (by simp only [lgL_R, lgL_I, lgL_L, lgL_0]; decide) ?_
  try simp only [lvA_R]
  exact R_X8_pointsOf n st a0 a1 rv h
theorem R_X8_isAhead (n : Nat) (st : xS) (a0 : Option Nat) (a1 : Int32) (a2 : Int32) (rv : Int32) (h : F_X8_isAhead n st a0 a1 a2 = some rv) : Rn mX8_isAhead 0 [(0, va_rf a0), (1, .int a1), (2, .int a2)] [] st (some (.int rv)) st 1 := by
  unfold F_X8_isAhead at h
  refine x_aload_n (o := a0) dX8_isAhead_0 rfl ?_
  obtain ⟨v1, hv1, h⟩ := xb h
  refine x_getR (o := a0) dX8_isAhead_1 xf_X8_15 hv1 ?_
  refine r_iload_n (x := a1) dX8_isAhead_4 rfl ?_
  obtain ⟨v2, hv2, h⟩ := xb h
  refine z_callS (as := [va_rf v1, .int a1]) (r1 := (some (.int v2))) (stk := []) (stk2 := [.int v2]) (st1 := st) (d' := 0) dX8_isAhead_5 xl_X8_28 (by decide) (Nat.le_trans xs0 (by decide)) rfl rfl (S_X10_valueAt n st v1 a1 v2 hv2) ?_
  refine x_aload_n (o := a0) dX8_isAhead_8 rfl ?_
  obtain ⟨v3, hv3, h⟩ := xb h
  refine x_getR (o := a0) dX8_isAhead_9 xf_X8_15 hv3 ?_
  refine r_iload_n (x := a2) dX8_isAhead_12 rfl ?_
  obtain ⟨v4, hv4, h⟩ := xb h
  refine z_callS (as := [va_rf v3, .int a2]) (r1 := (some (.int v4))) (stk := [.int v2]) (stk2 := [.int v4, .int v2]) (st1 := st) (d' := 0) dX8_isAhead_13 xl_X8_28 (by decide) (Nat.le_trans (xsI xs0) (by decide)) rfl rfl (S_X10_valueAt n st v3 a2 v4 hv4) ?_
  refine r_icmp_eq (tgt := 44) dX8_isAhead_16 (by decide) (fun c => ?_) (fun c => ?_)
  · replace h := (if_pos c).symm.trans h
    refine x_aload_n (o := a0) dX8_isAhead_44 rfl ?_
    obtain ⟨v5, hv5, h⟩ := xb h
    refine x_getR (o := a0) dX8_isAhead_45 xf_X8_18 hv5 ?_
    refine r_iload_n (x := a1) dX8_isAhead_48 rfl ?_
    obtain ⟨v6, hv6, h⟩ := xb h
    refine z_callS (as := [va_rf v5, .int a1]) (r1 := (some (.int v6))) (stk := []) (stk2 := [.int v6]) (st1 := st) (d' := 0) dX8_isAhead_49 xl_X8_28 (by decide) (Nat.le_trans xs0 (by decide)) rfl rfl (S_X10_valueAt n st v5 a1 v6 hv6) ?_
    refine x_aload_n (o := a0) dX8_isAhead_52 rfl ?_
    obtain ⟨v7, hv7, h⟩ := xb h
    refine x_getR (o := a0) dX8_isAhead_53 xf_X8_18 hv7 ?_
    refine r_iload_n (x := a2) dX8_isAhead_56 rfl ?_
    obtain ⟨v8, hv8, h⟩ := xb h
    refine z_callS (as := [va_rf v7, .int a2]) (r1 := (some (.int v8))) (stk := [.int v6]) (stk2 := [.int v8, .int v6]) (st1 := st) (d' := 0) dX8_isAhead_57 xl_X8_28 (by decide) (Nat.le_trans (xsI xs0) (by decide)) rfl rfl (S_X10_valueAt n st v7 a2 v8 hv8) ?_
    refine r_icmp_eq (tgt := 88) dX8_isAhead_60 (by decide) (fun c => ?_) (fun c => ?_)
    · replace h := (if_pos c).symm.trans h
      refine x_aload_n (o := a0) dX8_isAhead_88 rfl ?_
      obtain ⟨v9, hv9, h⟩ := xb h
      refine x_getR (o := a0) dX8_isAhead_89 xf_X8_21 hv9 ?_
      refine r_iload_n (x := a1) dX8_isAhead_92 rfl ?_
      obtain ⟨v10, hv10, h⟩ := xb h
      refine z_callS (as := [va_rf v9, .int a1]) (r1 := (some (.int v10))) (stk := []) (stk2 := [.int v10]) (st1 := st) (d' := 0) dX8_isAhead_93 xl_X8_28 (by decide) (Nat.le_trans xs0 (by decide)) rfl rfl (S_X10_valueAt n st v9 a1 v10 hv10) ?_
      refine x_aload_n (o := a0) dX8_isAhead_96 rfl ?_
      obtain ⟨v11, hv11, h⟩ := xb h
      refine x_getR (o := a0) dX8_isAhead_97 xf_X8_21 hv11 ?_
      refine r_iload_n (x := a2) dX8_isAhead_100 rfl ?_
      obtain ⟨v12, hv12, h⟩ := xb h
      refine z_callS (as := [va_rf v11, .int a2]) (r1 := (some (.int v12))) (stk := [.int v10]) (stk2 := [.int v12, .int v10]) (st1 := st) (d' := 0) dX8_isAhead_101 xl_X8_28 (by decide) (Nat.le_trans (xsI xs0) (by decide)) rfl rfl (S_X10_valueAt n st v11 a2 v12 hv12) ?_
      refine r_icmp_eq (tgt := 132) dX8_isAhead_104 (by decide) (fun c => ?_) (fun c => ?_)
      · replace h := (if_pos c).symm.trans h
        refine r_iload_n (x := a1) dX8_isAhead_132 rfl ?_
        refine r_iload_n (x := a2) dX8_isAhead_133 rfl ?_
        obtain ⟨q13, hq13, h⟩ := xb h
        have Jq13 : Rn mX8_isAhead 142 [] [.int q13] st (some (.int rv)) st 1 := by
          obtain ⟨v14, hv14, h⟩ := xb h
          refine x_eqI (rz_inv2 hv14).1 ?_
          obtain rfl := Option.some.inj h
          exact r_ireturn dX8_isAhead_142 .boolean rfl (by rcases (rz_inv2 hv14).2 with e | e <;> rw [e] <;> rfl)
        refine r_icmp_ge (tgt := 141) dX8_isAhead_134 (by decide) (fun c => ?_) (fun c => ?_)
        · replace hq13 := (if_pos c).symm.trans hq13
          refine r_iconst (v := (0 : Int32)) dX8_isAhead_141 (by decide) ?_
          obtain rfl := Option.some.inj hq13
          exact x_sub [] rfl Jq13
        · replace hq13 := (if_neg c).symm.trans hq13
          refine r_iconst (v := (1 : Int32)) dX8_isAhead_137 (by decide) ?_
          refine r_goto (tgt := 142) dX8_isAhead_138 (by decide) ?_
          obtain rfl := Option.some.inj hq13
          exact x_sub [] rfl Jq13
      · replace h := (if_neg c).symm.trans h
        refine x_aload_n (o := a0) dX8_isAhead_107 rfl ?_
        obtain ⟨v15, hv15, h⟩ := xb h
        refine x_getR (o := a0) dX8_isAhead_108 xf_X8_21 hv15 ?_
        refine r_iload_n (x := a1) dX8_isAhead_111 rfl ?_
        obtain ⟨v16, hv16, h⟩ := xb h
        refine z_callS (as := [va_rf v15, .int a1]) (r1 := (some (.int v16))) (stk := []) (stk2 := [.int v16]) (st1 := st) (d' := 0) dX8_isAhead_112 xl_X8_28 (by decide) (Nat.le_trans xs0 (by decide)) rfl rfl (S_X10_valueAt n st v15 a1 v16 hv16) ?_
        refine x_aload_n (o := a0) dX8_isAhead_115 rfl ?_
        obtain ⟨v17, hv17, h⟩ := xb h
        refine x_getR (o := a0) dX8_isAhead_116 xf_X8_21 hv17 ?_
        refine r_iload_n (x := a2) dX8_isAhead_119 rfl ?_
        obtain ⟨v18, hv18, h⟩ := xb h
        refine z_callS (as := [va_rf v17, .int a2]) (r1 := (some (.int v18))) (stk := [.int v16]) (stk2 := [.int v18, .int v16]) (st1 := st) (d' := 0) dX8_isAhead_120 xl_X8_28 (by decide) (Nat.le_trans (xsI xs0) (by decide)) rfl rfl (S_X10_valueAt n st v17 a2 v18 hv18) ?_
        obtain ⟨q19, hq19, h⟩ := xb h
        have Jq19 : Rn mX8_isAhead 131 [] [.int q19] st (some (.int rv)) st 1 := by
          obtain ⟨v20, hv20, h⟩ := xb h
          refine x_eqI (rz_inv2 hv20).1 ?_
          obtain rfl := Option.some.inj h
          exact r_ireturn dX8_isAhead_131 .boolean rfl (by rcases (rz_inv2 hv20).2 with e | e <;> rw [e] <;> rfl)
        refine r_icmp_le (tgt := 130) dX8_isAhead_123 (by decide) (fun c => ?_) (fun c => ?_)
        · replace hq19 := (if_pos c).symm.trans hq19
          refine r_iconst (v := (0 : Int32)) dX8_isAhead_130 (by decide) ?_
          obtain rfl := Option.some.inj hq19
          exact x_sub [] rfl Jq19
        · replace hq19 := (if_neg c).symm.trans hq19
          refine r_iconst (v := (1 : Int32)) dX8_isAhead_126 (by decide) ?_
          refine r_goto (tgt := 131) dX8_isAhead_127 (by decide) ?_
          obtain rfl := Option.some.inj hq19
          exact x_sub [] rfl Jq19
    · replace h := (if_neg c).symm.trans h
      refine x_aload_n (o := a0) dX8_isAhead_63 rfl ?_
      obtain ⟨v21, hv21, h⟩ := xb h
      refine x_getR (o := a0) dX8_isAhead_64 xf_X8_18 hv21 ?_
      refine r_iload_n (x := a1) dX8_isAhead_67 rfl ?_
      obtain ⟨v22, hv22, h⟩ := xb h
      refine z_callS (as := [va_rf v21, .int a1]) (r1 := (some (.int v22))) (stk := []) (stk2 := [.int v22]) (st1 := st) (d' := 0) dX8_isAhead_68 xl_X8_28 (by decide) (Nat.le_trans xs0 (by decide)) rfl rfl (S_X10_valueAt n st v21 a1 v22 hv22) ?_
      refine x_aload_n (o := a0) dX8_isAhead_71 rfl ?_
      obtain ⟨v23, hv23, h⟩ := xb h
      refine x_getR (o := a0) dX8_isAhead_72 xf_X8_18 hv23 ?_
      refine r_iload_n (x := a2) dX8_isAhead_75 rfl ?_
      obtain ⟨v24, hv24, h⟩ := xb h
      refine z_callS (as := [va_rf v23, .int a2]) (r1 := (some (.int v24))) (stk := [.int v22]) (stk2 := [.int v24, .int v22]) (st1 := st) (d' := 0) dX8_isAhead_76 xl_X8_28 (by decide) (Nat.le_trans (xsI xs0) (by decide)) rfl rfl (S_X10_valueAt n st v23 a2 v24 hv24) ?_
      obtain ⟨q25, hq25, h⟩ := xb h
      have Jq25 : Rn mX8_isAhead 87 [] [.int q25] st (some (.int rv)) st 1 := by
        obtain ⟨v26, hv26, h⟩ := xb h
        refine x_eqI (rz_inv2 hv26).1 ?_
        obtain rfl := Option.some.inj h
        exact r_ireturn dX8_isAhead_87 .boolean rfl (by rcases (rz_inv2 hv26).2 with e | e <;> rw [e] <;> rfl)
      refine r_icmp_le (tgt := 86) dX8_isAhead_79 (by decide) (fun c => ?_) (fun c => ?_)
      · replace hq25 := (if_pos c).symm.trans hq25
        refine r_iconst (v := (0 : Int32)) dX8_isAhead_86 (by decide) ?_
        obtain rfl := Option.some.inj hq25
        exact x_sub [] rfl Jq25
      · replace hq25 := (if_neg c).symm.trans hq25
        refine r_iconst (v := (1 : Int32)) dX8_isAhead_82 (by decide) ?_
        refine r_goto (tgt := 87) dX8_isAhead_83 (by decide) ?_
        obtain rfl := Option.some.inj hq25
        exact x_sub [] rfl Jq25
  · replace h := (if_neg c).symm.trans h
    refine x_aload_n (o := a0) dX8_isAhead_19 rfl ?_
    obtain ⟨v27, hv27, h⟩ := xb h
    refine x_getR (o := a0) dX8_isAhead_20 xf_X8_15 hv27 ?_
    refine r_iload_n (x := a1) dX8_isAhead_23 rfl ?_
    obtain ⟨v28, hv28, h⟩ := xb h
    refine z_callS (as := [va_rf v27, .int a1]) (r1 := (some (.int v28))) (stk := []) (stk2 := [.int v28]) (st1 := st) (d' := 0) dX8_isAhead_24 xl_X8_28 (by decide) (Nat.le_trans xs0 (by decide)) rfl rfl (S_X10_valueAt n st v27 a1 v28 hv28) ?_
    refine x_aload_n (o := a0) dX8_isAhead_27 rfl ?_
    obtain ⟨v29, hv29, h⟩ := xb h
    refine x_getR (o := a0) dX8_isAhead_28 xf_X8_15 hv29 ?_
    refine r_iload_n (x := a2) dX8_isAhead_31 rfl ?_
    obtain ⟨v30, hv30, h⟩ := xb h
    refine z_callS (as := [va_rf v29, .int a2]) (r1 := (some (.int v30))) (stk := [.int v28]) (stk2 := [.int v30, .int v28]) (st1 := st) (d' := 0) dX8_isAhead_32 xl_X8_28 (by decide) (Nat.le_trans (xsI xs0) (by decide)) rfl rfl (S_X10_valueAt n st v29 a2 v30 hv30) ?_
    obtain ⟨q31, hq31, h⟩ := xb h
    have Jq31 : Rn mX8_isAhead 43 [] [.int q31] st (some (.int rv)) st 1 := by
      obtain ⟨v32, hv32, h⟩ := xb h
      refine x_eqI (rz_inv2 hv32).1 ?_
      obtain rfl := Option.some.inj h
      exact r_ireturn dX8_isAhead_43 .boolean rfl (by rcases (rz_inv2 hv32).2 with e | e <;> rw [e] <;> rfl)
    refine r_icmp_le (tgt := 42) dX8_isAhead_35 (by decide) (fun c => ?_) (fun c => ?_)
    · replace hq31 := (if_pos c).symm.trans hq31
      refine r_iconst (v := (0 : Int32)) dX8_isAhead_42 (by decide) ?_
      obtain rfl := Option.some.inj hq31
      exact x_sub [] rfl Jq31
    · replace hq31 := (if_neg c).symm.trans hq31
      refine r_iconst (v := (1 : Int32)) dX8_isAhead_38 (by decide) ?_
      refine r_goto (tgt := 43) dX8_isAhead_39 (by decide) ?_
      obtain rfl := Option.some.inj hq31
      exact x_sub [] rfl Jq31
theorem S_X8_isAhead (n : Nat) (st : xS) (a0 : Option Nat) (a1 : Int32) (a2 : Int32) (rv : Int32) (h : F_X8_isAhead n st a0 a1 a2 = some rv) : Ct mX8_isAhead [va_rf a0, .int a1, .int a2] st (some (.int rv)) st 1 := by
  refine Ct.of (by decide) (by simp only [lgL_R, lgL_I, lgL_L, lgL_0]; decide) ?_
  try simp only [lvA_R]
  exact R_X8_isAhead n st a0 a1 a2 rv h
theorem R_X8_placeOf_L4 (n : Nat) {r : Option Value} {st' : xS} : ∀ (k : Nat) (st : xS) (a0 : Option Nat) (a1 : Int32) (a2 : Int32) (a3 : Int32) (q : (Int32)), F_X8_placeOf_L4 n k st a0 a1 a2 a3 = some q → Rn mX8_placeOf 39 [(2, .int q)] [] st r st' 2 → Rn mX8_placeOf 4 [(0, va_rf a0), (1, .int a1), (2, .int a2), (3, .int a3)] [] st r st' 2 := by
  intro k
  induction k with
  | zero => intro st a0 a1 a2 a3 q h; cases h
  | succ k ih =>
    intro st a0 a1 a2 a3 q h J
    unfold F_X8_placeOf_L4 at h
    refine r_iload_n (x := a3) dX8_placeOf_4 rfl ?_
    refine r_bipush (v := (8 : Int32)) dX8_placeOf_5 (by decide) ?_
    refine r_icmp_ge (tgt := 39) dX8_placeOf_7 (by decide) (fun c => ?_) (fun c => ?_)
    · replace h := (if_pos c).symm.trans h
      obtain rfl := Option.some.inj h
      exact x_sub [2] rfl J
    · replace h := (if_neg c).symm.trans h
      refine x_aload_n (o := a0) dX8_placeOf_10 rfl ?_
      obtain ⟨v1, hv1, h⟩ := xb h
      refine x_getR (o := a0) dX8_placeOf_11 xf_X8_9 hv1 ?_
      refine r_iload_n (x := a3) dX8_placeOf_14 rfl ?_
      obtain ⟨v2, hv2, h⟩ := xb h
      refine z_callS (as := [va_rf v1, .int a3]) (r1 := (some (.int v2))) (stk := []) (stk2 := [.int v2]) (st1 := st) (d' := 0) dX8_placeOf_15 xl_X8_28 (by decide) (Nat.le_trans xs0 (by decide)) rfl rfl (S_X10_valueAt n st v1 a3 v2 hv2) ?_
      obtain ⟨q6, hq6, h⟩ := xb h
      have Jq6 : Rn mX8_placeOf 33 [(0, va_rf a0), (1, .int a1), (2, .int q6), (3, .int a3)] [] st r st' 2 := by
        obtain ⟨v7, hv7, h⟩ := xb h
        refine x_iinc (c := (1 : Int32)) (lv' := [(3, .int v7), (0, va_rf a0), (1, .int a1), (2, .int q6)]) (x := a3) (v := v7) dX8_placeOf_33 rfl (by decide) (Option.some.inj hv7) (by decide) rfl ?_
        refine r_goto (tgt := 4) dX8_placeOf_36 (by decide) ?_
        exact x_sub [1, 2, 3, 0] rfl (ih st a0 a1 q6 v7 q h J)
      refine r_if_le (tgt := 33) dX8_placeOf_18 (by decide) (fun c => ?_) (fun c => ?_)
      · replace hq6 := (if_pos c).symm.trans hq6
        obtain rfl := Option.some.inj hq6
        exact x_sub [0, 1, 2, 3] rfl Jq6
      · replace hq6 := (if_neg c).symm.trans hq6
        refine x_aload_n (o := a0) dX8_placeOf_21 rfl ?_
        refine r_iload_n (x := a3) dX8_placeOf_22 rfl ?_
        refine r_iload_n (x := a1) dX8_placeOf_23 rfl ?_
        obtain ⟨q4, hq4, hq6⟩ := xb hq6
        obtain ⟨v3, hv3, hq6⟩ := xb hq6
        refine z_callV (as := [.int a3, .int a1]) (o := a0) (r1 := (some (.int v3))) (stk := []) (stk2 := [.int v3]) (st1 := st) (d' := 1) dX8_placeOf_24 xl_X8_35 hq4 (by decide) (Nat.le_trans xs0 (by decide)) rfl rfl (S_X8_isAhead n st a0 a3 a1 v3 hv3) ?_
        refine r_if_eq (tgt := 33) dX8_placeOf_27 (by decide) (fun c => ?_) (fun c => ?_)
        · replace hq6 := (if_pos c).symm.trans hq6
          obtain rfl := Option.some.inj hq6
          exact x_sub [0, 1, 2, 3] rfl Jq6
        · replace hq6 := (if_neg c).symm.trans hq6
          obtain ⟨v5, hv5, hq6⟩ := xb hq6
          refine x_iinc (c := (1 : Int32)) (lv' := [(2, .int v5), (0, va_rf a0), (1, .int a1), (3, .int a3)]) (x := a2) (v := v5) dX8_placeOf_30 rfl (by decide) (Option.some.inj hv5) (by decide) rfl ?_
          obtain rfl := Option.some.inj hq6
          exact x_sub [1, 2, 0, 3] rfl Jq6
theorem R_X8_placeOf (n : Nat) (st : xS) (a0 : Option Nat) (a1 : Int32) (rv : Int32) (h : F_X8_placeOf n st a0 a1 = some rv) : Rn mX8_placeOf 0 [(0, va_rf a0), (1, .int a1)] [] st (some (.int rv)) st 2 := by
  unfold F_X8_placeOf at h
  refine r_iconst (v := (0 : Int32)) dX8_placeOf_0 (by decide) ?_
  refine r_istore_n (lv' := [(2, .int (0 : Int32)), (0, va_rf a0), (1, .int a1)]) (x := (0 : Int32)) dX8_placeOf_1 (by decide) rfl ?_
  refine r_iconst (v := (0 : Int32)) dX8_placeOf_2 (by decide) ?_
  refine r_istore_n (lv' := [(3, .int (0 : Int32)), (2, .int (0 : Int32)), (0, va_rf a0), (1, .int a1)]) (x := (0 : Int32)) dX8_placeOf_3 (by decide) rfl ?_
  obtain ⟨q8, hq8, h⟩ := xb h
  have Jq8 : Rn mX8_placeOf 39 [(2, .int q8)] [] st (some (.int rv)) st 2 := by
    refine r_iload_n (x := q8) dX8_placeOf_39 rfl ?_
    obtain rfl := Option.some.inj h
    exact r_ireturn dX8_placeOf_40 .int rfl rfl
  exact x_sub [2, 3, 1, 0] rfl (R_X8_placeOf_L4 n n st a0 a1 (0 : Int32) (0 : Int32) q8 hq8 Jq8)
theorem S_X8_placeOf (n : Nat) (st : xS) (a0 : Option Nat) (a1 : Int32) (rv : Int32) (h : F_X8_placeOf n st a0 a1 = some rv) : Ct mX8_placeOf [va_rf a0, .int a1] st (some (.int rv)) st 2 := by
  refine Ct.of (by decide) (by simp only [lgL_R, lgL_I, lgL_L, lgL_0]; decide) ?_
  try simp only [lvA_R]
  exact R_X8_placeOf n st a0 a1 rv h
theorem R_X8_sideAt_L2 (n : Nat) (rv : Int32) : ∀ (k : Nat) (st : xS) (a0 : Option Nat) (a1 : Int32) (a2 : Int32), F_X8_sideAt_L2 n k st a0 a1 a2 = some rv → Rn mX8_sideAt 2 [(0, va_rf a0), (1, .int a1), (2, .int a2)] [] st (some (.int rv)) st 3 := by
  intro k
  induction k with
  | zero => intro st a0 a1 a2 h; cases h
  | succ k ih =>
    intro st a0 a1 a2 h
    unfold F_X8_sideAt_L2 at h
    refine r_iload_n (x := a2) dX8_sideAt_2 rfl ?_
    refine r_bipush (v := (8 : Int32)) dX8_sideAt_3 (by decide) ?_
    refine r_icmp_ge (tgt := 34) dX8_sideAt_5 (by decide) (fun c => ?_) (fun c => ?_)
    · replace h := (if_pos c).symm.trans h
      refine r_iconst (v := (-1 : Int32)) dX8_sideAt_34 (by decide) ?_
      obtain rfl := Option.some.inj h
      exact r_ireturn dX8_sideAt_35 .int rfl rfl
    · replace h := (if_neg c).symm.trans h
      refine x_aload_n (o := a0) dX8_sideAt_8 rfl ?_
      obtain ⟨v1, hv1, h⟩ := xb h
      refine x_getR (o := a0) dX8_sideAt_9 xf_X8_9 hv1 ?_
      refine r_iload_n (x := a2) dX8_sideAt_12 rfl ?_
      obtain ⟨v2, hv2, h⟩ := xb h
      refine x_iaload (o := v1) dX8_sideAt_13 hv2 ?_
      refine r_if_le (tgt := 28) dX8_sideAt_14 (by decide) (fun c => ?_) (fun c => ?_)
      · replace h := (if_pos c).symm.trans h
        obtain ⟨v3, hv3, h⟩ := xb h
        refine x_iinc (c := (1 : Int32)) (lv' := [(2, .int v3), (0, va_rf a0), (1, .int a1)]) (x := a2) (v := v3) dX8_sideAt_28 rfl (by decide) (Option.some.inj hv3) (by decide) rfl ?_
        refine r_goto (tgt := 2) dX8_sideAt_31 (by decide) ?_
        exact x_sub [1, 2, 0] rfl (ih st a0 a1 v3 h)
      · replace h := (if_neg c).symm.trans h
        refine x_aload_n (o := a0) dX8_sideAt_17 rfl ?_
        refine r_iload_n (x := a2) dX8_sideAt_18 rfl ?_
        obtain ⟨q5, hq5, h⟩ := xb h
        obtain ⟨v4, hv4, h⟩ := xb h
        refine z_callV (as := [.int a2]) (o := a0) (r1 := (some (.int v4))) (stk := []) (stk2 := [.int v4]) (st1 := st) (d' := 2) dX8_sideAt_19 xl_X8_32 hq5 (by decide) (Nat.le_trans xs0 (by decide)) rfl rfl (S_X8_placeOf n st a0 a2 v4 hv4) ?_
        refine r_iload_n (x := a1) dX8_sideAt_22 rfl ?_
        refine r_icmp_ne (tgt := 28) dX8_sideAt_23 (by decide) (fun c => ?_) (fun c => ?_)
        · replace h := (if_neg c).symm.trans h
          obtain ⟨v6, hv6, h⟩ := xb h
          refine x_iinc (c := (1 : Int32)) (lv' := [(2, .int v6), (0, va_rf a0), (1, .int a1)]) (x := a2) (v := v6) dX8_sideAt_28 rfl (by decide) (Option.some.inj hv6) (by decide) rfl ?_
          refine r_goto (tgt := 2) dX8_sideAt_31 (by decide) ?_
          exact x_sub [1, 2, 0] rfl (ih st a0 a1 v6 h)
        · replace h := (if_pos c).symm.trans h
          refine r_iload_n (x := a2) dX8_sideAt_26 rfl ?_
          obtain rfl := Option.some.inj h
          exact r_ireturn dX8_sideAt_27 .int rfl rfl
theorem R_X8_sideAt (n : Nat) (st : xS) (a0 : Option Nat) (a1 : Int32) (rv : Int32) (h : F_X8_sideAt n st a0 a1 = some rv) : Rn mX8_sideAt 0 [(0, va_rf a0), (1, .int a1)] [] st (some (.int rv)) st 3 := by
  unfold F_X8_sideAt at h
  refine r_iconst (v := (0 : Int32)) dX8_sideAt_0 (by decide) ?_
  refine r_istore_n (lv' := [(2, .int (0 : Int32)), (0, va_rf a0), (1, .int a1)]) (x := (0 : Int32)) dX8_sideAt_1 (by decide) rfl ?_
  exact x_sub [1, 2, 0] rfl (R_X8_sideAt_L2 n rv n st a0 a1 (0 : Int32) h)
theorem S_X8_sideAt (n : Nat) (st : xS) (a0 : Option Nat) (a1 : Int32) (rv : Int32) (h : F_X8_sideAt n st a0 a1 = some rv) : Ct mX8_sideAt [va_rf a0, .int a1] st (some (.int rv)) st 3 := by
  refine Ct.of (by decide) (by simp only [lgL_R, lgL_I, lgL_L, lgL_0]; decide) ?_
  try simp only [lvA_R]
  exact R_X8_sideAt n st a0 a1 rv h
theorem R_X9_init (n : Nat) (st : xS) (a0 : Option Nat) (st' : xS) (h : F_X9_init n st a0 = some st') : Rn mX9_init 0 [(0, va_rf a0)] [] st none st' 1 := by
  unfold F_X9_init at h
  refine x_aload_n (o := a0) dX9_init_0 rfl ?_
  obtain ⟨b1, hb1, h⟩ := xb h
  refine x_objInit (o := a0) dX9_init_1 xo_X9_3 xo_2 xo_3 (by decide) (Nat.le_trans xs0 (by decide)) hb1 ?_
  refine x_aload_n (o := a0) dX9_init_4 rfl ?_
  refine r_iconst (v := (3 : Int32)) dX9_init_5 (by decide) ?_
  obtain ⟨s2, hs2, h⟩ := xb h
  obtain ⟨o3, ho3, h⟩ := xb h
  refine x_anewarray (t := 4) (o := o3) dX9_init_6 (by decide) rfl xw_X9_9 xov_X4 (by decide) (by decide) (by decide) (Option.some.inj hs2) (Option.some.inj ho3) ?_
  obtain ⟨s4, hs4, h⟩ := xb h
  refine x_putR (o := a0) (x := o3) dX9_init_9 xp_X9_11 (Or.inr ⟨_, rfl⟩) hs4 ?_
  refine x_aload_n (o := a0) dX9_init_12 rfl ?_
  refine r_iconst (v := (3 : Int32)) dX9_init_13 (by decide) ?_
  obtain ⟨s5, hs5, h⟩ := xb h
  obtain ⟨o6, ho6, h⟩ := xb h
  refine x_anewarray (t := 5) (o := o6) dX9_init_14 (by decide) rfl xw_X9_17 xov_X3 (by decide) (by decide) (by decide) (Option.some.inj hs5) (Option.some.inj ho6) ?_
  obtain ⟨s7, hs7, h⟩ := xb h
  refine x_putR (o := a0) (x := o6) dX9_init_17 xp_X9_19 (Or.inr ⟨_, rfl⟩) hs7 ?_
  refine x_aload_n (o := a0) dX9_init_20 rfl ?_
  refine r_iconst (v := (3 : Int32)) dX9_init_21 (by decide) ?_
  obtain ⟨s8, hs8, h⟩ := xb h
  obtain ⟨o9, ho9, h⟩ := xb h
  refine x_anewarray (t := 6) (o := o9) dX9_init_22 (by decide) rfl xw_X9_23 xov_X6 (by decide) (by decide) (by decide) (Option.some.inj hs8) (Option.some.inj ho9) ?_
  obtain ⟨s10, hs10, h⟩ := xb h
  refine x_putR (o := a0) (x := o9) dX9_init_25 xp_X9_25 (Or.inr ⟨_, rfl⟩) hs10 ?_
  refine x_aload_n (o := a0) dX9_init_28 rfl ?_
  refine r_iconst (v := (4 : Int32)) dX9_init_29 (by decide) ?_
  obtain ⟨s11, hs11, h⟩ := xb h
  obtain ⟨o12, ho12, h⟩ := xb h
  refine x_newarray (t := 0) (o := o12) dX9_init_30 (by decide) rfl xar_0 (by decide) (by decide) (by decide) (Option.some.inj hs11) (Option.some.inj ho12) ?_
  obtain ⟨s13, hs13, h⟩ := xb h
  refine x_putR (o := a0) (x := o12) dX9_init_32 xp_X9_29 (Or.inr ⟨_, rfl⟩) hs13 ?_
  refine x_aload_n (o := a0) dX9_init_35 rfl ?_
  refine r_sipush (v := (800 : Int32)) dX9_init_36 (by decide) ?_
  obtain ⟨s14, hs14, h⟩ := xb h
  obtain ⟨o15, ho15, h⟩ := xb h
  refine x_newarray (t := 0) (o := o15) dX9_init_39 (by decide) rfl xar_0 (by decide) (by decide) (by decide) (Option.some.inj hs14) (Option.some.inj ho15) ?_
  obtain ⟨s16, hs16, h⟩ := xb h
  refine x_putR (o := a0) (x := o15) dX9_init_41 xp_X9_33 (Or.inr ⟨_, rfl⟩) hs16 ?_
  refine x_aload_n (o := a0) dX9_init_44 rfl ?_
  refine r_bipush (v := (16 : Int32)) dX9_init_45 (by decide) ?_
  obtain ⟨s17, hs17, h⟩ := xb h
  obtain ⟨o18, ho18, h⟩ := xb h
  refine x_newarray (t := 0) (o := o18) dX9_init_47 (by decide) rfl xar_0 (by decide) (by decide) (by decide) (Option.some.inj hs17) (Option.some.inj ho18) ?_
  obtain ⟨s19, hs19, h⟩ := xb h
  refine x_putR (o := a0) (x := o18) dX9_init_49 xp_X9_36 (Or.inr ⟨_, rfl⟩) hs19 ?_
  refine x_aload_n (o := a0) dX9_init_52 rfl ?_
  refine r_bipush (v := (16 : Int32)) dX9_init_53 (by decide) ?_
  obtain ⟨s20, hs20, h⟩ := xb h
  obtain ⟨o21, ho21, h⟩ := xb h
  refine x_newarray (t := 0) (o := o21) dX9_init_55 (by decide) rfl xar_0 (by decide) (by decide) (by decide) (Option.some.inj hs20) (Option.some.inj ho21) ?_
  obtain ⟨s22, hs22, h⟩ := xb h
  refine x_putR (o := a0) (x := o21) dX9_init_57 xp_X9_39 (Or.inr ⟨_, rfl⟩) hs22 ?_
  refine x_aload_n (o := a0) dX9_init_60 rfl ?_
  refine r_sipush (v := (500 : Int32)) dX9_init_61 (by decide) ?_
  obtain ⟨s23, hs23, h⟩ := xb h
  obtain ⟨o24, ho24, h⟩ := xb h
  refine x_newarray (t := 2) (o := o24) dX9_init_64 (by decide) rfl xar_2 (by decide) (by decide) (by decide) (Option.some.inj hs23) (Option.some.inj ho24) ?_
  obtain ⟨s25, hs25, h⟩ := xb h
  refine x_putR (o := a0) (x := o24) dX9_init_66 xp_X9_42 (Or.inr ⟨_, rfl⟩) hs25 ?_
  refine x_aload_n (o := a0) dX9_init_69 rfl ?_
  refine r_iconst (v := (0 : Int32)) dX9_init_70 (by decide) ?_
  obtain ⟨s26, hs26, h⟩ := xb h
  refine x_putI (o := a0) dX9_init_71 (xp_X9_46 _) hs26 ?_
  refine x_aload_n (o := a0) dX9_init_74 rfl ?_
  refine r_iconst (v := (0 : Int32)) dX9_init_75 (by decide) ?_
  obtain ⟨s27, hs27, h⟩ := xb h
  refine x_putI (o := a0) dX9_init_76 (xp_X9_50 _) hs27 ?_
  refine x_aload_n (o := a0) dX9_init_79 rfl ?_
  refine r_iconst (v := (-1 : Int32)) dX9_init_80 (by decide) ?_
  obtain ⟨s28, hs28, h⟩ := xb h
  refine x_putI (o := a0) dX9_init_81 (xp_X9_53 _) hs28 ?_
  obtain rfl := Option.some.inj h
  exact r_return dX9_init_84 rfl
theorem S_X9_init (n : Nat) (st : xS) (a0 : Option Nat) (st' : xS) (h : F_X9_init n st a0 = some st') : Ct mX9_init [va_rf a0] st none st' 1 := by
  refine Ct.of (by decide) (by simp only [lgL_R, lgL_I, lgL_L, lgL_0]; decide) ?_
  try simp only [lvA_R]
  exact R_X9_init n st a0 st' h
theorem R_X9_howMany (n : Nat) (st : xS) (a0 : Option Nat) (a1 : Int32) (rv : Int32) (h : F_X9_howMany n st a0 a1 = some rv) : Rn mX9_howMany 0 [(0, va_rf a0), (1, .int a1)] [] st (some (.int rv)) st 1 := by
  unfold F_X9_howMany at h
  refine x_aload_n (o := a0) dX9_howMany_0 rfl ?_
  obtain ⟨v1, hv1, h⟩ := xb h
  refine x_getR (o := a0) dX9_howMany_1 xf_X9_29 hv1 ?_
  refine r_iload_n (x := a1) dX9_howMany_4 rfl ?_
  obtain ⟨v2, hv2, h⟩ := xb h
  refine z_callS (as := [va_rf v1, .int a1]) (r1 := (some (.int v2))) (stk := []) (stk2 := [.int v2]) (st1 := st) (d' := 0) dX9_howMany_5 xl_X9_56 (by decide) (Nat.le_trans xs0 (by decide)) rfl rfl (S_X10_valueAt n st v1 a1 v2 hv2) ?_
  obtain rfl := Option.some.inj h
  exact r_ireturn dX9_howMany_8 .int rfl rfl
theorem S_X9_howMany (n : Nat) (st : xS) (a0 : Option Nat) (a1 : Int32) (rv : Int32) (h : F_X9_howMany n st a0 a1 = some rv) : Ct mX9_howMany [va_rf a0, .int a1] st (some (.int rv)) st 1 := by
  refine Ct.of (by decide) (by simp only [lgL_R, lgL_I, lgL_L, lgL_0]; decide) ?_
  try simp only [lvA_R]
  exact R_X9_howMany n st a0 a1 rv h
theorem R_X9_addBytes_L3 (n : Nat) {r : Option Value} {st' : xS} : ∀ (k : Nat) (st : xS) (a0 : Option Nat) (a1 : Int32) (a2 : Int32) (q : (xS)), F_X9_addBytes_L3 n k st a0 a1 a2 = some q → Rn mX9_addBytes 48 [] [] q r st' 0 → Rn mX9_addBytes 3 [(0, va_rf a0), (1, .int a1), (2, .int a2)] [] st r st' 0 := by
  intro k
  induction k with
  | zero => intro st a0 a1 a2 q h; cases h
  | succ k ih =>
    intro st a0 a1 a2 q h J
    unfold F_X9_addBytes_L3 at h
    refine r_iload_n (x := a2) dX9_addBytes_3 rfl ?_
    refine r_if_lt (tgt := 48) dX9_addBytes_4 (by decide) (fun c => ?_) (fun c => ?_)
    · replace h := (if_pos c).symm.trans h
      obtain rfl := Option.some.inj h
      exact x_sub [] rfl J
    · replace h := (if_neg c).symm.trans h
      refine x_aload_n (o := a0) dX9_addBytes_7 rfl ?_
      obtain ⟨v1, hv1, h⟩ := xb h
      refine x_getI (o := a0) dX9_addBytes_8 xf_X9_46 hv1 ?_
      refine x_aload_n (o := a0) dX9_addBytes_11 rfl ?_
      obtain ⟨v2, hv2, h⟩ := xb h
      refine x_getR (o := a0) dX9_addBytes_12 xf_X9_42 hv2 ?_
      obtain ⟨v3, hv3, h⟩ := xb h
      refine x_alen (o := v2) dX9_addBytes_15 hv3 ?_
      refine r_icmp_ge (tgt := 48) dX9_addBytes_16 (by decide) (fun c => ?_) (fun c => ?_)
      · replace h := (if_pos c).symm.trans h
        obtain rfl := Option.some.inj h
        exact x_sub [] rfl J
      · replace h := (if_neg c).symm.trans h
        refine x_aload_n (o := a0) dX9_addBytes_19 rfl ?_
        obtain ⟨v4, hv4, h⟩ := xb h
        refine x_getR (o := a0) dX9_addBytes_20 xf_X9_42 hv4 ?_
        refine x_aload_n (o := a0) dX9_addBytes_23 rfl ?_
        obtain ⟨v5, hv5, h⟩ := xb h
        refine x_getI (o := a0) dX9_addBytes_24 xf_X9_46 hv5 ?_
        refine r_iload_n (x := a1) dX9_addBytes_27 rfl ?_
        refine r_iload_n (x := a2) dX9_addBytes_28 rfl ?_
        refine r_iushr dX9_addBytes_29 ?_
        refine r_i2b dX9_addBytes_30 ?_
        obtain ⟨s6, hs6, h⟩ := xb h
        refine x_bastore (o := v4) dX9_addBytes_31 hs6 ?_
        refine x_aload_n (o := a0) dX9_addBytes_32 rfl ?_
        refine x_dupR (o := a0) dX9_addBytes_33 ?_
        obtain ⟨v7, hv7, h⟩ := xb h
        refine x_getI (o := a0) dX9_addBytes_34 xf_X9_46 hv7 ?_
        refine r_iconst (v := (1 : Int32)) dX9_addBytes_37 (by decide) ?_
        refine r_iadd dX9_addBytes_38 ?_
        obtain ⟨s8, hs8, h⟩ := xb h
        refine x_putI (o := a0) dX9_addBytes_39 (xp_X9_46 _) hs8 ?_
        obtain ⟨v9, hv9, h⟩ := xb h
        refine x_iinc (c := (-8 : Int32)) (lv' := [(2, .int v9), (0, va_rf a0), (1, .int a1)]) (x := a2) (v := v9) dX9_addBytes_42 rfl (by decide) (Option.some.inj hv9) (by decide) rfl ?_
        refine r_goto (tgt := 3) dX9_addBytes_45 (by decide) ?_
        exact x_sub [1, 2, 0] rfl (ih s8 a0 a1 v9 q h J)
theorem R_X9_addBytes (n : Nat) (st : xS) (a0 : Option Nat) (a1 : Int32) (st' : xS) (h : F_X9_addBytes n st a0 a1 = some st') : Rn mX9_addBytes 0 [(0, va_rf a0), (1, .int a1)] [] st none st' 0 := by
  unfold F_X9_addBytes at h
  refine r_bipush (v := (24 : Int32)) dX9_addBytes_0 (by decide) ?_
  refine r_istore_n (lv' := [(2, .int (24 : Int32)), (0, va_rf a0), (1, .int a1)]) (x := (24 : Int32)) dX9_addBytes_2 (by decide) rfl ?_
  obtain ⟨q10, hq10, h⟩ := xb h
  have Jq10 : Rn mX9_addBytes 48 [] [] q10 none st' 0 := by
    obtain rfl := Option.some.inj h
    exact r_return dX9_addBytes_48 rfl
  exact x_sub [1, 2, 0] rfl (R_X9_addBytes_L3 n n st a0 a1 (24 : Int32) q10 hq10 Jq10)
theorem S_X9_addBytes (n : Nat) (st : xS) (a0 : Option Nat) (a1 : Int32) (st' : xS) (h : F_X9_addBytes n st a0 a1 = some st') : Ct mX9_addBytes [va_rf a0, .int a1] st none st' 0 := by
  refine Ct.of (by decide) (by simp only [lgL_R, lgL_I, lgL_L, lgL_0]; decide) ?_
  try simp only [lvA_R]
  exact R_X9_addBytes n st a0 a1 st' h
theorem R_X9_slotOf (n : Nat) (st : xS) (a0 : Option Nat) (a1 : Int32) (a2 : Int32) (rv : Int32) (h : F_X9_slotOf n st a0 a1 a2 = some rv) : Rn mX9_slotOf 0 [(0, va_rf a0), (1, .int a1), (2, .int a2)] [] st (some (.int rv)) st 2 := by
  unfold F_X9_slotOf at h
  refine r_iload_n (x := a1) dX9_slotOf_0 rfl ?_
  refine r_if_lt (tgt := 9) dX9_slotOf_1 (by decide) (fun c => ?_) (fun c => ?_)
  · replace h := (if_pos c).symm.trans h
    refine r_iconst (v := (-1 : Int32)) dX9_slotOf_9 (by decide) ?_
    obtain rfl := Option.some.inj h
    exact r_ireturn dX9_slotOf_10 .int rfl rfl
  · replace h := (if_neg c).symm.trans h
    refine r_iload_n (x := a1) dX9_slotOf_4 rfl ?_
    refine r_iconst (v := (2 : Int32)) dX9_slotOf_5 (by decide) ?_
    refine r_icmp_le (tgt := 11) dX9_slotOf_6 (by decide) (fun c => ?_) (fun c => ?_)
    · replace h := (if_pos c).symm.trans h
      refine x_aload_n (o := a0) dX9_slotOf_11 rfl ?_
      refine r_iload_n (x := a1) dX9_slotOf_12 rfl ?_
      obtain ⟨q2, hq2, h⟩ := xb h
      obtain ⟨v1, hv1, h⟩ := xb h
      refine z_callV (as := [.int a1]) (o := a0) (r1 := (some (.int v1))) (stk := []) (stk2 := [.int v1]) (st1 := st) (d' := 1) dX9_slotOf_13 xl_X9_60 hq2 (by decide) (Nat.le_trans xs0 (by decide)) rfl rfl (S_X9_howMany n st a0 a1 v1 hv1) ?_
      refine r_istore_n (lv' := [(3, .int v1), (0, va_rf a0), (1, .int a1), (2, .int a2)]) (x := v1) dX9_slotOf_16 (by decide) rfl ?_
      refine r_iload_n (x := a2) dX9_slotOf_17 rfl ?_
      refine r_iconst (v := (-1 : Int32)) dX9_slotOf_18 (by decide) ?_
      refine r_icmp_ne (tgt := 33) dX9_slotOf_19 (by decide) (fun c => ?_) (fun c => ?_)
      · replace h := (if_neg c).symm.trans h
        refine r_iload_n (x := a2) dX9_slotOf_33 rfl ?_
        obtain ⟨q4, hq4, h⟩ := xb h
        have Jq4 : Rn mX9_slotOf 47 [] [.int q4] st (some (.int rv)) st 2 := by
          obtain rfl := Option.some.inj h
          exact r_ireturn dX9_slotOf_47 .int rfl rfl
        refine r_if_lt (tgt := 46) dX9_slotOf_34 (by decide) (fun c => ?_) (fun c => ?_)
        · replace hq4 := (if_pos c).symm.trans hq4
          refine r_iconst (v := (-1 : Int32)) dX9_slotOf_46 (by decide) ?_
          obtain rfl := Option.some.inj hq4
          exact x_sub [] rfl Jq4
        · replace hq4 := (if_neg c).symm.trans hq4
          refine r_iload_n (x := a2) dX9_slotOf_37 rfl ?_
          refine r_iload_n (x := v1) dX9_slotOf_38 rfl ?_
          refine r_icmp_ge (tgt := 46) dX9_slotOf_39 (by decide) (fun c => ?_) (fun c => ?_)
          · replace hq4 := (if_pos c).symm.trans hq4
            refine r_iconst (v := (-1 : Int32)) dX9_slotOf_46 (by decide) ?_
            obtain rfl := Option.some.inj hq4
            exact x_sub [] rfl Jq4
          · replace hq4 := (if_neg c).symm.trans hq4
            refine r_iload_n (x := a2) dX9_slotOf_42 rfl ?_
            refine r_goto (tgt := 47) dX9_slotOf_43 (by decide) ?_
            obtain rfl := Option.some.inj hq4
            exact x_sub [] rfl Jq4
      · replace h := (if_pos c).symm.trans h
        refine r_iload_n (x := v1) dX9_slotOf_22 rfl ?_
        refine r_iconst (v := (3 : Int32)) dX9_slotOf_23 (by decide) ?_
        obtain ⟨q3, hq3, h⟩ := xb h
        have Jq3 : Rn mX9_slotOf 32 [] [.int q3] st (some (.int rv)) st 2 := by
          obtain rfl := Option.some.inj h
          exact r_ireturn dX9_slotOf_32 .int rfl rfl
        refine r_icmp_ge (tgt := 31) dX9_slotOf_24 (by decide) (fun c => ?_) (fun c => ?_)
        · replace hq3 := (if_pos c).symm.trans hq3
          refine r_iconst (v := (-1 : Int32)) dX9_slotOf_31 (by decide) ?_
          obtain rfl := Option.some.inj hq3
          exact x_sub [] rfl Jq3
        · replace hq3 := (if_neg c).symm.trans hq3
          refine r_iload_n (x := v1) dX9_slotOf_27 rfl ?_
          refine r_goto (tgt := 32) dX9_slotOf_28 (by decide) ?_
          obtain rfl := Option.some.inj hq3
          exact x_sub [] rfl Jq3
    · replace h := (if_neg c).symm.trans h
      refine r_iconst (v := (-1 : Int32)) dX9_slotOf_9 (by decide) ?_
      obtain rfl := Option.some.inj h
      exact r_ireturn dX9_slotOf_10 .int rfl rfl
theorem S_X9_slotOf (n : Nat) (st : xS) (a0 : Option Nat) (a1 : Int32) (a2 : Int32) (rv : Int32) (h : F_X9_slotOf n st a0 a1 a2 = some rv) : Ct mX9_slotOf [va_rf a0, .int a1, .int a2] st (some (.int rv)) st 2 := by
  refine Ct.of (by decide) (by simp only [lgL_R, lgL_I, lgL_L, lgL_0]; decide) ?_
  try simp only [lvA_R]
  exact R_X9_slotOf n st a0 a1 a2 rv h
theorem R_X9_grow (n : Nat) (st : xS) (a0 : Option Nat) (a1 : Int32) (a2 : Int32) (st' : xS) (h : F_X9_grow n st a0 a1 a2 = some st') : Rn mX9_grow 0 [(0, va_rf a0), (1, .int a1), (2, .int a2)] [] st none st' 2 := by
  unfold F_X9_grow at h
  refine x_aload_n (o := a0) dX9_grow_0 rfl ?_
  obtain ⟨v1, hv1, h⟩ := xb h
  refine x_getR (o := a0) dX9_grow_1 xf_X9_29 hv1 ?_
  refine r_iload_n (x := a1) dX9_grow_4 rfl ?_
  refine x_aload_n (o := a0) dX9_grow_5 rfl ?_
  refine r_iload_n (x := a1) dX9_grow_6 rfl ?_
  obtain ⟨q3, hq3, h⟩ := xb h
  obtain ⟨v2, hv2, h⟩ := xb h
  refine z_callV (as := [.int a1]) (o := a0) (r1 := (some (.int v2))) (stk := [.int a1, va_rf v1]) (stk2 := [.int v2, .int a1, va_rf v1]) (st1 := st) (d' := 1) dX9_grow_7 xl_X9_60 hq3 (by decide) (Nat.le_trans (xsI (xsA xs0)) (by decide)) rfl rfl (S_X9_howMany n st a0 a1 v2 hv2) ?_
  refine r_iload_n (x := a2) dX9_grow_10 rfl ?_
  refine r_iconst (v := (1 : Int32)) dX9_grow_11 (by decide) ?_
  refine r_iadd dX9_grow_12 ?_
  refine r_mmax dX9_grow_13 xm_X9_64 xm1_max xm2 xm3_max (by decide) (Nat.le_trans (xsI (xsA xs0)) (by decide)) ?_
  obtain ⟨s4, hs4, h⟩ := xb h
  refine z_callS (as := [va_rf v1, .int a1, .int (imax v2 (a2 + (1 : Int32)))]) (r1 := none) (stk := []) (stk2 := []) (st1 := s4) (d' := 0) dX9_grow_16 xl_X9_70 (by decide) (Nat.le_trans xs0 (by decide)) rfl rfl (S_X10_setAt n st v1 a1 (imax v2 (a2 + (1 : Int32))) s4 hs4) ?_
  obtain rfl := Option.some.inj h
  exact r_return dX9_grow_19 rfl
theorem S_X9_grow (n : Nat) (st : xS) (a0 : Option Nat) (a1 : Int32) (a2 : Int32) (st' : xS) (h : F_X9_grow n st a0 a1 a2 = some st') : Ct mX9_grow [va_rf a0, .int a1, .int a2] st none st' 2 := by
  refine Ct.of (by decide) (by simp only [lgL_R, lgL_I, lgL_L, lgL_0]; decide) ?_
  try simp only [lvA_R]
  exact R_X9_grow n st a0 a1 a2 st' h
theorem R_X9_putLeague (n : Nat) (st : xS) (a0 : Option Nat) (a1 : Int32) (a2 : Option Nat) (st' : xS) (h : F_X9_putLeague n st a0 a1 a2 = some st') : Rn mX9_putLeague 0 [(0, va_rf a0), (1, .int a1), (2, va_rf a2)] [] st none st' 3 := by
  unfold F_X9_putLeague at h
  refine r_iload_n (x := a1) dX9_putLeague_0 rfl ?_
  obtain ⟨q7, hq7, h⟩ := xb h
  have Jq7 : Rn mX9_putLeague 26 [] [] q7 none st' 3 := by
    obtain rfl := Option.some.inj h
    exact r_return dX9_putLeague_26 rfl
  refine r_if_lt (tgt := 26) dX9_putLeague_1 (by decide) (fun c => ?_) (fun c => ?_)
  · replace hq7 := (if_pos c).symm.trans hq7
    obtain rfl := Option.some.inj hq7
    exact x_sub [] rfl Jq7
  · replace hq7 := (if_neg c).symm.trans hq7
    refine r_iload_n (x := a1) dX9_putLeague_4 rfl ?_
    refine x_aload_n (o := a0) dX9_putLeague_5 rfl ?_
    obtain ⟨v1, hv1, hq7⟩ := xb hq7
    refine x_getR (o := a0) dX9_putLeague_6 xf_X9_11 hv1 ?_
    obtain ⟨v2, hv2, hq7⟩ := xb hq7
    refine x_alen (o := v1) dX9_putLeague_9 hv2 ?_
    refine r_icmp_ge (tgt := 26) dX9_putLeague_10 (by decide) (fun c => ?_) (fun c => ?_)
    · replace hq7 := (if_pos c).symm.trans hq7
      obtain rfl := Option.some.inj hq7
      exact x_sub [] rfl Jq7
    · replace hq7 := (if_neg c).symm.trans hq7
      refine x_aload_n (o := a0) dX9_putLeague_13 rfl ?_
      obtain ⟨v3, hv3, hq7⟩ := xb hq7
      refine x_getR (o := a0) dX9_putLeague_14 xf_X9_11 hv3 ?_
      refine r_iload_n (x := a1) dX9_putLeague_17 rfl ?_
      refine x_aload_n (o := a2) dX9_putLeague_18 rfl ?_
      obtain ⟨s4, hs4, hq7⟩ := xb hq7
      refine x_aastore (o := v3) (x := a2) dX9_putLeague_19 hs4 ?_
      refine x_aload_n (o := a0) dX9_putLeague_20 rfl ?_
      refine r_iconst (v := (0 : Int32)) dX9_putLeague_21 (by decide) ?_
      refine r_iload_n (x := a1) dX9_putLeague_22 rfl ?_
      obtain ⟨q6, hq6, hq7⟩ := xb hq7
      obtain ⟨s5, hs5, hq7⟩ := xb hq7
      refine z_callV (as := [.int (0 : Int32), .int a1]) (o := a0) (r1 := none) (stk := []) (stk2 := []) (st1 := s5) (d' := 2) dX9_putLeague_23 xl_X9_74 hq6 (by decide) (Nat.le_trans xs0 (by decide)) rfl rfl (S_X9_grow n s4 a0 (0 : Int32) a1 s5 hs5) ?_
      obtain rfl := Option.some.inj hq7
      exact x_sub [] rfl Jq7
theorem S_X9_putLeague (n : Nat) (st : xS) (a0 : Option Nat) (a1 : Int32) (a2 : Option Nat) (st' : xS) (h : F_X9_putLeague n st a0 a1 a2 = some st') : Ct mX9_putLeague [va_rf a0, .int a1, va_rf a2] st none st' 3 := by
  refine Ct.of (by decide) (by simp only [lgL_R, lgL_I, lgL_L, lgL_0]; decide) ?_
  try simp only [lvA_R]
  exact R_X9_putLeague n st a0 a1 a2 st' h
theorem R_X9_putLaw (n : Nat) (st : xS) (a0 : Option Nat) (a1 : Int32) (a2 : Option Nat) (st' : xS) (h : F_X9_putLaw n st a0 a1 a2 = some st') : Rn mX9_putLaw 0 [(0, va_rf a0), (1, .int a1), (2, va_rf a2)] [] st none st' 3 := by
  unfold F_X9_putLaw at h
  refine r_iload_n (x := a1) dX9_putLaw_0 rfl ?_
  obtain ⟨q7, hq7, h⟩ := xb h
  have Jq7 : Rn mX9_putLaw 26 [] [] q7 none st' 3 := by
    obtain rfl := Option.some.inj h
    exact r_return dX9_putLaw_26 rfl
  refine r_if_lt (tgt := 26) dX9_putLaw_1 (by decide) (fun c => ?_) (fun c => ?_)
  · replace hq7 := (if_pos c).symm.trans hq7
    obtain rfl := Option.some.inj hq7
    exact x_sub [] rfl Jq7
  · replace hq7 := (if_neg c).symm.trans hq7
    refine r_iload_n (x := a1) dX9_putLaw_4 rfl ?_
    refine x_aload_n (o := a0) dX9_putLaw_5 rfl ?_
    obtain ⟨v1, hv1, hq7⟩ := xb hq7
    refine x_getR (o := a0) dX9_putLaw_6 xf_X9_19 hv1 ?_
    obtain ⟨v2, hv2, hq7⟩ := xb hq7
    refine x_alen (o := v1) dX9_putLaw_9 hv2 ?_
    refine r_icmp_ge (tgt := 26) dX9_putLaw_10 (by decide) (fun c => ?_) (fun c => ?_)
    · replace hq7 := (if_pos c).symm.trans hq7
      obtain rfl := Option.some.inj hq7
      exact x_sub [] rfl Jq7
    · replace hq7 := (if_neg c).symm.trans hq7
      refine x_aload_n (o := a0) dX9_putLaw_13 rfl ?_
      obtain ⟨v3, hv3, hq7⟩ := xb hq7
      refine x_getR (o := a0) dX9_putLaw_14 xf_X9_19 hv3 ?_
      refine r_iload_n (x := a1) dX9_putLaw_17 rfl ?_
      refine x_aload_n (o := a2) dX9_putLaw_18 rfl ?_
      obtain ⟨s4, hs4, hq7⟩ := xb hq7
      refine x_aastore (o := v3) (x := a2) dX9_putLaw_19 hs4 ?_
      refine x_aload_n (o := a0) dX9_putLaw_20 rfl ?_
      refine r_iconst (v := (1 : Int32)) dX9_putLaw_21 (by decide) ?_
      refine r_iload_n (x := a1) dX9_putLaw_22 rfl ?_
      obtain ⟨q6, hq6, hq7⟩ := xb hq7
      obtain ⟨s5, hs5, hq7⟩ := xb hq7
      refine z_callV (as := [.int (1 : Int32), .int a1]) (o := a0) (r1 := none) (stk := []) (stk2 := []) (st1 := s5) (d' := 2) dX9_putLaw_23 xl_X9_74 hq6 (by decide) (Nat.le_trans xs0 (by decide)) rfl rfl (S_X9_grow n s4 a0 (1 : Int32) a1 s5 hs5) ?_
      obtain rfl := Option.some.inj hq7
      exact x_sub [] rfl Jq7
theorem S_X9_putLaw (n : Nat) (st : xS) (a0 : Option Nat) (a1 : Int32) (a2 : Option Nat) (st' : xS) (h : F_X9_putLaw n st a0 a1 a2 = some st') : Ct mX9_putLaw [va_rf a0, .int a1, va_rf a2] st none st' 3 := by
  refine Ct.of (by decide) (by simp only [lgL_R, lgL_I, lgL_L, lgL_0]; decide) ?_
  try simp only [lvA_R]
  exact R_X9_putLaw n st a0 a1 a2 st' h
theorem R_X9_putPlan (n : Nat) (st : xS) (a0 : Option Nat) (a1 : Int32) (a2 : Option Nat) (st' : xS) (h : F_X9_putPlan n st a0 a1 a2 = some st') : Rn mX9_putPlan 0 [(0, va_rf a0), (1, .int a1), (2, va_rf a2)] [] st none st' 3 := by
  unfold F_X9_putPlan at h
  refine r_iload_n (x := a1) dX9_putPlan_0 rfl ?_
  obtain ⟨q7, hq7, h⟩ := xb h
  have Jq7 : Rn mX9_putPlan 26 [] [] q7 none st' 3 := by
    obtain rfl := Option.some.inj h
    exact r_return dX9_putPlan_26 rfl
  refine r_if_lt (tgt := 26) dX9_putPlan_1 (by decide) (fun c => ?_) (fun c => ?_)
  · replace hq7 := (if_pos c).symm.trans hq7
    obtain rfl := Option.some.inj hq7
    exact x_sub [] rfl Jq7
  · replace hq7 := (if_neg c).symm.trans hq7
    refine r_iload_n (x := a1) dX9_putPlan_4 rfl ?_
    refine x_aload_n (o := a0) dX9_putPlan_5 rfl ?_
    obtain ⟨v1, hv1, hq7⟩ := xb hq7
    refine x_getR (o := a0) dX9_putPlan_6 xf_X9_25 hv1 ?_
    obtain ⟨v2, hv2, hq7⟩ := xb hq7
    refine x_alen (o := v1) dX9_putPlan_9 hv2 ?_
    refine r_icmp_ge (tgt := 26) dX9_putPlan_10 (by decide) (fun c => ?_) (fun c => ?_)
    · replace hq7 := (if_pos c).symm.trans hq7
      obtain rfl := Option.some.inj hq7
      exact x_sub [] rfl Jq7
    · replace hq7 := (if_neg c).symm.trans hq7
      refine x_aload_n (o := a0) dX9_putPlan_13 rfl ?_
      obtain ⟨v3, hv3, hq7⟩ := xb hq7
      refine x_getR (o := a0) dX9_putPlan_14 xf_X9_25 hv3 ?_
      refine r_iload_n (x := a1) dX9_putPlan_17 rfl ?_
      refine x_aload_n (o := a2) dX9_putPlan_18 rfl ?_
      obtain ⟨s4, hs4, hq7⟩ := xb hq7
      refine x_aastore (o := v3) (x := a2) dX9_putPlan_19 hs4 ?_
      refine x_aload_n (o := a0) dX9_putPlan_20 rfl ?_
      refine r_iconst (v := (2 : Int32)) dX9_putPlan_21 (by decide) ?_
      refine r_iload_n (x := a1) dX9_putPlan_22 rfl ?_
      obtain ⟨q6, hq6, hq7⟩ := xb hq7
      obtain ⟨s5, hs5, hq7⟩ := xb hq7
      refine z_callV (as := [.int (2 : Int32), .int a1]) (o := a0) (r1 := none) (stk := []) (stk2 := []) (st1 := s5) (d' := 2) dX9_putPlan_23 xl_X9_74 hq6 (by decide) (Nat.le_trans xs0 (by decide)) rfl rfl (S_X9_grow n s4 a0 (2 : Int32) a1 s5 hs5) ?_
      obtain rfl := Option.some.inj hq7
      exact x_sub [] rfl Jq7
theorem S_X9_putPlan (n : Nat) (st : xS) (a0 : Option Nat) (a1 : Int32) (a2 : Option Nat) (st' : xS) (h : F_X9_putPlan n st a0 a1 a2 = some st') : Ct mX9_putPlan [va_rf a0, .int a1, va_rf a2] st none st' 3 := by
  refine Ct.of (by decide) (by simp only [lgL_R, lgL_I, lgL_L, lgL_0]; decide) ?_
  try simp only [lvA_R]
  exact R_X9_putPlan n st a0 a1 a2 st' h
theorem R_X9_newNote (n : Nat) (st : xS) (a0 : Option Nat) (rv : Int32) (st' : xS) (h : F_X9_newNote n st a0 = some (rv, st')) : Rn mX9_newNote 0 [(0, va_rf a0)] [] st (some (.int rv)) st' 2 := by
  unfold F_X9_newNote at h
  refine x_aload_n (o := a0) dX9_newNote_0 rfl ?_
  refine r_iconst (v := (3 : Int32)) dX9_newNote_1 (by decide) ?_
  obtain ⟨q2, hq2, h⟩ := xb h
  obtain ⟨v1, hv1, h⟩ := xb h
  refine z_callV (as := [.int (3 : Int32)]) (o := a0) (r1 := (some (.int v1))) (stk := []) (stk2 := [.int v1]) (st1 := st) (d' := 1) dX9_newNote_2 xl_X9_60 hq2 (by decide) (Nat.le_trans xs0 (by decide)) rfl rfl (S_X9_howMany n st a0 (3 : Int32) v1 hv1) ?_
  refine r_istore_n (lv' := [(1, .int v1), (0, va_rf a0)]) (x := v1) dX9_newNote_5 (by decide) (congrArg (List.cons _) (xfY (xk1 0 1 _) rfl)) ?_
  refine x_aload_n (o := a0) dX9_newNote_6 rfl ?_
  obtain ⟨v3, hv3, h⟩ := xb h
  refine x_getR (o := a0) dX9_newNote_7 xf_X9_29 hv3 ?_
  refine r_iconst (v := (3 : Int32)) dX9_newNote_10 (by decide) ?_
  refine r_iload_n (x := v1) dX9_newNote_11 rfl ?_
  refine r_iconst (v := (1 : Int32)) dX9_newNote_12 (by decide) ?_
  refine r_iadd dX9_newNote_13 ?_
  obtain ⟨s4, hs4, h⟩ := xb h
  refine z_callS (as := [va_rf v3, .int (3 : Int32), .int (v1 + (1 : Int32))]) (r1 := none) (stk := []) (stk2 := []) (st1 := s4) (d' := 0) dX9_newNote_14 xl_X9_70 (by decide) (Nat.le_trans xs0 (by decide)) rfl rfl (S_X10_setAt n st v3 (3 : Int32) (v1 + (1 : Int32)) s4 hs4) ?_
  refine r_iload_n (x := v1) dX9_newNote_17 rfl ?_
  obtain ⟨rfl, rfl⟩ := Prod.mk.inj (Option.some.inj h)
  exact r_ireturn dX9_newNote_18 .int rfl rfl
theorem S_X9_newNote (n : Nat) (st : xS) (a0 : Option Nat) (rv : Int32) (st' : xS) (h : F_X9_newNote n st a0 = some (rv, st')) : Ct mX9_newNote [va_rf a0] st (some (.int rv)) st' 2 := by
  refine Ct.of (by decide) (by simp only [lgL_R, lgL_I, lgL_L, lgL_0]; decide) ?_
  try simp only [lvA_R]
  exact R_X9_newNote n st a0 rv st' h
theorem R_X9_setNote (n : Nat) (st : xS) (a0 : Option Nat) (a1 : Int32) (a2 : Int32) (a3 : Int32) (st' : xS) (h : F_X9_setNote n st a0 a1 a2 a3 = some st') : Rn mX9_setNote 0 [(0, va_rf a0), (1, .int a1), (2, .int a2), (3, .int a3)] [] st none st' 1 := by
  unfold F_X9_setNote at h
  refine x_aload_n (o := a0) dX9_setNote_0 rfl ?_
  obtain ⟨v1, hv1, h⟩ := xb h
  refine x_getR (o := a0) dX9_setNote_1 xf_X9_33 hv1 ?_
  refine r_bipush (v := (10 : Int32)) dX9_setNote_4 (by decide) ?_
  refine r_iload_n (x := a1) dX9_setNote_6 rfl ?_
  refine r_imul dX9_setNote_7 ?_
  refine r_iload_n (x := a2) dX9_setNote_8 rfl ?_
  refine r_iadd dX9_setNote_9 ?_
  refine r_iload_n (x := a3) dX9_setNote_10 rfl ?_
  obtain ⟨s2, hs2, h⟩ := xb h
  refine z_callS (as := [va_rf v1, .int (((10 : Int32) * a1) + a2), .int a3]) (r1 := none) (stk := []) (stk2 := []) (st1 := s2) (d' := 0) dX9_setNote_11 xl_X9_70 (by decide) (Nat.le_trans xs0 (by decide)) rfl rfl (S_X10_setAt n st v1 (((10 : Int32) * a1) + a2) a3 s2 hs2) ?_
  obtain rfl := Option.some.inj h
  exact r_return dX9_setNote_14 rfl
theorem S_X9_setNote (n : Nat) (st : xS) (a0 : Option Nat) (a1 : Int32) (a2 : Int32) (a3 : Int32) (st' : xS) (h : F_X9_setNote n st a0 a1 a2 a3 = some st') : Ct mX9_setNote [va_rf a0, .int a1, .int a2, .int a3] st none st' 1 := by
  refine Ct.of (by decide) (by simp only [lgL_R, lgL_I, lgL_L, lgL_0]; decide) ?_
  try simp only [lvA_R]
  exact R_X9_setNote n st a0 a1 a2 a3 st' h
theorem R_X9_noteOf (n : Nat) (st : xS) (a0 : Option Nat) (a1 : Int32) (a2 : Int32) (rv : Int32) (h : F_X9_noteOf n st a0 a1 a2 = some rv) : Rn mX9_noteOf 0 [(0, va_rf a0), (1, .int a1), (2, .int a2)] [] st (some (.int rv)) st 1 := by
  unfold F_X9_noteOf at h
  refine x_aload_n (o := a0) dX9_noteOf_0 rfl ?_
  obtain ⟨v1, hv1, h⟩ := xb h
  refine x_getR (o := a0) dX9_noteOf_1 xf_X9_33 hv1 ?_
  refine r_bipush (v := (10 : Int32)) dX9_noteOf_4 (by decide) ?_
  refine r_iload_n (x := a1) dX9_noteOf_6 rfl ?_
  refine r_imul dX9_noteOf_7 ?_
  refine r_iload_n (x := a2) dX9_noteOf_8 rfl ?_
  refine r_iadd dX9_noteOf_9 ?_
  obtain ⟨v2, hv2, h⟩ := xb h
  refine z_callS (as := [va_rf v1, .int (((10 : Int32) * a1) + a2)]) (r1 := (some (.int v2))) (stk := []) (stk2 := [.int v2]) (st1 := st) (d' := 0) dX9_noteOf_10 xl_X9_56 (by decide) (Nat.le_trans xs0 (by decide)) rfl rfl (S_X10_valueAt n st v1 (((10 : Int32) * a1) + a2) v2 hv2) ?_
  obtain rfl := Option.some.inj h
  exact r_ireturn dX9_noteOf_13 .int rfl rfl
theorem S_X9_noteOf (n : Nat) (st : xS) (a0 : Option Nat) (a1 : Int32) (a2 : Int32) (rv : Int32) (h : F_X9_noteOf n st a0 a1 a2 = some rv) : Ct mX9_noteOf [va_rf a0, .int a1, .int a2] st (some (.int rv)) st 1 := by
  refine Ct.of (by decide) (by simp only [lgL_R, lgL_I, lgL_L, lgL_0]; decide) ?_
  try simp only [lvA_R]
  exact R_X9_noteOf n st a0 a1 a2 rv h
theorem R_X9_filmOf (n : Nat) (st : xS) (a0 : Option Nat) (a1 : Int32) (a2 : Int32) (rv : Int32) (h : F_X9_filmOf n st a0 a1 a2 = some rv) : Rn mX9_filmOf 0 [(0, va_rf a0), (1, .int a1), (2, .int a2)] [] st (some (.int rv)) st 0 := by
  unfold F_X9_filmOf at h
  refine r_iconst (v := (2 : Int32)) dX9_filmOf_0 (by decide) ?_
  refine r_iload_n (x := a1) dX9_filmOf_1 rfl ?_
  refine r_imul dX9_filmOf_2 ?_
  refine r_iload_n (x := a2) dX9_filmOf_3 rfl ?_
  obtain ⟨q1, hq1, h⟩ := xb h
  have Jq1 : Rn mX9_filmOf 12 [] [.int q1, .int ((2 : Int32) * a1)] st (some (.int rv)) st 0 := by
    refine r_iadd dX9_filmOf_12 ?_
    obtain rfl := Option.some.inj h
    exact r_ireturn dX9_filmOf_13 .int rfl rfl
  refine r_if_eq (tgt := 11) dX9_filmOf_4 (by decide) (fun c => ?_) (fun c => ?_)
  · replace hq1 := (if_pos c).symm.trans hq1
    refine r_iconst (v := (0 : Int32)) dX9_filmOf_11 (by decide) ?_
    obtain rfl := Option.some.inj hq1
    exact x_sub [] rfl Jq1
  · replace hq1 := (if_neg c).symm.trans hq1
    refine r_iconst (v := (1 : Int32)) dX9_filmOf_7 (by decide) ?_
    refine r_goto (tgt := 12) dX9_filmOf_8 (by decide) ?_
    obtain rfl := Option.some.inj hq1
    exact x_sub [] rfl Jq1
theorem S_X9_filmOf (n : Nat) (st : xS) (a0 : Option Nat) (a1 : Int32) (a2 : Int32) (rv : Int32) (h : F_X9_filmOf n st a0 a1 a2 = some rv) : Ct mX9_filmOf [va_rf a0, .int a1, .int a2] st (some (.int rv)) st 0 := by
  refine Ct.of (by decide) (by simp only [lgL_R, lgL_I, lgL_L, lgL_0]; decide) ?_
  try simp only [lvA_R]
  exact R_X9_filmOf n st a0 a1 a2 rv h
theorem R_X9_setFilms (n : Nat) (st : xS) (a0 : Option Nat) (a1 : Int32) (a2 : Int32) (a3 : Int32) (a4 : Int32) (st' : xS) (h : F_X9_setFilms n st a0 a1 a2 a3 a4 = some st') : Rn mX9_setFilms 0 [(0, va_rf a0), (1, .int a1), (2, .int a2), (3, .int a3), (4, .int a4)] [] st none st' 1 := by
  unfold F_X9_setFilms at h
  refine x_aload_n (o := a0) dX9_setFilms_0 rfl ?_
  obtain ⟨v1, hv1, h⟩ := xb h
  refine x_getR (o := a0) dX9_setFilms_1 xf_X9_36 hv1 ?_
  refine x_aload_n (o := a0) dX9_setFilms_4 rfl ?_
  refine r_iload_n (x := a1) dX9_setFilms_5 rfl ?_
  refine r_iload_n (x := a2) dX9_setFilms_6 rfl ?_
  obtain ⟨q3, hq3, h⟩ := xb h
  obtain ⟨v2, hv2, h⟩ := xb h
  refine z_callV (as := [.int a1, .int a2]) (o := a0) (r1 := (some (.int v2))) (stk := [va_rf v1]) (stk2 := [.int v2, va_rf v1]) (st1 := st) (d' := 0) dX9_setFilms_7 xl_X9_78 hq3 (by decide) (Nat.le_trans (xsA xs0) (by decide)) rfl rfl (S_X9_filmOf n st a0 a1 a2 v2 hv2) ?_
  refine r_iload_n (x := a3) dX9_setFilms_10 rfl ?_
  obtain ⟨s4, hs4, h⟩ := xb h
  refine z_callS (as := [va_rf v1, .int v2, .int a3]) (r1 := none) (stk := []) (stk2 := []) (st1 := s4) (d' := 0) dX9_setFilms_11 xl_X9_70 (by decide) (Nat.le_trans xs0 (by decide)) rfl rfl (S_X10_setAt n st v1 v2 a3 s4 hs4) ?_
  refine x_aload_n (o := a0) dX9_setFilms_14 rfl ?_
  obtain ⟨v5, hv5, h⟩ := xb h
  refine x_getR (o := a0) dX9_setFilms_15 xf_X9_39 hv5 ?_
  refine x_aload_n (o := a0) dX9_setFilms_18 rfl ?_
  refine r_iload_n (x := a1) dX9_setFilms_19 rfl ?_
  refine r_iload_n (x := a2) dX9_setFilms_20 rfl ?_
  obtain ⟨q7, hq7, h⟩ := xb h
  obtain ⟨v6, hv6, h⟩ := xb h
  refine z_callV (as := [.int a1, .int a2]) (o := a0) (r1 := (some (.int v6))) (stk := [va_rf v5]) (stk2 := [.int v6, va_rf v5]) (st1 := s4) (d' := 0) dX9_setFilms_21 xl_X9_78 hq7 (by decide) (Nat.le_trans (xsA xs0) (by decide)) rfl rfl (S_X9_filmOf n s4 a0 a1 a2 v6 hv6) ?_
  refine r_iload (x := a4) dX9_setFilms_24 rfl ?_
  obtain ⟨s8, hs8, h⟩ := xb h
  refine z_callS (as := [va_rf v5, .int v6, .int a4]) (r1 := none) (stk := []) (stk2 := []) (st1 := s8) (d' := 0) dX9_setFilms_26 xl_X9_70 (by decide) (Nat.le_trans xs0 (by decide)) rfl rfl (S_X10_setAt n s4 v5 v6 a4 s8 hs8) ?_
  obtain rfl := Option.some.inj h
  exact r_return dX9_setFilms_29 rfl
theorem S_X9_setFilms (n : Nat) (st : xS) (a0 : Option Nat) (a1 : Int32) (a2 : Int32) (a3 : Int32) (a4 : Int32) (st' : xS) (h : F_X9_setFilms n st a0 a1 a2 a3 a4 = some st') : Ct mX9_setFilms [va_rf a0, .int a1, .int a2, .int a3, .int a4] st none st' 1 := by
  refine Ct.of (by decide) (by simp only [lgL_R, lgL_I, lgL_L, lgL_0]; decide) ?_
  try simp only [lvA_R]
  exact R_X9_setFilms n st a0 a1 a2 a3 a4 st' h
theorem R_X9_shownBy (n : Nat) (st : xS) (a0 : Option Nat) (a1 : Int32) (a2 : Int32) (rv : Int32) (h : F_X9_shownBy n st a0 a1 a2 = some rv) : Rn mX9_shownBy 0 [(0, va_rf a0), (1, .int a1), (2, .int a2)] [] st (some (.int rv)) st 1 := by
  unfold F_X9_shownBy at h
  refine x_aload_n (o := a0) dX9_shownBy_0 rfl ?_
  obtain ⟨v1, hv1, h⟩ := xb h
  refine x_getR (o := a0) dX9_shownBy_1 xf_X9_36 hv1 ?_
  refine x_aload_n (o := a0) dX9_shownBy_4 rfl ?_
  refine r_iload_n (x := a1) dX9_shownBy_5 rfl ?_
  refine r_iload_n (x := a2) dX9_shownBy_6 rfl ?_
  obtain ⟨q3, hq3, h⟩ := xb h
  obtain ⟨v2, hv2, h⟩ := xb h
  refine z_callV (as := [.int a1, .int a2]) (o := a0) (r1 := (some (.int v2))) (stk := [va_rf v1]) (stk2 := [.int v2, va_rf v1]) (st1 := st) (d' := 0) dX9_shownBy_7 xl_X9_78 hq3 (by decide) (Nat.le_trans (xsA xs0) (by decide)) rfl rfl (S_X9_filmOf n st a0 a1 a2 v2 hv2) ?_
  obtain ⟨v4, hv4, h⟩ := xb h
  refine z_callS (as := [va_rf v1, .int v2]) (r1 := (some (.int v4))) (stk := []) (stk2 := [.int v4]) (st1 := st) (d' := 0) dX9_shownBy_10 xl_X9_56 (by decide) (Nat.le_trans xs0 (by decide)) rfl rfl (S_X10_valueAt n st v1 v2 v4 hv4) ?_
  obtain rfl := Option.some.inj h
  exact r_ireturn dX9_shownBy_13 .int rfl rfl
theorem S_X9_shownBy (n : Nat) (st : xS) (a0 : Option Nat) (a1 : Int32) (a2 : Int32) (rv : Int32) (h : F_X9_shownBy n st a0 a1 a2 = some rv) : Ct mX9_shownBy [va_rf a0, .int a1, .int a2] st (some (.int rv)) st 1 := by
  refine Ct.of (by decide) (by simp only [lgL_R, lgL_I, lgL_L, lgL_0]; decide) ?_
  try simp only [lvA_R]
  exact R_X9_shownBy n st a0 a1 a2 rv h
theorem R_X9_gaveBy (n : Nat) (st : xS) (a0 : Option Nat) (a1 : Int32) (a2 : Int32) (rv : Int32) (h : F_X9_gaveBy n st a0 a1 a2 = some rv) : Rn mX9_gaveBy 0 [(0, va_rf a0), (1, .int a1), (2, .int a2)] [] st (some (.int rv)) st 1 := by
  unfold F_X9_gaveBy at h
  refine x_aload_n (o := a0) dX9_gaveBy_0 rfl ?_
  obtain ⟨v1, hv1, h⟩ := xb h
  refine x_getR (o := a0) dX9_gaveBy_1 xf_X9_39 hv1 ?_
  refine x_aload_n (o := a0) dX9_gaveBy_4 rfl ?_
  refine r_iload_n (x := a1) dX9_gaveBy_5 rfl ?_
  refine r_iload_n (x := a2) dX9_gaveBy_6 rfl ?_
  obtain ⟨q3, hq3, h⟩ := xb h
  obtain ⟨v2, hv2, h⟩ := xb h
  refine z_callV (as := [.int a1, .int a2]) (o := a0) (r1 := (some (.int v2))) (stk := [va_rf v1]) (stk2 := [.int v2, va_rf v1]) (st1 := st) (d' := 0) dX9_gaveBy_7 xl_X9_78 hq3 (by decide) (Nat.le_trans (xsA xs0) (by decide)) rfl rfl (S_X9_filmOf n st a0 a1 a2 v2 hv2) ?_
  obtain ⟨v4, hv4, h⟩ := xb h
  refine z_callS (as := [va_rf v1, .int v2]) (r1 := (some (.int v4))) (stk := []) (stk2 := [.int v4]) (st1 := st) (d' := 0) dX9_gaveBy_10 xl_X9_56 (by decide) (Nat.le_trans xs0 (by decide)) rfl rfl (S_X10_valueAt n st v1 v2 v4 hv4) ?_
  obtain rfl := Option.some.inj h
  exact r_ireturn dX9_gaveBy_13 .int rfl rfl
theorem S_X9_gaveBy (n : Nat) (st : xS) (a0 : Option Nat) (a1 : Int32) (a2 : Int32) (rv : Int32) (h : F_X9_gaveBy n st a0 a1 a2 = some rv) : Ct mX9_gaveBy [va_rf a0, .int a1, .int a2] st (some (.int rv)) st 1 := by
  refine Ct.of (by decide) (by simp only [lgL_R, lgL_I, lgL_L, lgL_0]; decide) ?_
  try simp only [lvA_R]
  exact R_X9_gaveBy n st a0 a1 a2 rv h
theorem R_X9_become_L2 (n : Nat) {r : Option Value} {st' : xS} : ∀ (k : Nat) (st : xS) (a0 : Option Nat) (a1 : Option Nat) (a2 : Int32) (q : (xS)), F_X9_become_L2 n k st a0 a1 a2 = some q → Rn mX9_become 49 [(0, va_rf a0), (1, va_rf a1)] [] q r st' 1 → Rn mX9_become 2 [(0, va_rf a0), (1, va_rf a1), (2, .int a2)] [] st r st' 1 := by
  intro k
  induction k with
  | zero => intro st a0 a1 a2 q h; cases h
  | succ k ih =>
    intro st a0 a1 a2 q h J
    unfold F_X9_become_L2 at h
    refine r_iload_n (x := a2) dX9_become_2 rfl ?_
    refine r_iconst (v := (3 : Int32)) dX9_become_3 (by decide) ?_
    refine r_icmp_ge (tgt := 49) dX9_become_4 (by decide) (fun c => ?_) (fun c => ?_)
    · replace h := (if_pos c).symm.trans h
      obtain rfl := Option.some.inj h
      exact x_sub [0, 1] rfl J
    · replace h := (if_neg c).symm.trans h
      refine x_aload_n (o := a0) dX9_become_7 rfl ?_
      obtain ⟨v1, hv1, h⟩ := xb h
      refine x_getR (o := a0) dX9_become_8 xf_X9_11 hv1 ?_
      refine r_iload_n (x := a2) dX9_become_11 rfl ?_
      refine x_aload_n (o := a1) dX9_become_12 rfl ?_
      obtain ⟨v2, hv2, h⟩ := xb h
      refine x_getR (o := a1) dX9_become_13 xf_X9_11 hv2 ?_
      refine r_iload_n (x := a2) dX9_become_16 rfl ?_
      obtain ⟨v3, hv3, h⟩ := xb h
      refine x_aaload (o := v2) dX9_become_17 hv3 ?_
      obtain ⟨s4, hs4, h⟩ := xb h
      refine x_aastore (o := v1) (x := v3) dX9_become_18 hs4 ?_
      refine x_aload_n (o := a0) dX9_become_19 rfl ?_
      obtain ⟨v5, hv5, h⟩ := xb h
      refine x_getR (o := a0) dX9_become_20 xf_X9_19 hv5 ?_
      refine r_iload_n (x := a2) dX9_become_23 rfl ?_
      refine x_aload_n (o := a1) dX9_become_24 rfl ?_
      obtain ⟨v6, hv6, h⟩ := xb h
      refine x_getR (o := a1) dX9_become_25 xf_X9_19 hv6 ?_
      refine r_iload_n (x := a2) dX9_become_28 rfl ?_
      obtain ⟨v7, hv7, h⟩ := xb h
      refine x_aaload (o := v6) dX9_become_29 hv7 ?_
      obtain ⟨s8, hs8, h⟩ := xb h
      refine x_aastore (o := v5) (x := v7) dX9_become_30 hs8 ?_
      refine x_aload_n (o := a0) dX9_become_31 rfl ?_
      obtain ⟨v9, hv9, h⟩ := xb h
      refine x_getR (o := a0) dX9_become_32 xf_X9_25 hv9 ?_
      refine r_iload_n (x := a2) dX9_become_35 rfl ?_
      refine x_aload_n (o := a1) dX9_become_36 rfl ?_
      obtain ⟨v10, hv10, h⟩ := xb h
      refine x_getR (o := a1) dX9_become_37 xf_X9_25 hv10 ?_
      refine r_iload_n (x := a2) dX9_become_40 rfl ?_
      obtain ⟨v11, hv11, h⟩ := xb h
      refine x_aaload (o := v10) dX9_become_41 hv11 ?_
      obtain ⟨s12, hs12, h⟩ := xb h
      refine x_aastore (o := v9) (x := v11) dX9_become_42 hs12 ?_
      obtain ⟨v13, hv13, h⟩ := xb h
      refine x_iinc (c := (1 : Int32)) (lv' := [(2, .int v13), (0, va_rf a0), (1, va_rf a1)]) (x := a2) (v := v13) dX9_become_43 rfl (by decide) (Option.some.inj hv13) (by decide) (congrArg (List.cons _) (xfY rfl (xfY (xk1 1 2 _) (xfN rfl rfl)))) ?_
      refine r_goto (tgt := 2) dX9_become_46 (by decide) ?_
      exact x_sub [1, 2, 0] rfl (ih s12 a0 a1 v13 q h J)
theorem R_X9_become (n : Nat) (st : xS) (a0 : Option Nat) (a1 : Option Nat) (st' : xS) (h : F_X9_become n st a0 a1 = some st') : Rn mX9_become 0 [(0, va_rf a0), (1, va_rf a1)] [] st none st' 1 := by
  unfold F_X9_become at h
  refine r_iconst (v := (0 : Int32)) dX9_become_0 (by decide) ?_
  refine r_istore_n (lv' := [(2, .int (0 : Int32)), (0, va_rf a0), (1, va_rf a1)]) (x := (0 : Int32)) dX9_become_1 (by decide) (congrArg (List.cons _) (xfY rfl (xfY (xk1 1 2 _) rfl))) ?_
  obtain ⟨q14, hq14, h⟩ := xb h
  have Jq14 : Rn mX9_become 49 [(0, va_rf a0), (1, va_rf a1)] [] q14 none st' 1 := by
    refine x_aload_n (o := a1) dX9_become_49 rfl ?_
    obtain ⟨v15, hv15, h⟩ := xb h
    refine x_getR (o := a1) dX9_become_50 xf_X9_29 hv15 ?_
    refine r_iconst (v := (0 : Int32)) dX9_become_53 (by decide) ?_
    refine x_aload_n (o := a0) dX9_become_54 rfl ?_
    obtain ⟨v16, hv16, h⟩ := xb h
    refine x_getR (o := a0) dX9_become_55 xf_X9_29 hv16 ?_
    refine r_iconst (v := (0 : Int32)) dX9_become_58 (by decide) ?_
    refine x_aload_n (o := a0) dX9_become_59 rfl ?_
    obtain ⟨v17, hv17, h⟩ := xb h
    refine x_getR (o := a0) dX9_become_60 xf_X9_29 hv17 ?_
    obtain ⟨v18, hv18, h⟩ := xb h
    refine x_alen (o := v17) dX9_become_63 hv18 ?_
    obtain ⟨s19, hs19, h⟩ := xb h
    refine x_arraycopy (t := 0) (o0 := v15) (o := v16) dX9_become_64 xy_X9_82 xy1 xy2 xy3 (by decide) rfl (by decide) (Nat.le_trans xs0 (by decide)) hs19 ?_
    refine x_aload_n (o := a1) dX9_become_67 rfl ?_
    obtain ⟨v20, hv20, h⟩ := xb h
    refine x_getR (o := a1) dX9_become_68 xf_X9_33 hv20 ?_
    refine r_iconst (v := (0 : Int32)) dX9_become_71 (by decide) ?_
    refine x_aload_n (o := a0) dX9_become_72 rfl ?_
    obtain ⟨v21, hv21, h⟩ := xb h
    refine x_getR (o := a0) dX9_become_73 xf_X9_33 hv21 ?_
    refine r_iconst (v := (0 : Int32)) dX9_become_76 (by decide) ?_
    refine x_aload_n (o := a0) dX9_become_77 rfl ?_
    obtain ⟨v22, hv22, h⟩ := xb h
    refine x_getR (o := a0) dX9_become_78 xf_X9_33 hv22 ?_
    obtain ⟨v23, hv23, h⟩ := xb h
    refine x_alen (o := v22) dX9_become_81 hv23 ?_
    obtain ⟨s24, hs24, h⟩ := xb h
    refine x_arraycopy (t := 0) (o0 := v20) (o := v21) dX9_become_82 xy_X9_82 xy1 xy2 xy3 (by decide) rfl (by decide) (Nat.le_trans xs0 (by decide)) hs24 ?_
    refine x_aload_n (o := a1) dX9_become_85 rfl ?_
    obtain ⟨v25, hv25, h⟩ := xb h
    refine x_getR (o := a1) dX9_become_86 xf_X9_36 hv25 ?_
    refine r_iconst (v := (0 : Int32)) dX9_become_89 (by decide) ?_
    refine x_aload_n (o := a0) dX9_become_90 rfl ?_
    obtain ⟨v26, hv26, h⟩ := xb h
    refine x_getR (o := a0) dX9_become_91 xf_X9_36 hv26 ?_
    refine r_iconst (v := (0 : Int32)) dX9_become_94 (by decide) ?_
    refine x_aload_n (o := a0) dX9_become_95 rfl ?_
    obtain ⟨v27, hv27, h⟩ := xb h
    refine x_getR (o := a0) dX9_become_96 xf_X9_36 hv27 ?_
    obtain ⟨v28, hv28, h⟩ := xb h
    refine x_alen (o := v27) dX9_become_99 hv28 ?_
    obtain ⟨s29, hs29, h⟩ := xb h
    refine x_arraycopy (t := 0) (o0 := v25) (o := v26) dX9_become_100 xy_X9_82 xy1 xy2 xy3 (by decide) rfl (by decide) (Nat.le_trans xs0 (by decide)) hs29 ?_
    refine x_aload_n (o := a1) dX9_become_103 rfl ?_
    obtain ⟨v30, hv30, h⟩ := xb h
    refine x_getR (o := a1) dX9_become_104 xf_X9_39 hv30 ?_
    refine r_iconst (v := (0 : Int32)) dX9_become_107 (by decide) ?_
    refine x_aload_n (o := a0) dX9_become_108 rfl ?_
    obtain ⟨v31, hv31, h⟩ := xb h
    refine x_getR (o := a0) dX9_become_109 xf_X9_39 hv31 ?_
    refine r_iconst (v := (0 : Int32)) dX9_become_112 (by decide) ?_
    refine x_aload_n (o := a0) dX9_become_113 rfl ?_
    obtain ⟨v32, hv32, h⟩ := xb h
    refine x_getR (o := a0) dX9_become_114 xf_X9_39 hv32 ?_
    obtain ⟨v33, hv33, h⟩ := xb h
    refine x_alen (o := v32) dX9_become_117 hv33 ?_
    obtain ⟨s34, hs34, h⟩ := xb h
    refine x_arraycopy (t := 0) (o0 := v30) (o := v31) dX9_become_118 xy_X9_82 xy1 xy2 xy3 (by decide) rfl (by decide) (Nat.le_trans xs0 (by decide)) hs34 ?_
    refine x_aload_n (o := a1) dX9_become_121 rfl ?_
    obtain ⟨v35, hv35, h⟩ := xb h
    refine x_getR (o := a1) dX9_become_122 xf_X9_42 hv35 ?_
    refine r_iconst (v := (0 : Int32)) dX9_become_125 (by decide) ?_
    refine x_aload_n (o := a0) dX9_become_126 rfl ?_
    obtain ⟨v36, hv36, h⟩ := xb h
    refine x_getR (o := a0) dX9_become_127 xf_X9_42 hv36 ?_
    refine r_iconst (v := (0 : Int32)) dX9_become_130 (by decide) ?_
    refine x_aload_n (o := a0) dX9_become_131 rfl ?_
    obtain ⟨v37, hv37, h⟩ := xb h
    refine x_getR (o := a0) dX9_become_132 xf_X9_42 hv37 ?_
    obtain ⟨v38, hv38, h⟩ := xb h
    refine x_alen (o := v37) dX9_become_135 hv38 ?_
    obtain ⟨s39, hs39, h⟩ := xb h
    refine x_arraycopy (t := 2) (o0 := v35) (o := v36) dX9_become_136 xy_X9_82 xy1 xy2 xy3 (by decide) rfl (by decide) (Nat.le_trans xs0 (by decide)) hs39 ?_
    refine x_aload_n (o := a0) dX9_become_139 rfl ?_
    refine x_aload_n (o := a1) dX9_become_140 rfl ?_
    obtain ⟨v40, hv40, h⟩ := xb h
    refine x_getI (o := a1) dX9_become_141 xf_X9_46 hv40 ?_
    obtain ⟨s41, hs41, h⟩ := xb h
    refine x_putI (o := a0) dX9_become_144 (xp_X9_46 _) hs41 ?_
    refine x_aload_n (o := a0) dX9_become_147 rfl ?_
    refine x_aload_n (o := a1) dX9_become_148 rfl ?_
    obtain ⟨v42, hv42, h⟩ := xb h
    refine x_getI (o := a1) dX9_become_149 xf_X9_50 hv42 ?_
    obtain ⟨s43, hs43, h⟩ := xb h
    refine x_putI (o := a0) dX9_become_152 (xp_X9_50 _) hs43 ?_
    refine x_aload_n (o := a0) dX9_become_155 rfl ?_
    refine x_aload_n (o := a1) dX9_become_156 rfl ?_
    obtain ⟨v44, hv44, h⟩ := xb h
    refine x_getI (o := a1) dX9_become_157 xf_X9_53 hv44 ?_
    obtain ⟨s45, hs45, h⟩ := xb h
    refine x_putI (o := a0) dX9_become_160 (xp_X9_53 _) hs45 ?_
    obtain rfl := Option.some.inj h
    exact r_return dX9_become_163 rfl
  exact x_sub [1, 2, 0] rfl (R_X9_become_L2 n n st a0 a1 (0 : Int32) q14 hq14 Jq14)
theorem S_X9_become (n : Nat) (st : xS) (a0 : Option Nat) (a1 : Option Nat) (st' : xS) (h : F_X9_become n st a0 a1 = some st') : Ct mX9_become [va_rf a0, va_rf a1] st none st' 1 := by
  refine Ct.of (by decide) (by simp only [lgL_R, lgL_I, lgL_L, lgL_0]; decide) ?_
  try simp only [lvA_R]
  exact R_X9_become n st a0 a1 st' h
theorem R_X10_init (n : Nat) (st : xS) (a0 : Option Nat) (st' : xS) (h : F_X10_init n st a0 = some st') : Rn mX10_init 0 [(0, va_rf a0)] [] st none st' 4 := by
  unfold F_X10_init at h
  refine x_aload_n (o := a0) dX10_init_0 rfl ?_
  obtain ⟨b1, hb1, h⟩ := xb h
  refine x_objInit (o := a0) dX10_init_1 xo_X10_1 xo_2 xo_3 (by decide) (Nat.le_trans xs0 (by decide)) hb1 ?_
  refine x_aload_n (o := a0) dX10_init_4 rfl ?_
  obtain ⟨s2, hs2, h⟩ := xb h
  obtain ⟨o3, ho3, h⟩ := xb h
  refine x_new (o := o3) dX10_init_5 xc_X9 tyX9 tyX9_ok xw_X10_7 xi_X9 xj_X9 xh_X9 (Option.some.inj hs2) (Option.some.inj ho3) ?_
  refine x_dupR (o := o3) dX10_init_8 ?_
  obtain ⟨b4, hb4, h⟩ := xb h
  obtain ⟨s5, hs5, h⟩ := xb h
  refine x_callI (as := []) (o := o3) (stk := [va_rf o3, va_rf a0]) (st1 := s5) (d' := 1) dX10_init_9 xl_X10_9 hb4 (by decide) (Nat.le_trans (xsA (xsA xs0)) (by decide)) rfl (S_X9_init n s2 o3  s5 hs5) ?_
  obtain ⟨s6, hs6, h⟩ := xb h
  refine x_putR (o := a0) (x := o3) dX10_init_12 xp_X10_10 (Or.inl ⟨_, rfl⟩) hs6 ?_
  refine x_aload_n (o := a0) dX10_init_15 rfl ?_
  refine r_iconst (v := (3 : Int32)) dX10_init_16 (by decide) ?_
  obtain ⟨s7, hs7, h⟩ := xb h
  obtain ⟨o8, ho8, h⟩ := xb h
  refine x_anewarray (t := 7) (o := o8) dX10_init_17 (by decide) rfl xw_X10_7 xov_X9 (by decide) (by decide) (by decide) (Option.some.inj hs7) (Option.some.inj ho8) ?_
  obtain ⟨s9, hs9, h⟩ := xb h
  refine x_putR (o := a0) (x := o8) dX10_init_20 xp_X10_16 (Or.inr ⟨_, rfl⟩) hs9 ?_
  refine x_aload_n (o := a0) dX10_init_23 rfl ?_
  obtain ⟨s10, hs10, h⟩ := xb h
  obtain ⟨o11, ho11, h⟩ := xb h
  refine x_new (o := o11) dX10_init_24 xc_X7 tyX7 tyX7_ok xw_X10_20 xi_X7 xj_X7 xh_X7 (Option.some.inj hs10) (Option.some.inj ho11) ?_
  refine x_dupR (o := o11) dX10_init_27 ?_
  obtain ⟨b12, hb12, h⟩ := xb h
  obtain ⟨s13, hs13, h⟩ := xb h
  refine x_callI (as := []) (o := o11) (stk := [va_rf o11, va_rf a0]) (st1 := s13) (d' := 1) dX10_init_28 xl_X10_22 hb12 (by decide) (Nat.le_trans (xsA (xsA xs0)) (by decide)) rfl (S_X7_init n s10 o11  s13 hs13) ?_
  obtain ⟨s14, hs14, h⟩ := xb h
  refine x_putR (o := a0) (x := o11) dX10_init_31 xp_X10_23 (Or.inl ⟨_, rfl⟩) hs14 ?_
  refine x_aload_n (o := a0) dX10_init_34 rfl ?_
  obtain ⟨s15, hs15, h⟩ := xb h
  obtain ⟨o16, ho16, h⟩ := xb h
  refine x_new (o := o16) dX10_init_35 xc_X5 tyX5 tyX5_ok xw_X10_27 xi_X5 xj_X5 xh_X5 (Option.some.inj hs15) (Option.some.inj ho16) ?_
  refine x_dupR (o := o16) dX10_init_38 ?_
  obtain ⟨b17, hb17, h⟩ := xb h
  obtain ⟨s18, hs18, h⟩ := xb h
  refine x_callI (as := []) (o := o16) (stk := [va_rf o16, va_rf a0]) (st1 := s18) (d' := 3) dX10_init_39 xl_X10_29 hb17 (by decide) (Nat.le_trans (xsA (xsA xs0)) (by decide)) rfl (S_X5_init n s15 o16  s18 hs18) ?_
  obtain ⟨s19, hs19, h⟩ := xb h
  refine x_putR (o := a0) (x := o16) dX10_init_42 xp_X10_30 (Or.inl ⟨_, rfl⟩) hs19 ?_
  refine x_aload_n (o := a0) dX10_init_45 rfl ?_
  obtain ⟨s20, hs20, h⟩ := xb h
  obtain ⟨o21, ho21, h⟩ := xb h
  refine x_new (o := o21) dX10_init_46 xc_X1 tyX1 tyX1_ok xw_X10_34 xi_X1 xj_X1 xh_X1 (Option.some.inj hs20) (Option.some.inj ho21) ?_
  refine x_dupR (o := o21) dX10_init_49 ?_
  obtain ⟨b22, hb22, h⟩ := xb h
  obtain ⟨s23, hs23, h⟩ := xb h
  refine x_callI (as := []) (o := o21) (stk := [va_rf o21, va_rf a0]) (st1 := s23) (d' := 1) dX10_init_50 xl_X10_36 hb22 (by decide) (Nat.le_trans (xsA (xsA xs0)) (by decide)) rfl (S_X1_init n s20 o21  s23 hs23) ?_
  obtain ⟨s24, hs24, h⟩ := xb h
  refine x_putR (o := a0) (x := o21) dX10_init_53 xp_X10_37 (Or.inl ⟨_, rfl⟩) hs24 ?_
  refine x_aload_n (o := a0) dX10_init_56 rfl ?_
  obtain ⟨s25, hs25, h⟩ := xb h
  obtain ⟨o26, ho26, h⟩ := xb h
  refine x_new (o := o26) dX10_init_57 xc_X8 tyX8 tyX8_ok xw_X10_41 xi_X8 xj_X8 xh_X8 (Option.some.inj hs25) (Option.some.inj ho26) ?_
  refine x_dupR (o := o26) dX10_init_60 ?_
  obtain ⟨b27, hb27, h⟩ := xb h
  obtain ⟨s28, hs28, h⟩ := xb h
  refine x_callI (as := []) (o := o26) (stk := [va_rf o26, va_rf a0]) (st1 := s28) (d' := 1) dX10_init_61 xl_X10_43 hb27 (by decide) (Nat.le_trans (xsA (xsA xs0)) (by decide)) rfl (S_X8_init n s25 o26  s28 hs28) ?_
  obtain ⟨s29, hs29, h⟩ := xb h
  refine x_putR (o := a0) (x := o26) dX10_init_64 xp_X10_44 (Or.inl ⟨_, rfl⟩) hs29 ?_
  refine x_aload_n (o := a0) dX10_init_67 rfl ?_
  refine r_bipush (v := (80 : Int32)) dX10_init_68 (by decide) ?_
  obtain ⟨s30, hs30, h⟩ := xb h
  obtain ⟨o31, ho31, h⟩ := xb h
  refine x_newarray (t := 0) (o := o31) dX10_init_70 (by decide) rfl xar_0 (by decide) (by decide) (by decide) (Option.some.inj hs30) (Option.some.inj ho31) ?_
  obtain ⟨s32, hs32, h⟩ := xb h
  refine x_putR (o := a0) (x := o31) dX10_init_72 xp_X10_48 (Or.inr ⟨_, rfl⟩) hs32 ?_
  refine x_aload_n (o := a0) dX10_init_75 rfl ?_
  refine r_bipush (v := (40 : Int32)) dX10_init_76 (by decide) ?_
  obtain ⟨s33, hs33, h⟩ := xb h
  obtain ⟨o34, ho34, h⟩ := xb h
  refine x_newarray (t := 0) (o := o34) dX10_init_78 (by decide) rfl xar_0 (by decide) (by decide) (by decide) (Option.some.inj hs33) (Option.some.inj ho34) ?_
  obtain ⟨s35, hs35, h⟩ := xb h
  refine x_putR (o := a0) (x := o34) dX10_init_80 xp_X10_52 (Or.inr ⟨_, rfl⟩) hs35 ?_
  obtain rfl := Option.some.inj h
  exact r_return dX10_init_83 rfl
theorem S_X10_init (n : Nat) (st : xS) (a0 : Option Nat) (st' : xS) (h : F_X10_init n st a0 = some st') : Ct mX10_init [va_rf a0] st none st' 4 := by
  refine Ct.of (by decide) (by simp only [lgL_R, lgL_I, lgL_L, lgL_0]; decide) ?_
  try simp only [lvA_R]
  exact R_X10_init n st a0 st' h
theorem R_X10_feed (n : Nat) (st : xS) (a0 : Option Nat) (a1 : Int32) (a2 : Int32) (a3 : Int32) (a4 : Int32) (a5 : Int32) (rv : Int32) (st' : xS) (h : F_X10_feed n st a0 a1 a2 a3 a4 a5 = some (rv, st')) : Rn mX10_feed 0 [(0, va_rf a0), (1, .int a1), (2, .int a2), (3, .int a3), (4, .int a4), (5, .int a5)] [] st (some (.int rv)) st' 1 := by
  unfold F_X10_feed at h
  refine x_aload_n (o := a0) dX10_feed_0 rfl ?_
  obtain ⟨v1, hv1, h⟩ := xb h
  refine x_getR (o := a0) dX10_feed_1 xf_X10_10 hv1 ?_
  obtain ⟨v2, hv2, h⟩ := xb h
  refine x_getI (o := v1) dX10_feed_4 xf_X10_55 hv2 ?_
  refine r_bipush (v := (20 : Int32)) dX10_feed_7 (by decide) ?_
  refine r_iadd dX10_feed_9 ?_
  refine r_sipush (v := (500 : Int32)) dX10_feed_10 (by decide) ?_
  refine r_icmp_le (tgt := 18) dX10_feed_13 (by decide) (fun c => ?_) (fun c => ?_)
  · replace h := (if_pos c).symm.trans h
    refine x_aload_n (o := a0) dX10_feed_18 rfl ?_
    obtain ⟨v3, hv3, h⟩ := xb h
    refine x_getR (o := a0) dX10_feed_19 xf_X10_10 hv3 ?_
    refine r_iload_n (x := a1) dX10_feed_22 rfl ?_
    obtain ⟨q5, hq5, h⟩ := xb h
    obtain ⟨s4, hs4, h⟩ := xb h
    refine z_callV (as := [.int a1]) (o := v3) (r1 := none) (stk := []) (stk2 := []) (st1 := s4) (d' := 0) dX10_feed_23 xl_X10_59 hq5 (by decide) (Nat.le_trans xs0 (by decide)) rfl rfl (S_X9_addBytes n st v3 a1 s4 hs4) ?_
    refine x_aload_n (o := a0) dX10_feed_26 rfl ?_
    obtain ⟨v6, hv6, h⟩ := xb h
    refine x_getR (o := a0) dX10_feed_27 xf_X10_10 hv6 ?_
    refine r_iload_n (x := a2) dX10_feed_30 rfl ?_
    obtain ⟨q8, hq8, h⟩ := xb h
    obtain ⟨s7, hs7, h⟩ := xb h
    refine z_callV (as := [.int a2]) (o := v6) (r1 := none) (stk := []) (stk2 := []) (st1 := s7) (d' := 0) dX10_feed_31 xl_X10_59 hq8 (by decide) (Nat.le_trans xs0 (by decide)) rfl rfl (S_X9_addBytes n s4 v6 a2 s7 hs7) ?_
    refine x_aload_n (o := a0) dX10_feed_34 rfl ?_
    obtain ⟨v9, hv9, h⟩ := xb h
    refine x_getR (o := a0) dX10_feed_35 xf_X10_10 hv9 ?_
    refine r_iload_n (x := a3) dX10_feed_38 rfl ?_
    obtain ⟨q11, hq11, h⟩ := xb h
    obtain ⟨s10, hs10, h⟩ := xb h
    refine z_callV (as := [.int a3]) (o := v9) (r1 := none) (stk := []) (stk2 := []) (st1 := s10) (d' := 0) dX10_feed_39 xl_X10_59 hq11 (by decide) (Nat.le_trans xs0 (by decide)) rfl rfl (S_X9_addBytes n s7 v9 a3 s10 hs10) ?_
    refine x_aload_n (o := a0) dX10_feed_42 rfl ?_
    obtain ⟨v12, hv12, h⟩ := xb h
    refine x_getR (o := a0) dX10_feed_43 xf_X10_10 hv12 ?_
    refine r_iload (x := a4) dX10_feed_46 rfl ?_
    obtain ⟨q14, hq14, h⟩ := xb h
    obtain ⟨s13, hs13, h⟩ := xb h
    refine z_callV (as := [.int a4]) (o := v12) (r1 := none) (stk := []) (stk2 := []) (st1 := s13) (d' := 0) dX10_feed_48 xl_X10_59 hq14 (by decide) (Nat.le_trans xs0 (by decide)) rfl rfl (S_X9_addBytes n s10 v12 a4 s13 hs13) ?_
    refine x_aload_n (o := a0) dX10_feed_51 rfl ?_
    obtain ⟨v15, hv15, h⟩ := xb h
    refine x_getR (o := a0) dX10_feed_52 xf_X10_10 hv15 ?_
    refine r_iload (x := a5) dX10_feed_55 rfl ?_
    obtain ⟨q17, hq17, h⟩ := xb h
    obtain ⟨s16, hs16, h⟩ := xb h
    refine z_callV (as := [.int a5]) (o := v15) (r1 := none) (stk := []) (stk2 := []) (st1 := s16) (d' := 0) dX10_feed_57 xl_X10_59 hq17 (by decide) (Nat.le_trans xs0 (by decide)) rfl rfl (S_X9_addBytes n s13 v15 a5 s16 hs16) ?_
    refine x_aload_n (o := a0) dX10_feed_60 rfl ?_
    obtain ⟨v18, hv18, h⟩ := xb h
    refine x_getR (o := a0) dX10_feed_61 xf_X10_10 hv18 ?_
    obtain ⟨v19, hv19, h⟩ := xb h
    refine x_getI (o := v18) dX10_feed_64 xf_X10_55 hv19 ?_
    obtain ⟨rfl, rfl⟩ := Prod.mk.inj (Option.some.inj h)
    exact r_ireturn dX10_feed_67 .int rfl rfl
  · replace h := (if_neg c).symm.trans h
    refine r_iconst (v := (-1 : Int32)) dX10_feed_16 (by decide) ?_
    obtain ⟨rfl, rfl⟩ := Prod.mk.inj (Option.some.inj h)
    exact r_ireturn dX10_feed_17 .int rfl rfl
theorem S_X10_feed (n : Nat) (st : xS) (a0 : Option Nat) (a1 : Int32) (a2 : Int32) (a3 : Int32) (a4 : Int32) (a5 : Int32) (rv : Int32) (st' : xS) (h : F_X10_feed n st a0 a1 a2 a3 a4 a5 = some (rv, st')) : Ct mX10_feed [va_rf a0, .int a1, .int a2, .int a3, .int a4, .int a5] st (some (.int rv)) st' 1 := by
  refine Ct.of (by decide) (by simp only [lgL_R, lgL_I, lgL_L, lgL_0]; decide) ?_
  try simp only [lvA_R]
  exact R_X10_feed n st a0 a1 a2 a3 a4 a5 rv st' h
theorem R_X10_end (n : Nat) (st : xS) (a0 : Option Nat) (a1 : Int32) (rv : Int32) (st' : xS) (h : F_X10_end n st a0 a1 = some (rv, st')) : Rn mX10_end 0 [(0, va_rf a0), (1, .int a1)] [] st (some (.int rv)) st' 0 := by
  unfold F_X10_end at h
  refine r_iload_n (x := a1) dX10_end_0 rfl ?_
  refine r_if_lt (tgt := 15) dX10_end_1 (by decide) (fun c => ?_) (fun c => ?_)
  · replace h := (if_pos c).symm.trans h
    refine r_iconst (v := (-1 : Int32)) dX10_end_15 (by decide) ?_
    obtain ⟨rfl, rfl⟩ := Prod.mk.inj (Option.some.inj h)
    exact r_ireturn dX10_end_16 .int rfl rfl
  · replace h := (if_neg c).symm.trans h
    refine r_iload_n (x := a1) dX10_end_4 rfl ?_
    refine x_aload_n (o := a0) dX10_end_5 rfl ?_
    obtain ⟨v1, hv1, h⟩ := xb h
    refine x_getR (o := a0) dX10_end_6 xf_X10_10 hv1 ?_
    obtain ⟨v2, hv2, h⟩ := xb h
    refine x_getI (o := v1) dX10_end_9 xf_X10_55 hv2 ?_
    refine r_icmp_le (tgt := 17) dX10_end_12 (by decide) (fun c => ?_) (fun c => ?_)
    · replace h := (if_pos c).symm.trans h
      refine x_aload_n (o := a0) dX10_end_17 rfl ?_
      obtain ⟨v3, hv3, h⟩ := xb h
      refine x_getR (o := a0) dX10_end_18 xf_X10_10 hv3 ?_
      refine r_iload_n (x := a1) dX10_end_21 rfl ?_
      obtain ⟨s4, hs4, h⟩ := xb h
      refine x_putI (o := v3) dX10_end_22 (xp_X10_55 _) hs4 ?_
      refine r_iload_n (x := a1) dX10_end_25 rfl ?_
      obtain ⟨rfl, rfl⟩ := Prod.mk.inj (Option.some.inj h)
      exact r_ireturn dX10_end_26 .int rfl rfl
    · replace h := (if_neg c).symm.trans h
      refine r_iconst (v := (-1 : Int32)) dX10_end_15 (by decide) ?_
      obtain ⟨rfl, rfl⟩ := Prod.mk.inj (Option.some.inj h)
      exact r_ireturn dX10_end_16 .int rfl rfl
theorem S_X10_end (n : Nat) (st : xS) (a0 : Option Nat) (a1 : Int32) (rv : Int32) (st' : xS) (h : F_X10_end n st a0 a1 = some (rv, st')) : Ct mX10_end [va_rf a0, .int a1] st (some (.int rv)) st' 0 := by
  refine Ct.of (by decide) (by simp only [lgL_R, lgL_I, lgL_L, lgL_0]; decide) ?_
  try simp only [lvA_R]
  exact R_X10_end n st a0 a1 rv st' h
theorem R_X10_readInto (n : Nat) (st : xS) (a0 : Option Nat) (a1 : Int32) (a2 : Int32) (a3 : Int32) (st' : xS) (h : F_X10_readInto n st a0 a1 a2 a3 = some st') : Rn mX10_readInto 0 [(0, va_rf a0), (1, .int a1), (2, .int a2), (3, .int a3)] [] st none st' 11 := by
  unfold F_X10_readInto at h
  refine r_iload_n (x := a1) dX10_readInto_0 rfl ?_
  obtain ⟨q45, hq45, h⟩ := xb h
  have Jq45 : Rn mX10_readInto 156 [] [] q45 none st' 11 := by
    obtain rfl := Option.some.inj h
    exact r_return dX10_readInto_156 rfl
  refine r_if_ne (tgt := 54) dX10_readInto_1 (by decide) (fun c => ?_) (fun c => ?_)
  · replace hq45 := (if_neg c).symm.trans hq45
    refine r_iload_n (x := a1) dX10_readInto_54 rfl ?_
    refine r_iconst (v := (1 : Int32)) dX10_readInto_55 (by decide) ?_
    refine r_icmp_ne (tgt := 109) dX10_readInto_56 (by decide) (fun c => ?_) (fun c => ?_)
    · replace hq45 := (if_neg c).symm.trans hq45
      obtain ⟨s31, hs31, hq45⟩ := xb hq45
      obtain ⟨o32, ho32, hq45⟩ := xb hq45
      refine x_new (o := o32) dX10_readInto_109 xc_X6 tyX6 tyX6_ok xw_X10_101 xi_X6 xj_X6 xh_X6 (Option.some.inj hs31) (Option.some.inj ho32) ?_
      refine x_dupR (o := o32) dX10_readInto_112 ?_
      obtain ⟨b33, hb33, hq45⟩ := xb hq45
      obtain ⟨s34, hs34, hq45⟩ := xb hq45
      refine x_callI (as := []) (o := o32) (stk := [va_rf o32]) (st1 := s34) (d' := 2) dX10_readInto_113 xl_X10_103 hb33 (by decide) (Nat.le_trans (xsA xs0) (by decide)) rfl (S_X6_init n s31 o32  s34 hs34) ?_
      refine x_astore (lv' := [(4, va_rf o32), (0, va_rf a0), (1, .int a1), (2, .int a2), (3, .int a3)]) (o := o32) dX10_readInto_116 (by decide) rfl ?_
      refine x_aload_n (o := a0) dX10_readInto_118 rfl ?_
      obtain ⟨v35, hv35, hq45⟩ := xb hq45
      refine x_getR (o := a0) dX10_readInto_119 xf_X10_23 hv35 ?_
      refine x_aload_n (o := a0) dX10_readInto_122 rfl ?_
      obtain ⟨v36, hv36, hq45⟩ := xb hq45
      refine x_getR (o := a0) dX10_readInto_123 xf_X10_10 hv36 ?_
      obtain ⟨v37, hv37, hq45⟩ := xb hq45
      refine x_getR (o := v36) dX10_readInto_126 xf_X10_82 hv37 ?_
      refine r_iload_n (x := a3) dX10_readInto_129 rfl ?_
      refine r_iload_n (x := a1) dX10_readInto_130 rfl ?_
      refine x_aload (o := o32) dX10_readInto_131 rfl ?_
      obtain ⟨q39, hq39, hq45⟩ := xb hq45
      obtain ⟨s38, hs38, hq45⟩ := xb hq45
      refine z_callV (as := [va_rf v37, .int a3, .int a1, va_rf o32]) (o := v35) (r1 := none) (stk := []) (stk2 := []) (st1 := s38) (d' := 10) dX10_readInto_133 xl_X10_86 hq39 (by decide) (Nat.le_trans xs0 (by decide)) rfl rfl (S_X7_read n s34 v35 v37 a3 a1 o32 s38 hs38) ?_
      refine x_aload_n (o := a0) dX10_readInto_136 rfl ?_
      obtain ⟨v40, hv40, hq45⟩ := xb hq45
      refine x_getR (o := a0) dX10_readInto_137 xf_X10_23 hv40 ?_
      obtain ⟨v41, hv41, hq45⟩ := xb hq45
      refine x_getI (o := v40) dX10_readInto_140 xf_X10_77 hv41 ?_
      refine r_if_ne (tgt := 156) dX10_readInto_143 (by decide) (fun c => ?_) (fun c => ?_)
      · replace hq45 := (if_neg c).symm.trans hq45
        obtain rfl := Option.some.inj hq45
        exact x_sub [] rfl Jq45
      · replace hq45 := (if_pos c).symm.trans hq45
        refine x_aload_n (o := a0) dX10_readInto_146 rfl ?_
        obtain ⟨v42, hv42, hq45⟩ := xb hq45
        refine x_getR (o := a0) dX10_readInto_147 xf_X10_10 hv42 ?_
        refine r_iload_n (x := a2) dX10_readInto_150 rfl ?_
        refine x_aload (o := o32) dX10_readInto_151 rfl ?_
        obtain ⟨q44, hq44, hq45⟩ := xb hq45
        obtain ⟨s43, hs43, hq45⟩ := xb hq45
        refine z_callV (as := [.int a2, va_rf o32]) (o := v42) (r1 := none) (stk := []) (stk2 := []) (st1 := s43) (d' := 3) dX10_readInto_153 xl_X10_104 hq44 (by decide) (Nat.le_trans xs0 (by decide)) rfl rfl (S_X9_putPlan n s38 v42 a2 o32 s43 hs43) ?_
        obtain rfl := Option.some.inj hq45
        exact x_sub [] rfl Jq45
    · replace hq45 := (if_pos c).symm.trans hq45
      obtain ⟨s16, hs16, hq45⟩ := xb hq45
      obtain ⟨o17, ho17, hq45⟩ := xb hq45
      refine x_new (o := o17) dX10_readInto_59 xc_X3 tyX3 tyX3_ok xw_X10_94 xi_X3 xj_X3 xh_X3 (Option.some.inj hs16) (Option.some.inj ho17) ?_
      refine x_dupR (o := o17) dX10_readInto_62 ?_
      obtain ⟨b18, hb18, hq45⟩ := xb hq45
      obtain ⟨s19, hs19, hq45⟩ := xb hq45
      refine x_callI (as := []) (o := o17) (stk := [va_rf o17]) (st1 := s19) (d' := 2) dX10_readInto_63 xl_X10_96 hb18 (by decide) (Nat.le_trans (xsA xs0) (by decide)) rfl (S_X3_init n s16 o17  s19 hs19) ?_
      refine x_astore (lv' := [(4, va_rf o17), (0, va_rf a0), (1, .int a1), (2, .int a2), (3, .int a3)]) (o := o17) dX10_readInto_66 (by decide) rfl ?_
      refine x_aload_n (o := a0) dX10_readInto_68 rfl ?_
      obtain ⟨v20, hv20, hq45⟩ := xb hq45
      refine x_getR (o := a0) dX10_readInto_69 xf_X10_23 hv20 ?_
      refine x_aload_n (o := a0) dX10_readInto_72 rfl ?_
      obtain ⟨v21, hv21, hq45⟩ := xb hq45
      refine x_getR (o := a0) dX10_readInto_73 xf_X10_10 hv21 ?_
      obtain ⟨v22, hv22, hq45⟩ := xb hq45
      refine x_getR (o := v21) dX10_readInto_76 xf_X10_82 hv22 ?_
      refine r_iload_n (x := a3) dX10_readInto_79 rfl ?_
      refine r_iload_n (x := a1) dX10_readInto_80 rfl ?_
      refine x_aload (o := o17) dX10_readInto_81 rfl ?_
      obtain ⟨q24, hq24, hq45⟩ := xb hq45
      obtain ⟨s23, hs23, hq45⟩ := xb hq45
      refine z_callV (as := [va_rf v22, .int a3, .int a1, va_rf o17]) (o := v20) (r1 := none) (stk := []) (stk2 := []) (st1 := s23) (d' := 10) dX10_readInto_83 xl_X10_86 hq24 (by decide) (Nat.le_trans xs0 (by decide)) rfl rfl (S_X7_read n s19 v20 v22 a3 a1 o17 s23 hs23) ?_
      refine x_aload_n (o := a0) dX10_readInto_86 rfl ?_
      obtain ⟨v25, hv25, hq45⟩ := xb hq45
      refine x_getR (o := a0) dX10_readInto_87 xf_X10_23 hv25 ?_
      obtain ⟨v26, hv26, hq45⟩ := xb hq45
      refine x_getI (o := v25) dX10_readInto_90 xf_X10_77 hv26 ?_
      obtain ⟨q30, hq30, hq45⟩ := xb hq45
      have Jq30 : Rn mX10_readInto 106 [] [] q30 none st' 11 := by
        refine r_goto (tgt := 156) dX10_readInto_106 (by decide) ?_
        obtain rfl := Option.some.inj hq45
        exact x_sub [] rfl Jq45
      refine r_if_ne (tgt := 106) dX10_readInto_93 (by decide) (fun c => ?_) (fun c => ?_)
      · replace hq30 := (if_neg c).symm.trans hq30
        obtain rfl := Option.some.inj hq30
        exact x_sub [] rfl Jq30
      · replace hq30 := (if_pos c).symm.trans hq30
        refine x_aload_n (o := a0) dX10_readInto_96 rfl ?_
        obtain ⟨v27, hv27, hq30⟩ := xb hq30
        refine x_getR (o := a0) dX10_readInto_97 xf_X10_10 hv27 ?_
        refine r_iload_n (x := a2) dX10_readInto_100 rfl ?_
        refine x_aload (o := o17) dX10_readInto_101 rfl ?_
        obtain ⟨q29, hq29, hq30⟩ := xb hq30
        obtain ⟨s28, hs28, hq30⟩ := xb hq30
        refine z_callV (as := [.int a2, va_rf o17]) (o := v27) (r1 := none) (stk := []) (stk2 := []) (st1 := s28) (d' := 3) dX10_readInto_103 xl_X10_97 hq29 (by decide) (Nat.le_trans xs0 (by decide)) rfl rfl (S_X9_putLaw n s23 v27 a2 o17 s28 hs28) ?_
        obtain rfl := Option.some.inj hq30
        exact x_sub [] rfl Jq30
  · replace hq45 := (if_pos c).symm.trans hq45
    obtain ⟨s1, hs1, hq45⟩ := xb hq45
    obtain ⟨o2, ho2, hq45⟩ := xb hq45
    refine x_new (o := o2) dX10_readInto_4 xc_X4 tyX4 tyX4_ok xw_X10_79 xi_X4 xj_X4 xh_X4 (Option.some.inj hs1) (Option.some.inj ho2) ?_
    refine x_dupR (o := o2) dX10_readInto_7 ?_
    obtain ⟨b3, hb3, hq45⟩ := xb hq45
    obtain ⟨s4, hs4, hq45⟩ := xb hq45
    refine x_callI (as := []) (o := o2) (stk := [va_rf o2]) (st1 := s4) (d' := 2) dX10_readInto_8 xl_X10_81 hb3 (by decide) (Nat.le_trans (xsA xs0) (by decide)) rfl (S_X4_init n s1 o2  s4 hs4) ?_
    refine x_astore (lv' := [(4, va_rf o2), (0, va_rf a0), (1, .int a1), (2, .int a2), (3, .int a3)]) (o := o2) dX10_readInto_11 (by decide) rfl ?_
    refine x_aload_n (o := a0) dX10_readInto_13 rfl ?_
    obtain ⟨v5, hv5, hq45⟩ := xb hq45
    refine x_getR (o := a0) dX10_readInto_14 xf_X10_23 hv5 ?_
    refine x_aload_n (o := a0) dX10_readInto_17 rfl ?_
    obtain ⟨v6, hv6, hq45⟩ := xb hq45
    refine x_getR (o := a0) dX10_readInto_18 xf_X10_10 hv6 ?_
    obtain ⟨v7, hv7, hq45⟩ := xb hq45
    refine x_getR (o := v6) dX10_readInto_21 xf_X10_82 hv7 ?_
    refine r_iload_n (x := a3) dX10_readInto_24 rfl ?_
    refine r_iload_n (x := a1) dX10_readInto_25 rfl ?_
    refine x_aload (o := o2) dX10_readInto_26 rfl ?_
    obtain ⟨q9, hq9, hq45⟩ := xb hq45
    obtain ⟨s8, hs8, hq45⟩ := xb hq45
    refine z_callV (as := [va_rf v7, .int a3, .int a1, va_rf o2]) (o := v5) (r1 := none) (stk := []) (stk2 := []) (st1 := s8) (d' := 10) dX10_readInto_28 xl_X10_86 hq9 (by decide) (Nat.le_trans xs0 (by decide)) rfl rfl (S_X7_read n s4 v5 v7 a3 a1 o2 s8 hs8) ?_
    refine x_aload_n (o := a0) dX10_readInto_31 rfl ?_
    obtain ⟨v10, hv10, hq45⟩ := xb hq45
    refine x_getR (o := a0) dX10_readInto_32 xf_X10_23 hv10 ?_
    obtain ⟨v11, hv11, hq45⟩ := xb hq45
    refine x_getI (o := v10) dX10_readInto_35 xf_X10_77 hv11 ?_
    obtain ⟨q15, hq15, hq45⟩ := xb hq45
    have Jq15 : Rn mX10_readInto 51 [] [] q15 none st' 11 := by
      refine r_goto (tgt := 156) dX10_readInto_51 (by decide) ?_
      obtain rfl := Option.some.inj hq45
      exact x_sub [] rfl Jq45
    refine r_if_ne (tgt := 51) dX10_readInto_38 (by decide) (fun c => ?_) (fun c => ?_)
    · replace hq15 := (if_neg c).symm.trans hq15
      obtain rfl := Option.some.inj hq15
      exact x_sub [] rfl Jq15
    · replace hq15 := (if_pos c).symm.trans hq15
      refine x_aload_n (o := a0) dX10_readInto_41 rfl ?_
      obtain ⟨v12, hv12, hq15⟩ := xb hq15
      refine x_getR (o := a0) dX10_readInto_42 xf_X10_10 hv12 ?_
      refine r_iload_n (x := a2) dX10_readInto_45 rfl ?_
      refine x_aload (o := o2) dX10_readInto_46 rfl ?_
      obtain ⟨q14, hq14, hq15⟩ := xb hq15
      obtain ⟨s13, hs13, hq15⟩ := xb hq15
      refine z_callV (as := [.int a2, va_rf o2]) (o := v12) (r1 := none) (stk := []) (stk2 := []) (st1 := s13) (d' := 3) dX10_readInto_48 xl_X10_90 hq14 (by decide) (Nat.le_trans xs0 (by decide)) rfl rfl (S_X9_putLeague n s8 v12 a2 o2 s13 hs13) ?_
      obtain rfl := Option.some.inj hq15
      exact x_sub [] rfl Jq15
theorem S_X10_readInto (n : Nat) (st : xS) (a0 : Option Nat) (a1 : Int32) (a2 : Int32) (a3 : Int32) (st' : xS) (h : F_X10_readInto n st a0 a1 a2 a3 = some st') : Ct mX10_readInto [va_rf a0, .int a1, .int a2, .int a3] st none st' 11 := by
  refine Ct.of (by decide) (by simp only [lgL_R, lgL_I, lgL_L, lgL_0]; decide) ?_
  try simp only [lvA_R]
  exact R_X10_readInto n st a0 a1 a2 a3 st' h
theorem R_X10_text (n : Nat) (st : xS) (a0 : Option Nat) (a1 : Int32) (a2 : Int32) (rv : Int32) (st' : xS) (h : F_X10_text n st a0 a1 a2 = some (rv, st')) : Rn mX10_text 0 [(0, va_rf a0), (1, .int a1), (2, .int a2)] [] st (some (.int rv)) st' 12 := by
  unfold F_X10_text at h
  refine x_aload_n (o := a0) dX10_text_0 rfl ?_
  obtain ⟨v1, hv1, h⟩ := xb h
  refine x_getR (o := a0) dX10_text_1 xf_X10_10 hv1 ?_
  obtain ⟨v2, hv2, h⟩ := xb h
  refine x_getI (o := v1) dX10_text_4 xf_X10_55 hv2 ?_
  refine r_istore_n (lv' := [(3, .int v2), (0, va_rf a0), (1, .int a1), (2, .int a2)]) (x := v2) dX10_text_7 (by decide) rfl ?_
  refine x_aload_n (o := a0) dX10_text_8 rfl ?_
  obtain ⟨v3, hv3, h⟩ := xb h
  refine x_getR (o := a0) dX10_text_9 xf_X10_10 hv3 ?_
  refine r_iload_n (x := a1) dX10_text_12 rfl ?_
  refine r_iload_n (x := a2) dX10_text_13 rfl ?_
  obtain ⟨q5, hq5, h⟩ := xb h
  obtain ⟨v4, hv4, h⟩ := xb h
  refine z_callV (as := [.int a1, .int a2]) (o := v3) (r1 := (some (.int v4))) (stk := []) (stk2 := [.int v4]) (st1 := st) (d' := 2) dX10_text_14 xl_X10_63 hq5 (by decide) (Nat.le_trans xs0 (by decide)) rfl rfl (S_X9_slotOf n st v3 a1 a2 v4 hv4) ?_
  refine r_istore (lv' := [(4, .int v4), (3, .int v2), (0, va_rf a0), (1, .int a1), (2, .int a2)]) (x := v4) dX10_text_17 (by decide) rfl ?_
  refine x_aload_n (o := a0) dX10_text_19 rfl ?_
  obtain ⟨v6, hv6, h⟩ := xb h
  refine x_getR (o := a0) dX10_text_20 xf_X10_10 hv6 ?_
  refine r_iconst (v := (0 : Int32)) dX10_text_23 (by decide) ?_
  obtain ⟨s7, hs7, h⟩ := xb h
  refine x_putI (o := v6) dX10_text_24 (xp_X10_55 _) hs7 ?_
  refine x_aload_n (o := a0) dX10_text_27 rfl ?_
  obtain ⟨v8, hv8, h⟩ := xb h
  refine x_getR (o := a0) dX10_text_28 xf_X10_10 hv8 ?_
  refine r_iconst (v := (0 : Int32)) dX10_text_31 (by decide) ?_
  obtain ⟨s9, hs9, h⟩ := xb h
  refine x_putI (o := v8) dX10_text_32 (xp_X10_67 _) hs9 ?_
  refine x_aload_n (o := a0) dX10_text_35 rfl ?_
  obtain ⟨v10, hv10, h⟩ := xb h
  refine x_getR (o := a0) dX10_text_36 xf_X10_10 hv10 ?_
  refine r_iconst (v := (-1 : Int32)) dX10_text_39 (by decide) ?_
  obtain ⟨s11, hs11, h⟩ := xb h
  refine x_putI (o := v10) dX10_text_40 (xp_X10_70 _) hs11 ?_
  refine r_iload (x := v4) dX10_text_43 rfl ?_
  refine r_iconst (v := (-1 : Int32)) dX10_text_45 (by decide) ?_
  refine r_icmp_ne (tgt := 52) dX10_text_46 (by decide) (fun c => ?_) (fun c => ?_)
  · replace h := (if_neg c).symm.trans h
    refine x_aload_n (o := a0) dX10_text_52 rfl ?_
    refine r_iload_n (x := a1) dX10_text_53 rfl ?_
    refine r_iload (x := v4) dX10_text_54 rfl ?_
    refine r_iload_n (x := v2) dX10_text_56 rfl ?_
    obtain ⟨q13, hq13, h⟩ := xb h
    obtain ⟨s12, hs12, h⟩ := xb h
    refine z_callV (as := [.int a1, .int v4, .int v2]) (o := a0) (r1 := none) (stk := []) (stk2 := []) (st1 := s12) (d' := 11) dX10_text_57 xl_X10_73 hq13 (by decide) (Nat.le_trans xs0 (by decide)) rfl rfl (S_X10_readInto n s11 a0 a1 v4 v2 s12 hs12) ?_
    refine x_aload_n (o := a0) dX10_text_60 rfl ?_
    obtain ⟨v14, hv14, h⟩ := xb h
    refine x_getR (o := a0) dX10_text_61 xf_X10_10 hv14 ?_
    refine x_aload_n (o := a0) dX10_text_64 rfl ?_
    obtain ⟨v15, hv15, h⟩ := xb h
    refine x_getR (o := a0) dX10_text_65 xf_X10_23 hv15 ?_
    obtain ⟨v16, hv16, h⟩ := xb h
    refine x_getI (o := v15) dX10_text_68 xf_X10_77 hv16 ?_
    obtain ⟨s17, hs17, h⟩ := xb h
    refine x_putI (o := v14) dX10_text_71 (xp_X10_67 _) hs17 ?_
    refine x_aload_n (o := a0) dX10_text_74 rfl ?_
    obtain ⟨v18, hv18, h⟩ := xb h
    refine x_getR (o := a0) dX10_text_75 xf_X10_10 hv18 ?_
    refine x_aload_n (o := a0) dX10_text_78 rfl ?_
    obtain ⟨v19, hv19, h⟩ := xb h
    refine x_getR (o := a0) dX10_text_79 xf_X10_23 hv19 ?_
    obtain ⟨v20, hv20, h⟩ := xb h
    refine x_getI (o := v19) dX10_text_82 xf_X10_78 hv20 ?_
    obtain ⟨s21, hs21, h⟩ := xb h
    refine x_putI (o := v18) dX10_text_85 (xp_X10_70 _) hs21 ?_
    refine x_aload_n (o := a0) dX10_text_88 rfl ?_
    obtain ⟨v22, hv22, h⟩ := xb h
    refine x_getR (o := a0) dX10_text_89 xf_X10_10 hv22 ?_
    obtain ⟨v23, hv23, h⟩ := xb h
    refine x_getI (o := v22) dX10_text_92 xf_X10_67 hv23 ?_
    obtain ⟨q24, hq24, h⟩ := xb h
    have Jq24 : Rn mX10_text 104 [] [.int q24] s21 (some (.int rv)) st' 12 := by
      obtain ⟨rfl, rfl⟩ := Prod.mk.inj (Option.some.inj h)
      exact r_ireturn dX10_text_104 .int rfl rfl
    refine r_if_ne (tgt := 103) dX10_text_95 (by decide) (fun c => ?_) (fun c => ?_)
    · replace hq24 := (if_neg c).symm.trans hq24
      refine r_iconst (v := (-1 : Int32)) dX10_text_103 (by decide) ?_
      obtain rfl := Option.some.inj hq24
      exact x_sub [] rfl Jq24
    · replace hq24 := (if_pos c).symm.trans hq24
      refine r_iload (x := v4) dX10_text_98 rfl ?_
      refine r_goto (tgt := 104) dX10_text_100 (by decide) ?_
      obtain rfl := Option.some.inj hq24
      exact x_sub [] rfl Jq24
  · replace h := (if_pos c).symm.trans h
    refine r_bipush (v := (-2 : Int32)) dX10_text_49 (by decide) ?_
    obtain ⟨rfl, rfl⟩ := Prod.mk.inj (Option.some.inj h)
    exact r_ireturn dX10_text_51 .int rfl rfl
theorem S_X10_text (n : Nat) (st : xS) (a0 : Option Nat) (a1 : Int32) (a2 : Int32) (rv : Int32) (st' : xS) (h : F_X10_text n st a0 a1 a2 = some (rv, st')) : Ct mX10_text [va_rf a0, .int a1, .int a2] st (some (.int rv)) st' 12 := by
  refine Ct.of (by decide) (by simp only [lgL_R, lgL_I, lgL_L, lgL_0]; decide) ?_
  try simp only [lvA_R]
  exact R_X10_text n st a0 a1 a2 rv st' h
theorem R_X10_fault (n : Nat) (st : xS) (a0 : Option Nat) (a1 : Int32) (rv : Int32) (h : F_X10_fault n st a0 a1 = some rv) : Rn mX10_fault 0 [(0, va_rf a0), (1, .int a1)] [] st (some (.int rv)) st 0 := by
  unfold F_X10_fault at h
  refine r_iload_n (x := a1) dX10_fault_0 rfl ?_
  refine r_if_ne (tgt := 12) dX10_fault_1 (by decide) (fun c => ?_) (fun c => ?_)
  · replace h := (if_neg c).symm.trans h
    refine r_iload_n (x := a1) dX10_fault_12 rfl ?_
    refine r_iconst (v := (1 : Int32)) dX10_fault_13 (by decide) ?_
    obtain ⟨q5, hq5, h⟩ := xb h
    have Jq5 : Rn mX10_fault 28 [] [.int q5] st (some (.int rv)) st 0 := by
      obtain rfl := Option.some.inj h
      exact r_ireturn dX10_fault_28 .int rfl rfl
    refine r_icmp_ne (tgt := 27) dX10_fault_14 (by decide) (fun c => ?_) (fun c => ?_)
    · replace hq5 := (if_neg c).symm.trans hq5
      refine r_iconst (v := (-1 : Int32)) dX10_fault_27 (by decide) ?_
      obtain rfl := Option.some.inj hq5
      exact x_sub [] rfl Jq5
    · replace hq5 := (if_pos c).symm.trans hq5
      refine x_aload_n (o := a0) dX10_fault_17 rfl ?_
      obtain ⟨v3, hv3, hq5⟩ := xb hq5
      refine x_getR (o := a0) dX10_fault_18 xf_X10_10 hv3 ?_
      obtain ⟨v4, hv4, hq5⟩ := xb hq5
      refine x_getI (o := v3) dX10_fault_21 xf_X10_70 hv4 ?_
      refine r_goto (tgt := 28) dX10_fault_24 (by decide) ?_
      obtain rfl := Option.some.inj hq5
      exact x_sub [] rfl Jq5
  · replace h := (if_pos c).symm.trans h
    refine x_aload_n (o := a0) dX10_fault_4 rfl ?_
    obtain ⟨v1, hv1, h⟩ := xb h
    refine x_getR (o := a0) dX10_fault_5 xf_X10_10 hv1 ?_
    obtain ⟨v2, hv2, h⟩ := xb h
    refine x_getI (o := v1) dX10_fault_8 xf_X10_67 hv2 ?_
    obtain rfl := Option.some.inj h
    exact r_ireturn dX10_fault_11 .int rfl rfl
theorem S_X10_fault (n : Nat) (st : xS) (a0 : Option Nat) (a1 : Int32) (rv : Int32) (h : F_X10_fault n st a0 a1 = some rv) : Ct mX10_fault [va_rf a0, .int a1] st (some (.int rv)) st 0 := by
  refine Ct.of (by decide) (by simp only [lgL_R, lgL_I, lgL_L, lgL_0]; decide) ?_
  try simp only [lvA_R]
  exact R_X10_fault n st a0 a1 rv h
theorem R_X10_league (n : Nat) (st : xS) (a0 : Option Nat) (a1 : Int32) (a2 : Int32) (rv : Int32) (h : F_X10_league n st a0 a1 a2 = some rv) : Rn mX10_league 0 [(0, va_rf a0), (1, .int a1), (2, .int a2)] [] st (some (.int rv)) st 2 := by
  unfold F_X10_league at h
  refine x_aload_n (o := a0) dX10_league_0 rfl ?_
  obtain ⟨v1, hv1, h⟩ := xb h
  refine x_getR (o := a0) dX10_league_1 xf_X10_10 hv1 ?_
  refine r_iload_n (x := a1) dX10_league_4 rfl ?_
  obtain ⟨q3, hq3, h⟩ := xb h
  obtain ⟨v2, hv2, h⟩ := xb h
  refine z_callV (as := [.int a1]) (o := v1) (r1 := (some (va_rf v2))) (stk := []) (stk2 := [va_rf v2]) (st1 := st) (d' := 0) dX10_league_5 xl_X10_108 hq3 (by decide) (Nat.le_trans xs0 (by decide)) rfl rfl (S_X9_leagueAt n st v1 a1 v2 hv2) ?_
  refine x_astore_n (lv' := [(3, va_rf v2), (0, va_rf a0), (1, .int a1), (2, .int a2)]) (o := v2) dX10_league_8 (by decide) rfl ?_
  refine x_aload_n (o := v2) dX10_league_9 rfl ?_
  obtain ⟨q6, hq6, h⟩ := xb h
  have Jq6 : Rn mX10_league 22 [] [.int q6] st (some (.int rv)) st 2 := by
    obtain rfl := Option.some.inj h
    exact r_ireturn dX10_league_22 .int rfl rfl
  refine x_ifnonnull (o := v2) (tgt := 17) dX10_league_10 (by decide) (fun c => ?_) (fun c => ?_)
  · replace hq6 := (if_neg c).symm.trans hq6
    refine x_aload_n (o := v2) dX10_league_17 rfl ?_
    refine r_iload_n (x := a2) dX10_league_18 rfl ?_
    obtain ⟨q5, hq5, hq6⟩ := xb hq6
    obtain ⟨v4, hv4, hq6⟩ := xb hq6
    refine z_callV (as := [.int a2]) (o := v2) (r1 := (some (.int v4))) (stk := []) (stk2 := [.int v4]) (st1 := st) (d' := 1) dX10_league_19 xl_X10_112 hq5 (by decide) (Nat.le_trans xs0 (by decide)) rfl rfl (S_X4_number n st v2 a2 v4 hv4) ?_
    obtain rfl := Option.some.inj hq6
    exact x_sub [] rfl Jq6
  · replace hq6 := (if_pos c).symm.trans hq6
    refine r_iconst (v := (-1 : Int32)) dX10_league_13 (by decide) ?_
    refine r_goto (tgt := 22) dX10_league_14 (by decide) ?_
    obtain rfl := Option.some.inj hq6
    exact x_sub [] rfl Jq6
theorem S_X10_league (n : Nat) (st : xS) (a0 : Option Nat) (a1 : Int32) (a2 : Int32) (rv : Int32) (h : F_X10_league n st a0 a1 a2 = some rv) : Ct mX10_league [va_rf a0, .int a1, .int a2] st (some (.int rv)) st 2 := by
  refine Ct.of (by decide) (by simp only [lgL_R, lgL_I, lgL_L, lgL_0]; decide) ?_
  try simp only [lvA_R]
  exact R_X10_league n st a0 a1 a2 rv h
theorem R_X10_miles (n : Nat) (st : xS) (a0 : Option Nat) (a1 : Int32) (a2 : Int32) (a3 : Int32) (rv : Int32) (h : F_X10_miles n st a0 a1 a2 a3 = some rv) : Rn mX10_miles 0 [(0, va_rf a0), (1, .int a1), (2, .int a2), (3, .int a3)] [] st (some (.int rv)) st 2 := by
  unfold F_X10_miles at h
  refine x_aload_n (o := a0) dX10_miles_0 rfl ?_
  obtain ⟨v1, hv1, h⟩ := xb h
  refine x_getR (o := a0) dX10_miles_1 xf_X10_10 hv1 ?_
  refine r_iload_n (x := a1) dX10_miles_4 rfl ?_
  obtain ⟨q3, hq3, h⟩ := xb h
  obtain ⟨v2, hv2, h⟩ := xb h
  refine z_callV (as := [.int a1]) (o := v1) (r1 := (some (va_rf v2))) (stk := []) (stk2 := [va_rf v2]) (st1 := st) (d' := 0) dX10_miles_5 xl_X10_108 hq3 (by decide) (Nat.le_trans xs0 (by decide)) rfl rfl (S_X9_leagueAt n st v1 a1 v2 hv2) ?_
  refine x_astore (lv' := [(4, va_rf v2), (0, va_rf a0), (1, .int a1), (2, .int a2), (3, .int a3)]) (o := v2) dX10_miles_8 (by decide) rfl ?_
  refine x_aload (o := v2) dX10_miles_10 rfl ?_
  refine x_ifnull (o := v2) (tgt := 33) dX10_miles_12 (by decide) (fun c => ?_) (fun c => ?_)
  · replace h := (if_pos c).symm.trans h
    refine r_iconst (v := (-1 : Int32)) dX10_miles_33 (by decide) ?_
    obtain rfl := Option.some.inj h
    exact r_ireturn dX10_miles_34 .int rfl rfl
  · replace h := (if_neg c).symm.trans h
    refine x_aload (o := v2) dX10_miles_15 rfl ?_
    refine r_iload_n (x := a2) dX10_miles_17 rfl ?_
    obtain ⟨q5, hq5, h⟩ := xb h
    obtain ⟨v4, hv4, h⟩ := xb h
    refine z_callV (as := [.int a2]) (o := v2) (r1 := (some (.int v4))) (stk := []) (stk2 := [.int v4]) (st1 := st) (d' := 0) dX10_miles_18 xl_X10_116 hq5 (by decide) (Nat.le_trans xs0 (by decide)) rfl rfl (S_X4_hasGround n st v2 a2 v4 hv4) ?_
    refine r_if_eq (tgt := 33) dX10_miles_21 (by decide) (fun c => ?_) (fun c => ?_)
    · replace h := (if_pos c).symm.trans h
      refine r_iconst (v := (-1 : Int32)) dX10_miles_33 (by decide) ?_
      obtain rfl := Option.some.inj h
      exact r_ireturn dX10_miles_34 .int rfl rfl
    · replace h := (if_neg c).symm.trans h
      refine x_aload (o := v2) dX10_miles_24 rfl ?_
      refine r_iload_n (x := a3) dX10_miles_26 rfl ?_
      obtain ⟨q7, hq7, h⟩ := xb h
      obtain ⟨v6, hv6, h⟩ := xb h
      refine z_callV (as := [.int a3]) (o := v2) (r1 := (some (.int v6))) (stk := []) (stk2 := [.int v6]) (st1 := st) (d' := 0) dX10_miles_27 xl_X10_116 hq7 (by decide) (Nat.le_trans xs0 (by decide)) rfl rfl (S_X4_hasGround n st v2 a3 v6 hv6) ?_
      refine r_if_ne (tgt := 35) dX10_miles_30 (by decide) (fun c => ?_) (fun c => ?_)
      · replace h := (if_neg c).symm.trans h
        refine x_aload (o := v2) dX10_miles_35 rfl ?_
        refine r_iload_n (x := a2) dX10_miles_37 rfl ?_
        refine r_iload_n (x := a3) dX10_miles_38 rfl ?_
        obtain ⟨q9, hq9, h⟩ := xb h
        obtain ⟨v8, hv8, h⟩ := xb h
        refine z_callV (as := [.int a2, .int a3]) (o := v2) (r1 := (some (.int v8))) (stk := []) (stk2 := [.int v8]) (st1 := st) (d' := 1) dX10_miles_39 xl_X10_120 hq9 (by decide) (Nat.le_trans xs0 (by decide)) rfl rfl (S_X4_apart n st v2 a2 a3 v8 hv8) ?_
        obtain rfl := Option.some.inj h
        exact r_ireturn dX10_miles_42 .int rfl rfl
      · replace h := (if_pos c).symm.trans h
        refine r_iconst (v := (-1 : Int32)) dX10_miles_33 (by decide) ?_
        obtain rfl := Option.some.inj h
        exact r_ireturn dX10_miles_34 .int rfl rfl
theorem S_X10_miles (n : Nat) (st : xS) (a0 : Option Nat) (a1 : Int32) (a2 : Int32) (a3 : Int32) (rv : Int32) (h : F_X10_miles n st a0 a1 a2 a3 = some rv) : Ct mX10_miles [va_rf a0, .int a1, .int a2, .int a3] st (some (.int rv)) st 2 := by
  refine Ct.of (by decide) (by simp only [lgL_R, lgL_I, lgL_L, lgL_0]; decide) ?_
  try simp only [lvA_R]
  exact R_X10_miles n st a0 a1 a2 a3 rv h
theorem R_X10_law (n : Nat) (st : xS) (a0 : Option Nat) (a1 : Int32) (a2 : Int32) (rv : Int32) (h : F_X10_law n st a0 a1 a2 = some rv) : Rn mX10_law 0 [(0, va_rf a0), (1, .int a1), (2, .int a2)] [] st (some (.int rv)) st 2 := by
  unfold F_X10_law at h
  refine x_aload_n (o := a0) dX10_law_0 rfl ?_
  obtain ⟨v1, hv1, h⟩ := xb h
  refine x_getR (o := a0) dX10_law_1 xf_X10_10 hv1 ?_
  refine r_iload_n (x := a1) dX10_law_4 rfl ?_
  obtain ⟨q3, hq3, h⟩ := xb h
  obtain ⟨v2, hv2, h⟩ := xb h
  refine z_callV (as := [.int a1]) (o := v1) (r1 := (some (va_rf v2))) (stk := []) (stk2 := [va_rf v2]) (st1 := st) (d' := 0) dX10_law_5 xl_X10_123 hq3 (by decide) (Nat.le_trans xs0 (by decide)) rfl rfl (S_X9_lawAt n st v1 a1 v2 hv2) ?_
  refine x_astore_n (lv' := [(3, va_rf v2), (0, va_rf a0), (1, .int a1), (2, .int a2)]) (o := v2) dX10_law_8 (by decide) rfl ?_
  refine x_aload_n (o := v2) dX10_law_9 rfl ?_
  obtain ⟨q6, hq6, h⟩ := xb h
  have Jq6 : Rn mX10_law 22 [] [.int q6] st (some (.int rv)) st 2 := by
    obtain rfl := Option.some.inj h
    exact r_ireturn dX10_law_22 .int rfl rfl
  refine x_ifnonnull (o := v2) (tgt := 17) dX10_law_10 (by decide) (fun c => ?_) (fun c => ?_)
  · replace hq6 := (if_neg c).symm.trans hq6
    refine x_aload_n (o := v2) dX10_law_17 rfl ?_
    refine r_iload_n (x := a2) dX10_law_18 rfl ?_
    obtain ⟨q5, hq5, hq6⟩ := xb hq6
    obtain ⟨v4, hv4, hq6⟩ := xb hq6
    refine z_callV (as := [.int a2]) (o := v2) (r1 := (some (.int v4))) (stk := []) (stk2 := [.int v4]) (st1 := st) (d' := 1) dX10_law_19 xl_X10_127 hq5 (by decide) (Nat.le_trans xs0 (by decide)) rfl rfl (S_X3_number n st v2 a2 v4 hv4) ?_
    obtain rfl := Option.some.inj hq6
    exact x_sub [] rfl Jq6
  · replace hq6 := (if_pos c).symm.trans hq6
    refine r_iconst (v := (-1 : Int32)) dX10_law_13 (by decide) ?_
    refine r_goto (tgt := 22) dX10_law_14 (by decide) ?_
    obtain rfl := Option.some.inj hq6
    exact x_sub [] rfl Jq6
theorem S_X10_law (n : Nat) (st : xS) (a0 : Option Nat) (a1 : Int32) (a2 : Int32) (rv : Int32) (h : F_X10_law n st a0 a1 a2 = some rv) : Ct mX10_law [va_rf a0, .int a1, .int a2] st (some (.int rv)) st 2 := by
  refine Ct.of (by decide) (by simp only [lgL_R, lgL_I, lgL_L, lgL_0]; decide) ?_
  try simp only [lvA_R]
  exact R_X10_law n st a0 a1 a2 rv h
theorem R_X10_plan (n : Nat) (st : xS) (a0 : Option Nat) (a1 : Int32) (a2 : Int32) (a3 : Int32) (rv : Int32) (h : F_X10_plan n st a0 a1 a2 a3 = some rv) : Rn mX10_plan 0 [(0, va_rf a0), (1, .int a1), (2, .int a2), (3, .int a3)] [] st (some (.int rv)) st 2 := by
  unfold F_X10_plan at h
  refine x_aload_n (o := a0) dX10_plan_0 rfl ?_
  obtain ⟨v1, hv1, h⟩ := xb h
  refine x_getR (o := a0) dX10_plan_1 xf_X10_10 hv1 ?_
  refine r_iload_n (x := a1) dX10_plan_4 rfl ?_
  obtain ⟨q3, hq3, h⟩ := xb h
  obtain ⟨v2, hv2, h⟩ := xb h
  refine z_callV (as := [.int a1]) (o := v1) (r1 := (some (va_rf v2))) (stk := []) (stk2 := [va_rf v2]) (st1 := st) (d' := 0) dX10_plan_5 xl_X10_128 hq3 (by decide) (Nat.le_trans xs0 (by decide)) rfl rfl (S_X9_planAt n st v1 a1 v2 hv2) ?_
  refine x_astore (lv' := [(4, va_rf v2), (0, va_rf a0), (1, .int a1), (2, .int a2), (3, .int a3)]) (o := v2) dX10_plan_8 (by decide) rfl ?_
  refine x_aload (o := v2) dX10_plan_10 rfl ?_
  refine x_ifnonnull (o := v2) (tgt := 18) dX10_plan_12 (by decide) (fun c => ?_) (fun c => ?_)
  · replace h := (if_neg c).symm.trans h
    refine r_iload_n (x := a2) dX10_plan_18 rfl ?_
    refine r_iconst (v := (-1 : Int32)) dX10_plan_19 (by decide) ?_
    refine r_icmp_ne (tgt := 38) dX10_plan_20 (by decide) (fun c => ?_) (fun c => ?_)
    · replace h := (if_neg c).symm.trans h
      refine x_aload (o := v2) dX10_plan_38 rfl ?_
      refine r_iload_n (x := a2) dX10_plan_40 rfl ?_
      obtain ⟨q7, hq7, h⟩ := xb h
      obtain ⟨v6, hv6, h⟩ := xb h
      refine z_callV (as := [.int a2]) (o := v2) (r1 := (some (.int v6))) (stk := []) (stk2 := [.int v6]) (st1 := st) (d' := 0) dX10_plan_41 xl_X10_135 hq7 (by decide) (Nat.le_trans xs0 (by decide)) rfl rfl (S_X6_hasGame n st v2 a2 v6 hv6) ?_
      refine r_if_eq (tgt := 57) dX10_plan_44 (by decide) (fun c => ?_) (fun c => ?_)
      · replace h := (if_pos c).symm.trans h
        refine r_bipush (v := (-2 : Int32)) dX10_plan_57 (by decide) ?_
        obtain rfl := Option.some.inj h
        exact r_ireturn dX10_plan_59 .int rfl rfl
      · replace h := (if_neg c).symm.trans h
        refine r_iload_n (x := a3) dX10_plan_47 rfl ?_
        refine r_if_lt (tgt := 57) dX10_plan_48 (by decide) (fun c => ?_) (fun c => ?_)
        · replace h := (if_pos c).symm.trans h
          refine r_bipush (v := (-2 : Int32)) dX10_plan_57 (by decide) ?_
          obtain rfl := Option.some.inj h
          exact r_ireturn dX10_plan_59 .int rfl rfl
        · replace h := (if_neg c).symm.trans h
          refine r_iload_n (x := a3) dX10_plan_51 rfl ?_
          refine r_bipush (v := (6 : Int32)) dX10_plan_52 (by decide) ?_
          refine r_icmp_lt (tgt := 60) dX10_plan_54 (by decide) (fun c => ?_) (fun c => ?_)
          · replace h := (if_pos c).symm.trans h
            refine x_aload (o := v2) dX10_plan_60 rfl ?_
            refine r_iload_n (x := a2) dX10_plan_62 rfl ?_
            refine r_iload_n (x := a3) dX10_plan_63 rfl ?_
            obtain ⟨q9, hq9, h⟩ := xb h
            obtain ⟨v8, hv8, h⟩ := xb h
            refine z_callV (as := [.int a2, .int a3]) (o := v2) (r1 := (some (.int v8))) (stk := []) (stk2 := [.int v8]) (st1 := st) (d' := 1) dX10_plan_64 xl_X10_138 hq9 (by decide) (Nat.le_trans xs0 (by decide)) rfl rfl (S_X6_of n st v2 a2 a3 v8 hv8) ?_
            obtain rfl := Option.some.inj h
            exact r_ireturn dX10_plan_67 .int rfl rfl
          · replace h := (if_neg c).symm.trans h
            refine r_bipush (v := (-2 : Int32)) dX10_plan_57 (by decide) ?_
            obtain rfl := Option.some.inj h
            exact r_ireturn dX10_plan_59 .int rfl rfl
    · replace h := (if_pos c).symm.trans h
      refine r_iload_n (x := a3) dX10_plan_23 rfl ?_
      obtain ⟨q5, hq5, h⟩ := xb h
      have Jq5 : Rn mX10_plan 37 [] [.int q5] st (some (.int rv)) st 2 := by
        obtain rfl := Option.some.inj h
        exact r_ireturn dX10_plan_37 .int rfl rfl
      refine r_if_ne (tgt := 35) dX10_plan_24 (by decide) (fun c => ?_) (fun c => ?_)
      · replace hq5 := (if_neg c).symm.trans hq5
        refine r_bipush (v := (-2 : Int32)) dX10_plan_35 (by decide) ?_
        obtain rfl := Option.some.inj hq5
        exact x_sub [] rfl Jq5
      · replace hq5 := (if_pos c).symm.trans hq5
        refine x_aload (o := v2) dX10_plan_27 rfl ?_
        obtain ⟨v4, hv4, hq5⟩ := xb hq5
        refine x_getI (o := v2) dX10_plan_29 xf_X10_132 hv4 ?_
        refine r_goto (tgt := 37) dX10_plan_32 (by decide) ?_
        obtain rfl := Option.some.inj hq5
        exact x_sub [] rfl Jq5
  · replace h := (if_pos c).symm.trans h
    refine r_bipush (v := (-2 : Int32)) dX10_plan_15 (by decide) ?_
    obtain rfl := Option.some.inj h
    exact r_ireturn dX10_plan_17 .int rfl rfl
theorem S_X10_plan (n : Nat) (st : xS) (a0 : Option Nat) (a1 : Int32) (a2 : Int32) (a3 : Int32) (rv : Int32) (h : F_X10_plan n st a0 a1 a2 a3 = some rv) : Ct mX10_plan [va_rf a0, .int a1, .int a2, .int a3] st (some (.int rv)) st 2 := by
  refine Ct.of (by decide) (by simp only [lgL_R, lgL_I, lgL_L, lgL_0]; decide) ?_
  try simp only [lvA_R]
  exact R_X10_plan n st a0 a1 a2 a3 rv h
theorem R_X10_goes (n : Nat) (st : xS) (a0 : Option Nat) (a1 : Int32) (a2 : Int32) (rv : Int32) (st' : xS) (h : F_X10_goes n st a0 a1 a2 = some (rv, st')) : Rn mX10_goes 0 [(0, va_rf a0), (1, .int a1), (2, .int a2)] [] st (some (.int rv)) st' 2 := by
  unfold F_X10_goes at h
  refine x_aload_n (o := a0) dX10_goes_0 rfl ?_
  obtain ⟨v1, hv1, h⟩ := xb h
  refine x_getR (o := a0) dX10_goes_1 xf_X10_30 hv1 ?_
  refine x_aload_n (o := a0) dX10_goes_4 rfl ?_
  obtain ⟨v2, hv2, h⟩ := xb h
  refine x_getR (o := a0) dX10_goes_5 xf_X10_10 hv2 ?_
  refine r_iload_n (x := a1) dX10_goes_8 rfl ?_
  refine r_iload_n (x := a2) dX10_goes_9 rfl ?_
  obtain ⟨q4, hq4, h⟩ := xb h
  obtain ⟨p3, hp3, h⟩ := xb h
  refine z_callV (as := [va_rf v2, .int a1, .int a2]) (o := v1) (r1 := (some (.int p3.1))) (stk := []) (stk2 := [.int p3.1]) (st1 := p3.2) (d' := 1) dX10_goes_10 xl_X10_141 hq4 (by decide) (Nat.le_trans xs0 (by decide)) rfl rfl (S_X5_bring n st v1 v2 a1 a2 p3.1 p3.2 hp3) ?_
  obtain ⟨v5, hv5, h⟩ := xb h
  refine x_eqI (rz_inv2 hv5).1 ?_
  obtain ⟨rfl, rfl⟩ := Prod.mk.inj (Option.some.inj h)
  exact r_ireturn dX10_goes_13 .boolean rfl (by rcases (rz_inv2 hv5).2 with e | e <;> rw [e] <;> rfl)
theorem S_X10_goes (n : Nat) (st : xS) (a0 : Option Nat) (a1 : Int32) (a2 : Int32) (rv : Int32) (st' : xS) (h : F_X10_goes n st a0 a1 a2 = some (rv, st')) : Ct mX10_goes [va_rf a0, .int a1, .int a2] st (some (.int rv)) st' 2 := by
  refine Ct.of (by decide) (by simp only [lgL_R, lgL_I, lgL_L, lgL_0]; decide) ?_
  try simp only [lvA_R]
  exact R_X10_goes n st a0 a1 a2 rv st' h
theorem R_X10_within (n : Nat) (st : xS) (a0 : Int32) (a1 : Int32) (a2 : Int32) (rv : Int32) (h : F_X10_within n st a0 a1 a2 = some rv) : Rn mX10_within 0 [(0, .int a0), (1, .int a1), (2, .int a2)] [] st (some (.int rv)) st 0 := by
  unfold F_X10_within at h
  refine r_iload_n (x := a0) dX10_within_0 rfl ?_
  refine r_iload_n (x := a1) dX10_within_1 rfl ?_
  obtain ⟨q1, hq1, h⟩ := xb h
  have Jq1 : Rn mX10_within 15 [] [.int q1] st (some (.int rv)) st 0 := by
    obtain ⟨v2, hv2, h⟩ := xb h
    refine x_eqI (rz_inv2 hv2).1 ?_
    obtain rfl := Option.some.inj h
    exact r_ireturn dX10_within_15 .boolean rfl (by rcases (rz_inv2 hv2).2 with e | e <;> rw [e] <;> rfl)
  refine r_icmp_lt (tgt := 14) dX10_within_2 (by decide) (fun c => ?_) (fun c => ?_)
  · replace hq1 := (if_pos c).symm.trans hq1
    refine r_iconst (v := (0 : Int32)) dX10_within_14 (by decide) ?_
    obtain rfl := Option.some.inj hq1
    exact x_sub [] rfl Jq1
  · replace hq1 := (if_neg c).symm.trans hq1
    refine r_iload_n (x := a0) dX10_within_5 rfl ?_
    refine r_iload_n (x := a2) dX10_within_6 rfl ?_
    refine r_icmp_gt (tgt := 14) dX10_within_7 (by decide) (fun c => ?_) (fun c => ?_)
    · replace hq1 := (if_pos c).symm.trans hq1
      refine r_iconst (v := (0 : Int32)) dX10_within_14 (by decide) ?_
      obtain rfl := Option.some.inj hq1
      exact x_sub [] rfl Jq1
    · replace hq1 := (if_neg c).symm.trans hq1
      refine r_iconst (v := (1 : Int32)) dX10_within_10 (by decide) ?_
      refine r_goto (tgt := 15) dX10_within_11 (by decide) ?_
      obtain rfl := Option.some.inj hq1
      exact x_sub [] rfl Jq1
theorem S_X10_within (n : Nat) (st : xS) (a0 : Int32) (a1 : Int32) (a2 : Int32) (rv : Int32) (h : F_X10_within n st a0 a1 a2 = some rv) : Ct mX10_within [.int a0, .int a1, .int a2] st (some (.int rv)) st 0 := by
  refine Ct.of (by decide) (by simp only [lgL_R, lgL_I, lgL_L, lgL_0]; decide) ?_
  try simp only [lvA_R]
  exact R_X10_within n st a0 a1 a2 rv h
theorem R_X10_isPart (n : Nat) (st : xS) (a0 : Int32) (rv : Int32) (h : F_X10_isPart n st a0 = some rv) : Rn mX10_isPart 0 [(0, .int a0)] [] st (some (.int rv)) st 1 := by
  unfold F_X10_isPart at h
  refine r_iload_n (x := a0) dX10_isPart_0 rfl ?_
  refine r_iconst (v := (0 : Int32)) dX10_isPart_1 (by decide) ?_
  refine r_iconst (v := (5 : Int32)) dX10_isPart_2 (by decide) ?_
  obtain ⟨v1, hv1, h⟩ := xb h
  refine z_callS (as := [.int a0, .int (0 : Int32), .int (5 : Int32)]) (r1 := (some (.int v1))) (stk := []) (stk2 := [.int v1]) (st1 := st) (d' := 0) dX10_isPart_3 xl_X10_209 (by decide) (Nat.le_trans xs0 (by decide)) rfl rfl (S_X10_within n st a0 (0 : Int32) (5 : Int32) v1 hv1) ?_
  obtain ⟨v2, hv2, h⟩ := xb h
  refine x_eqI (rz_inv2 hv2).1 ?_
  obtain rfl := Option.some.inj h
  exact r_ireturn dX10_isPart_6 .boolean rfl (by rcases (rz_inv2 hv2).2 with e | e <;> rw [e] <;> rfl)
theorem S_X10_isPart (n : Nat) (st : xS) (a0 : Int32) (rv : Int32) (h : F_X10_isPart n st a0 = some rv) : Ct mX10_isPart [.int a0] st (some (.int rv)) st 1 := by
  refine Ct.of (by decide) (by simp only [lgL_R, lgL_I, lgL_L, lgL_0]; decide) ?_
  try simp only [lvA_R]
  exact R_X10_isPart n st a0 rv h
theorem R_X10_worth (n : Nat) (st : xS) (a0 : Option Nat) (a1 : Int32) (a2 : Int32) (a3 : Int32) (a4 : Int32) (a5 : Int32) (rv : Int32) (st' : xS) (h : F_X10_worth n st a0 a1 a2 a3 a4 a5 = some (rv, st')) : Rn mX10_worth 0 [(0, va_rf a0), (1, .int a1), (2, .int a2), (3, .int a3), (4, .int a4), (5, .int a5)] [] st (some (.int rv)) st' 5 := by
  unfold F_X10_worth at h
  refine x_aload_n (o := a0) dX10_worth_0 rfl ?_
  obtain ⟨v1, hv1, h⟩ := xb h
  refine x_getR (o := a0) dX10_worth_1 xf_X10_30 hv1 ?_
  refine x_aload_n (o := a0) dX10_worth_4 rfl ?_
  obtain ⟨v2, hv2, h⟩ := xb h
  refine x_getR (o := a0) dX10_worth_5 xf_X10_10 hv2 ?_
  refine r_iload_n (x := a1) dX10_worth_8 rfl ?_
  refine r_iload_n (x := a2) dX10_worth_9 rfl ?_
  refine r_iload_n (x := a3) dX10_worth_10 rfl ?_
  obtain ⟨q4, hq4, h⟩ := xb h
  obtain ⟨p3, hp3, h⟩ := xb h
  refine z_callV (as := [va_rf v2, .int a1, .int a2, .int a3]) (o := v1) (r1 := (some (.int p3.1))) (stk := []) (stk2 := [.int p3.1]) (st1 := p3.2) (d' := 2) dX10_worth_11 xl_X10_145 hq4 (by decide) (Nat.le_trans xs0 (by decide)) rfl rfl (S_X5_bring_ n st v1 v2 a1 a2 a3 p3.1 p3.2 hp3) ?_
  refine r_if_eq (tgt := 32) dX10_worth_14 (by decide) (fun c => ?_) (fun c => ?_)
  · replace h := (if_pos c).symm.trans h
    refine r_iconst (v := (-1 : Int32)) dX10_worth_32 (by decide) ?_
    obtain ⟨rfl, rfl⟩ := Prod.mk.inj (Option.some.inj h)
    exact r_ireturn dX10_worth_33 .int rfl rfl
  · replace h := (if_neg c).symm.trans h
    refine x_aload_n (o := a0) dX10_worth_17 rfl ?_
    obtain ⟨v5, hv5, h⟩ := xb h
    refine x_getR (o := a0) dX10_worth_18 xf_X10_30 hv5 ?_
    obtain ⟨v6, hv6, h⟩ := xb h
    refine x_getR (o := v5) dX10_worth_21 xf_X10_148 hv6 ?_
    refine r_iload (x := a4) dX10_worth_24 rfl ?_
    obtain ⟨q8, hq8, h⟩ := xb h
    obtain ⟨v7, hv7, h⟩ := xb h
    refine z_callV (as := [.int a4]) (o := v6) (r1 := (some (.int v7))) (stk := []) (stk2 := [.int v7]) (st1 := p3.2) (d' := 0) dX10_worth_26 xl_X10_135 hq8 (by decide) (Nat.le_trans xs0 (by decide)) rfl rfl (S_X6_hasGame n p3.2 v6 a4 v7 hv7) ?_
    refine r_if_ne (tgt := 34) dX10_worth_29 (by decide) (fun c => ?_) (fun c => ?_)
    · replace h := (if_neg c).symm.trans h
      refine x_aload_n (o := a0) dX10_worth_34 rfl ?_
      obtain ⟨v9, hv9, h⟩ := xb h
      refine x_getR (o := a0) dX10_worth_35 xf_X10_30 hv9 ?_
      refine r_iload (x := a4) dX10_worth_38 rfl ?_
      obtain ⟨q11, hq11, h⟩ := xb h
      obtain ⟨s10, hs10, h⟩ := xb h
      refine z_callV (as := [.int a4]) (o := v9) (r1 := none) (stk := []) (stk2 := []) (st1 := s10) (d' := 4) dX10_worth_40 xl_X10_152 hq11 (by decide) (Nat.le_trans xs0 (by decide)) rfl rfl (S_X5_weigh n p3.2 v9 a4 s10 hs10) ?_
      refine r_iload (x := a5) dX10_worth_43 rfl ?_
      by_cases c6 : a5 = (6 : Int32)
      · replace h := (if_pos c6).symm.trans h
        refine r_tableIn (off := 31) (tgt := 76) dX10_worth_45 (by rw [c6]; decide) (by rw [c6]; decide) (by rw [c6]; rfl) (by decide) ?_
        refine x_aload_n (o := a0) dX10_worth_76 rfl ?_
        obtain ⟨v12, hv12, h⟩ := xb h
        refine x_getR (o := a0) dX10_worth_77 xf_X10_30 hv12 ?_
        obtain ⟨v13, hv13, h⟩ := xb h
        refine x_getI (o := v12) dX10_worth_80 xf_X10_155 hv13 ?_
        obtain ⟨rfl, rfl⟩ := Prod.mk.inj (Option.some.inj h)
        exact r_ireturn dX10_worth_83 .int rfl rfl
      replace h := (if_neg c6).symm.trans h
      by_cases c7 : a5 = (7 : Int32)
      · replace h := (if_pos c7).symm.trans h
        refine r_tableIn (off := 39) (tgt := 84) dX10_worth_45 (by rw [c7]; decide) (by rw [c7]; decide) (by rw [c7]; rfl) (by decide) ?_
        refine x_aload_n (o := a0) dX10_worth_84 rfl ?_
        obtain ⟨v14, hv14, h⟩ := xb h
        refine x_getR (o := a0) dX10_worth_85 xf_X10_30 hv14 ?_
        obtain ⟨v15, hv15, h⟩ := xb h
        refine x_getI (o := v14) dX10_worth_88 xf_X10_158 hv15 ?_
        obtain ⟨rfl, rfl⟩ := Prod.mk.inj (Option.some.inj h)
        exact r_ireturn dX10_worth_91 .int rfl rfl
      replace h := (if_neg c7).symm.trans h
      by_cases c8 : a5 = (8 : Int32)
      · replace h := (if_pos c8).symm.trans h
        refine r_tableIn (off := 47) (tgt := 92) dX10_worth_45 (by rw [c8]; decide) (by rw [c8]; decide) (by rw [c8]; rfl) (by decide) ?_
        refine x_aload_n (o := a0) dX10_worth_92 rfl ?_
        obtain ⟨v16, hv16, h⟩ := xb h
        refine x_getR (o := a0) dX10_worth_93 xf_X10_30 hv16 ?_
        obtain ⟨v17, hv17, h⟩ := xb h
        refine x_getI (o := v16) dX10_worth_96 xf_X10_161 hv17 ?_
        obtain ⟨rfl, rfl⟩ := Prod.mk.inj (Option.some.inj h)
        exact r_ireturn dX10_worth_99 .int rfl rfl
      replace h := (if_neg c8).symm.trans h
      by_cases c9 : a5 = (9 : Int32)
      · replace h := (if_pos c9).symm.trans h
        refine r_tableIn (off := 55) (tgt := 100) dX10_worth_45 (by rw [c9]; decide) (by rw [c9]; decide) (by rw [c9]; rfl) (by decide) ?_
        refine x_aload_n (o := a0) dX10_worth_100 rfl ?_
        obtain ⟨v18, hv18, h⟩ := xb h
        refine x_getR (o := a0) dX10_worth_101 xf_X10_30 hv18 ?_
        obtain ⟨v19, hv19, h⟩ := xb h
        refine x_getI (o := v18) dX10_worth_104 xf_X10_164 hv19 ?_
        obtain ⟨rfl, rfl⟩ := Prod.mk.inj (Option.some.inj h)
        exact r_ireturn dX10_worth_107 .int rfl rfl
      replace h := (if_neg c9).symm.trans h
      refine r_tableOut (tgt := 108) dX10_worth_45 (xswD (fun k hk1 hk2 => by
        have hk : k = 6 ∨ k = 7 ∨ k = 8 ∨ k = 9 := by omega
        rcases hk with rfl | rfl | rfl | rfl
        · exact c6
        · exact c7
        · exact c8
        · exact c9)) (by decide) ?_
      refine r_iload (x := a5) dX10_worth_108 rfl ?_
      obtain ⟨v20, hv20, h⟩ := xb h
      refine z_callS (as := [.int a5]) (r1 := (some (.int v20))) (stk := []) (stk2 := [.int v20]) (st1 := s10) (d' := 1) dX10_worth_110 xl_X10_167 (by decide) (Nat.le_trans xs0 (by decide)) rfl rfl (S_X10_isPart n s10 a5 v20 hv20) ?_
      obtain ⟨q24, hq24, h⟩ := xb h
      have Jq24 : Rn mX10_worth 129 [] [.int q24] s10 (some (.int rv)) st' 5 := by
        obtain ⟨rfl, rfl⟩ := Prod.mk.inj (Option.some.inj h)
        exact r_ireturn dX10_worth_129 .int rfl rfl
      refine r_if_eq (tgt := 128) dX10_worth_113 (by decide) (fun c => ?_) (fun c => ?_)
      · replace hq24 := (if_pos c).symm.trans hq24
        refine r_iconst (v := (-1 : Int32)) dX10_worth_128 (by decide) ?_
        obtain rfl := Option.some.inj hq24
        exact x_sub [] rfl Jq24
      · replace hq24 := (if_neg c).symm.trans hq24
        refine x_aload_n (o := a0) dX10_worth_116 rfl ?_
        obtain ⟨v21, hv21, hq24⟩ := xb hq24
        refine x_getR (o := a0) dX10_worth_117 xf_X10_30 hv21 ?_
        refine r_iload (x := a5) dX10_worth_120 rfl ?_
        obtain ⟨q23, hq23, hq24⟩ := xb hq24
        obtain ⟨v22, hv22, hq24⟩ := xb hq24
        refine z_callV (as := [.int a5]) (o := v21) (r1 := (some (.int v22))) (stk := []) (stk2 := [.int v22]) (st1 := s10) (d' := 1) dX10_worth_122 xl_X10_170 hq23 (by decide) (Nat.le_trans xs0 (by decide)) rfl rfl (S_X5_worthOf n s10 v21 a5 v22 hv22) ?_
        refine r_goto (tgt := 129) dX10_worth_125 (by decide) ?_
        obtain rfl := Option.some.inj hq24
        exact x_sub [] rfl Jq24
    · replace h := (if_pos c).symm.trans h
      refine r_iconst (v := (-1 : Int32)) dX10_worth_32 (by decide) ?_
      obtain ⟨rfl, rfl⟩ := Prod.mk.inj (Option.some.inj h)
      exact r_ireturn dX10_worth_33 .int rfl rfl
theorem S_X10_worth (n : Nat) (st : xS) (a0 : Option Nat) (a1 : Int32) (a2 : Int32) (a3 : Int32) (a4 : Int32) (a5 : Int32) (rv : Int32) (st' : xS) (h : F_X10_worth n st a0 a1 a2 a3 a4 a5 = some (rv, st')) : Ct mX10_worth [va_rf a0, .int a1, .int a2, .int a3, .int a4, .int a5] st (some (.int rv)) st' 5 := by
  refine Ct.of (by decide) (by simp only [lgL_R, lgL_I, lgL_L, lgL_0]; decide) ?_
  try simp only [lvA_R]
  exact R_X10_worth n st a0 a1 a2 a3 a4 a5 rv st' h
theorem R_X10_chance (n : Nat) (st : xS) (a0 : Option Nat) (a1 : Int32) (a2 : Int32) (a3 : Int32) (a4 : Int32) (a5 : Int32) (rv : Int64) (st' : xS) (h : F_X10_chance n st a0 a1 a2 a3 a4 a5 = some (rv, st')) : Rn mX10_chance 0 [(0, va_rf a0), (1, .int a1), (2, .int a2), (3, .int a3), (4, .int a4), (5, .int a5)] [] st (some (.long rv)) st' 5 := by
  unfold F_X10_chance at h
  refine r_iload (x := a5) dX10_chance_0 rfl ?_
  refine r_if_lt (tgt := 43) dX10_chance_2 (by decide) (fun c => ?_) (fun c => ?_)
  · replace h := (if_pos c).symm.trans h
    refine r_ldc2 (v := (-1 : Int64)) dX10_chance_43 xk_X10_173 ?_
    obtain ⟨rfl, rfl⟩ := Prod.mk.inj (Option.some.inj h)
    exact r_lreturn dX10_chance_46 rfl
  · replace h := (if_neg c).symm.trans h
    refine r_iload (x := a5) dX10_chance_5 rfl ?_
    refine r_iconst (v := (3 : Int32)) dX10_chance_7 (by decide) ?_
    refine r_icmp_gt (tgt := 43) dX10_chance_8 (by decide) (fun c => ?_) (fun c => ?_)
    · replace h := (if_pos c).symm.trans h
      refine r_ldc2 (v := (-1 : Int64)) dX10_chance_43 xk_X10_173 ?_
      obtain ⟨rfl, rfl⟩ := Prod.mk.inj (Option.some.inj h)
      exact r_lreturn dX10_chance_46 rfl
    · replace h := (if_neg c).symm.trans h
      refine x_aload_n (o := a0) dX10_chance_11 rfl ?_
      obtain ⟨v1, hv1, h⟩ := xb h
      refine x_getR (o := a0) dX10_chance_12 xf_X10_30 hv1 ?_
      refine x_aload_n (o := a0) dX10_chance_15 rfl ?_
      obtain ⟨v2, hv2, h⟩ := xb h
      refine x_getR (o := a0) dX10_chance_16 xf_X10_10 hv2 ?_
      refine r_iload_n (x := a1) dX10_chance_19 rfl ?_
      refine r_iload_n (x := a2) dX10_chance_20 rfl ?_
      refine r_iload_n (x := a3) dX10_chance_21 rfl ?_
      obtain ⟨q4, hq4, h⟩ := xb h
      obtain ⟨p3, hp3, h⟩ := xb h
      refine z_callV (as := [va_rf v2, .int a1, .int a2, .int a3]) (o := v1) (r1 := (some (.int p3.1))) (stk := []) (stk2 := [.int p3.1]) (st1 := p3.2) (d' := 2) dX10_chance_22 xl_X10_145 hq4 (by decide) (Nat.le_trans xs0 (by decide)) rfl rfl (S_X5_bring_ n st v1 v2 a1 a2 a3 p3.1 p3.2 hp3) ?_
      refine r_if_eq (tgt := 43) dX10_chance_25 (by decide) (fun c => ?_) (fun c => ?_)
      · replace h := (if_pos c).symm.trans h
        refine r_ldc2 (v := (-1 : Int64)) dX10_chance_43 xk_X10_173 ?_
        obtain ⟨rfl, rfl⟩ := Prod.mk.inj (Option.some.inj h)
        exact r_lreturn dX10_chance_46 rfl
      · replace h := (if_neg c).symm.trans h
        refine x_aload_n (o := a0) dX10_chance_28 rfl ?_
        obtain ⟨v5, hv5, h⟩ := xb h
        refine x_getR (o := a0) dX10_chance_29 xf_X10_30 hv5 ?_
        obtain ⟨v6, hv6, h⟩ := xb h
        refine x_getR (o := v5) dX10_chance_32 xf_X10_148 hv6 ?_
        refine r_iload (x := a4) dX10_chance_35 rfl ?_
        obtain ⟨q8, hq8, h⟩ := xb h
        obtain ⟨v7, hv7, h⟩ := xb h
        refine z_callV (as := [.int a4]) (o := v6) (r1 := (some (.int v7))) (stk := []) (stk2 := [.int v7]) (st1 := p3.2) (d' := 0) dX10_chance_37 xl_X10_135 hq8 (by decide) (Nat.le_trans xs0 (by decide)) rfl rfl (S_X6_hasGame n p3.2 v6 a4 v7 hv7) ?_
        refine r_if_ne (tgt := 47) dX10_chance_40 (by decide) (fun c => ?_) (fun c => ?_)
        · replace h := (if_neg c).symm.trans h
          refine x_aload_n (o := a0) dX10_chance_47 rfl ?_
          obtain ⟨v9, hv9, h⟩ := xb h
          refine x_getR (o := a0) dX10_chance_48 xf_X10_30 hv9 ?_
          refine r_iload (x := a4) dX10_chance_51 rfl ?_
          obtain ⟨q11, hq11, h⟩ := xb h
          obtain ⟨s10, hs10, h⟩ := xb h
          refine z_callV (as := [.int a4]) (o := v9) (r1 := none) (stk := []) (stk2 := []) (st1 := s10) (d' := 4) dX10_chance_53 xl_X10_152 hq11 (by decide) (Nat.le_trans xs0 (by decide)) rfl rfl (S_X5_weigh n p3.2 v9 a4 s10 hs10) ?_
          refine x_aload_n (o := a0) dX10_chance_56 rfl ?_
          obtain ⟨v12, hv12, h⟩ := xb h
          refine x_getR (o := a0) dX10_chance_57 xf_X10_30 hv12 ?_
          refine r_iload (x := a5) dX10_chance_60 rfl ?_
          obtain ⟨q14, hq14, h⟩ := xb h
          obtain ⟨v13, hv13, h⟩ := xb h
          refine z_callV (as := [.int a5]) (o := v12) (r1 := (some (.long v13))) (stk := []) (stk2 := [.long v13]) (st1 := s10) (d' := 1) dX10_chance_62 xl_X10_175 hq14 (by decide) (Nat.le_trans xs0 (by decide)) rfl rfl (S_X5_outlook n s10 v12 a5 v13 hv13) ?_
          obtain ⟨rfl, rfl⟩ := Prod.mk.inj (Option.some.inj h)
          exact r_lreturn dX10_chance_65 rfl
        · replace h := (if_pos c).symm.trans h
          refine r_ldc2 (v := (-1 : Int64)) dX10_chance_43 xk_X10_173 ?_
          obtain ⟨rfl, rfl⟩ := Prod.mk.inj (Option.some.inj h)
          exact r_lreturn dX10_chance_46 rfl
theorem S_X10_chance (n : Nat) (st : xS) (a0 : Option Nat) (a1 : Int32) (a2 : Int32) (a3 : Int32) (a4 : Int32) (a5 : Int32) (rv : Int64) (st' : xS) (h : F_X10_chance n st a0 a1 a2 a3 a4 a5 = some (rv, st')) : Ct mX10_chance [va_rf a0, .int a1, .int a2, .int a3, .int a4, .int a5] st (some (.long rv)) st' 5 := by
  refine Ct.of (by decide) (by simp only [lgL_R, lgL_I, lgL_L, lgL_0]; decide) ?_
  try simp only [lvA_R]
  exact R_X10_chance n st a0 a1 a2 a3 a4 a5 rv st' h

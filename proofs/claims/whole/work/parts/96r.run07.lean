/-! printed by a program: the methods run as their functions say -/
theorem R_X11_madeOf_L6 (n : Nat) {r : Option Value} {st' : xS} : ∀ (k : Nat) (st : xS) (a0 : Option Nat) (a1 : Int32) (a2 : Int32) (a3 : Int32) (a4 : Int32) (a5 : Int32) (a6 : Int32) (q : (Int32)), F_X11_madeOf_L6 n k st a0 a1 a2 a3 a4 a5 a6 = some q → Rn mX11_madeOf 151 [(5, .int q)] [] st r st' 2 → Rn mX11_madeOf 6 [(0, va_rf a0), (1, .int a1), (2, .int a2), (3, .int a3), (4, .int a4), (5, .int a5), (6, .int a6)] [] st r st' 2 := by
  intro k
  induction k with
  | zero => intro st a0 a1 a2 a3 a4 a5 a6 q h; cases h
  | succ k ih =>
    intro st a0 a1 a2 a3 a4 a5 a6 q h J
    unfold F_X11_madeOf_L6 at h
    refine r_iload (x := a6) dX11_madeOf_6 rfl ?_
    refine x_aload_n (o := a0) dX11_madeOf_8 rfl ?_
    obtain ⟨v1, hv1, h⟩ := xb h
    refine x_getR (o := a0) dX11_madeOf_9 xf_X11_7 hv1 ?_
    refine r_iconst (v := (3 : Int32)) dX11_madeOf_12 (by decide) ?_
    obtain ⟨v2, hv2, h⟩ := xb h
    refine x_iaload (o := v1) dX11_madeOf_13 hv2 ?_
    refine r_icmp_ge (tgt := 151) dX11_madeOf_14 (by decide) (fun c => ?_) (fun c => ?_)
    · replace h := (if_pos c).symm.trans h
      obtain rfl := Option.some.inj h
      exact x_sub [5] rfl J
    · replace h := (if_neg c).symm.trans h
      refine x_aload_n (o := a0) dX11_madeOf_17 rfl ?_
      refine r_iload (x := a6) dX11_madeOf_18 rfl ?_
      refine r_iload_n (x := a1) dX11_madeOf_20 rfl ?_
      refine r_iload_n (x := a2) dX11_madeOf_21 rfl ?_
      obtain ⟨q4, hq4, h⟩ := xb h
      obtain ⟨v3, hv3, h⟩ := xb h
      refine z_callV (as := [.int a6, .int a1, .int a2]) (o := a0) (r1 := (some (.int v3))) (stk := []) (stk2 := [.int v3]) (st1 := st) (d' := 1) dX11_madeOf_22 xl_X11_229 hq4 (by decide) (Nat.le_trans xs0 (by decide)) rfl rfl (S_X11_isOfYears n st a0 a6 a1 a2 v3 hv3) ?_
      obtain ⟨q21, hq21, h⟩ := xb h
      have Jq21 : Rn mX11_madeOf 145 [(0, va_rf a0), (1, .int a1), (2, .int a2), (3, .int a3), (4, .int a4), (5, .int q21), (6, .int a6)] [] st r st' 2 := by
        obtain ⟨v22, hv22, h⟩ := xb h
        refine x_iinc (c := (1 : Int32)) (lv' := [(6, .int v22), (0, va_rf a0), (1, .int a1), (2, .int a2), (3, .int a3), (4, .int a4), (5, .int q21)]) (x := a6) (v := v22) dX11_madeOf_145 rfl (by decide) (Option.some.inj hv22) (by decide) rfl ?_
        refine r_goto (tgt := 6) dX11_madeOf_148 (by decide) ?_
        exact x_sub [1, 2, 3, 4, 5, 6, 0] rfl (ih st a0 a1 a2 a3 a4 q21 v22 q h J)
      refine r_if_eq (tgt := 145) dX11_madeOf_25 (by decide) (fun c => ?_) (fun c => ?_)
      · replace hq21 := (if_pos c).symm.trans hq21
        obtain rfl := Option.some.inj hq21
        exact x_sub [0, 1, 2, 3, 4, 5, 6] rfl Jq21
      · replace hq21 := (if_neg c).symm.trans hq21
        refine x_aload_n (o := a0) dX11_madeOf_28 rfl ?_
        refine r_iload (x := a6) dX11_madeOf_29 rfl ?_
        refine r_iload_n (x := a3) dX11_madeOf_31 rfl ?_
        obtain ⟨q6, hq6, hq21⟩ := xb hq21
        obtain ⟨v5, hv5, hq21⟩ := xb hq21
        refine z_callV (as := [.int a6, .int a3]) (o := a0) (r1 := (some (.int v5))) (stk := []) (stk2 := [.int v5]) (st1 := st) (d' := 1) dX11_madeOf_32 xl_X11_235 hq6 (by decide) (Nat.le_trans xs0 (by decide)) rfl rfl (S_X11_isBy n st a0 a6 a3 v5 hv5) ?_
        refine r_if_ne (tgt := 41) dX11_madeOf_35 (by decide) (fun c => ?_) (fun c => ?_)
        · replace hq21 := (if_neg c).symm.trans hq21
          refine x_aload_n (o := a0) dX11_madeOf_41 rfl ?_
          refine r_iload (x := a6) dX11_madeOf_42 rfl ?_
          refine r_iconst (v := (0 : Int32)) dX11_madeOf_44 (by decide) ?_
          obtain ⟨q8, hq8, hq21⟩ := xb hq21
          obtain ⟨v7, hv7, hq21⟩ := xb hq21
          refine z_callV (as := [.int a6, .int (0 : Int32)]) (o := a0) (r1 := (some (.int v7))) (stk := []) (stk2 := [.int v7]) (st1 := st) (d' := 0) dX11_madeOf_45 xl_X11_226 hq8 (by decide) (Nat.le_trans xs0 (by decide)) rfl rfl (S_X11_noteAt n st a0 a6 (0 : Int32) v7 hv7) ?_
          refine r_iload_n (x := a3) dX11_madeOf_48 rfl ?_
          obtain ⟨q13, hq13, hq21⟩ := xb hq21
          have Jq13 : Rn mX11_madeOf 68 [(0, va_rf a0), (1, .int a1), (2, .int a2), (3, .int a3), (4, .int a4), (5, .int a5), (6, .int a6)] [.int q13] st r st' 2 := by
            refine r_istore (lv' := [(7, .int q13), (0, va_rf a0), (1, .int a1), (2, .int a2), (3, .int a3), (4, .int a4), (5, .int a5), (6, .int a6)]) (x := q13) dX11_madeOf_68 (by decide) rfl ?_
            refine r_iload (x := a5) dX11_madeOf_70 rfl ?_
            refine r_iload (x := a4) dX11_madeOf_72 rfl ?_
            obtain ⟨q19, hq19, hq21⟩ := xb hq21
            have Jq19 : Rn mX11_madeOf 142 [(0, va_rf a0), (1, .int a1), (2, .int a2), (3, .int a3), (4, .int a4), (6, .int a6)] [.int q19, .int a5] st r st' 2 := by
              refine r_iadd dX11_madeOf_142 ?_
              obtain ⟨v20, hv20, hq21⟩ := xb hq21
              refine x_eqI (Option.some.inj hv20) ?_
              refine r_istore (lv' := [(5, .int v20), (0, va_rf a0), (1, .int a1), (2, .int a2), (3, .int a3), (4, .int a4), (6, .int a6)]) (x := v20) dX11_madeOf_143 (by decide) rfl ?_
              obtain rfl := Option.some.inj hq21
              exact x_sub [1, 2, 3, 4, 5, 0, 6] rfl Jq21
            refine r_if_ne (tgt := 99) dX11_madeOf_74 (by decide) (fun c => ?_) (fun c => ?_)
            · replace hq19 := (if_neg c).symm.trans hq19
              refine r_iload (x := a4) dX11_madeOf_99 rfl ?_
              refine r_iconst (v := (1 : Int32)) dX11_madeOf_101 (by decide) ?_
              refine r_icmp_ne (tgt := 110) dX11_madeOf_102 (by decide) (fun c => ?_) (fun c => ?_)
              · replace hq19 := (if_neg c).symm.trans hq19
                refine r_iload (x := a4) dX11_madeOf_110 rfl ?_
                refine r_iconst (v := (2 : Int32)) dX11_madeOf_112 (by decide) ?_
                refine r_icmp_ne (tgt := 141) dX11_madeOf_113 (by decide) (fun c => ?_) (fun c => ?_)
                · replace hq19 := (if_neg c).symm.trans hq19
                  refine r_iconst (v := (1 : Int32)) dX11_madeOf_141 (by decide) ?_
                  obtain rfl := Option.some.inj hq19
                  exact x_sub [1, 2, 3, 4, 5, 7] rfl Jq19
                · replace hq19 := (if_pos c).symm.trans hq19
                  refine x_aload_n (o := a0) dX11_madeOf_116 rfl ?_
                  refine r_iload (x := a6) dX11_madeOf_117 rfl ?_
                  refine x_aload_n (o := a0) dX11_madeOf_119 rfl ?_
                  refine r_iload (x := a6) dX11_madeOf_120 rfl ?_
                  refine r_iconst (v := (0 : Int32)) dX11_madeOf_122 (by decide) ?_
                  obtain ⟨q15, hq15, hq19⟩ := xb hq19
                  obtain ⟨v14, hv14, hq19⟩ := xb hq19
                  refine z_callV (as := [.int a6, .int (0 : Int32)]) (o := a0) (r1 := (some (.int v14))) (stk := [.int a6, va_rf a0, .int a5]) (stk2 := [.int v14, .int a6, va_rf a0, .int a5]) (st1 := st) (d' := 0) dX11_madeOf_123 xl_X11_226 hq15 (by decide) (Nat.le_trans (xsI (xsA (xsI xs0))) (by decide)) rfl rfl (S_X11_noteAt n st a0 a6 (0 : Int32) v14 hv14) ?_
                  refine r_iload_n (x := a3) dX11_madeOf_126 rfl ?_
                  obtain ⟨q16, hq16, hq19⟩ := xb hq19
                  have Jq16 : Rn mX11_madeOf 135 [(0, va_rf a0), (1, .int a1), (2, .int a2), (3, .int a3), (4, .int a4), (6, .int a6)] [.int q16, .int a6, va_rf a0, .int a5] st r st' 2 := by
                    obtain ⟨q18, hq18, hq19⟩ := xb hq19
                    obtain ⟨v17, hv17, hq19⟩ := xb hq19
                    refine z_callV (as := [.int a6, .int q16]) (o := a0) (r1 := (some (.int v17))) (stk := [.int a5]) (stk2 := [.int v17, .int a5]) (st1 := st) (d' := 0) dX11_madeOf_135 xl_X11_226 hq18 (by decide) (Nat.le_trans (xsI xs0) (by decide)) rfl rfl (S_X11_noteAt n st a0 a6 q16 v17 hv17) ?_
                    refine r_goto (tgt := 142) dX11_madeOf_138 (by decide) ?_
                    obtain rfl := Option.some.inj hq19
                    exact x_sub [0, 1, 2, 3, 4, 5] rfl Jq19
                  refine r_icmp_ne (tgt := 134) dX11_madeOf_127 (by decide) (fun c => ?_) (fun c => ?_)
                  · replace hq16 := (if_neg c).symm.trans hq16
                    refine r_iconst (v := (4 : Int32)) dX11_madeOf_134 (by decide) ?_
                    obtain rfl := Option.some.inj hq16
                    exact x_sub [1, 2, 3, 4, 5, 7] rfl Jq16
                  · replace hq16 := (if_pos c).symm.trans hq16
                    refine r_iconst (v := (3 : Int32)) dX11_madeOf_130 (by decide) ?_
                    refine r_goto (tgt := 135) dX11_madeOf_131 (by decide) ?_
                    obtain rfl := Option.some.inj hq16
                    exact x_sub [1, 2, 3, 4, 5, 7] rfl Jq16
              · replace hq19 := (if_pos c).symm.trans hq19
                refine r_iload (x := q13) dX11_madeOf_105 rfl ?_
                refine r_goto (tgt := 142) dX11_madeOf_107 (by decide) ?_
                obtain rfl := Option.some.inj hq19
                exact x_sub [1, 2, 3, 4, 5, 7] rfl Jq19
            · replace hq19 := (if_pos c).symm.trans hq19
              refine r_iload (x := q13) dX11_madeOf_77 rfl ?_
              refine r_if_le (tgt := 86) dX11_madeOf_79 (by decide) (fun c => ?_) (fun c => ?_)
              · replace hq19 := (if_pos c).symm.trans hq19
                refine r_iload (x := q13) dX11_madeOf_86 rfl ?_
                refine r_if_ne (tgt := 95) dX11_madeOf_88 (by decide) (fun c => ?_) (fun c => ?_)
                · replace hq19 := (if_neg c).symm.trans hq19
                  refine r_iconst (v := (0 : Int32)) dX11_madeOf_95 (by decide) ?_
                  refine r_goto (tgt := 142) dX11_madeOf_96 (by decide) ?_
                  obtain rfl := Option.some.inj hq19
                  exact x_sub [1, 2, 3, 4, 5, 7] rfl Jq19
                · replace hq19 := (if_pos c).symm.trans hq19
                  refine r_iconst (v := (1 : Int32)) dX11_madeOf_91 (by decide) ?_
                  refine r_goto (tgt := 142) dX11_madeOf_92 (by decide) ?_
                  obtain rfl := Option.some.inj hq19
                  exact x_sub [1, 2, 3, 4, 5, 7] rfl Jq19
              · replace hq19 := (if_neg c).symm.trans hq19
                refine r_iconst (v := (3 : Int32)) dX11_madeOf_82 (by decide) ?_
                refine r_goto (tgt := 142) dX11_madeOf_83 (by decide) ?_
                obtain rfl := Option.some.inj hq19
                exact x_sub [1, 2, 3, 4, 5, 7] rfl Jq19
          refine r_icmp_ne (tgt := 61) dX11_madeOf_49 (by decide) (fun c => ?_) (fun c => ?_)
          · replace hq13 := (if_neg c).symm.trans hq13
            refine x_aload_n (o := a0) dX11_madeOf_61 rfl ?_
            refine r_iload (x := a6) dX11_madeOf_62 rfl ?_
            obtain ⟨q12, hq12, hq13⟩ := xb hq13
            obtain ⟨v11, hv11, hq13⟩ := xb hq13
            refine z_callV (as := [.int a6]) (o := a0) (r1 := (some (.int v11))) (stk := []) (stk2 := [.int v11]) (st1 := st) (d' := 1) dX11_madeOf_64 xl_X11_232 hq12 (by decide) (Nat.le_trans xs0 (by decide)) rfl rfl (S_X11_marginOf n st a0 a6 v11 hv11) ?_
            refine r_ineg dX11_madeOf_67 ?_
            obtain rfl := Option.some.inj hq13
            exact x_sub [0, 1, 2, 3, 4, 5, 6] rfl Jq13
          · replace hq13 := (if_pos c).symm.trans hq13
            refine x_aload_n (o := a0) dX11_madeOf_52 rfl ?_
            refine r_iload (x := a6) dX11_madeOf_53 rfl ?_
            obtain ⟨q10, hq10, hq13⟩ := xb hq13
            obtain ⟨v9, hv9, hq13⟩ := xb hq13
            refine z_callV (as := [.int a6]) (o := a0) (r1 := (some (.int v9))) (stk := []) (stk2 := [.int v9]) (st1 := st) (d' := 1) dX11_madeOf_55 xl_X11_232 hq10 (by decide) (Nat.le_trans xs0 (by decide)) rfl rfl (S_X11_marginOf n st a0 a6 v9 hv9) ?_
            refine r_goto (tgt := 68) dX11_madeOf_58 (by decide) ?_
            obtain rfl := Option.some.inj hq13
            exact x_sub [0, 1, 2, 3, 4, 5, 6] rfl Jq13
        · replace hq21 := (if_pos c).symm.trans hq21
          refine r_goto (tgt := 145) dX11_madeOf_38 (by decide) ?_
          obtain rfl := Option.some.inj hq21
          exact x_sub [0, 1, 2, 3, 4, 5, 6] rfl Jq21
theorem R_X11_madeOf (n : Nat) (st : xS) (a0 : Option Nat) (a1 : Int32) (a2 : Int32) (a3 : Int32) (a4 : Int32) (rv : Int32) (h : F_X11_madeOf n st a0 a1 a2 a3 a4 = some rv) : Rn mX11_madeOf 0 [(0, va_rf a0), (1, .int a1), (2, .int a2), (3, .int a3), (4, .int a4)] [] st (some (.int rv)) st 2 := by
  unfold F_X11_madeOf at h
  refine r_iconst (v := (0 : Int32)) dX11_madeOf_0 (by decide) ?_
  refine r_istore (lv' := [(5, .int (0 : Int32)), (0, va_rf a0), (1, .int a1), (2, .int a2), (3, .int a3), (4, .int a4)]) (x := (0 : Int32)) dX11_madeOf_1 (by decide) rfl ?_
  refine r_iconst (v := (0 : Int32)) dX11_madeOf_3 (by decide) ?_
  refine r_istore (lv' := [(6, .int (0 : Int32)), (5, .int (0 : Int32)), (0, va_rf a0), (1, .int a1), (2, .int a2), (3, .int a3), (4, .int a4)]) (x := (0 : Int32)) dX11_madeOf_4 (by decide) rfl ?_
  obtain ⟨q23, hq23, h⟩ := xb h
  have Jq23 : Rn mX11_madeOf 151 [(5, .int q23)] [] st (some (.int rv)) st 2 := by
    refine r_iload (x := q23) dX11_madeOf_151 rfl ?_
    obtain rfl := Option.some.inj h
    exact r_ireturn dX11_madeOf_153 .int rfl rfl
  exact x_sub [2, 3, 4, 5, 6, 1, 0] rfl (R_X11_madeOf_L6 n n st a0 a1 a2 a3 a4 (0 : Int32) (0 : Int32) q23 hq23 Jq23)
theorem S_X11_madeOf (n : Nat) (st : xS) (a0 : Option Nat) (a1 : Int32) (a2 : Int32) (a3 : Int32) (a4 : Int32) (rv : Int32) (h : F_X11_madeOf n st a0 a1 a2 a3 a4 = some rv) : Ct mX11_madeOf [va_rf a0, .int a1, .int a2, .int a3, .int a4] st (some (.int rv)) st 2 := by
  refine Ct.of (by decide) (by simp only [lgL_R, lgL_I, lgL_L, lgL_0]; decide) ?_
  try simp only [lvA_R]
  exact R_X11_madeOf n st a0 a1 a2 a3 a4 rv h
theorem R_X11_isAhead_L6 (n : Nat) {r : Option Value} {st' : xS} : ∀ (k : Nat) (st : xS) (a0 : Option Nat) (a1 : Int32) (a2 : Int32) (a3 : Int32) (a4 : Int32) (a5 : Int32) (a6 : Int32) (q : (Int32)), F_X11_isAhead_L6 n k st a0 a1 a2 a3 a4 a5 a6 = some q → Rn mX11_isAhead 45 [(3, .int a3), (4, .int a4), (5, .int q)] [] st r st' 3 → Rn mX11_isAhead 6 [(0, va_rf a0), (1, .int a1), (2, .int a2), (3, .int a3), (4, .int a4), (5, .int a5), (6, .int a6)] [] st r st' 3 := by
  intro k
  induction k with
  | zero => intro st a0 a1 a2 a3 a4 a5 a6 q h; cases h
  | succ k ih =>
    intro st a0 a1 a2 a3 a4 a5 a6 q h J
    unfold F_X11_isAhead_L6 at h
    refine r_iload (x := a6) dX11_isAhead_6 rfl ?_
    refine r_iconst (v := (3 : Int32)) dX11_isAhead_8 (by decide) ?_
    refine r_icmp_ge (tgt := 45) dX11_isAhead_9 (by decide) (fun c => ?_) (fun c => ?_)
    · replace h := (if_pos c).symm.trans h
      obtain rfl := Option.some.inj h
      exact x_sub [3, 4, 5] rfl J
    · replace h := (if_neg c).symm.trans h
      refine r_iload (x := a5) dX11_isAhead_12 rfl ?_
      refine r_if_ne (tgt := 45) dX11_isAhead_14 (by decide) (fun c => ?_) (fun c => ?_)
      · replace h := (if_neg c).symm.trans h
        obtain rfl := Option.some.inj h
        exact x_sub [3, 4, 5] rfl J
      · replace h := (if_pos c).symm.trans h
        refine x_aload_n (o := a0) dX11_isAhead_17 rfl ?_
        refine r_iload_n (x := a1) dX11_isAhead_18 rfl ?_
        refine r_iload_n (x := a2) dX11_isAhead_19 rfl ?_
        refine r_iload_n (x := a3) dX11_isAhead_20 rfl ?_
        refine r_iload (x := a6) dX11_isAhead_21 rfl ?_
        obtain ⟨q2, hq2, h⟩ := xb h
        obtain ⟨v1, hv1, h⟩ := xb h
        refine z_callV (as := [.int a1, .int a2, .int a3, .int a6]) (o := a0) (r1 := (some (.int v1))) (stk := []) (stk2 := [.int v1]) (st1 := st) (d' := 2) dX11_isAhead_23 xl_X11_238 hq2 (by decide) (Nat.le_trans xs0 (by decide)) rfl rfl (S_X11_madeOf n st a0 a1 a2 a3 a6 v1 hv1) ?_
        refine x_aload_n (o := a0) dX11_isAhead_26 rfl ?_
        refine r_iload_n (x := a1) dX11_isAhead_27 rfl ?_
        refine r_iload_n (x := a2) dX11_isAhead_28 rfl ?_
        refine r_iload (x := a4) dX11_isAhead_29 rfl ?_
        refine r_iload (x := a6) dX11_isAhead_31 rfl ?_
        obtain ⟨q4, hq4, h⟩ := xb h
        obtain ⟨v3, hv3, h⟩ := xb h
        refine z_callV (as := [.int a1, .int a2, .int a4, .int a6]) (o := a0) (r1 := (some (.int v3))) (stk := [.int v1]) (stk2 := [.int v3, .int v1]) (st1 := st) (d' := 2) dX11_isAhead_33 xl_X11_238 hq4 (by decide) (Nat.le_trans (xsI xs0) (by decide)) rfl rfl (S_X11_madeOf n st a0 a1 a2 a4 a6 v3 hv3) ?_
        refine r_isub dX11_isAhead_36 ?_
        obtain ⟨v5, hv5, h⟩ := xb h
        refine x_eqI (Option.some.inj hv5) ?_
        refine r_istore (lv' := [(5, .int v5), (0, va_rf a0), (1, .int a1), (2, .int a2), (3, .int a3), (4, .int a4), (6, .int a6)]) (x := v5) dX11_isAhead_37 (by decide) rfl ?_
        obtain ⟨v6, hv6, h⟩ := xb h
        refine x_iinc (c := (1 : Int32)) (lv' := [(6, .int v6), (5, .int v5), (0, va_rf a0), (1, .int a1), (2, .int a2), (3, .int a3), (4, .int a4)]) (x := a6) (v := v6) dX11_isAhead_39 rfl (by decide) (Option.some.inj hv6) (by decide) rfl ?_
        refine r_goto (tgt := 6) dX11_isAhead_42 (by decide) ?_
        exact x_sub [2, 3, 4, 5, 6, 1, 0] rfl (ih st a0 a1 a2 a3 a4 v5 v6 q h J)
theorem R_X11_isAhead (n : Nat) (st : xS) (a0 : Option Nat) (a1 : Int32) (a2 : Int32) (a3 : Int32) (a4 : Int32) (rv : Int32) (h : F_X11_isAhead n st a0 a1 a2 a3 a4 = some rv) : Rn mX11_isAhead 0 [(0, va_rf a0), (1, .int a1), (2, .int a2), (3, .int a3), (4, .int a4)] [] st (some (.int rv)) st 3 := by
  unfold F_X11_isAhead at h
  refine r_iconst (v := (0 : Int32)) dX11_isAhead_0 (by decide) ?_
  refine r_istore (lv' := [(5, .int (0 : Int32)), (0, va_rf a0), (1, .int a1), (2, .int a2), (3, .int a3), (4, .int a4)]) (x := (0 : Int32)) dX11_isAhead_1 (by decide) rfl ?_
  refine r_iconst (v := (0 : Int32)) dX11_isAhead_3 (by decide) ?_
  refine r_istore (lv' := [(6, .int (0 : Int32)), (5, .int (0 : Int32)), (0, va_rf a0), (1, .int a1), (2, .int a2), (3, .int a3), (4, .int a4)]) (x := (0 : Int32)) dX11_isAhead_4 (by decide) rfl ?_
  obtain ⟨q7, hq7, h⟩ := xb h
  have Jq7 : Rn mX11_isAhead 45 [(3, .int a3), (4, .int a4), (5, .int q7)] [] st (some (.int rv)) st 3 := by
    refine r_iload (x := q7) dX11_isAhead_45 rfl ?_
    obtain ⟨q8, hq8, h⟩ := xb h
    have Jq8 : Rn mX11_isAhead 66 [] [.int q8] st (some (.int rv)) st 3 := by
      obtain ⟨v9, hv9, h⟩ := xb h
      refine x_eqI (rz_inv2 hv9).1 ?_
      obtain rfl := Option.some.inj h
      exact r_ireturn dX11_isAhead_66 .boolean rfl (by rcases (rz_inv2 hv9).2 with e | e <;> rw [e] <;> rfl)
    refine r_if_gt (tgt := 61) dX11_isAhead_47 (by decide) (fun c => ?_) (fun c => ?_)
    · replace hq8 := (if_pos c).symm.trans hq8
      refine r_iconst (v := (1 : Int32)) dX11_isAhead_61 (by decide) ?_
      refine r_goto (tgt := 66) dX11_isAhead_62 (by decide) ?_
      obtain rfl := Option.some.inj hq8
      exact x_sub [] rfl Jq8
    · replace hq8 := (if_neg c).symm.trans hq8
      refine r_iload (x := q7) dX11_isAhead_50 rfl ?_
      refine r_if_ne (tgt := 65) dX11_isAhead_52 (by decide) (fun c => ?_) (fun c => ?_)
      · replace hq8 := (if_neg c).symm.trans hq8
        refine r_iconst (v := (0 : Int32)) dX11_isAhead_65 (by decide) ?_
        obtain rfl := Option.some.inj hq8
        exact x_sub [] rfl Jq8
      · replace hq8 := (if_pos c).symm.trans hq8
        refine r_iload_n (x := a3) dX11_isAhead_55 rfl ?_
        refine r_iload (x := a4) dX11_isAhead_56 rfl ?_
        refine r_icmp_ge (tgt := 65) dX11_isAhead_58 (by decide) (fun c => ?_) (fun c => ?_)
        · replace hq8 := (if_pos c).symm.trans hq8
          refine r_iconst (v := (0 : Int32)) dX11_isAhead_65 (by decide) ?_
          obtain rfl := Option.some.inj hq8
          exact x_sub [] rfl Jq8
        · replace hq8 := (if_neg c).symm.trans hq8
          refine r_iconst (v := (1 : Int32)) dX11_isAhead_61 (by decide) ?_
          refine r_goto (tgt := 66) dX11_isAhead_62 (by decide) ?_
          obtain rfl := Option.some.inj hq8
          exact x_sub [] rfl Jq8
  exact x_sub [2, 3, 4, 5, 6, 1, 0] rfl (R_X11_isAhead_L6 n n st a0 a1 a2 a3 a4 (0 : Int32) (0 : Int32) q7 hq7 Jq7)
theorem S_X11_isAhead (n : Nat) (st : xS) (a0 : Option Nat) (a1 : Int32) (a2 : Int32) (a3 : Int32) (a4 : Int32) (rv : Int32) (h : F_X11_isAhead n st a0 a1 a2 a3 a4 = some rv) : Ct mX11_isAhead [va_rf a0, .int a1, .int a2, .int a3, .int a4] st (some (.int rv)) st 3 := by
  refine Ct.of (by decide) (by simp only [lgL_R, lgL_I, lgL_L, lgL_0]; decide) ?_
  try simp only [lvA_R]
  exact R_X11_isAhead n st a0 a1 a2 a3 a4 rv h
theorem R_X11_table_L31 (n : Nat) {r : Option Value} {st' : xS} : ∀ (k : Nat) (st : xS) (a0 : Option Nat) (a1 : Int32) (a2 : Int32) (a3 : Int32) (a4 : Int32) (a5 : Int32) (a6 : Int32) (q : (Int32)), F_X11_table_L31 n k st a0 a1 a2 a3 a4 a5 a6 = some q → Rn mX11_table 86 [(0, va_rf a0), (1, .int a1), (2, .int a2), (3, .int a3), (4, .int a4), (5, .int q)] [] st r st' 4 → Rn mX11_table 31 [(0, va_rf a0), (1, .int a1), (2, .int a2), (3, .int a3), (4, .int a4), (5, .int a5), (6, .int a6)] [] st r st' 4 := by
  intro k
  induction k with
  | zero => intro st a0 a1 a2 a3 a4 a5 a6 q h; cases h
  | succ k ih =>
    intro st a0 a1 a2 a3 a4 a5 a6 q h J
    unfold F_X11_table_L31 at h
    refine r_iload (x := a6) dX11_table_31 rfl ?_
    refine r_bipush (v := (8 : Int32)) dX11_table_33 (by decide) ?_
    refine r_icmp_ge (tgt := 86) dX11_table_35 (by decide) (fun c => ?_) (fun c => ?_)
    · replace h := (if_pos c).symm.trans h
      obtain rfl := Option.some.inj h
      exact x_sub [0, 1, 2, 3, 4, 5] rfl J
    · replace h := (if_neg c).symm.trans h
      refine r_iload (x := a5) dX11_table_38 rfl ?_
      refine r_iload (x := a6) dX11_table_40 rfl ?_
      refine r_iload (x := a4) dX11_table_42 rfl ?_
      obtain ⟨q8, hq8, h⟩ := xb h
      have Jq8 : Rn mX11_table 77 [(0, va_rf a0), (1, .int a1), (2, .int a2), (3, .int a3), (4, .int a4), (6, .int a6)] [.int q8, .int a5] st r st' 4 := by
        refine r_iadd dX11_table_77 ?_
        obtain ⟨v9, hv9, h⟩ := xb h
        refine x_eqI (Option.some.inj hv9) ?_
        refine r_istore (lv' := [(5, .int v9), (0, va_rf a0), (1, .int a1), (2, .int a2), (3, .int a3), (4, .int a4), (6, .int a6)]) (x := v9) dX11_table_78 (by decide) rfl ?_
        obtain ⟨v10, hv10, h⟩ := xb h
        refine x_iinc (c := (1 : Int32)) (lv' := [(6, .int v10), (5, .int v9), (0, va_rf a0), (1, .int a1), (2, .int a2), (3, .int a3), (4, .int a4)]) (x := a6) (v := v10) dX11_table_80 rfl (by decide) (Option.some.inj hv10) (by decide) rfl ?_
        refine r_goto (tgt := 31) dX11_table_83 (by decide) ?_
        exact x_sub [2, 3, 4, 5, 6, 1, 0] rfl (ih st a0 a1 a2 a3 a4 v9 v10 q h J)
      refine r_icmp_eq (tgt := 76) dX11_table_44 (by decide) (fun c => ?_) (fun c => ?_)
      · replace hq8 := (if_pos c).symm.trans hq8
        refine r_iconst (v := (0 : Int32)) dX11_table_76 (by decide) ?_
        obtain rfl := Option.some.inj hq8
        exact x_sub [0, 1, 2, 3, 4, 6] rfl Jq8
      · replace hq8 := (if_neg c).symm.trans hq8
        refine x_aload_n (o := a0) dX11_table_47 rfl ?_
        refine r_iload_n (x := a1) dX11_table_48 rfl ?_
        refine r_iload_n (x := a2) dX11_table_49 rfl ?_
        refine r_iload (x := a6) dX11_table_50 rfl ?_
        refine r_iconst (v := (3 : Int32)) dX11_table_52 (by decide) ?_
        obtain ⟨q5, hq5, hq8⟩ := xb hq8
        obtain ⟨v4, hv4, hq8⟩ := xb hq8
        refine z_callV (as := [.int a1, .int a2, .int a6, .int (3 : Int32)]) (o := a0) (r1 := (some (.int v4))) (stk := [.int a5]) (stk2 := [.int v4, .int a5]) (st1 := st) (d' := 2) dX11_table_53 xl_X11_238 hq5 (by decide) (Nat.le_trans (xsI xs0) (by decide)) rfl rfl (S_X11_madeOf n st a0 a1 a2 a6 (3 : Int32) v4 hv4) ?_
        refine r_if_le (tgt := 76) dX11_table_56 (by decide) (fun c => ?_) (fun c => ?_)
        · replace hq8 := (if_pos c).symm.trans hq8
          refine r_iconst (v := (0 : Int32)) dX11_table_76 (by decide) ?_
          obtain rfl := Option.some.inj hq8
          exact x_sub [0, 1, 2, 3, 4, 6] rfl Jq8
        · replace hq8 := (if_neg c).symm.trans hq8
          refine x_aload_n (o := a0) dX11_table_59 rfl ?_
          refine r_iload_n (x := a1) dX11_table_60 rfl ?_
          refine r_iload_n (x := a2) dX11_table_61 rfl ?_
          refine r_iload (x := a6) dX11_table_62 rfl ?_
          refine r_iload (x := a4) dX11_table_64 rfl ?_
          obtain ⟨q7, hq7, hq8⟩ := xb hq8
          obtain ⟨v6, hv6, hq8⟩ := xb hq8
          refine z_callV (as := [.int a1, .int a2, .int a6, .int a4]) (o := a0) (r1 := (some (.int v6))) (stk := [.int a5]) (stk2 := [.int v6, .int a5]) (st1 := st) (d' := 3) dX11_table_66 xl_X11_241 hq7 (by decide) (Nat.le_trans (xsI xs0) (by decide)) rfl rfl (S_X11_isAhead n st a0 a1 a2 a6 a4 v6 hv6) ?_
          refine r_if_eq (tgt := 76) dX11_table_69 (by decide) (fun c => ?_) (fun c => ?_)
          · replace hq8 := (if_pos c).symm.trans hq8
            refine r_iconst (v := (0 : Int32)) dX11_table_76 (by decide) ?_
            obtain rfl := Option.some.inj hq8
            exact x_sub [0, 1, 2, 3, 4, 6] rfl Jq8
          · replace hq8 := (if_neg c).symm.trans hq8
            refine r_iconst (v := (1 : Int32)) dX11_table_72 (by decide) ?_
            refine r_goto (tgt := 77) dX11_table_73 (by decide) ?_
            obtain rfl := Option.some.inj hq8
            exact x_sub [0, 1, 2, 3, 4, 6] rfl Jq8
theorem R_X11_table_L3 (n : Nat) (rv : Int32) : ∀ (k : Nat) (st : xS) (a0 : Option Nat) (a1 : Int32) (a2 : Int32) (a3 : Int32) (a4 : Int32), F_X11_table_L3 n k st a0 a1 a2 a3 a4 = some rv → Rn mX11_table 3 [(0, va_rf a0), (1, .int a1), (2, .int a2), (3, .int a3), (4, .int a4)] [] st (some (.int rv)) st 4 := by
  intro k
  induction k with
  | zero => intro st a0 a1 a2 a3 a4 h; cases h
  | succ k ih =>
    intro st a0 a1 a2 a3 a4 h
    unfold F_X11_table_L3 at h
    refine r_iload (x := a4) dX11_table_3 rfl ?_
    refine r_bipush (v := (8 : Int32)) dX11_table_5 (by decide) ?_
    refine r_icmp_ge (tgt := 101) dX11_table_7 (by decide) (fun c => ?_) (fun c => ?_)
    · replace h := (if_pos c).symm.trans h
      refine r_iconst (v := (-1 : Int32)) dX11_table_101 (by decide) ?_
      obtain rfl := Option.some.inj h
      exact r_ireturn dX11_table_102 .int rfl rfl
    · replace h := (if_neg c).symm.trans h
      refine x_aload_n (o := a0) dX11_table_10 rfl ?_
      refine r_iload_n (x := a1) dX11_table_11 rfl ?_
      refine r_iload_n (x := a2) dX11_table_12 rfl ?_
      refine r_iload (x := a4) dX11_table_13 rfl ?_
      refine r_iconst (v := (3 : Int32)) dX11_table_15 (by decide) ?_
      obtain ⟨q2, hq2, h⟩ := xb h
      obtain ⟨v1, hv1, h⟩ := xb h
      refine z_callV (as := [.int a1, .int a2, .int a4, .int (3 : Int32)]) (o := a0) (r1 := (some (.int v1))) (stk := []) (stk2 := [.int v1]) (st1 := st) (d' := 2) dX11_table_16 xl_X11_238 hq2 (by decide) (Nat.le_trans xs0 (by decide)) rfl rfl (S_X11_madeOf n st a0 a1 a2 a4 (3 : Int32) v1 hv1) ?_
      refine r_if_ne (tgt := 25) dX11_table_19 (by decide) (fun c => ?_) (fun c => ?_)
      · replace h := (if_neg c).symm.trans h
        refine r_iconst (v := (0 : Int32)) dX11_table_25 (by decide) ?_
        refine r_istore (lv' := [(5, .int (0 : Int32)), (0, va_rf a0), (1, .int a1), (2, .int a2), (3, .int a3), (4, .int a4)]) (x := (0 : Int32)) dX11_table_26 (by decide) rfl ?_
        refine r_iconst (v := (0 : Int32)) dX11_table_28 (by decide) ?_
        refine r_istore (lv' := [(6, .int (0 : Int32)), (5, .int (0 : Int32)), (0, va_rf a0), (1, .int a1), (2, .int a2), (3, .int a3), (4, .int a4)]) (x := (0 : Int32)) dX11_table_29 (by decide) rfl ?_
        obtain ⟨q11, hq11, h⟩ := xb h
        have Jq11 : Rn mX11_table 86 [(0, va_rf a0), (1, .int a1), (2, .int a2), (3, .int a3), (4, .int a4), (5, .int q11)] [] st (some (.int rv)) st 4 := by
          refine r_iload (x := q11) dX11_table_86 rfl ?_
          refine r_iload_n (x := a3) dX11_table_88 rfl ?_
          refine r_icmp_ne (tgt := 95) dX11_table_89 (by decide) (fun c => ?_) (fun c => ?_)
          · replace h := (if_neg c).symm.trans h
            obtain ⟨v12, hv12, h⟩ := xb h
            refine x_iinc (c := (1 : Int32)) (lv' := [(4, .int v12), (0, va_rf a0), (1, .int a1), (2, .int a2), (3, .int a3), (5, .int q11)]) (x := a4) (v := v12) dX11_table_95 rfl (by decide) (Option.some.inj hv12) (by decide) rfl ?_
            refine r_goto (tgt := 3) dX11_table_98 (by decide) ?_
            exact x_sub [1, 2, 3, 4, 0] rfl (ih st a0 a1 a2 a3 v12 h)
          · replace h := (if_pos c).symm.trans h
            refine r_iload (x := a4) dX11_table_92 rfl ?_
            obtain rfl := Option.some.inj h
            exact r_ireturn dX11_table_94 .int rfl rfl
        exact x_sub [2, 3, 4, 5, 6, 1, 0] rfl (R_X11_table_L31 n n st a0 a1 a2 a3 a4 (0 : Int32) (0 : Int32) q11 hq11 Jq11)
      · replace h := (if_pos c).symm.trans h
        refine r_goto (tgt := 95) dX11_table_22 (by decide) ?_
        obtain ⟨v3, hv3, h⟩ := xb h
        refine x_iinc (c := (1 : Int32)) (lv' := [(4, .int v3), (0, va_rf a0), (1, .int a1), (2, .int a2), (3, .int a3)]) (x := a4) (v := v3) dX11_table_95 rfl (by decide) (Option.some.inj hv3) (by decide) rfl ?_
        refine r_goto (tgt := 3) dX11_table_98 (by decide) ?_
        exact x_sub [1, 2, 3, 4, 0] rfl (ih st a0 a1 a2 a3 v3 h)
theorem R_X11_table (n : Nat) (st : xS) (a0 : Option Nat) (a1 : Int32) (a2 : Int32) (a3 : Int32) (rv : Int32) (h : F_X11_table n st a0 a1 a2 a3 = some rv) : Rn mX11_table 0 [(0, va_rf a0), (1, .int a1), (2, .int a2), (3, .int a3)] [] st (some (.int rv)) st 4 := by
  unfold F_X11_table at h
  refine r_iconst (v := (0 : Int32)) dX11_table_0 (by decide) ?_
  refine r_istore (lv' := [(4, .int (0 : Int32)), (0, va_rf a0), (1, .int a1), (2, .int a2), (3, .int a3)]) (x := (0 : Int32)) dX11_table_1 (by decide) rfl ?_
  exact x_sub [1, 2, 3, 4, 0] rfl (R_X11_table_L3 n rv n st a0 a1 a2 a3 (0 : Int32) h)
theorem S_X11_table (n : Nat) (st : xS) (a0 : Option Nat) (a1 : Int32) (a2 : Int32) (a3 : Int32) (rv : Int32) (h : F_X11_table n st a0 a1 a2 a3 = some rv) : Ct mX11_table [va_rf a0, .int a1, .int a2, .int a3] st (some (.int rv)) st 4 := by
  refine Ct.of (by decide) (by simp only [lgL_R, lgL_I, lgL_L, lgL_0]; decide) ?_
  try simp only [lvA_R]
  exact R_X11_table n st a0 a1 a2 a3 rv h
theorem R_X11_points (n : Nat) (st : xS) (a0 : Option Nat) (a1 : Int32) (a2 : Int32) (a3 : Int32) (rv : Int32) (h : F_X11_points n st a0 a1 a2 a3 = some rv) : Rn mX11_points 0 [(0, va_rf a0), (1, .int a1), (2, .int a2), (3, .int a3)] [] st (some (.int rv)) st 3 := by
  unfold F_X11_points at h
  refine r_iload_n (x := a3) dX11_points_0 rfl ?_
  refine r_iconst (v := (0 : Int32)) dX11_points_1 (by decide) ?_
  refine r_bipush (v := (7 : Int32)) dX11_points_2 (by decide) ?_
  obtain ⟨v1, hv1, h⟩ := xb h
  refine z_callS (as := [.int a3, .int (0 : Int32), .int (7 : Int32)]) (r1 := (some (.int v1))) (stk := []) (stk2 := [.int v1]) (st1 := st) (d' := 0) dX11_points_4 xl_X11_90 (by decide) (Nat.le_trans xs0 (by decide)) rfl rfl (S_X11_isIn n st a3 (0 : Int32) (7 : Int32) v1 hv1) ?_
  obtain ⟨q4, hq4, h⟩ := xb h
  have Jq4 : Rn mX11_points 22 [] [.int q4] st (some (.int rv)) st 3 := by
    obtain rfl := Option.some.inj h
    exact r_ireturn dX11_points_22 .int rfl rfl
  refine r_if_eq (tgt := 21) dX11_points_7 (by decide) (fun c => ?_) (fun c => ?_)
  · replace hq4 := (if_pos c).symm.trans hq4
    refine r_iconst (v := (-1 : Int32)) dX11_points_21 (by decide) ?_
    obtain rfl := Option.some.inj hq4
    exact x_sub [] rfl Jq4
  · replace hq4 := (if_neg c).symm.trans hq4
    refine x_aload_n (o := a0) dX11_points_10 rfl ?_
    refine r_iload_n (x := a1) dX11_points_11 rfl ?_
    refine r_iload_n (x := a2) dX11_points_12 rfl ?_
    refine r_iload_n (x := a3) dX11_points_13 rfl ?_
    refine r_iconst (v := (0 : Int32)) dX11_points_14 (by decide) ?_
    obtain ⟨q3, hq3, hq4⟩ := xb hq4
    obtain ⟨v2, hv2, hq4⟩ := xb hq4
    refine z_callV (as := [.int a1, .int a2, .int a3, .int (0 : Int32)]) (o := a0) (r1 := (some (.int v2))) (stk := []) (stk2 := [.int v2]) (st1 := st) (d' := 2) dX11_points_15 xl_X11_238 hq3 (by decide) (Nat.le_trans xs0 (by decide)) rfl rfl (S_X11_madeOf n st a0 a1 a2 a3 (0 : Int32) v2 hv2) ?_
    refine r_goto (tgt := 22) dX11_points_18 (by decide) ?_
    obtain rfl := Option.some.inj hq4
    exact x_sub [] rfl Jq4
theorem S_X11_points (n : Nat) (st : xS) (a0 : Option Nat) (a1 : Int32) (a2 : Int32) (a3 : Int32) (rv : Int32) (h : F_X11_points n st a0 a1 a2 a3 = some rv) : Ct mX11_points [va_rf a0, .int a1, .int a2, .int a3] st (some (.int rv)) st 3 := by
  refine Ct.of (by decide) (by simp only [lgL_R, lgL_I, lgL_L, lgL_0]; decide) ?_
  try simp only [lvA_R]
  exact R_X11_points n st a0 a1 a2 a3 rv h
theorem R_X11_common_L28 (n : Nat) {r : Option Value} {st' : xS} : ∀ (k : Nat) (st : xS) (a4 : Int64) (a6 : Int64) (q : (Int64)), F_X11_common_L28 n k st a4 a6 = some q → Rn mX11_common 53 [(4, .long q)] [] st r st' 0 → Rn mX11_common 28 [(4, .long a4), (6, .long a6)] [] st r st' 0 := by
  intro k
  induction k with
  | zero => intro st a4 a6 q h; cases h
  | succ k ih =>
    intro st a4 a6 q h J
    unfold F_X11_common_L28 at h
    refine r_lload (x := a6) dX11_common_28 rfl ?_
    refine r_lconst (v := (0 : Int64)) dX11_common_30 (by decide) ?_
    refine r_lcmp dX11_common_31 ?_
    refine r_if_eq (tgt := 53) dX11_common_32 (by decide) (fun c => ?_) (fun c => ?_)
    · replace h := (if_pos c).symm.trans h
      obtain rfl := Option.some.inj h
      exact x_sub [0] rfl J
    · replace h := (if_neg c).symm.trans h
      refine r_lload (x := a4) dX11_common_35 rfl ?_
      refine r_lload (x := a6) dX11_common_37 rfl ?_
      obtain ⟨v3, hv3, h⟩ := xb h
      refine x_lrem dX11_common_39 hv3 ?_
      refine r_lstore (lv' := [(8, .long v3), (4, .long a4), (6, .long a6)]) (x := v3) dX11_common_40 (by decide) rfl ?_
      refine r_lload (x := a6) dX11_common_42 rfl ?_
      refine r_lstore (lv' := [(4, .long a6), (8, .long v3), (6, .long a6)]) (x := a6) dX11_common_44 (by decide) rfl ?_
      refine r_lload (x := v3) dX11_common_46 rfl ?_
      refine r_lstore (lv' := [(6, .long v3), (4, .long a6), (8, .long v3)]) (x := v3) dX11_common_48 (by decide) rfl ?_
      refine r_goto (tgt := 28) dX11_common_50 (by decide) ?_
      exact x_sub [1, 0] rfl (ih st a6 v3 q h J)
theorem R_X11_common (n : Nat) (st : xS) (a0 : Int64) (a2 : Int64) (rv : Int64) (h : F_X11_common n st a0 a2 = some rv) : Rn mX11_common 0 [(0, .long a0), (2, .long a2)] [] st (some (.long rv)) st 0 := by
  unfold F_X11_common at h
  refine r_lload_n (x := a0) dX11_common_0 rfl ?_
  refine r_lconst (v := (0 : Int64)) dX11_common_1 (by decide) ?_
  refine r_lcmp dX11_common_2 ?_
  obtain ⟨q1, hq1, h⟩ := xb h
  have Jq1 : Rn mX11_common 12 [(2, .long a2)] [.long q1] st (some (.long rv)) st 0 := by
    refine r_lstore (lv' := [(4, .long q1), (2, .long a2)]) (x := q1) dX11_common_12 (by decide) rfl ?_
    refine r_lload_n (x := a2) dX11_common_14 rfl ?_
    refine r_lconst (v := (0 : Int64)) dX11_common_15 (by decide) ?_
    refine r_lcmp dX11_common_16 ?_
    obtain ⟨q2, hq2, h⟩ := xb h
    have Jq2 : Rn mX11_common 26 [(4, .long q1)] [.long q2] st (some (.long rv)) st 0 := by
      refine r_lstore (lv' := [(6, .long q2), (4, .long q1)]) (x := q2) dX11_common_26 (by decide) rfl ?_
      obtain ⟨q4, hq4, h⟩ := xb h
      have Jq4 : Rn mX11_common 53 [(4, .long q4)] [] st (some (.long rv)) st 0 := by
        refine r_lload (x := q4) dX11_common_53 rfl ?_
        obtain rfl := Option.some.inj h
        exact r_lreturn dX11_common_55 rfl
      exact x_sub [1, 0] rfl (R_X11_common_L28 n n st q1 q2 q4 hq4 Jq4)
    refine r_if_ge (tgt := 25) dX11_common_17 (by decide) (fun c => ?_) (fun c => ?_)
    · replace hq2 := (if_pos c).symm.trans hq2
      refine r_lload_n (x := a2) dX11_common_25 rfl ?_
      obtain rfl := Option.some.inj hq2
      exact x_sub [0] rfl Jq2
    · replace hq2 := (if_neg c).symm.trans hq2
      refine r_lload_n (x := a2) dX11_common_20 rfl ?_
      refine r_lneg dX11_common_21 ?_
      refine r_goto (tgt := 26) dX11_common_22 (by decide) ?_
      obtain rfl := Option.some.inj hq2
      exact x_sub [0] rfl Jq2
  refine r_if_ge (tgt := 11) dX11_common_3 (by decide) (fun c => ?_) (fun c => ?_)
  · replace hq1 := (if_pos c).symm.trans hq1
    refine r_lload_n (x := a0) dX11_common_11 rfl ?_
    obtain rfl := Option.some.inj hq1
    exact x_sub [1] rfl Jq1
  · replace hq1 := (if_neg c).symm.trans hq1
    refine r_lload_n (x := a0) dX11_common_6 rfl ?_
    refine r_lneg dX11_common_7 ?_
    refine r_goto (tgt := 12) dX11_common_8 (by decide) ?_
    obtain rfl := Option.some.inj hq1
    exact x_sub [1] rfl Jq1
theorem S_X11_common (n : Nat) (st : xS) (a0 : Int64) (a2 : Int64) (rv : Int64) (h : F_X11_common n st a0 a2 = some rv) : Ct mX11_common [.long a0, .long a2] st (some (.long rv)) st 0 := by
  refine Ct.of (by decide) (by simp only [lgL_R, lgL_I, lgL_L, lgL_0]; decide) ?_
  try simp only [lvA_R]
  exact R_X11_common n st a0 a2 rv h
theorem R_X11_least (n : Nat) (st : xS) (a0 : Int64) (a2 : Int64) (a4 : Int32) (rv : Int64) (h : F_X11_least n st a0 a2 a4 = some rv) : Rn mX11_least 0 [(0, .long a0), (2, .long a2), (4, .int a4)] [] st (some (.long rv)) st 1 := by
  unfold F_X11_least at h
  refine r_lload_n (x := a0) dX11_least_0 rfl ?_
  refine r_lload_n (x := a2) dX11_least_1 rfl ?_
  obtain ⟨v1, hv1, h⟩ := xb h
  refine z_callS (as := [.long a0, .long a2]) (r1 := (some (.long v1))) (stk := []) (stk2 := [.long v1]) (st1 := st) (d' := 0) dX11_least_2 xl_X11_244 (by decide) (Nat.le_trans xs0 (by decide)) rfl rfl (S_X11_common n st a0 a2 v1 hv1) ?_
  refine r_lstore (lv' := [(5, .long v1), (0, .long a0), (2, .long a2), (4, .int a4)]) (x := v1) dX11_least_5 (by decide) rfl ?_
  refine r_lload_n (x := a2) dX11_least_7 rfl ?_
  refine r_lconst (v := (0 : Int64)) dX11_least_8 (by decide) ?_
  refine r_lcmp dX11_least_9 ?_
  obtain ⟨q2, hq2, h⟩ := xb h
  have Jq2 : Rn mX11_least 21 [(0, .long a0), (2, .long a2), (4, .int a4)] [.long q2] st (some (.long rv)) st 1 := by
    refine r_lstore (lv' := [(5, .long q2), (0, .long a0), (2, .long a2), (4, .int a4)]) (x := q2) dX11_least_21 (by decide) rfl ?_
    refine r_iload (x := a4) dX11_least_23 rfl ?_
    obtain ⟨q5, hq5, h⟩ := xb h
    have Jq5 : Rn mX11_least 39 [] [.long q5] st (some (.long rv)) st 1 := by
      obtain rfl := Option.some.inj h
      exact r_lreturn dX11_least_39 rfl
    refine r_if_eq (tgt := 35) dX11_least_25 (by decide) (fun c => ?_) (fun c => ?_)
    · replace hq5 := (if_pos c).symm.trans hq5
      refine r_lload_n (x := a0) dX11_least_35 rfl ?_
      refine r_lload (x := q2) dX11_least_36 rfl ?_
      obtain ⟨v3, hv3, hq5⟩ := xb hq5
      refine x_ldiv dX11_least_38 hv3 ?_
      obtain rfl := Option.some.inj hq5
      exact x_sub [] rfl Jq5
    · replace hq5 := (if_neg c).symm.trans hq5
      refine r_lload_n (x := a2) dX11_least_28 rfl ?_
      refine r_lload (x := q2) dX11_least_29 rfl ?_
      obtain ⟨v4, hv4, hq5⟩ := xb hq5
      refine x_ldiv dX11_least_31 hv4 ?_
      refine r_goto (tgt := 39) dX11_least_32 (by decide) ?_
      obtain rfl := Option.some.inj hq5
      exact x_sub [] rfl Jq5
  refine r_if_ge (tgt := 19) dX11_least_10 (by decide) (fun c => ?_) (fun c => ?_)
  · replace hq2 := (if_pos c).symm.trans hq2
    refine r_lload (x := v1) dX11_least_19 rfl ?_
    obtain rfl := Option.some.inj hq2
    exact x_sub [1, 2, 3] rfl Jq2
  · replace hq2 := (if_neg c).symm.trans hq2
    refine r_lload (x := v1) dX11_least_13 rfl ?_
    refine r_lneg dX11_least_15 ?_
    refine r_goto (tgt := 21) dX11_least_16 (by decide) ?_
    obtain rfl := Option.some.inj hq2
    exact x_sub [1, 2, 3] rfl Jq2
theorem S_X11_least (n : Nat) (st : xS) (a0 : Int64) (a2 : Int64) (a4 : Int32) (rv : Int64) (h : F_X11_least n st a0 a2 a4 = some rv) : Ct mX11_least [.long a0, .long a2, .int a4] st (some (.long rv)) st 1 := by
  refine Ct.of (by decide) (by simp only [lgL_R, lgL_I, lgL_L, lgL_0]; decide) ?_
  try simp only [lvA_R]
  exact R_X11_least n st a0 a2 a4 rv h
theorem R_X11_adds (n : Nat) (st : xS) (a0 : Option Nat) (a1 : Int32) (a2 : Int32) (st' : xS) (h : F_X11_adds n st a0 a1 a2 = some st') : Rn mX11_adds 0 [(0, va_rf a0), (1, .int a1), (2, .int a2)] [] st none st' 0 := by
  unfold F_X11_adds at h
  refine x_aload_n (o := a0) dX11_adds_0 rfl ?_
  refine x_dupR (o := a0) dX11_adds_1 ?_
  obtain ⟨v1, hv1, h⟩ := xb h
  refine x_getI (o := a0) dX11_adds_2 xf_X11_248 hv1 ?_
  refine r_iload_n (x := a1) dX11_adds_5 rfl ?_
  obtain ⟨q2, hq2, h⟩ := xb h
  have Jq2 : Rn mX11_adds 14 [(0, va_rf a0), (1, .int a1), (2, .int a2)] [.int q2, .int v1, va_rf a0] st none st' 0 := by
    refine r_iadd dX11_adds_14 ?_
    obtain ⟨s3, hs3, h⟩ := xb h
    refine x_putI (o := a0) dX11_adds_15 (xp_X11_248 _) hs3 ?_
    refine x_aload_n (o := a0) dX11_adds_18 rfl ?_
    refine x_dupR (o := a0) dX11_adds_19 ?_
    obtain ⟨v4, hv4, h⟩ := xb h
    refine x_getI (o := a0) dX11_adds_20 xf_X11_251 hv4 ?_
    refine r_iload_n (x := a1) dX11_adds_23 rfl ?_
    obtain ⟨q5, hq5, h⟩ := xb h
    have Jq5 : Rn mX11_adds 32 [(0, va_rf a0), (1, .int a1), (2, .int a2)] [.int q5, .int v4, va_rf a0] s3 none st' 0 := by
      refine r_iadd dX11_adds_32 ?_
      obtain ⟨s6, hs6, h⟩ := xb h
      refine x_putI (o := a0) dX11_adds_33 (xp_X11_251 _) hs6 ?_
      refine x_aload_n (o := a0) dX11_adds_36 rfl ?_
      refine x_dupR (o := a0) dX11_adds_37 ?_
      obtain ⟨v7, hv7, h⟩ := xb h
      refine x_getI (o := a0) dX11_adds_38 xf_X11_254 hv7 ?_
      refine r_iload_n (x := a1) dX11_adds_41 rfl ?_
      obtain ⟨q8, hq8, h⟩ := xb h
      have Jq8 : Rn mX11_adds 50 [(0, va_rf a0), (1, .int a1), (2, .int a2)] [.int q8, .int v7, va_rf a0] s6 none st' 0 := by
        refine r_iadd dX11_adds_50 ?_
        obtain ⟨s9, hs9, h⟩ := xb h
        refine x_putI (o := a0) dX11_adds_51 (xp_X11_254 _) hs9 ?_
        refine x_aload_n (o := a0) dX11_adds_54 rfl ?_
        refine x_dupR (o := a0) dX11_adds_55 ?_
        obtain ⟨v10, hv10, h⟩ := xb h
        refine x_getI (o := a0) dX11_adds_56 xf_X11_257 hv10 ?_
        refine r_iload_n (x := a1) dX11_adds_59 rfl ?_
        obtain ⟨q11, hq11, h⟩ := xb h
        have Jq11 : Rn mX11_adds 68 [] [.int q11, .int v10, va_rf a0] s9 none st' 0 := by
          refine r_iadd dX11_adds_68 ?_
          obtain ⟨s12, hs12, h⟩ := xb h
          refine x_putI (o := a0) dX11_adds_69 (xp_X11_257 _) hs12 ?_
          obtain rfl := Option.some.inj h
          exact r_return dX11_adds_72 rfl
        refine r_if_eq (tgt := 67) dX11_adds_60 (by decide) (fun c => ?_) (fun c => ?_)
        · replace hq11 := (if_pos c).symm.trans hq11
          refine r_iload_n (x := a2) dX11_adds_67 rfl ?_
          obtain rfl := Option.some.inj hq11
          exact x_sub [] rfl Jq11
        · replace hq11 := (if_neg c).symm.trans hq11
          refine r_iconst (v := (0 : Int32)) dX11_adds_63 (by decide) ?_
          refine r_goto (tgt := 68) dX11_adds_64 (by decide) ?_
          obtain rfl := Option.some.inj hq11
          exact x_sub [] rfl Jq11
      refine r_if_eq (tgt := 49) dX11_adds_42 (by decide) (fun c => ?_) (fun c => ?_)
      · replace hq8 := (if_pos c).symm.trans hq8
        refine r_iconst (v := (0 : Int32)) dX11_adds_49 (by decide) ?_
        obtain rfl := Option.some.inj hq8
        exact x_sub [0, 1, 2] rfl Jq8
      · replace hq8 := (if_neg c).symm.trans hq8
        refine r_iload_n (x := a2) dX11_adds_45 rfl ?_
        refine r_goto (tgt := 50) dX11_adds_46 (by decide) ?_
        obtain rfl := Option.some.inj hq8
        exact x_sub [0, 1, 2] rfl Jq8
    refine r_if_eq (tgt := 31) dX11_adds_24 (by decide) (fun c => ?_) (fun c => ?_)
    · replace hq5 := (if_pos c).symm.trans hq5
      refine r_iconst (v := (1 : Int32)) dX11_adds_31 (by decide) ?_
      obtain rfl := Option.some.inj hq5
      exact x_sub [0, 1, 2] rfl Jq5
    · replace hq5 := (if_neg c).symm.trans hq5
      refine r_iconst (v := (0 : Int32)) dX11_adds_27 (by decide) ?_
      refine r_goto (tgt := 32) dX11_adds_28 (by decide) ?_
      obtain rfl := Option.some.inj hq5
      exact x_sub [0, 1, 2] rfl Jq5
  refine r_if_eq (tgt := 13) dX11_adds_6 (by decide) (fun c => ?_) (fun c => ?_)
  · replace hq2 := (if_pos c).symm.trans hq2
    refine r_iconst (v := (0 : Int32)) dX11_adds_13 (by decide) ?_
    obtain rfl := Option.some.inj hq2
    exact x_sub [0, 1, 2] rfl Jq2
  · replace hq2 := (if_neg c).symm.trans hq2
    refine r_iconst (v := (1 : Int32)) dX11_adds_9 (by decide) ?_
    refine r_goto (tgt := 14) dX11_adds_10 (by decide) ?_
    obtain rfl := Option.some.inj hq2
    exact x_sub [0, 1, 2] rfl Jq2
theorem S_X11_adds (n : Nat) (st : xS) (a0 : Option Nat) (a1 : Int32) (a2 : Int32) (st' : xS) (h : F_X11_adds n st a0 a1 a2 = some st') : Ct mX11_adds [va_rf a0, .int a1, .int a2] st none st' 0 := by
  refine Ct.of (by decide) (by simp only [lgL_R, lgL_I, lgL_L, lgL_0]; decide) ?_
  try simp only [lvA_R]
  exact R_X11_adds n st a0 a1 a2 st' h
theorem R_X11_nothing (n : Nat) (st : xS) (a0 : Option Nat) (st' : xS) (h : F_X11_nothing n st a0 = some st') : Rn mX11_nothing 0 [(0, va_rf a0)] [] st none st' 0 := by
  unfold F_X11_nothing at h
  refine x_aload_n (o := a0) dX11_nothing_0 rfl ?_
  refine r_iconst (v := (0 : Int32)) dX11_nothing_1 (by decide) ?_
  obtain ⟨s1, hs1, h⟩ := xb h
  refine x_putI (o := a0) dX11_nothing_2 (xp_X11_248 _) hs1 ?_
  refine x_aload_n (o := a0) dX11_nothing_5 rfl ?_
  refine r_iconst (v := (0 : Int32)) dX11_nothing_6 (by decide) ?_
  obtain ⟨s2, hs2, h⟩ := xb h
  refine x_putI (o := a0) dX11_nothing_7 (xp_X11_251 _) hs2 ?_
  refine x_aload_n (o := a0) dX11_nothing_10 rfl ?_
  refine r_iconst (v := (0 : Int32)) dX11_nothing_11 (by decide) ?_
  obtain ⟨s3, hs3, h⟩ := xb h
  refine x_putI (o := a0) dX11_nothing_12 (xp_X11_254 _) hs3 ?_
  refine x_aload_n (o := a0) dX11_nothing_15 rfl ?_
  refine r_iconst (v := (0 : Int32)) dX11_nothing_16 (by decide) ?_
  obtain ⟨s4, hs4, h⟩ := xb h
  refine x_putI (o := a0) dX11_nothing_17 (xp_X11_257 _) hs4 ?_
  obtain rfl := Option.some.inj h
  exact r_return dX11_nothing_20 rfl
theorem S_X11_nothing (n : Nat) (st : xS) (a0 : Option Nat) (st' : xS) (h : F_X11_nothing n st a0 = some st') : Ct mX11_nothing [va_rf a0] st none st' 0 := by
  refine Ct.of (by decide) (by simp only [lgL_R, lgL_I, lgL_L, lgL_0]; decide) ?_
  try simp only [lvA_R]
  exact R_X11_nothing n st a0 st' h
theorem R_X11_apart (n : Nat) (st : xS) (a0 : Option Nat) (a1 : Int32) (rv : Int32) (h : F_X11_apart n st a0 a1 = some rv) : Rn mX11_apart 0 [(0, va_rf a0), (1, .int a1)] [] st (some (.int rv)) st 2 := by
  unfold F_X11_apart at h
  refine x_aload_n (o := a0) dX11_apart_0 rfl ?_
  obtain ⟨v1, hv1, h⟩ := xb h
  refine x_getI (o := a0) dX11_apart_1 xf_X11_248 hv1 ?_
  obtain ⟨q10, hq10, h⟩ := xb h
  have Jq10 : Rn mX11_apart 59 [] [.int q10] st (some (.int rv)) st 2 := by
    obtain rfl := Option.some.inj h
    exact r_ireturn dX11_apart_59 .int rfl rfl
  refine r_if_eq (tgt := 14) dX11_apart_4 (by decide) (fun c => ?_) (fun c => ?_)
  · replace hq10 := (if_pos c).symm.trans hq10
    refine r_ldcw (v := (-1000000 : Int32)) dX11_apart_14 xk_X11_260 ?_
    refine r_goto (tgt := 59) dX11_apart_17 (by decide) ?_
    obtain rfl := Option.some.inj hq10
    exact x_sub [] rfl Jq10
  · replace hq10 := (if_neg c).symm.trans hq10
    refine x_aload_n (o := a0) dX11_apart_7 rfl ?_
    obtain ⟨v2, hv2, hq10⟩ := xb hq10
    refine x_getI (o := a0) dX11_apart_8 xf_X11_251 hv2 ?_
    refine r_if_ne (tgt := 20) dX11_apart_11 (by decide) (fun c => ?_) (fun c => ?_)
    · replace hq10 := (if_neg c).symm.trans hq10
      refine x_aload_n (o := a0) dX11_apart_20 rfl ?_
      obtain ⟨v3, hv3, hq10⟩ := xb hq10
      refine x_getI (o := a0) dX11_apart_21 xf_X11_254 hv3 ?_
      refine r_i2l dX11_apart_24 ?_
      refine x_aload_n (o := a0) dX11_apart_25 rfl ?_
      obtain ⟨v4, hv4, hq10⟩ := xb hq10
      refine x_getI (o := a0) dX11_apart_26 xf_X11_251 hv4 ?_
      refine r_i2l dX11_apart_29 ?_
      refine r_lmul dX11_apart_30 ?_
      refine x_aload_n (o := a0) dX11_apart_31 rfl ?_
      obtain ⟨v5, hv5, hq10⟩ := xb hq10
      refine x_getI (o := a0) dX11_apart_32 xf_X11_257 hv5 ?_
      refine r_i2l dX11_apart_35 ?_
      refine x_aload_n (o := a0) dX11_apart_36 rfl ?_
      obtain ⟨v6, hv6, hq10⟩ := xb hq10
      refine x_getI (o := a0) dX11_apart_37 xf_X11_248 hv6 ?_
      refine r_i2l dX11_apart_40 ?_
      refine r_lmul dX11_apart_41 ?_
      refine r_lsub dX11_apart_42 ?_
      refine x_aload_n (o := a0) dX11_apart_43 rfl ?_
      obtain ⟨v7, hv7, hq10⟩ := xb hq10
      refine x_getI (o := a0) dX11_apart_44 xf_X11_248 hv7 ?_
      refine r_i2l dX11_apart_47 ?_
      refine x_aload_n (o := a0) dX11_apart_48 rfl ?_
      obtain ⟨v8, hv8, hq10⟩ := xb hq10
      refine x_getI (o := a0) dX11_apart_49 xf_X11_251 hv8 ?_
      refine r_i2l dX11_apart_52 ?_
      refine r_lmul dX11_apart_53 ?_
      refine r_iload_n (x := a1) dX11_apart_54 rfl ?_
      obtain ⟨v9, hv9, hq10⟩ := xb hq10
      refine z_callS (as := [.long ((v3.toInt64 * v4.toInt64) - (v5.toInt64 * v6.toInt64)), .long (v7.toInt64 * v8.toInt64), .int a1]) (r1 := (some (.long v9))) (stk := []) (stk2 := [.long v9]) (st1 := st) (d' := 1) dX11_apart_55 xl_X11_261 (by decide) (Nat.le_trans xs0 (by decide)) rfl rfl (S_X11_least n st ((v3.toInt64 * v4.toInt64) - (v5.toInt64 * v6.toInt64)) (v7.toInt64 * v8.toInt64) a1 v9 hv9) ?_
      refine r_l2i dX11_apart_58 ?_
      obtain rfl := Option.some.inj hq10
      exact x_sub [] rfl Jq10
    · replace hq10 := (if_pos c).symm.trans hq10
      refine r_ldcw (v := (-1000000 : Int32)) dX11_apart_14 xk_X11_260 ?_
      refine r_goto (tgt := 59) dX11_apart_17 (by decide) ?_
      obtain rfl := Option.some.inj hq10
      exact x_sub [] rfl Jq10
theorem S_X11_apart (n : Nat) (st : xS) (a0 : Option Nat) (a1 : Int32) (rv : Int32) (h : F_X11_apart n st a0 a1 = some rv) : Ct mX11_apart [va_rf a0, .int a1] st (some (.int rv)) st 2 := by
  refine Ct.of (by decide) (by simp only [lgL_R, lgL_I, lgL_L, lgL_0]; decide) ?_
  try simp only [lvA_R]
  exact R_X11_apart n st a0 a1 rv h
theorem R_X11_alone_L7 (n : Nat) {r : Option Value} {st' : xS} : ∀ (k : Nat) (st : xS) (a0 : Option Nat) (a1 : Int32) (a2 : Int32) (a3 : Int32) (a4 : Int32) (q : (xS)), F_X11_alone_L7 n k st a0 a1 a2 a3 a4 = some q → Rn mX11_alone 46 [(0, va_rf a0), (3, .int a3)] [] q r st' 2 → Rn mX11_alone 7 [(0, va_rf a0), (1, .int a1), (2, .int a2), (3, .int a3), (4, .int a4)] [] st r st' 2 := by
  intro k
  induction k with
  | zero => intro st a0 a1 a2 a3 a4 q h; cases h
  | succ k ih =>
    intro st a0 a1 a2 a3 a4 q h J
    unfold F_X11_alone_L7 at h
    refine r_iload (x := a4) dX11_alone_7 rfl ?_
    refine x_aload_n (o := a0) dX11_alone_9 rfl ?_
    obtain ⟨v3, hv3, h⟩ := xb h
    refine x_getR (o := a0) dX11_alone_10 xf_X11_7 hv3 ?_
    refine r_iconst (v := (3 : Int32)) dX11_alone_13 (by decide) ?_
    obtain ⟨v4, hv4, h⟩ := xb h
    refine x_iaload (o := v3) dX11_alone_14 hv4 ?_
    refine r_icmp_ge (tgt := 46) dX11_alone_15 (by decide) (fun c => ?_) (fun c => ?_)
    · replace h := (if_pos c).symm.trans h
      obtain rfl := Option.some.inj h
      exact x_sub [0, 3] rfl J
    · replace h := (if_neg c).symm.trans h
      refine x_aload_n (o := a0) dX11_alone_18 rfl ?_
      refine r_iload (x := a4) dX11_alone_19 rfl ?_
      refine r_iload_n (x := a1) dX11_alone_21 rfl ?_
      refine r_iload_n (x := a2) dX11_alone_22 rfl ?_
      obtain ⟨q6, hq6, h⟩ := xb h
      obtain ⟨v5, hv5, h⟩ := xb h
      refine z_callV (as := [.int a4, .int a1, .int a2]) (o := a0) (r1 := (some (.int v5))) (stk := []) (stk2 := [.int v5]) (st1 := st) (d' := 1) dX11_alone_23 xl_X11_229 hq6 (by decide) (Nat.le_trans xs0 (by decide)) rfl rfl (S_X11_isOfYears n st a0 a4 a1 a2 v5 hv5) ?_
      obtain ⟨q11, hq11, h⟩ := xb h
      have Jq11 : Rn mX11_alone 40 [(0, va_rf a0), (1, .int a1), (2, .int a2), (3, .int a3), (4, .int a4)] [] q11 r st' 2 := by
        obtain ⟨v12, hv12, h⟩ := xb h
        refine x_iinc (c := (1 : Int32)) (lv' := [(4, .int v12), (0, va_rf a0), (1, .int a1), (2, .int a2), (3, .int a3)]) (x := a4) (v := v12) dX11_alone_40 rfl (by decide) (Option.some.inj hv12) (by decide) rfl ?_
        refine r_goto (tgt := 7) dX11_alone_43 (by decide) ?_
        exact x_sub [1, 2, 3, 4, 0] rfl (ih q11 a0 a1 a2 a3 v12 q h J)
      refine r_if_eq (tgt := 40) dX11_alone_26 (by decide) (fun c => ?_) (fun c => ?_)
      · replace hq11 := (if_pos c).symm.trans hq11
        obtain rfl := Option.some.inj hq11
        exact x_sub [0, 1, 2, 3, 4] rfl Jq11
      · replace hq11 := (if_neg c).symm.trans hq11
        refine x_aload_n (o := a0) dX11_alone_29 rfl ?_
        refine r_iconst (v := (1 : Int32)) dX11_alone_30 (by decide) ?_
        refine x_aload_n (o := a0) dX11_alone_31 rfl ?_
        refine r_iload (x := a4) dX11_alone_32 rfl ?_
        obtain ⟨q8, hq8, hq11⟩ := xb hq11
        obtain ⟨v7, hv7, hq11⟩ := xb hq11
        refine z_callV (as := [.int a4]) (o := a0) (r1 := (some (.int v7))) (stk := [.int (1 : Int32), va_rf a0]) (stk2 := [.int v7, .int (1 : Int32), va_rf a0]) (st1 := st) (d' := 1) dX11_alone_34 xl_X11_232 hq8 (by decide) (Nat.le_trans (xsI (xsA xs0)) (by decide)) rfl rfl (S_X11_marginOf n st a0 a4 v7 hv7) ?_
        obtain ⟨q10, hq10, hq11⟩ := xb hq11
        obtain ⟨s9, hs9, hq11⟩ := xb hq11
        refine z_callV (as := [.int (1 : Int32), .int v7]) (o := a0) (r1 := none) (stk := []) (stk2 := []) (st1 := s9) (d' := 0) dX11_alone_37 xl_X11_268 hq10 (by decide) (Nat.le_trans xs0 (by decide)) rfl rfl (S_X11_adds n st a0 (1 : Int32) v7 s9 hs9) ?_
        obtain rfl := Option.some.inj hq11
        exact x_sub [0, 1, 2, 3, 4] rfl Jq11
theorem R_X11_alone (n : Nat) (st : xS) (a0 : Option Nat) (a1 : Int32) (a2 : Int32) (a3 : Int32) (rv : Int32) (st' : xS) (h : F_X11_alone n st a0 a1 a2 a3 = some (rv, st')) : Rn mX11_alone 0 [(0, va_rf a0), (1, .int a1), (2, .int a2), (3, .int a3)] [] st (some (.int rv)) st' 2 := by
  unfold F_X11_alone at h
  refine x_aload_n (o := a0) dX11_alone_0 rfl ?_
  obtain ⟨q2, hq2, h⟩ := xb h
  obtain ⟨s1, hs1, h⟩ := xb h
  refine z_callV (as := []) (o := a0) (r1 := none) (stk := []) (stk2 := []) (st1 := s1) (d' := 0) dX11_alone_1 xl_X11_265 hq2 (by decide) (Nat.le_trans xs0 (by decide)) rfl rfl (S_X11_nothing n st a0  s1 hs1) ?_
  refine r_iconst (v := (0 : Int32)) dX11_alone_4 (by decide) ?_
  refine r_istore (lv' := [(4, .int (0 : Int32)), (0, va_rf a0), (1, .int a1), (2, .int a2), (3, .int a3)]) (x := (0 : Int32)) dX11_alone_5 (by decide) rfl ?_
  obtain ⟨q13, hq13, h⟩ := xb h
  have Jq13 : Rn mX11_alone 46 [(0, va_rf a0), (3, .int a3)] [] q13 (some (.int rv)) st' 2 := by
    refine x_aload_n (o := a0) dX11_alone_46 rfl ?_
    obtain ⟨v14, hv14, h⟩ := xb h
    refine x_getI (o := a0) dX11_alone_47 xf_X11_248 hv14 ?_
    obtain ⟨q18, hq18, h⟩ := xb h
    have Jq18 : Rn mX11_alone 74 [] [.int q18] q13 (some (.int rv)) st' 2 := by
      obtain ⟨rfl, rfl⟩ := Prod.mk.inj (Option.some.inj h)
      exact r_ireturn dX11_alone_74 .int rfl rfl
    refine r_if_ne (tgt := 59) dX11_alone_50 (by decide) (fun c => ?_) (fun c => ?_)
    · replace hq18 := (if_neg c).symm.trans hq18
      refine x_aload_n (o := a0) dX11_alone_59 rfl ?_
      obtain ⟨v15, hv15, hq18⟩ := xb hq18
      refine x_getI (o := a0) dX11_alone_60 xf_X11_254 hv15 ?_
      refine r_i2l dX11_alone_63 ?_
      refine x_aload_n (o := a0) dX11_alone_64 rfl ?_
      obtain ⟨v16, hv16, hq18⟩ := xb hq18
      refine x_getI (o := a0) dX11_alone_65 xf_X11_248 hv16 ?_
      refine r_i2l dX11_alone_68 ?_
      refine r_iload_n (x := a3) dX11_alone_69 rfl ?_
      obtain ⟨v17, hv17, hq18⟩ := xb hq18
      refine z_callS (as := [.long v15.toInt64, .long v16.toInt64, .int a3]) (r1 := (some (.long v17))) (stk := []) (stk2 := [.long v17]) (st1 := q13) (d' := 1) dX11_alone_70 xl_X11_261 (by decide) (Nat.le_trans xs0 (by decide)) rfl rfl (S_X11_least n q13 v15.toInt64 v16.toInt64 a3 v17 hv17) ?_
      refine r_l2i dX11_alone_73 ?_
      obtain rfl := Option.some.inj hq18
      exact x_sub [] rfl Jq18
    · replace hq18 := (if_pos c).symm.trans hq18
      refine r_ldcw (v := (-1000000 : Int32)) dX11_alone_53 xk_X11_260 ?_
      refine r_goto (tgt := 74) dX11_alone_56 (by decide) ?_
      obtain rfl := Option.some.inj hq18
      exact x_sub [] rfl Jq18
  exact x_sub [1, 2, 3, 4, 0] rfl (R_X11_alone_L7 n n s1 a0 a1 a2 a3 (0 : Int32) q13 hq13 Jq13)
theorem S_X11_alone (n : Nat) (st : xS) (a0 : Option Nat) (a1 : Int32) (a2 : Int32) (a3 : Int32) (rv : Int32) (st' : xS) (h : F_X11_alone n st a0 a1 a2 a3 = some (rv, st')) : Ct mX11_alone [va_rf a0, .int a1, .int a2, .int a3] st (some (.int rv)) st' 2 := by
  refine Ct.of (by decide) (by simp only [lgL_R, lgL_I, lgL_L, lgL_0]; decide) ?_
  try simp only [lvA_R]
  exact R_X11_alone n st a0 a1 a2 a3 rv st' h
theorem R_X11_people_L22 (n : Nat) {r : Option Value} {st' : xS} : ∀ (k : Nat) (st : xS) (a0 : Option Nat) (a1 : Int32) (a2 : Int32) (a3 : Int32) (a4 : Int32) (a5 : Int32) (q : (xS)), F_X11_people_L22 n k st a0 a1 a2 a3 a4 a5 = some q → Rn mX11_people 77 [(0, va_rf a0), (4, .int a4)] [] q r st' 3 → Rn mX11_people 22 [(0, va_rf a0), (1, .int a1), (2, .int a2), (3, .int a3), (4, .int a4), (5, .int a5)] [] st r st' 3 := by
  intro k
  induction k with
  | zero => intro st a0 a1 a2 a3 a4 a5 q h; cases h
  | succ k ih =>
    intro st a0 a1 a2 a3 a4 a5 q h J
    unfold F_X11_people_L22 at h
    refine r_iload (x := a5) dX11_people_22 rfl ?_
    refine x_aload_n (o := a0) dX11_people_24 rfl ?_
    obtain ⟨v4, hv4, h⟩ := xb h
    refine x_getR (o := a0) dX11_people_25 xf_X11_7 hv4 ?_
    refine r_iconst (v := (3 : Int32)) dX11_people_28 (by decide) ?_
    obtain ⟨v5, hv5, h⟩ := xb h
    refine x_iaload (o := v4) dX11_people_29 hv5 ?_
    refine r_icmp_ge (tgt := 77) dX11_people_30 (by decide) (fun c => ?_) (fun c => ?_)
    · replace h := (if_pos c).symm.trans h
      obtain rfl := Option.some.inj h
      exact x_sub [0, 4] rfl J
    · replace h := (if_neg c).symm.trans h
      refine x_aload_n (o := a0) dX11_people_33 rfl ?_
      refine r_iload (x := a5) dX11_people_34 rfl ?_
      refine r_iload_n (x := a1) dX11_people_36 rfl ?_
      refine r_iload_n (x := a2) dX11_people_37 rfl ?_
      obtain ⟨q7, hq7, h⟩ := xb h
      obtain ⟨v6, hv6, h⟩ := xb h
      refine z_callV (as := [.int a5, .int a1, .int a2]) (o := a0) (r1 := (some (.int v6))) (stk := []) (stk2 := [.int v6]) (st1 := st) (d' := 1) dX11_people_38 xl_X11_229 hq7 (by decide) (Nat.le_trans xs0 (by decide)) rfl rfl (S_X11_isOfYears n st a0 a5 a1 a2 v6 hv6) ?_
      obtain ⟨q15, hq15, h⟩ := xb h
      have Jq15 : Rn mX11_people 71 [(0, va_rf a0), (1, .int a1), (2, .int a2), (3, .int a3), (4, .int a4), (5, .int a5)] [] q15 r st' 3 := by
        obtain ⟨v16, hv16, h⟩ := xb h
        refine x_iinc (c := (1 : Int32)) (lv' := [(5, .int v16), (0, va_rf a0), (1, .int a1), (2, .int a2), (3, .int a3), (4, .int a4)]) (x := a5) (v := v16) dX11_people_71 rfl (by decide) (Option.some.inj hv16) (by decide) rfl ?_
        refine r_goto (tgt := 22) dX11_people_74 (by decide) ?_
        exact x_sub [1, 2, 3, 4, 5, 0] rfl (ih q15 a0 a1 a2 a3 a4 v16 q h J)
      refine r_if_eq (tgt := 71) dX11_people_41 (by decide) (fun c => ?_) (fun c => ?_)
      · replace hq15 := (if_pos c).symm.trans hq15
        obtain rfl := Option.some.inj hq15
        exact x_sub [0, 1, 2, 3, 4, 5] rfl Jq15
      · replace hq15 := (if_neg c).symm.trans hq15
        refine x_aload_n (o := a0) dX11_people_44 rfl ?_
        refine x_aload_n (o := a0) dX11_people_45 rfl ?_
        refine r_iload (x := a5) dX11_people_46 rfl ?_
        refine r_bipush (v := (8 : Int32)) dX11_people_48 (by decide) ?_
        obtain ⟨q9, hq9, hq15⟩ := xb hq15
        obtain ⟨v8, hv8, hq15⟩ := xb hq15
        refine z_callV (as := [.int a5, .int (8 : Int32)]) (o := a0) (r1 := (some (.int v8))) (stk := [va_rf a0]) (stk2 := [.int v8, va_rf a0]) (st1 := st) (d' := 0) dX11_people_50 xl_X11_226 hq9 (by decide) (Nat.le_trans (xsA xs0) (by decide)) rfl rfl (S_X11_noteAt n st a0 a5 (8 : Int32) v8 hv8) ?_
        refine r_iload_n (x := a3) dX11_people_53 rfl ?_
        obtain ⟨q10, hq10, hq15⟩ := xb hq15
        have Jq10 : Rn mX11_people 62 [(0, va_rf a0), (1, .int a1), (2, .int a2), (3, .int a3), (4, .int a4), (5, .int a5)] [.int q10, va_rf a0] st r st' 3 := by
          refine x_aload_n (o := a0) dX11_people_62 rfl ?_
          refine r_iload (x := a5) dX11_people_63 rfl ?_
          obtain ⟨q12, hq12, hq15⟩ := xb hq15
          obtain ⟨v11, hv11, hq15⟩ := xb hq15
          refine z_callV (as := [.int a5]) (o := a0) (r1 := (some (.int v11))) (stk := [.int q10, va_rf a0]) (stk2 := [.int v11, .int q10, va_rf a0]) (st1 := st) (d' := 1) dX11_people_65 xl_X11_232 hq12 (by decide) (Nat.le_trans (xsI (xsA xs0)) (by decide)) rfl rfl (S_X11_marginOf n st a0 a5 v11 hv11) ?_
          obtain ⟨q14, hq14, hq15⟩ := xb hq15
          obtain ⟨s13, hs13, hq15⟩ := xb hq15
          refine z_callV (as := [.int q10, .int v11]) (o := a0) (r1 := none) (stk := []) (stk2 := []) (st1 := s13) (d' := 0) dX11_people_68 xl_X11_268 hq14 (by decide) (Nat.le_trans xs0 (by decide)) rfl rfl (S_X11_adds n st a0 q10 v11 s13 hs13) ?_
          obtain rfl := Option.some.inj hq15
          exact x_sub [0, 1, 2, 3, 4, 5] rfl Jq15
        refine r_icmp_lt (tgt := 61) dX11_people_54 (by decide) (fun c => ?_) (fun c => ?_)
        · replace hq10 := (if_pos c).symm.trans hq10
          refine r_iconst (v := (0 : Int32)) dX11_people_61 (by decide) ?_
          obtain rfl := Option.some.inj hq10
          exact x_sub [0, 1, 2, 3, 4, 5] rfl Jq10
        · replace hq10 := (if_neg c).symm.trans hq10
          refine r_iconst (v := (1 : Int32)) dX11_people_57 (by decide) ?_
          refine r_goto (tgt := 62) dX11_people_58 (by decide) ?_
          obtain rfl := Option.some.inj hq10
          exact x_sub [0, 1, 2, 3, 4, 5] rfl Jq10
theorem R_X11_people (n : Nat) (st : xS) (a0 : Option Nat) (a1 : Int32) (a2 : Int32) (a3 : Int32) (a4 : Int32) (rv : Int32) (st' : xS) (h : F_X11_people n st a0 a1 a2 a3 a4 = some (rv, st')) : Rn mX11_people 0 [(0, va_rf a0), (1, .int a1), (2, .int a2), (3, .int a3), (4, .int a4)] [] st (some (.int rv)) st' 3 := by
  unfold F_X11_people at h
  refine r_iload_n (x := a3) dX11_people_0 rfl ?_
  refine r_iconst (v := (0 : Int32)) dX11_people_1 (by decide) ?_
  refine r_sipush (v := (1000 : Int32)) dX11_people_2 (by decide) ?_
  obtain ⟨v1, hv1, h⟩ := xb h
  refine z_callS (as := [.int a3, .int (0 : Int32), .int (1000 : Int32)]) (r1 := (some (.int v1))) (stk := []) (stk2 := [.int v1]) (st1 := st) (d' := 0) dX11_people_5 xl_X11_90 (by decide) (Nat.le_trans xs0 (by decide)) rfl rfl (S_X11_isIn n st a3 (0 : Int32) (1000 : Int32) v1 hv1) ?_
  refine r_if_ne (tgt := 15) dX11_people_8 (by decide) (fun c => ?_) (fun c => ?_)
  · replace h := (if_neg c).symm.trans h
    refine x_aload_n (o := a0) dX11_people_15 rfl ?_
    obtain ⟨q3, hq3, h⟩ := xb h
    obtain ⟨s2, hs2, h⟩ := xb h
    refine z_callV (as := []) (o := a0) (r1 := none) (stk := []) (stk2 := []) (st1 := s2) (d' := 0) dX11_people_16 xl_X11_265 hq3 (by decide) (Nat.le_trans xs0 (by decide)) rfl rfl (S_X11_nothing n st a0  s2 hs2) ?_
    refine r_iconst (v := (0 : Int32)) dX11_people_19 (by decide) ?_
    refine r_istore (lv' := [(5, .int (0 : Int32)), (0, va_rf a0), (1, .int a1), (2, .int a2), (3, .int a3), (4, .int a4)]) (x := (0 : Int32)) dX11_people_20 (by decide) rfl ?_
    obtain ⟨q17, hq17, h⟩ := xb h
    have Jq17 : Rn mX11_people 77 [(0, va_rf a0), (4, .int a4)] [] q17 (some (.int rv)) st' 3 := by
      refine x_aload_n (o := a0) dX11_people_77 rfl ?_
      refine r_iload (x := a4) dX11_people_78 rfl ?_
      obtain ⟨q19, hq19, h⟩ := xb h
      obtain ⟨v18, hv18, h⟩ := xb h
      refine z_callV (as := [.int a4]) (o := a0) (r1 := (some (.int v18))) (stk := []) (stk2 := [.int v18]) (st1 := q17) (d' := 2) dX11_people_80 xl_X11_272 hq19 (by decide) (Nat.le_trans xs0 (by decide)) rfl rfl (S_X11_apart n q17 a0 a4 v18 hv18) ?_
      obtain ⟨rfl, rfl⟩ := Prod.mk.inj (Option.some.inj h)
      exact r_ireturn dX11_people_83 .int rfl rfl
    exact x_sub [1, 2, 3, 4, 5, 0] rfl (R_X11_people_L22 n n s2 a0 a1 a2 a3 a4 (0 : Int32) q17 hq17 Jq17)
  · replace h := (if_pos c).symm.trans h
    refine r_ldcw (v := (-1000000 : Int32)) dX11_people_11 xk_X11_260 ?_
    obtain ⟨rfl, rfl⟩ := Prod.mk.inj (Option.some.inj h)
    exact r_ireturn dX11_people_14 .int rfl rfl
theorem S_X11_people (n : Nat) (st : xS) (a0 : Option Nat) (a1 : Int32) (a2 : Int32) (a3 : Int32) (a4 : Int32) (rv : Int32) (st' : xS) (h : F_X11_people n st a0 a1 a2 a3 a4 = some (rv, st')) : Ct mX11_people [va_rf a0, .int a1, .int a2, .int a3, .int a4] st (some (.int rv)) st' 3 := by
  refine Ct.of (by decide) (by simp only [lgL_R, lgL_I, lgL_L, lgL_0]; decide) ?_
  try simp only [lvA_R]
  exact R_X11_people n st a0 a1 a2 a3 a4 rv st' h
theorem R_X11_longer_L7 (n : Nat) {r : Option Value} {st' : xS} : ∀ (k : Nat) (st : xS) (a0 : Option Nat) (a1 : Int32) (a2 : Int32) (a3 : Int32) (a4 : Int32) (a5 : Int32) (q : (xS)), F_X11_longer_L7 n k st a0 a1 a2 a3 a4 a5 = some q → Rn mX11_longer 90 [(0, va_rf a0), (4, .int a4)] [] q r st' 3 → Rn mX11_longer 7 [(0, va_rf a0), (1, .int a1), (2, .int a2), (3, .int a3), (4, .int a4), (5, .int a5)] [] st r st' 3 := by
  intro k
  induction k with
  | zero => intro st a0 a1 a2 a3 a4 a5 q h; cases h
  | succ k ih =>
    intro st a0 a1 a2 a3 a4 a5 q h J
    unfold F_X11_longer_L7 at h
    refine r_iload (x := a5) dX11_longer_7 rfl ?_
    refine x_aload_n (o := a0) dX11_longer_9 rfl ?_
    obtain ⟨v3, hv3, h⟩ := xb h
    refine x_getR (o := a0) dX11_longer_10 xf_X11_7 hv3 ?_
    refine r_iconst (v := (3 : Int32)) dX11_longer_13 (by decide) ?_
    obtain ⟨v4, hv4, h⟩ := xb h
    refine x_iaload (o := v3) dX11_longer_14 hv4 ?_
    refine r_icmp_ge (tgt := 90) dX11_longer_15 (by decide) (fun c => ?_) (fun c => ?_)
    · replace h := (if_pos c).symm.trans h
      obtain rfl := Option.some.inj h
      exact x_sub [0, 4] rfl J
    · replace h := (if_neg c).symm.trans h
      refine x_aload_n (o := a0) dX11_longer_18 rfl ?_
      refine r_iload (x := a5) dX11_longer_19 rfl ?_
      obtain ⟨q6, hq6, h⟩ := xb h
      obtain ⟨v5, hv5, h⟩ := xb h
      refine z_callV (as := [.int a5]) (o := a0) (r1 := (some (.int v5))) (stk := []) (stk2 := [.int v5]) (st1 := st) (d' := 1) dX11_longer_21 xl_X11_232 hq6 (by decide) (Nat.le_trans xs0 (by decide)) rfl rfl (S_X11_marginOf n st a0 a5 v5 hv5) ?_
      refine r_istore (lv' := [(6, .int v5), (0, va_rf a0), (1, .int a1), (2, .int a2), (3, .int a3), (4, .int a4), (5, .int a5)]) (x := v5) dX11_longer_24 (by decide) rfl ?_
      refine x_aload_n (o := a0) dX11_longer_26 rfl ?_
      refine r_iload (x := a5) dX11_longer_27 rfl ?_
      refine r_iload_n (x := a1) dX11_longer_29 rfl ?_
      refine r_iload_n (x := a2) dX11_longer_30 rfl ?_
      obtain ⟨q8, hq8, h⟩ := xb h
      obtain ⟨v7, hv7, h⟩ := xb h
      refine z_callV (as := [.int a5, .int a1, .int a2]) (o := a0) (r1 := (some (.int v7))) (stk := []) (stk2 := [.int v7]) (st1 := st) (d' := 1) dX11_longer_31 xl_X11_229 hq8 (by decide) (Nat.le_trans xs0 (by decide)) rfl rfl (S_X11_isOfYears n st a0 a5 a1 a2 v7 hv7) ?_
      obtain ⟨q21, hq21, h⟩ := xb h
      have Jq21 : Rn mX11_longer 84 [(0, va_rf a0), (1, .int a1), (2, .int a2), (3, .int a3), (4, .int a4), (5, .int a5)] [] q21 r st' 3 := by
        obtain ⟨v22, hv22, h⟩ := xb h
        refine x_iinc (c := (1 : Int32)) (lv' := [(5, .int v22), (0, va_rf a0), (1, .int a1), (2, .int a2), (3, .int a3), (4, .int a4)]) (x := a5) (v := v22) dX11_longer_84 rfl (by decide) (Option.some.inj hv22) (by decide) rfl ?_
        refine r_goto (tgt := 7) dX11_longer_87 (by decide) ?_
        exact x_sub [1, 2, 3, 4, 5, 0] rfl (ih q21 a0 a1 a2 a3 a4 v22 q h J)
      refine r_if_eq (tgt := 84) dX11_longer_34 (by decide) (fun c => ?_) (fun c => ?_)
      · replace hq21 := (if_pos c).symm.trans hq21
        obtain rfl := Option.some.inj hq21
        exact x_sub [1, 2, 3, 4, 5, 6] rfl Jq21
      · replace hq21 := (if_neg c).symm.trans hq21
        refine x_aload_n (o := a0) dX11_longer_37 rfl ?_
        refine r_iload (x := a5) dX11_longer_38 rfl ?_
        refine r_bipush (v := (9 : Int32)) dX11_longer_40 (by decide) ?_
        obtain ⟨q10, hq10, hq21⟩ := xb hq21
        obtain ⟨v9, hv9, hq21⟩ := xb hq21
        refine z_callV (as := [.int a5, .int (9 : Int32)]) (o := a0) (r1 := (some (.int v9))) (stk := []) (stk2 := [.int v9]) (st1 := st) (d' := 0) dX11_longer_42 xl_X11_226 hq10 (by decide) (Nat.le_trans xs0 (by decide)) rfl rfl (S_X11_noteAt n st a0 a5 (9 : Int32) v9 hv9) ?_
        refine r_iload_n (x := a3) dX11_longer_45 rfl ?_
        refine r_icmp_ne (tgt := 84) dX11_longer_46 (by decide) (fun c => ?_) (fun c => ?_)
        · replace hq21 := (if_neg c).symm.trans hq21
          obtain rfl := Option.some.inj hq21
          exact x_sub [1, 2, 3, 4, 5, 6] rfl Jq21
        · replace hq21 := (if_pos c).symm.trans hq21
          refine r_iload (x := v5) dX11_longer_49 rfl ?_
          refine r_iconst (v := (1 : Int32)) dX11_longer_51 (by decide) ?_
          refine r_icmp_eq (tgt := 61) dX11_longer_52 (by decide) (fun c => ?_) (fun c => ?_)
          · replace hq21 := (if_pos c).symm.trans hq21
            refine x_aload_n (o := a0) dX11_longer_61 rfl ?_
            refine r_iload (x := v5) dX11_longer_62 rfl ?_
            refine r_iconst (v := (-1 : Int32)) dX11_longer_64 (by decide) ?_
            obtain ⟨q11, hq11, hq21⟩ := xb hq21
            have Jq11 : Rn mX11_longer 73 [(0, va_rf a0), (1, .int a1), (2, .int a2), (3, .int a3), (4, .int a4), (5, .int a5)] [.int q11, va_rf a0] st r st' 3 := by
              refine x_aload_n (o := a0) dX11_longer_73 rfl ?_
              refine r_iload (x := a5) dX11_longer_74 rfl ?_
              refine r_bipush (v := (7 : Int32)) dX11_longer_76 (by decide) ?_
              obtain ⟨q13, hq13, hq21⟩ := xb hq21
              obtain ⟨v12, hv12, hq21⟩ := xb hq21
              refine z_callV (as := [.int a5, .int (7 : Int32)]) (o := a0) (r1 := (some (.int v12))) (stk := [.int q11, va_rf a0]) (stk2 := [.int v12, .int q11, va_rf a0]) (st1 := st) (d' := 0) dX11_longer_78 xl_X11_226 hq13 (by decide) (Nat.le_trans (xsI (xsA xs0)) (by decide)) rfl rfl (S_X11_noteAt n st a0 a5 (7 : Int32) v12 hv12) ?_
              obtain ⟨q15, hq15, hq21⟩ := xb hq21
              obtain ⟨s14, hs14, hq21⟩ := xb hq21
              refine z_callV (as := [.int q11, .int v12]) (o := a0) (r1 := none) (stk := []) (stk2 := []) (st1 := s14) (d' := 0) dX11_longer_81 xl_X11_268 hq15 (by decide) (Nat.le_trans xs0 (by decide)) rfl rfl (S_X11_adds n st a0 q11 v12 s14 hs14) ?_
              obtain rfl := Option.some.inj hq21
              exact x_sub [0, 1, 2, 3, 4, 5] rfl Jq21
            refine r_icmp_ne (tgt := 72) dX11_longer_65 (by decide) (fun c => ?_) (fun c => ?_)
            · replace hq11 := (if_neg c).symm.trans hq11
              refine r_iconst (v := (0 : Int32)) dX11_longer_72 (by decide) ?_
              obtain rfl := Option.some.inj hq11
              exact x_sub [1, 2, 3, 4, 5, 6] rfl Jq11
            · replace hq11 := (if_pos c).symm.trans hq11
              refine r_iconst (v := (1 : Int32)) dX11_longer_68 (by decide) ?_
              refine r_goto (tgt := 73) dX11_longer_69 (by decide) ?_
              obtain rfl := Option.some.inj hq11
              exact x_sub [1, 2, 3, 4, 5, 6] rfl Jq11
          · replace hq21 := (if_neg c).symm.trans hq21
            refine r_iload (x := v5) dX11_longer_55 rfl ?_
            refine r_iconst (v := (-1 : Int32)) dX11_longer_57 (by decide) ?_
            refine r_icmp_ne (tgt := 84) dX11_longer_58 (by decide) (fun c => ?_) (fun c => ?_)
            · replace hq21 := (if_neg c).symm.trans hq21
              obtain rfl := Option.some.inj hq21
              exact x_sub [1, 2, 3, 4, 5, 6] rfl Jq21
            · replace hq21 := (if_pos c).symm.trans hq21
              refine x_aload_n (o := a0) dX11_longer_61 rfl ?_
              refine r_iload (x := v5) dX11_longer_62 rfl ?_
              refine r_iconst (v := (-1 : Int32)) dX11_longer_64 (by decide) ?_
              obtain ⟨q16, hq16, hq21⟩ := xb hq21
              have Jq16 : Rn mX11_longer 73 [(0, va_rf a0), (1, .int a1), (2, .int a2), (3, .int a3), (4, .int a4), (5, .int a5)] [.int q16, va_rf a0] st r st' 3 := by
                refine x_aload_n (o := a0) dX11_longer_73 rfl ?_
                refine r_iload (x := a5) dX11_longer_74 rfl ?_
                refine r_bipush (v := (7 : Int32)) dX11_longer_76 (by decide) ?_
                obtain ⟨q18, hq18, hq21⟩ := xb hq21
                obtain ⟨v17, hv17, hq21⟩ := xb hq21
                refine z_callV (as := [.int a5, .int (7 : Int32)]) (o := a0) (r1 := (some (.int v17))) (stk := [.int q16, va_rf a0]) (stk2 := [.int v17, .int q16, va_rf a0]) (st1 := st) (d' := 0) dX11_longer_78 xl_X11_226 hq18 (by decide) (Nat.le_trans (xsI (xsA xs0)) (by decide)) rfl rfl (S_X11_noteAt n st a0 a5 (7 : Int32) v17 hv17) ?_
                obtain ⟨q20, hq20, hq21⟩ := xb hq21
                obtain ⟨s19, hs19, hq21⟩ := xb hq21
                refine z_callV (as := [.int q16, .int v17]) (o := a0) (r1 := none) (stk := []) (stk2 := []) (st1 := s19) (d' := 0) dX11_longer_81 xl_X11_268 hq20 (by decide) (Nat.le_trans xs0 (by decide)) rfl rfl (S_X11_adds n st a0 q16 v17 s19 hs19) ?_
                obtain rfl := Option.some.inj hq21
                exact x_sub [0, 1, 2, 3, 4, 5] rfl Jq21
              refine r_icmp_ne (tgt := 72) dX11_longer_65 (by decide) (fun c => ?_) (fun c => ?_)
              · replace hq16 := (if_neg c).symm.trans hq16
                refine r_iconst (v := (0 : Int32)) dX11_longer_72 (by decide) ?_
                obtain rfl := Option.some.inj hq16
                exact x_sub [1, 2, 3, 4, 5, 6] rfl Jq16
              · replace hq16 := (if_pos c).symm.trans hq16
                refine r_iconst (v := (1 : Int32)) dX11_longer_68 (by decide) ?_
                refine r_goto (tgt := 73) dX11_longer_69 (by decide) ?_
                obtain rfl := Option.some.inj hq16
                exact x_sub [1, 2, 3, 4, 5, 6] rfl Jq16
theorem R_X11_longer (n : Nat) (st : xS) (a0 : Option Nat) (a1 : Int32) (a2 : Int32) (a3 : Int32) (a4 : Int32) (rv : Int32) (st' : xS) (h : F_X11_longer n st a0 a1 a2 a3 a4 = some (rv, st')) : Rn mX11_longer 0 [(0, va_rf a0), (1, .int a1), (2, .int a2), (3, .int a3), (4, .int a4)] [] st (some (.int rv)) st' 3 := by
  unfold F_X11_longer at h
  refine x_aload_n (o := a0) dX11_longer_0 rfl ?_
  obtain ⟨q2, hq2, h⟩ := xb h
  obtain ⟨s1, hs1, h⟩ := xb h
  refine z_callV (as := []) (o := a0) (r1 := none) (stk := []) (stk2 := []) (st1 := s1) (d' := 0) dX11_longer_1 xl_X11_265 hq2 (by decide) (Nat.le_trans xs0 (by decide)) rfl rfl (S_X11_nothing n st a0  s1 hs1) ?_
  refine r_iconst (v := (0 : Int32)) dX11_longer_4 (by decide) ?_
  refine r_istore (lv' := [(5, .int (0 : Int32)), (0, va_rf a0), (1, .int a1), (2, .int a2), (3, .int a3), (4, .int a4)]) (x := (0 : Int32)) dX11_longer_5 (by decide) rfl ?_
  obtain ⟨q23, hq23, h⟩ := xb h
  have Jq23 : Rn mX11_longer 90 [(0, va_rf a0), (4, .int a4)] [] q23 (some (.int rv)) st' 3 := by
    refine x_aload_n (o := a0) dX11_longer_90 rfl ?_
    refine r_iload (x := a4) dX11_longer_91 rfl ?_
    obtain ⟨q25, hq25, h⟩ := xb h
    obtain ⟨v24, hv24, h⟩ := xb h
    refine z_callV (as := [.int a4]) (o := a0) (r1 := (some (.int v24))) (stk := []) (stk2 := [.int v24]) (st1 := q23) (d' := 2) dX11_longer_93 xl_X11_272 hq25 (by decide) (Nat.le_trans xs0 (by decide)) rfl rfl (S_X11_apart n q23 a0 a4 v24 hv24) ?_
    obtain ⟨rfl, rfl⟩ := Prod.mk.inj (Option.some.inj h)
    exact r_ireturn dX11_longer_96 .int rfl rfl
  exact x_sub [1, 2, 3, 4, 5, 0] rfl (R_X11_longer_L7 n n s1 a0 a1 a2 a3 a4 (0 : Int32) q23 hq23 Jq23)
theorem S_X11_longer (n : Nat) (st : xS) (a0 : Option Nat) (a1 : Int32) (a2 : Int32) (a3 : Int32) (a4 : Int32) (rv : Int32) (st' : xS) (h : F_X11_longer n st a0 a1 a2 a3 a4 = some (rv, st')) : Ct mX11_longer [va_rf a0, .int a1, .int a2, .int a3, .int a4] st (some (.int rv)) st' 3 := by
  refine Ct.of (by decide) (by simp only [lgL_R, lgL_I, lgL_L, lgL_0]; decide) ?_
  try simp only [lvA_R]
  exact R_X11_longer n st a0 a1 a2 a3 a4 rv st' h
theorem R_X11_slope_L18 (n : Nat) {r : Option Value} {st' : xS} : ∀ (k : Nat) (st : xS) (a0 : Option Nat) (a1 : Int32) (a2 : Int32) (a3 : Int32) (a4 : Int64) (a6 : Int64) (a8 : Int64) (a10 : Int64) (a12 : Int64) (a14 : Int32) (q : (Int64 × Int64 × Int64 × Int64 × Int64)), F_X11_slope_L18 n k st a0 a1 a2 a3 a4 a6 a8 a10 a12 a14 = some q → Rn mX11_slope 109 [(3, .int a3), (4, .long q.1), (6, .long q.2.1), (8, .long q.2.2.1), (10, .long q.2.2.2.1), (12, .long q.2.2.2.2)] [] st r st' 2 → Rn mX11_slope 18 [(0, va_rf a0), (1, .int a1), (2, .int a2), (3, .int a3), (4, .long a4), (6, .long a6), (8, .long a8), (10, .long a10), (12, .long a12), (14, .int a14)] [] st r st' 2 := by
  intro k
  induction k with
  | zero => intro st a0 a1 a2 a3 a4 a6 a8 a10 a12 a14 q h; cases h
  | succ k ih =>
    intro st a0 a1 a2 a3 a4 a6 a8 a10 a12 a14 q h J
    unfold F_X11_slope_L18 at h
    refine r_iload (x := a14) dX11_slope_18 rfl ?_
    refine x_aload_n (o := a0) dX11_slope_20 rfl ?_
    obtain ⟨v1, hv1, h⟩ := xb h
    refine x_getR (o := a0) dX11_slope_21 xf_X11_7 hv1 ?_
    refine r_iconst (v := (3 : Int32)) dX11_slope_24 (by decide) ?_
    obtain ⟨v2, hv2, h⟩ := xb h
    refine x_iaload (o := v1) dX11_slope_25 hv2 ?_
    refine r_icmp_ge (tgt := 109) dX11_slope_26 (by decide) (fun c => ?_) (fun c => ?_)
    · replace h := (if_pos c).symm.trans h
      obtain rfl := Option.some.inj h
      exact x_sub [3, 4, 5, 6, 7, 8] rfl J
    · replace h := (if_neg c).symm.trans h
      refine x_aload_n (o := a0) dX11_slope_29 rfl ?_
      refine r_iload (x := a14) dX11_slope_30 rfl ?_
      refine r_iload_n (x := a1) dX11_slope_32 rfl ?_
      refine r_iload_n (x := a2) dX11_slope_33 rfl ?_
      obtain ⟨q4, hq4, h⟩ := xb h
      obtain ⟨v3, hv3, h⟩ := xb h
      refine z_callV (as := [.int a14, .int a1, .int a2]) (o := a0) (r1 := (some (.int v3))) (stk := []) (stk2 := [.int v3]) (st1 := st) (d' := 1) dX11_slope_34 xl_X11_229 hq4 (by decide) (Nat.le_trans xs0 (by decide)) rfl rfl (S_X11_isOfYears n st a0 a14 a1 a2 v3 hv3) ?_
      obtain ⟨q16, hq16, h⟩ := xb h
      have Jq16 : Rn mX11_slope 103 [(0, va_rf a0), (1, .int a1), (2, .int a2), (3, .int a3), (4, .long q16.1), (6, .long q16.2.1), (8, .long q16.2.2.1), (10, .long q16.2.2.2.1), (12, .long q16.2.2.2.2), (14, .int a14)] [] st r st' 2 := by
        obtain ⟨v17, hv17, h⟩ := xb h
        refine x_iinc (c := (1 : Int32)) (lv' := [(14, .int v17), (0, va_rf a0), (1, .int a1), (2, .int a2), (3, .int a3), (4, .long q16.1), (6, .long q16.2.1), (8, .long q16.2.2.1), (10, .long q16.2.2.2.1), (12, .long q16.2.2.2.2)]) (x := a14) (v := v17) dX11_slope_103 rfl (by decide) (Option.some.inj hv17) (by decide) rfl ?_
        refine r_goto (tgt := 18) dX11_slope_106 (by decide) ?_
        exact x_sub [1, 2, 3, 4, 5, 6, 7, 8, 9, 0] rfl (ih st a0 a1 a2 a3 q16.1 q16.2.1 q16.2.2.1 q16.2.2.2.1 q16.2.2.2.2 v17 q h J)
      refine r_if_ne (tgt := 43) dX11_slope_37 (by decide) (fun c => ?_) (fun c => ?_)
      · replace hq16 := (if_neg c).symm.trans hq16
        refine x_aload_n (o := a0) dX11_slope_43 rfl ?_
        refine r_iload (x := a14) dX11_slope_44 rfl ?_
        refine r_iconst (v := (2 : Int32)) dX11_slope_46 (by decide) ?_
        obtain ⟨q6, hq6, hq16⟩ := xb hq16
        obtain ⟨v5, hv5, hq16⟩ := xb hq16
        refine z_callV (as := [.int a14, .int (2 : Int32)]) (o := a0) (r1 := (some (.int v5))) (stk := []) (stk2 := [.int v5]) (st1 := st) (d' := 0) dX11_slope_47 xl_X11_226 hq6 (by decide) (Nat.le_trans xs0 (by decide)) rfl rfl (S_X11_noteAt n st a0 a14 (2 : Int32) v5 hv5) ?_
        refine r_i2l dX11_slope_50 ?_
        refine r_lstore (lv' := [(15, .long v5.toInt64), (0, va_rf a0), (1, .int a1), (2, .int a2), (3, .int a3), (4, .long a4), (6, .long a6), (8, .long a8), (10, .long a10), (12, .long a12), (14, .int a14)]) (x := v5.toInt64) dX11_slope_51 (by decide) rfl ?_
        refine r_lload (x := a4) dX11_slope_53 rfl ?_
        refine r_lconst (v := (1 : Int64)) dX11_slope_55 (by decide) ?_
        refine r_ladd dX11_slope_56 ?_
        obtain ⟨v7, hv7, hq16⟩ := xb hq16
        refine x_eqL (Option.some.inj hv7) ?_
        refine r_lstore (lv' := [(4, .long v7), (15, .long v5.toInt64), (0, va_rf a0), (1, .int a1), (2, .int a2), (3, .int a3), (6, .long a6), (8, .long a8), (10, .long a10), (12, .long a12), (14, .int a14)]) (x := v7) dX11_slope_57 (by decide) rfl ?_
        refine r_lload (x := a6) dX11_slope_59 rfl ?_
        refine r_lload (x := v5.toInt64) dX11_slope_61 rfl ?_
        refine r_ladd dX11_slope_63 ?_
        obtain ⟨v8, hv8, hq16⟩ := xb hq16
        refine x_eqL (Option.some.inj hv8) ?_
        refine r_lstore (lv' := [(6, .long v8), (4, .long v7), (15, .long v5.toInt64), (0, va_rf a0), (1, .int a1), (2, .int a2), (3, .int a3), (8, .long a8), (10, .long a10), (12, .long a12), (14, .int a14)]) (x := v8) dX11_slope_64 (by decide) rfl ?_
        refine r_lload (x := a8) dX11_slope_66 rfl ?_
        refine x_aload_n (o := a0) dX11_slope_68 rfl ?_
        refine r_iload (x := a14) dX11_slope_69 rfl ?_
        obtain ⟨q10, hq10, hq16⟩ := xb hq16
        obtain ⟨v9, hv9, hq16⟩ := xb hq16
        refine z_callV (as := [.int a14]) (o := a0) (r1 := (some (.int v9))) (stk := [.long a8]) (stk2 := [.int v9, .long a8]) (st1 := st) (d' := 1) dX11_slope_71 xl_X11_232 hq10 (by decide) (Nat.le_trans (xsJ xs0) (by decide)) rfl rfl (S_X11_marginOf n st a0 a14 v9 hv9) ?_
        refine r_i2l dX11_slope_74 ?_
        refine r_ladd dX11_slope_75 ?_
        obtain ⟨v11, hv11, hq16⟩ := xb hq16
        refine x_eqL (Option.some.inj hv11) ?_
        refine r_lstore (lv' := [(8, .long v11), (6, .long v8), (4, .long v7), (15, .long v5.toInt64), (0, va_rf a0), (1, .int a1), (2, .int a2), (3, .int a3), (10, .long a10), (12, .long a12), (14, .int a14)]) (x := v11) dX11_slope_76 (by decide) rfl ?_
        refine r_lload (x := a10) dX11_slope_78 rfl ?_
        refine r_lload (x := v5.toInt64) dX11_slope_80 rfl ?_
        refine r_lload (x := v5.toInt64) dX11_slope_82 rfl ?_
        refine r_lmul dX11_slope_84 ?_
        refine r_ladd dX11_slope_85 ?_
        obtain ⟨v12, hv12, hq16⟩ := xb hq16
        refine x_eqL (Option.some.inj hv12) ?_
        refine r_lstore (lv' := [(10, .long v12), (8, .long v11), (6, .long v8), (4, .long v7), (15, .long v5.toInt64), (0, va_rf a0), (1, .int a1), (2, .int a2), (3, .int a3), (12, .long a12), (14, .int a14)]) (x := v12) dX11_slope_86 (by decide) rfl ?_
        refine r_lload (x := a12) dX11_slope_88 rfl ?_
        refine r_lload (x := v5.toInt64) dX11_slope_90 rfl ?_
        refine x_aload_n (o := a0) dX11_slope_92 rfl ?_
        refine r_iload (x := a14) dX11_slope_93 rfl ?_
        obtain ⟨q14, hq14, hq16⟩ := xb hq16
        obtain ⟨v13, hv13, hq16⟩ := xb hq16
        refine z_callV (as := [.int a14]) (o := a0) (r1 := (some (.int v13))) (stk := [.long v5.toInt64, .long a12]) (stk2 := [.int v13, .long v5.toInt64, .long a12]) (st1 := st) (d' := 1) dX11_slope_95 xl_X11_232 hq14 (by decide) (Nat.le_trans (xsJ (xsJ xs0)) (by decide)) rfl rfl (S_X11_marginOf n st a0 a14 v13 hv13) ?_
        refine r_i2l dX11_slope_98 ?_
        refine r_lmul dX11_slope_99 ?_
        refine r_ladd dX11_slope_100 ?_
        obtain ⟨v15, hv15, hq16⟩ := xb hq16
        refine x_eqL (Option.some.inj hv15) ?_
        refine r_lstore (lv' := [(12, .long v15), (10, .long v12), (8, .long v11), (6, .long v8), (4, .long v7), (15, .long v5.toInt64), (0, va_rf a0), (1, .int a1), (2, .int a2), (3, .int a3), (14, .int a14)]) (x := v15) dX11_slope_101 (by decide) rfl ?_
        obtain rfl := Option.some.inj hq16
        exact x_sub [6, 7, 8, 9, 4, 3, 2, 1, 0, 10] rfl Jq16
      · replace hq16 := (if_pos c).symm.trans hq16
        refine r_goto (tgt := 103) dX11_slope_40 (by decide) ?_
        obtain rfl := Option.some.inj hq16
        exact x_sub [0, 1, 2, 3, 4, 5, 6, 7, 8, 9] rfl Jq16
theorem R_X11_slope (n : Nat) (st : xS) (a0 : Option Nat) (a1 : Int32) (a2 : Int32) (a3 : Int32) (rv : Int32) (h : F_X11_slope n st a0 a1 a2 a3 = some rv) : Rn mX11_slope 0 [(0, va_rf a0), (1, .int a1), (2, .int a2), (3, .int a3)] [] st (some (.int rv)) st 2 := by
  unfold F_X11_slope at h
  refine r_lconst (v := (0 : Int64)) dX11_slope_0 (by decide) ?_
  refine r_lstore (lv' := [(4, .long (0 : Int64)), (0, va_rf a0), (1, .int a1), (2, .int a2), (3, .int a3)]) (x := (0 : Int64)) dX11_slope_1 (by decide) rfl ?_
  refine r_lconst (v := (0 : Int64)) dX11_slope_3 (by decide) ?_
  refine r_lstore (lv' := [(6, .long (0 : Int64)), (4, .long (0 : Int64)), (0, va_rf a0), (1, .int a1), (2, .int a2), (3, .int a3)]) (x := (0 : Int64)) dX11_slope_4 (by decide) rfl ?_
  refine r_lconst (v := (0 : Int64)) dX11_slope_6 (by decide) ?_
  refine r_lstore (lv' := [(8, .long (0 : Int64)), (6, .long (0 : Int64)), (4, .long (0 : Int64)), (0, va_rf a0), (1, .int a1), (2, .int a2), (3, .int a3)]) (x := (0 : Int64)) dX11_slope_7 (by decide) rfl ?_
  refine r_lconst (v := (0 : Int64)) dX11_slope_9 (by decide) ?_
  refine r_lstore (lv' := [(10, .long (0 : Int64)), (8, .long (0 : Int64)), (6, .long (0 : Int64)), (4, .long (0 : Int64)), (0, va_rf a0), (1, .int a1), (2, .int a2), (3, .int a3)]) (x := (0 : Int64)) dX11_slope_10 (by decide) rfl ?_
  refine r_lconst (v := (0 : Int64)) dX11_slope_12 (by decide) ?_
  refine r_lstore (lv' := [(12, .long (0 : Int64)), (10, .long (0 : Int64)), (8, .long (0 : Int64)), (6, .long (0 : Int64)), (4, .long (0 : Int64)), (0, va_rf a0), (1, .int a1), (2, .int a2), (3, .int a3)]) (x := (0 : Int64)) dX11_slope_13 (by decide) rfl ?_
  refine r_iconst (v := (0 : Int32)) dX11_slope_15 (by decide) ?_
  refine r_istore (lv' := [(14, .int (0 : Int32)), (12, .long (0 : Int64)), (10, .long (0 : Int64)), (8, .long (0 : Int64)), (6, .long (0 : Int64)), (4, .long (0 : Int64)), (0, va_rf a0), (1, .int a1), (2, .int a2), (3, .int a3)]) (x := (0 : Int32)) dX11_slope_16 (by decide) rfl ?_
  obtain ⟨q18, hq18, h⟩ := xb h
  have Jq18 : Rn mX11_slope 109 [(3, .int a3), (4, .long q18.1), (6, .long q18.2.1), (8, .long q18.2.2.1), (10, .long q18.2.2.2.1), (12, .long q18.2.2.2.2)] [] st (some (.int rv)) st 2 := by
    refine r_lload (x := q18.1) dX11_slope_109 rfl ?_
    refine r_lload (x := q18.2.2.2.1) dX11_slope_111 rfl ?_
    refine r_lmul dX11_slope_113 ?_
    refine r_lload (x := q18.2.1) dX11_slope_114 rfl ?_
    refine r_lload (x := q18.2.1) dX11_slope_116 rfl ?_
    refine r_lmul dX11_slope_118 ?_
    refine r_lsub dX11_slope_119 ?_
    obtain ⟨v19, hv19, h⟩ := xb h
    refine x_eqL (Option.some.inj hv19) ?_
    refine r_lstore (lv' := [(14, .long v19), (3, .int a3), (4, .long q18.1), (6, .long q18.2.1), (8, .long q18.2.2.1), (10, .long q18.2.2.2.1), (12, .long q18.2.2.2.2)]) (x := v19) dX11_slope_120 (by decide) rfl ?_
    refine r_lload (x := v19) dX11_slope_122 rfl ?_
    refine r_lconst (v := (0 : Int64)) dX11_slope_124 (by decide) ?_
    refine r_lcmp dX11_slope_125 ?_
    obtain ⟨q21, hq21, h⟩ := xb h
    have Jq21 : Rn mX11_slope 153 [] [.int q21] st (some (.int rv)) st 2 := by
      obtain rfl := Option.some.inj h
      exact r_ireturn dX11_slope_153 .int rfl rfl
    refine r_if_ne (tgt := 135) dX11_slope_126 (by decide) (fun c => ?_) (fun c => ?_)
    · replace hq21 := (if_neg c).symm.trans hq21
      refine r_lload (x := q18.1) dX11_slope_135 rfl ?_
      refine r_lload (x := q18.2.2.2.2) dX11_slope_137 rfl ?_
      refine r_lmul dX11_slope_139 ?_
      refine r_lload (x := q18.2.1) dX11_slope_140 rfl ?_
      refine r_lload (x := q18.2.2.1) dX11_slope_142 rfl ?_
      refine r_lmul dX11_slope_144 ?_
      refine r_lsub dX11_slope_145 ?_
      refine r_lload (x := v19) dX11_slope_146 rfl ?_
      refine r_iload_n (x := a3) dX11_slope_148 rfl ?_
      obtain ⟨v20, hv20, hq21⟩ := xb hq21
      refine z_callS (as := [.long ((q18.1 * q18.2.2.2.2) - (q18.2.1 * q18.2.2.1)), .long v19, .int a3]) (r1 := (some (.long v20))) (stk := []) (stk2 := [.long v20]) (st1 := st) (d' := 1) dX11_slope_149 xl_X11_261 (by decide) (Nat.le_trans xs0 (by decide)) rfl rfl (S_X11_least n st ((q18.1 * q18.2.2.2.2) - (q18.2.1 * q18.2.2.1)) v19 a3 v20 hv20) ?_
      refine r_l2i dX11_slope_152 ?_
      obtain rfl := Option.some.inj hq21
      exact x_sub [] rfl Jq21
    · replace hq21 := (if_pos c).symm.trans hq21
      refine r_ldcw (v := (-1000000 : Int32)) dX11_slope_129 xk_X11_260 ?_
      refine r_goto (tgt := 153) dX11_slope_132 (by decide) ?_
      obtain rfl := Option.some.inj hq21
      exact x_sub [] rfl Jq21
  exact x_sub [6, 7, 8, 9, 5, 4, 3, 2, 1, 0] rfl (R_X11_slope_L18 n n st a0 a1 a2 a3 (0 : Int64) (0 : Int64) (0 : Int64) (0 : Int64) (0 : Int64) (0 : Int32) q18 hq18 Jq18)
theorem S_X11_slope (n : Nat) (st : xS) (a0 : Option Nat) (a1 : Int32) (a2 : Int32) (a3 : Int32) (rv : Int32) (h : F_X11_slope n st a0 a1 a2 a3 = some rv) : Ct mX11_slope [va_rf a0, .int a1, .int a2, .int a3] st (some (.int rv)) st 2 := by
  refine Ct.of (by decide) (by simp only [lgL_R, lgL_I, lgL_L, lgL_0]; decide) ?_
  try simp only [lvA_R]
  exact R_X11_slope n st a0 a1 a2 a3 rv h
theorem R_X11_meets_L12 (n : Nat) {r : Option Value} {st' : xS} : ∀ (k : Nat) (st : xS) (a0 : Option Nat) (a1 : Int32) (a2 : Int32) (a3 : Int32) (q : (xS)), F_X11_meets_L12 n k st a0 a1 a2 a3 = some q → Rn mX11_meets 80 [] [] q r st' 3 → Rn mX11_meets 12 [(0, va_rf a0), (1, .int a1), (2, .int a2), (3, .int a3)] [] st r st' 3 := by
  intro k
  induction k with
  | zero => intro st a0 a1 a2 a3 q h; cases h
  | succ k ih =>
    intro st a0 a1 a2 a3 q h J
    unfold F_X11_meets_L12 at h
    refine r_iload_n (x := a3) dX11_meets_12 rfl ?_
    refine r_bipush (v := (8 : Int32)) dX11_meets_13 (by decide) ?_
    refine r_icmp_ge (tgt := 80) dX11_meets_15 (by decide) (fun c => ?_) (fun c => ?_)
    · replace h := (if_pos c).symm.trans h
      obtain rfl := Option.some.inj h
      exact x_sub [] rfl J
    · replace h := (if_neg c).symm.trans h
      refine x_aload_n (o := a0) dX11_meets_18 rfl ?_
      obtain ⟨v3, hv3, h⟩ := xb h
      refine x_getR (o := a0) dX11_meets_19 xf_X11_31 hv3 ?_
      refine r_iload_n (x := a3) dX11_meets_22 rfl ?_
      refine r_iconst (v := (-1 : Int32)) dX11_meets_23 (by decide) ?_
      obtain ⟨s4, hs4, h⟩ := xb h
      refine x_iastore (o := v3) dX11_meets_24 hs4 ?_
      refine x_aload_n (o := a0) dX11_meets_25 rfl ?_
      refine r_iload_n (x := a1) dX11_meets_26 rfl ?_
      refine r_iload_n (x := a2) dX11_meets_27 rfl ?_
      refine r_iload_n (x := a3) dX11_meets_28 rfl ?_
      refine r_iconst (v := (3 : Int32)) dX11_meets_29 (by decide) ?_
      obtain ⟨q6, hq6, h⟩ := xb h
      obtain ⟨v5, hv5, h⟩ := xb h
      refine z_callV (as := [.int a1, .int a2, .int a3, .int (3 : Int32)]) (o := a0) (r1 := (some (.int v5))) (stk := []) (stk2 := [.int v5]) (st1 := s4) (d' := 2) dX11_meets_30 xl_X11_238 hq6 (by decide) (Nat.le_trans xs0 (by decide)) rfl rfl (S_X11_madeOf n s4 a0 a1 a2 a3 (3 : Int32) v5 hv5) ?_
      obtain ⟨q14, hq14, h⟩ := xb h
      have Jq14 : Rn mX11_meets 74 [(0, va_rf a0), (1, .int a1), (2, .int a2), (3, .int a3)] [] q14 r st' 3 := by
        obtain ⟨v15, hv15, h⟩ := xb h
        refine x_iinc (c := (1 : Int32)) (lv' := [(3, .int v15), (0, va_rf a0), (1, .int a1), (2, .int a2)]) (x := a3) (v := v15) dX11_meets_74 rfl (by decide) (Option.some.inj hv15) (by decide) rfl ?_
        refine r_goto (tgt := 12) dX11_meets_77 (by decide) ?_
        exact x_sub [1, 2, 3, 0] rfl (ih q14 a0 a1 a2 v15 q h J)
      refine r_if_ne (tgt := 39) dX11_meets_33 (by decide) (fun c => ?_) (fun c => ?_)
      · replace hq14 := (if_neg c).symm.trans hq14
        refine x_aload_n (o := a0) dX11_meets_39 rfl ?_
        obtain ⟨v7, hv7, hq14⟩ := xb hq14
        refine x_getI (o := a0) dX11_meets_40 xf_X11_279 hv7 ?_
        refine r_if_ge (tgt := 54) dX11_meets_43 (by decide) (fun c => ?_) (fun c => ?_)
        · replace hq14 := (if_pos c).symm.trans hq14
          refine x_aload_n (o := a0) dX11_meets_54 rfl ?_
          obtain ⟨v8, hv8, hq14⟩ := xb hq14
          refine x_getR (o := a0) dX11_meets_55 xf_X11_31 hv8 ?_
          refine r_iload_n (x := a3) dX11_meets_58 rfl ?_
          refine x_aload_n (o := a0) dX11_meets_59 rfl ?_
          obtain ⟨v9, hv9, hq14⟩ := xb hq14
          refine x_getI (o := a0) dX11_meets_60 xf_X11_276 hv9 ?_
          obtain ⟨s10, hs10, hq14⟩ := xb hq14
          refine x_iastore (o := v8) dX11_meets_63 hs10 ?_
          refine x_aload_n (o := a0) dX11_meets_64 rfl ?_
          refine x_dupR (o := a0) dX11_meets_65 ?_
          obtain ⟨v11, hv11, hq14⟩ := xb hq14
          refine x_getI (o := a0) dX11_meets_66 xf_X11_276 hv11 ?_
          refine r_iconst (v := (1 : Int32)) dX11_meets_69 (by decide) ?_
          refine r_iadd dX11_meets_70 ?_
          obtain ⟨s12, hs12, hq14⟩ := xb hq14
          refine x_putI (o := a0) dX11_meets_71 (xp_X11_276 _) hs12 ?_
          obtain rfl := Option.some.inj hq14
          exact x_sub [0, 1, 2, 3] rfl Jq14
        · replace hq14 := (if_neg c).symm.trans hq14
          refine x_aload_n (o := a0) dX11_meets_46 rfl ?_
          refine r_iload_n (x := a3) dX11_meets_47 rfl ?_
          obtain ⟨s13, hs13, hq14⟩ := xb hq14
          refine x_putI (o := a0) dX11_meets_48 (xp_X11_279 _) hs13 ?_
          refine r_goto (tgt := 74) dX11_meets_51 (by decide) ?_
          obtain rfl := Option.some.inj hq14
          exact x_sub [0, 1, 2, 3] rfl Jq14
      · replace hq14 := (if_pos c).symm.trans hq14
        refine r_goto (tgt := 74) dX11_meets_36 (by decide) ?_
        obtain rfl := Option.some.inj hq14
        exact x_sub [0, 1, 2, 3] rfl Jq14
theorem R_X11_meets (n : Nat) (st : xS) (a0 : Option Nat) (a1 : Int32) (a2 : Int32) (st' : xS) (h : F_X11_meets n st a0 a1 a2 = some st') : Rn mX11_meets 0 [(0, va_rf a0), (1, .int a1), (2, .int a2)] [] st none st' 3 := by
  unfold F_X11_meets at h
  refine x_aload_n (o := a0) dX11_meets_0 rfl ?_
  refine r_iconst (v := (1 : Int32)) dX11_meets_1 (by decide) ?_
  obtain ⟨s1, hs1, h⟩ := xb h
  refine x_putI (o := a0) dX11_meets_2 (xp_X11_276 _) hs1 ?_
  refine x_aload_n (o := a0) dX11_meets_5 rfl ?_
  refine r_iconst (v := (-1 : Int32)) dX11_meets_6 (by decide) ?_
  obtain ⟨s2, hs2, h⟩ := xb h
  refine x_putI (o := a0) dX11_meets_7 (xp_X11_279 _) hs2 ?_
  refine r_iconst (v := (0 : Int32)) dX11_meets_10 (by decide) ?_
  refine r_istore_n (lv' := [(3, .int (0 : Int32)), (0, va_rf a0), (1, .int a1), (2, .int a2)]) (x := (0 : Int32)) dX11_meets_11 (by decide) rfl ?_
  obtain ⟨q16, hq16, h⟩ := xb h
  have Jq16 : Rn mX11_meets 80 [] [] q16 none st' 3 := by
    obtain rfl := Option.some.inj h
    exact r_return dX11_meets_80 rfl
  exact x_sub [1, 2, 3, 0] rfl (R_X11_meets_L12 n n s2 a0 a1 a2 (0 : Int32) q16 hq16 Jq16)
theorem S_X11_meets (n : Nat) (st : xS) (a0 : Option Nat) (a1 : Int32) (a2 : Int32) (st' : xS) (h : F_X11_meets n st a0 a1 a2 = some st') : Ct mX11_meets [va_rf a0, .int a1, .int a2] st none st' 3 := by
  refine Ct.of (by decide) (by simp only [lgL_R, lgL_I, lgL_L, lgL_0]; decide) ?_
  try simp only [lvA_R]
  exact R_X11_meets n st a0 a1 a2 st' h
theorem R_X11_countsIn (n : Nat) (st : xS) (a0 : Option Nat) (a1 : Int32) (a2 : Int32) (rv : Int32) (h : F_X11_countsIn n st a0 a1 a2 = some rv) : Rn mX11_countsIn 0 [(0, va_rf a0), (1, .int a1), (2, .int a2)] [] st (some (.int rv)) st 1 := by
  unfold F_X11_countsIn at h
  refine r_iload_n (x := a2) dX11_countsIn_0 rfl ?_
  refine r_if_ne (tgt := 6) dX11_countsIn_1 (by decide) (fun c => ?_) (fun c => ?_)
  · replace h := (if_neg c).symm.trans h
    refine x_aload_n (o := a0) dX11_countsIn_6 rfl ?_
    obtain ⟨v1, hv1, h⟩ := xb h
    refine x_getR (o := a0) dX11_countsIn_7 xf_X11_31 hv1 ?_
    refine x_aload_n (o := a0) dX11_countsIn_10 rfl ?_
    refine r_iload_n (x := a1) dX11_countsIn_11 rfl ?_
    refine r_iconst (v := (0 : Int32)) dX11_countsIn_12 (by decide) ?_
    obtain ⟨q3, hq3, h⟩ := xb h
    obtain ⟨v2, hv2, h⟩ := xb h
    refine z_callV (as := [.int a1, .int (0 : Int32)]) (o := a0) (r1 := (some (.int v2))) (stk := [va_rf v1]) (stk2 := [.int v2, va_rf v1]) (st1 := st) (d' := 0) dX11_countsIn_13 xl_X11_226 hq3 (by decide) (Nat.le_trans (xsA xs0) (by decide)) rfl rfl (S_X11_noteAt n st a0 a1 (0 : Int32) v2 hv2) ?_
    obtain ⟨v4, hv4, h⟩ := xb h
    refine x_iaload (o := v1) dX11_countsIn_16 hv4 ?_
    refine r_iload_n (x := a2) dX11_countsIn_17 rfl ?_
    obtain ⟨q5, hq5, h⟩ := xb h
    have Jq5 : Rn mX11_countsIn 26 [(0, va_rf a0), (1, .int a1), (2, .int a2)] [.int q5] st (some (.int rv)) st 1 := by
      refine x_aload_n (o := a0) dX11_countsIn_26 rfl ?_
      obtain ⟨v6, hv6, h⟩ := xb h
      refine x_getR (o := a0) dX11_countsIn_27 xf_X11_31 hv6 ?_
      refine x_aload_n (o := a0) dX11_countsIn_30 rfl ?_
      refine r_iload_n (x := a1) dX11_countsIn_31 rfl ?_
      refine r_iconst (v := (1 : Int32)) dX11_countsIn_32 (by decide) ?_
      obtain ⟨q8, hq8, h⟩ := xb h
      obtain ⟨v7, hv7, h⟩ := xb h
      refine z_callV (as := [.int a1, .int (1 : Int32)]) (o := a0) (r1 := (some (.int v7))) (stk := [va_rf v6, .int q5]) (stk2 := [.int v7, va_rf v6, .int q5]) (st1 := st) (d' := 0) dX11_countsIn_33 xl_X11_226 hq8 (by decide) (Nat.le_trans (xsA (xsI xs0)) (by decide)) rfl rfl (S_X11_noteAt n st a0 a1 (1 : Int32) v7 hv7) ?_
      obtain ⟨v9, hv9, h⟩ := xb h
      refine x_iaload (o := v6) dX11_countsIn_36 hv9 ?_
      refine r_iload_n (x := a2) dX11_countsIn_37 rfl ?_
      obtain ⟨q10, hq10, h⟩ := xb h
      have Jq10 : Rn mX11_countsIn 46 [] [.int q10, .int q5] st (some (.int rv)) st 1 := by
        refine r_isub dX11_countsIn_46 ?_
        obtain rfl := Option.some.inj h
        exact r_ireturn dX11_countsIn_47 .int rfl rfl
      refine r_icmp_ne (tgt := 45) dX11_countsIn_38 (by decide) (fun c => ?_) (fun c => ?_)
      · replace hq10 := (if_neg c).symm.trans hq10
        refine r_iconst (v := (0 : Int32)) dX11_countsIn_45 (by decide) ?_
        obtain rfl := Option.some.inj hq10
        exact x_sub [] rfl Jq10
      · replace hq10 := (if_pos c).symm.trans hq10
        refine r_iconst (v := (1 : Int32)) dX11_countsIn_41 (by decide) ?_
        refine r_goto (tgt := 46) dX11_countsIn_42 (by decide) ?_
        obtain rfl := Option.some.inj hq10
        exact x_sub [] rfl Jq10
    refine r_icmp_ne (tgt := 25) dX11_countsIn_18 (by decide) (fun c => ?_) (fun c => ?_)
    · replace hq5 := (if_neg c).symm.trans hq5
      refine r_iconst (v := (0 : Int32)) dX11_countsIn_25 (by decide) ?_
      obtain rfl := Option.some.inj hq5
      exact x_sub [0, 1, 2] rfl Jq5
    · replace hq5 := (if_pos c).symm.trans hq5
      refine r_iconst (v := (1 : Int32)) dX11_countsIn_21 (by decide) ?_
      refine r_goto (tgt := 26) dX11_countsIn_22 (by decide) ?_
      obtain rfl := Option.some.inj hq5
      exact x_sub [0, 1, 2] rfl Jq5
  · replace h := (if_pos c).symm.trans h
    refine r_iconst (v := (1 : Int32)) dX11_countsIn_4 (by decide) ?_
    obtain rfl := Option.some.inj h
    exact r_ireturn dX11_countsIn_5 .int rfl rfl
theorem S_X11_countsIn (n : Nat) (st : xS) (a0 : Option Nat) (a1 : Int32) (a2 : Int32) (rv : Int32) (h : F_X11_countsIn n st a0 a1 a2 = some rv) : Ct mX11_countsIn [va_rf a0, .int a1, .int a2] st (some (.int rv)) st 1 := by
  refine Ct.of (by decide) (by simp only [lgL_R, lgL_I, lgL_L, lgL_0]; decide) ?_
  try simp only [lvA_R]
  exact R_X11_countsIn n st a0 a1 a2 rv h
theorem R_X11_squares_L2 (n : Nat) {r : Option Value} {st' : xS} : ∀ (k : Nat) (st : xS) (a0 : Option Nat) (a1 : Int32) (a2 : Int32) (a3 : Int32) (q : (xS)), F_X11_squares_L2 n k st a0 a1 a2 a3 = some q → Rn mX11_squares 21 [(0, va_rf a0), (1, .int a1), (2, .int a2)] [] q r st' 2 → Rn mX11_squares 2 [(0, va_rf a0), (1, .int a1), (2, .int a2), (3, .int a3)] [] st r st' 2 := by
  intro k
  induction k with
  | zero => intro st a0 a1 a2 a3 q h; cases h
  | succ k ih =>
    intro st a0 a1 a2 a3 q h J
    unfold F_X11_squares_L2 at h
    refine r_iload_n (x := a3) dX11_squares_2 rfl ?_
    refine r_bipush (v := (42 : Int32)) dX11_squares_3 (by decide) ?_
    refine r_icmp_ge (tgt := 21) dX11_squares_5 (by decide) (fun c => ?_) (fun c => ?_)
    · replace h := (if_pos c).symm.trans h
      obtain rfl := Option.some.inj h
      exact x_sub [0, 1, 2] rfl J
    · replace h := (if_neg c).symm.trans h
      refine x_aload_n (o := a0) dX11_squares_8 rfl ?_
      obtain ⟨v1, hv1, h⟩ := xb h
      refine x_getR (o := a0) dX11_squares_9 xf_X11_27 hv1 ?_
      refine r_iload_n (x := a3) dX11_squares_12 rfl ?_
      refine r_lconst (v := (0 : Int64)) dX11_squares_13 (by decide) ?_
      obtain ⟨s2, hs2, h⟩ := xb h
      refine x_lastore (o := v1) dX11_squares_14 hs2 ?_
      obtain ⟨v3, hv3, h⟩ := xb h
      refine x_iinc (c := (1 : Int32)) (lv' := [(3, .int v3), (0, va_rf a0), (1, .int a1), (2, .int a2)]) (x := a3) (v := v3) dX11_squares_15 rfl (by decide) (Option.some.inj hv3) (by decide) rfl ?_
      refine r_goto (tgt := 2) dX11_squares_18 (by decide) ?_
      exact x_sub [1, 2, 3, 0] rfl (ih s2 a0 a1 a2 v3 q h J)
theorem R_X11_squares_L61 (n : Nat) {r : Option Value} {st' : xS} : ∀ (k : Nat) (st : xS) (a0 : Option Nat) (a1 : Int32) (a2 : Int32) (a3 : Int32) (a4 : Int32) (a5 : Int32) (q : (xS)), F_X11_squares_L61 n k st a0 a1 a2 a3 a4 a5 = some q → Rn mX11_squares 108 [(0, va_rf a0), (1, .int a1), (2, .int a2), (3, .int a3), (4, .int a4)] [] q r st' 2 → Rn mX11_squares 61 [(0, va_rf a0), (1, .int a1), (2, .int a2), (3, .int a3), (4, .int a4), (5, .int a5)] [] st r st' 2 := by
  intro k
  induction k with
  | zero => intro st a0 a1 a2 a3 a4 a5 q h; cases h
  | succ k ih =>
    intro st a0 a1 a2 a3 a4 a5 q h J
    unfold F_X11_squares_L61 at h
    refine r_iload (x := a5) dX11_squares_61 rfl ?_
    refine x_aload_n (o := a0) dX11_squares_63 rfl ?_
    obtain ⟨v10, hv10, h⟩ := xb h
    refine x_getI (o := a0) dX11_squares_64 xf_X11_276 hv10 ?_
    refine r_icmp_ge (tgt := 108) dX11_squares_67 (by decide) (fun c => ?_) (fun c => ?_)
    · replace h := (if_pos c).symm.trans h
      obtain rfl := Option.some.inj h
      exact x_sub [0, 1, 2, 3, 4] rfl J
    · replace h := (if_neg c).symm.trans h
      refine x_aload_n (o := a0) dX11_squares_70 rfl ?_
      obtain ⟨v11, hv11, h⟩ := xb h
      refine x_getR (o := a0) dX11_squares_71 xf_X11_27 hv11 ?_
      refine r_bipush (v := (7 : Int32)) dX11_squares_74 (by decide) ?_
      refine r_iload (x := a4) dX11_squares_76 rfl ?_
      refine r_imul dX11_squares_78 ?_
      refine r_iload (x := a5) dX11_squares_79 rfl ?_
      refine r_iadd dX11_squares_81 ?_
      refine r_dup2 dX11_squares_82 rfl (xrf_cat _) ?_
      obtain ⟨v12, hv12, h⟩ := xb h
      refine x_laload (o := v11) dX11_squares_83 hv12 ?_
      refine x_aload_n (o := a0) dX11_squares_84 rfl ?_
      refine r_iload_n (x := a3) dX11_squares_85 rfl ?_
      refine r_iload (x := a4) dX11_squares_86 rfl ?_
      obtain ⟨q14, hq14, h⟩ := xb h
      obtain ⟨v13, hv13, h⟩ := xb h
      refine z_callV (as := [.int a3, .int a4]) (o := a0) (r1 := (some (.int v13))) (stk := [.long v12, .int (((7 : Int32) * a4) + a5), va_rf v11]) (stk2 := [.int v13, .long v12, .int (((7 : Int32) * a4) + a5), va_rf v11]) (st1 := st) (d' := 1) dX11_squares_88 xl_X11_282 hq14 (by decide) (Nat.le_trans (xsJ (xsI (xsA xs0))) (by decide)) rfl rfl (S_X11_countsIn n st a0 a3 a4 v13 hv13) ?_
      refine x_aload_n (o := a0) dX11_squares_91 rfl ?_
      refine r_iload_n (x := a3) dX11_squares_92 rfl ?_
      refine r_iload (x := a5) dX11_squares_93 rfl ?_
      obtain ⟨q16, hq16, h⟩ := xb h
      obtain ⟨v15, hv15, h⟩ := xb h
      refine z_callV (as := [.int a3, .int a5]) (o := a0) (r1 := (some (.int v15))) (stk := [.int v13, .long v12, .int (((7 : Int32) * a4) + a5), va_rf v11]) (stk2 := [.int v15, .int v13, .long v12, .int (((7 : Int32) * a4) + a5), va_rf v11]) (st1 := st) (d' := 1) dX11_squares_95 xl_X11_282 hq16 (by decide) (Nat.le_trans (xsI (xsJ (xsI (xsA xs0)))) (by decide)) rfl rfl (S_X11_countsIn n st a0 a3 a5 v15 hv15) ?_
      refine r_imul dX11_squares_98 ?_
      refine r_i2l dX11_squares_99 ?_
      refine r_ladd dX11_squares_100 ?_
      obtain ⟨s17, hs17, h⟩ := xb h
      refine x_lastore (o := v11) dX11_squares_101 hs17 ?_
      obtain ⟨v18, hv18, h⟩ := xb h
      refine x_iinc (c := (1 : Int32)) (lv' := [(5, .int v18), (0, va_rf a0), (1, .int a1), (2, .int a2), (3, .int a3), (4, .int a4)]) (x := a5) (v := v18) dX11_squares_102 rfl (by decide) (Option.some.inj hv18) (by decide) rfl ?_
      refine r_goto (tgt := 61) dX11_squares_105 (by decide) ?_
      exact x_sub [1, 2, 3, 4, 5, 0] rfl (ih s17 a0 a1 a2 a3 a4 v18 q h J)
theorem R_X11_squares_L49 (n : Nat) {r : Option Value} {st' : xS} : ∀ (k : Nat) (st : xS) (a0 : Option Nat) (a1 : Int32) (a2 : Int32) (a3 : Int32) (a4 : Int32) (q : (xS)), F_X11_squares_L49 n k st a0 a1 a2 a3 a4 = some q → Rn mX11_squares 144 [(0, va_rf a0), (1, .int a1), (2, .int a2), (3, .int a3)] [] q r st' 2 → Rn mX11_squares 49 [(0, va_rf a0), (1, .int a1), (2, .int a2), (3, .int a3), (4, .int a4)] [] st r st' 2 := by
  intro k
  induction k with
  | zero => intro st a0 a1 a2 a3 a4 q h; cases h
  | succ k ih =>
    intro st a0 a1 a2 a3 a4 q h J
    unfold F_X11_squares_L49 at h
    refine r_iload (x := a4) dX11_squares_49 rfl ?_
    refine x_aload_n (o := a0) dX11_squares_51 rfl ?_
    obtain ⟨v9, hv9, h⟩ := xb h
    refine x_getI (o := a0) dX11_squares_52 xf_X11_276 hv9 ?_
    refine r_icmp_ge (tgt := 144) dX11_squares_55 (by decide) (fun c => ?_) (fun c => ?_)
    · replace h := (if_pos c).symm.trans h
      obtain rfl := Option.some.inj h
      exact x_sub [0, 1, 2, 3] rfl J
    · replace h := (if_neg c).symm.trans h
      refine r_iconst (v := (0 : Int32)) dX11_squares_58 (by decide) ?_
      refine r_istore (lv' := [(5, .int (0 : Int32)), (0, va_rf a0), (1, .int a1), (2, .int a2), (3, .int a3), (4, .int a4)]) (x := (0 : Int32)) dX11_squares_59 (by decide) rfl ?_
      obtain ⟨q19, hq19, h⟩ := xb h
      have Jq19 : Rn mX11_squares 108 [(0, va_rf a0), (1, .int a1), (2, .int a2), (3, .int a3), (4, .int a4)] [] q19 r st' 2 := by
        refine x_aload_n (o := a0) dX11_squares_108 rfl ?_
        obtain ⟨v20, hv20, h⟩ := xb h
        refine x_getR (o := a0) dX11_squares_109 xf_X11_27 hv20 ?_
        refine r_bipush (v := (7 : Int32)) dX11_squares_112 (by decide) ?_
        refine r_iload (x := a4) dX11_squares_114 rfl ?_
        refine r_imul dX11_squares_116 ?_
        refine r_bipush (v := (6 : Int32)) dX11_squares_117 (by decide) ?_
        refine r_iadd dX11_squares_119 ?_
        refine r_dup2 dX11_squares_120 rfl (xrf_cat _) ?_
        obtain ⟨v21, hv21, h⟩ := xb h
        refine x_laload (o := v20) dX11_squares_121 hv21 ?_
        refine x_aload_n (o := a0) dX11_squares_122 rfl ?_
        refine r_iload_n (x := a3) dX11_squares_123 rfl ?_
        refine r_iload (x := a4) dX11_squares_124 rfl ?_
        obtain ⟨q23, hq23, h⟩ := xb h
        obtain ⟨v22, hv22, h⟩ := xb h
        refine z_callV (as := [.int a3, .int a4]) (o := a0) (r1 := (some (.int v22))) (stk := [.long v21, .int (((7 : Int32) * a4) + (6 : Int32)), va_rf v20]) (stk2 := [.int v22, .long v21, .int (((7 : Int32) * a4) + (6 : Int32)), va_rf v20]) (st1 := q19) (d' := 1) dX11_squares_126 xl_X11_282 hq23 (by decide) (Nat.le_trans (xsJ (xsI (xsA xs0))) (by decide)) rfl rfl (S_X11_countsIn n q19 a0 a3 a4 v22 hv22) ?_
        refine x_aload_n (o := a0) dX11_squares_129 rfl ?_
        refine r_iload_n (x := a3) dX11_squares_130 rfl ?_
        obtain ⟨q25, hq25, h⟩ := xb h
        obtain ⟨v24, hv24, h⟩ := xb h
        refine z_callV (as := [.int a3]) (o := a0) (r1 := (some (.int v24))) (stk := [.int v22, .long v21, .int (((7 : Int32) * a4) + (6 : Int32)), va_rf v20]) (stk2 := [.int v24, .int v22, .long v21, .int (((7 : Int32) * a4) + (6 : Int32)), va_rf v20]) (st1 := q19) (d' := 1) dX11_squares_131 xl_X11_232 hq25 (by decide) (Nat.le_trans (xsI (xsJ (xsI (xsA xs0)))) (by decide)) rfl rfl (S_X11_marginOf n q19 a0 a3 v24 hv24) ?_
        refine r_imul dX11_squares_134 ?_
        refine r_i2l dX11_squares_135 ?_
        refine r_ladd dX11_squares_136 ?_
        obtain ⟨s26, hs26, h⟩ := xb h
        refine x_lastore (o := v20) dX11_squares_137 hs26 ?_
        obtain ⟨v27, hv27, h⟩ := xb h
        refine x_iinc (c := (1 : Int32)) (lv' := [(4, .int v27), (0, va_rf a0), (1, .int a1), (2, .int a2), (3, .int a3)]) (x := a4) (v := v27) dX11_squares_138 rfl (by decide) (Option.some.inj hv27) (by decide) rfl ?_
        refine r_goto (tgt := 49) dX11_squares_141 (by decide) ?_
        exact x_sub [1, 2, 3, 4, 0] rfl (ih s26 a0 a1 a2 a3 v27 q h J)
      exact x_sub [1, 2, 3, 4, 5, 0] rfl (R_X11_squares_L61 n n st a0 a1 a2 a3 a4 (0 : Int32) q19 hq19 Jq19)
theorem R_X11_squares_L23 (n : Nat) {r : Option Value} {st' : xS} : ∀ (k : Nat) (st : xS) (a0 : Option Nat) (a1 : Int32) (a2 : Int32) (a3 : Int32) (q : (xS)), F_X11_squares_L23 n k st a0 a1 a2 a3 = some q → Rn mX11_squares 150 [] [] q r st' 2 → Rn mX11_squares 23 [(0, va_rf a0), (1, .int a1), (2, .int a2), (3, .int a3)] [] st r st' 2 := by
  intro k
  induction k with
  | zero => intro st a0 a1 a2 a3 q h; cases h
  | succ k ih =>
    intro st a0 a1 a2 a3 q h J
    unfold F_X11_squares_L23 at h
    refine r_iload_n (x := a3) dX11_squares_23 rfl ?_
    refine x_aload_n (o := a0) dX11_squares_24 rfl ?_
    obtain ⟨v5, hv5, h⟩ := xb h
    refine x_getR (o := a0) dX11_squares_25 xf_X11_7 hv5 ?_
    refine r_iconst (v := (3 : Int32)) dX11_squares_28 (by decide) ?_
    obtain ⟨v6, hv6, h⟩ := xb h
    refine x_iaload (o := v5) dX11_squares_29 hv6 ?_
    refine r_icmp_ge (tgt := 150) dX11_squares_30 (by decide) (fun c => ?_) (fun c => ?_)
    · replace h := (if_pos c).symm.trans h
      obtain rfl := Option.some.inj h
      exact x_sub [] rfl J
    · replace h := (if_neg c).symm.trans h
      refine x_aload_n (o := a0) dX11_squares_33 rfl ?_
      refine r_iload_n (x := a3) dX11_squares_34 rfl ?_
      refine r_iload_n (x := a1) dX11_squares_35 rfl ?_
      refine r_iload_n (x := a2) dX11_squares_36 rfl ?_
      obtain ⟨q8, hq8, h⟩ := xb h
      obtain ⟨v7, hv7, h⟩ := xb h
      refine z_callV (as := [.int a3, .int a1, .int a2]) (o := a0) (r1 := (some (.int v7))) (stk := []) (stk2 := [.int v7]) (st1 := st) (d' := 1) dX11_squares_37 xl_X11_229 hq8 (by decide) (Nat.le_trans xs0 (by decide)) rfl rfl (S_X11_isOfYears n st a0 a3 a1 a2 v7 hv7) ?_
      obtain ⟨q29, hq29, h⟩ := xb h
      have Jq29 : Rn mX11_squares 144 [(0, va_rf a0), (1, .int a1), (2, .int a2), (3, .int a3)] [] q29 r st' 2 := by
        obtain ⟨v30, hv30, h⟩ := xb h
        refine x_iinc (c := (1 : Int32)) (lv' := [(3, .int v30), (0, va_rf a0), (1, .int a1), (2, .int a2)]) (x := a3) (v := v30) dX11_squares_144 rfl (by decide) (Option.some.inj hv30) (by decide) rfl ?_
        refine r_goto (tgt := 23) dX11_squares_147 (by decide) ?_
        exact x_sub [1, 2, 3, 0] rfl (ih q29 a0 a1 a2 v30 q h J)
      refine r_if_ne (tgt := 46) dX11_squares_40 (by decide) (fun c => ?_) (fun c => ?_)
      · replace hq29 := (if_neg c).symm.trans hq29
        refine r_iconst (v := (0 : Int32)) dX11_squares_46 (by decide) ?_
        refine r_istore (lv' := [(4, .int (0 : Int32)), (0, va_rf a0), (1, .int a1), (2, .int a2), (3, .int a3)]) (x := (0 : Int32)) dX11_squares_47 (by decide) rfl ?_
        obtain ⟨q28, hq28, hq29⟩ := xb hq29
        have Jq28 : Rn mX11_squares 144 [(0, va_rf a0), (1, .int a1), (2, .int a2), (3, .int a3)] [] q28 r st' 2 := by
          obtain rfl := Option.some.inj hq29
          exact x_sub [0, 1, 2, 3] rfl Jq29
        exact x_sub [1, 2, 3, 4, 0] rfl (R_X11_squares_L49 n n st a0 a1 a2 a3 (0 : Int32) q28 hq28 Jq28)
      · replace hq29 := (if_pos c).symm.trans hq29
        refine r_goto (tgt := 144) dX11_squares_43 (by decide) ?_
        obtain rfl := Option.some.inj hq29
        exact x_sub [0, 1, 2, 3] rfl Jq29
theorem R_X11_squares (n : Nat) (st : xS) (a0 : Option Nat) (a1 : Int32) (a2 : Int32) (st' : xS) (h : F_X11_squares n st a0 a1 a2 = some st') : Rn mX11_squares 0 [(0, va_rf a0), (1, .int a1), (2, .int a2)] [] st none st' 2 := by
  unfold F_X11_squares at h
  refine r_iconst (v := (0 : Int32)) dX11_squares_0 (by decide) ?_
  refine r_istore_n (lv' := [(3, .int (0 : Int32)), (0, va_rf a0), (1, .int a1), (2, .int a2)]) (x := (0 : Int32)) dX11_squares_1 (by decide) rfl ?_
  obtain ⟨q4, hq4, h⟩ := xb h
  have Jq4 : Rn mX11_squares 21 [(0, va_rf a0), (1, .int a1), (2, .int a2)] [] q4 none st' 2 := by
    refine r_iconst (v := (0 : Int32)) dX11_squares_21 (by decide) ?_
    refine r_istore_n (lv' := [(3, .int (0 : Int32)), (0, va_rf a0), (1, .int a1), (2, .int a2)]) (x := (0 : Int32)) dX11_squares_22 (by decide) rfl ?_
    obtain ⟨q31, hq31, h⟩ := xb h
    have Jq31 : Rn mX11_squares 150 [] [] q31 none st' 2 := by
      obtain rfl := Option.some.inj h
      exact r_return dX11_squares_150 rfl
    exact x_sub [1, 2, 3, 0] rfl (R_X11_squares_L23 n n q4 a0 a1 a2 (0 : Int32) q31 hq31 Jq31)
  exact x_sub [1, 2, 3, 0] rfl (R_X11_squares_L2 n n st a0 a1 a2 (0 : Int32) q4 hq4 Jq4)
theorem S_X11_squares (n : Nat) (st : xS) (a0 : Option Nat) (a1 : Int32) (a2 : Int32) (st' : xS) (h : F_X11_squares n st a0 a1 a2 = some st') : Ct mX11_squares [va_rf a0, .int a1, .int a2] st none st' 2 := by
  refine Ct.of (by decide) (by simp only [lgL_R, lgL_I, lgL_L, lgL_0]; decide) ?_
  try simp only [lvA_R]
  exact R_X11_squares n st a0 a1 a2 st' h
theorem R_X11_clears_L15 (n : Nat) {r : Option Value} {st' : xS} : ∀ (k : Nat) (st : xS) (a0 : Option Nat) (a1 : Int64) (a3 : Int32) (a4 : Int32) (q : (Int32)), F_X11_clears_L15 n k st a0 a1 a3 a4 = some q → Rn mX11_clears 47 [(0, va_rf a0), (1, .long a1), (3, .int a3), (4, .int q)] [] st r st' 0 → Rn mX11_clears 15 [(0, va_rf a0), (1, .long a1), (3, .int a3), (4, .int a4)] [] st r st' 0 := by
  intro k
  induction k with
  | zero => intro st a0 a1 a3 a4 q h; cases h
  | succ k ih =>
    intro st a0 a1 a3 a4 q h J
    unfold F_X11_clears_L15 at h
    refine r_iload (x := a4) dX11_clears_15 rfl ?_
    refine x_aload_n (o := a0) dX11_clears_17 rfl ?_
    obtain ⟨v2, hv2, h⟩ := xb h
    refine x_getI (o := a0) dX11_clears_18 xf_X11_276 hv2 ?_
    refine r_icmp_ge (tgt := 47) dX11_clears_21 (by decide) (fun c => ?_) (fun c => ?_)
    · replace h := (if_pos c).symm.trans h
      obtain rfl := Option.some.inj h
      exact x_sub [0, 1, 2, 3] rfl J
    · replace h := (if_neg c).symm.trans h
      refine x_aload_n (o := a0) dX11_clears_24 rfl ?_
      obtain ⟨v3, hv3, h⟩ := xb h
      refine x_getR (o := a0) dX11_clears_25 xf_X11_27 hv3 ?_
      refine r_bipush (v := (7 : Int32)) dX11_clears_28 (by decide) ?_
      refine r_iload (x := a4) dX11_clears_30 rfl ?_
      refine r_imul dX11_clears_32 ?_
      refine r_iload_n (x := a3) dX11_clears_33 rfl ?_
      refine r_iadd dX11_clears_34 ?_
      obtain ⟨v4, hv4, h⟩ := xb h
      refine x_laload (o := v3) dX11_clears_35 hv4 ?_
      refine r_lconst (v := (0 : Int64)) dX11_clears_36 (by decide) ?_
      refine r_lcmp dX11_clears_37 ?_
      refine r_if_ne (tgt := 47) dX11_clears_38 (by decide) (fun c => ?_) (fun c => ?_)
      · replace h := (if_neg c).symm.trans h
        obtain rfl := Option.some.inj h
        exact x_sub [0, 1, 2, 3] rfl J
      · replace h := (if_pos c).symm.trans h
        obtain ⟨v5, hv5, h⟩ := xb h
        refine x_iinc (c := (1 : Int32)) (lv' := [(4, .int v5), (0, va_rf a0), (1, .long a1), (3, .int a3)]) (x := a4) (v := v5) dX11_clears_41 rfl (by decide) (Option.some.inj hv5) (by decide) rfl ?_
        refine r_goto (tgt := 15) dX11_clears_44 (by decide) ?_
        exact x_sub [1, 2, 3, 0] rfl (ih st a0 a1 a3 v5 q h J)
theorem R_X11_clears_L61 (n : Nat) {r : Option Value} {st' : xS} : ∀ (k : Nat) (st : xS) (a0 : Option Nat) (a1 : Int64) (a3 : Int32) (a4 : Int32) (a5 : Int32) (q : (xS)), F_X11_clears_L61 n k st a0 a1 a3 a4 a5 = some q → Rn mX11_clears 135 [(0, va_rf a0), (1, .long a1), (3, .int a3)] [] q r st' 0 → Rn mX11_clears 61 [(0, va_rf a0), (1, .long a1), (3, .int a3), (4, .int a4), (5, .int a5)] [] st r st' 0 := by
  intro k
  induction k with
  | zero => intro st a0 a1 a3 a4 a5 q h; cases h
  | succ k ih =>
    intro st a0 a1 a3 a4 a5 q h J
    unfold F_X11_clears_L61 at h
    refine r_iload (x := a5) dX11_clears_61 rfl ?_
    refine r_bipush (v := (7 : Int32)) dX11_clears_63 (by decide) ?_
    refine r_icmp_ge (tgt := 135) dX11_clears_65 (by decide) (fun c => ?_) (fun c => ?_)
    · replace h := (if_pos c).symm.trans h
      obtain rfl := Option.some.inj h
      exact x_sub [0, 1, 2] rfl J
    · replace h := (if_neg c).symm.trans h
      refine r_iload (x := a4) dX11_clears_68 rfl ?_
      refine r_iload_n (x := a3) dX11_clears_70 rfl ?_
      refine r_icmp_eq (tgt := 135) dX11_clears_71 (by decide) (fun c => ?_) (fun c => ?_)
      · replace h := (if_pos c).symm.trans h
        obtain rfl := Option.some.inj h
        exact x_sub [0, 1, 2] rfl J
      · replace h := (if_neg c).symm.trans h
        refine x_aload_n (o := a0) dX11_clears_74 rfl ?_
        obtain ⟨v8, hv8, h⟩ := xb h
        refine x_getR (o := a0) dX11_clears_75 xf_X11_27 hv8 ?_
        refine r_bipush (v := (7 : Int32)) dX11_clears_78 (by decide) ?_
        refine r_iload_n (x := a3) dX11_clears_80 rfl ?_
        refine r_imul dX11_clears_81 ?_
        refine r_iload (x := a5) dX11_clears_82 rfl ?_
        refine r_iadd dX11_clears_84 ?_
        obtain ⟨v9, hv9, h⟩ := xb h
        refine x_laload (o := v8) dX11_clears_85 hv9 ?_
        refine r_lstore (lv' := [(6, .long v9), (0, va_rf a0), (1, .long a1), (3, .int a3), (4, .int a4), (5, .int a5)]) (x := v9) dX11_clears_86 (by decide) rfl ?_
        refine x_aload_n (o := a0) dX11_clears_88 rfl ?_
        obtain ⟨v10, hv10, h⟩ := xb h
        refine x_getR (o := a0) dX11_clears_89 xf_X11_27 hv10 ?_
        refine r_bipush (v := (7 : Int32)) dX11_clears_92 (by decide) ?_
        refine r_iload_n (x := a3) dX11_clears_94 rfl ?_
        refine r_imul dX11_clears_95 ?_
        refine r_iload (x := a5) dX11_clears_96 rfl ?_
        refine r_iadd dX11_clears_98 ?_
        refine x_aload_n (o := a0) dX11_clears_99 rfl ?_
        obtain ⟨v11, hv11, h⟩ := xb h
        refine x_getR (o := a0) dX11_clears_100 xf_X11_27 hv11 ?_
        refine r_bipush (v := (7 : Int32)) dX11_clears_103 (by decide) ?_
        refine r_iload (x := a4) dX11_clears_105 rfl ?_
        refine r_imul dX11_clears_107 ?_
        refine r_iload (x := a5) dX11_clears_108 rfl ?_
        refine r_iadd dX11_clears_110 ?_
        obtain ⟨v12, hv12, h⟩ := xb h
        refine x_laload (o := v11) dX11_clears_111 hv12 ?_
        obtain ⟨s13, hs13, h⟩ := xb h
        refine x_lastore (o := v10) dX11_clears_112 hs13 ?_
        refine x_aload_n (o := a0) dX11_clears_113 rfl ?_
        obtain ⟨v14, hv14, h⟩ := xb h
        refine x_getR (o := a0) dX11_clears_114 xf_X11_27 hv14 ?_
        refine r_bipush (v := (7 : Int32)) dX11_clears_117 (by decide) ?_
        refine r_iload (x := a4) dX11_clears_119 rfl ?_
        refine r_imul dX11_clears_121 ?_
        refine r_iload (x := a5) dX11_clears_122 rfl ?_
        refine r_iadd dX11_clears_124 ?_
        refine r_lload (x := v9) dX11_clears_125 rfl ?_
        refine r_lneg dX11_clears_127 ?_
        obtain ⟨s15, hs15, h⟩ := xb h
        refine x_lastore (o := v14) dX11_clears_128 hs15 ?_
        obtain ⟨v16, hv16, h⟩ := xb h
        refine x_iinc (c := (1 : Int32)) (lv' := [(5, .int v16), (6, .long v9), (0, va_rf a0), (1, .long a1), (3, .int a3), (4, .int a4)]) (x := a5) (v := v16) dX11_clears_129 rfl (by decide) (Option.some.inj hv16) (by decide) rfl ?_
        refine r_goto (tgt := 61) dX11_clears_132 (by decide) ?_
        exact x_sub [2, 3, 4, 5, 0] rfl (ih s15 a0 a1 a3 a4 v16 q h J)
theorem R_X11_clears_L177 (n : Nat) {r : Option Value} {st' : xS} : ∀ (k : Nat) (st : xS) (a0 : Option Nat) (a1 : Int64) (a3 : Int32) (a5 : Int64) (a7 : Int32) (a8 : Int64) (a10 : Int32) (q : (xS)), F_X11_clears_L177 n k st a0 a1 a3 a5 a7 a8 a10 = some q → Rn mX11_clears 243 [(0, va_rf a0), (1, .long a1), (3, .int a3), (5, .long a5), (7, .int a7)] [] q r st' 0 → Rn mX11_clears 177 [(0, va_rf a0), (1, .long a1), (3, .int a3), (5, .long a5), (7, .int a7), (8, .long a8), (10, .int a10)] [] st r st' 0 := by
  intro k
  induction k with
  | zero => intro st a0 a1 a3 a5 a7 a8 a10 q h; cases h
  | succ k ih =>
    intro st a0 a1 a3 a5 a7 a8 a10 q h J
    unfold F_X11_clears_L177 at h
    refine r_iload (x := a10) dX11_clears_177 rfl ?_
    refine r_bipush (v := (7 : Int32)) dX11_clears_179 (by decide) ?_
    refine r_icmp_ge (tgt := 243) dX11_clears_181 (by decide) (fun c => ?_) (fun c => ?_)
    · replace h := (if_pos c).symm.trans h
      obtain rfl := Option.some.inj h
      exact x_sub [0, 1, 2, 3, 4] rfl J
    · replace h := (if_neg c).symm.trans h
      refine r_iload (x := a7) dX11_clears_184 rfl ?_
      refine r_iload_n (x := a3) dX11_clears_186 rfl ?_
      refine r_icmp_eq (tgt := 243) dX11_clears_187 (by decide) (fun c => ?_) (fun c => ?_)
      · replace h := (if_pos c).symm.trans h
        obtain rfl := Option.some.inj h
        exact x_sub [0, 1, 2, 3, 4] rfl J
      · replace h := (if_neg c).symm.trans h
        refine x_aload_n (o := a0) dX11_clears_190 rfl ?_
        obtain ⟨v23, hv23, h⟩ := xb h
        refine x_getR (o := a0) dX11_clears_191 xf_X11_27 hv23 ?_
        refine r_bipush (v := (7 : Int32)) dX11_clears_194 (by decide) ?_
        refine r_iload (x := a7) dX11_clears_196 rfl ?_
        refine r_imul dX11_clears_198 ?_
        refine r_iload (x := a10) dX11_clears_199 rfl ?_
        refine r_iadd dX11_clears_201 ?_
        refine x_aload_n (o := a0) dX11_clears_202 rfl ?_
        obtain ⟨v24, hv24, h⟩ := xb h
        refine x_getR (o := a0) dX11_clears_203 xf_X11_27 hv24 ?_
        refine r_bipush (v := (7 : Int32)) dX11_clears_206 (by decide) ?_
        refine r_iload (x := a7) dX11_clears_208 rfl ?_
        refine r_imul dX11_clears_210 ?_
        refine r_iload (x := a10) dX11_clears_211 rfl ?_
        refine r_iadd dX11_clears_213 ?_
        obtain ⟨v25, hv25, h⟩ := xb h
        refine x_laload (o := v24) dX11_clears_214 hv25 ?_
        refine r_lload (x := a5) dX11_clears_215 rfl ?_
        refine r_lmul dX11_clears_217 ?_
        refine x_aload_n (o := a0) dX11_clears_218 rfl ?_
        obtain ⟨v26, hv26, h⟩ := xb h
        refine x_getR (o := a0) dX11_clears_219 xf_X11_27 hv26 ?_
        refine r_bipush (v := (7 : Int32)) dX11_clears_222 (by decide) ?_
        refine r_iload_n (x := a3) dX11_clears_224 rfl ?_
        refine r_imul dX11_clears_225 ?_
        refine r_iload (x := a10) dX11_clears_226 rfl ?_
        refine r_iadd dX11_clears_228 ?_
        obtain ⟨v27, hv27, h⟩ := xb h
        refine x_laload (o := v26) dX11_clears_229 hv27 ?_
        refine r_lload (x := a8) dX11_clears_230 rfl ?_
        refine r_lmul dX11_clears_232 ?_
        refine r_lsub dX11_clears_233 ?_
        refine r_lload_n (x := a1) dX11_clears_234 rfl ?_
        obtain ⟨v28, hv28, h⟩ := xb h
        refine x_ldiv dX11_clears_235 hv28 ?_
        obtain ⟨s29, hs29, h⟩ := xb h
        refine x_lastore (o := v23) dX11_clears_236 hs29 ?_
        obtain ⟨v30, hv30, h⟩ := xb h
        refine x_iinc (c := (1 : Int32)) (lv' := [(10, .int v30), (0, va_rf a0), (1, .long a1), (3, .int a3), (5, .long a5), (7, .int a7), (8, .long a8)]) (x := a10) (v := v30) dX11_clears_237 rfl (by decide) (Option.some.inj hv30) (by decide) rfl ?_
        refine r_goto (tgt := 177) dX11_clears_240 (by decide) ?_
        exact x_sub [1, 2, 3, 4, 5, 6, 0] rfl (ih s29 a0 a1 a3 a5 a7 a8 v30 q h J)
theorem R_X11_clears_L151 (n : Nat) {r : Option Value} {st' : xS} : ∀ (k : Nat) (st : xS) (a0 : Option Nat) (a1 : Int64) (a3 : Int32) (a5 : Int64) (a7 : Int32) (q : (xS)), F_X11_clears_L151 n k st a0 a1 a3 a5 a7 = some q → Rn mX11_clears 249 [(0, va_rf a0), (3, .int a3), (5, .long a5)] [] q r st' 0 → Rn mX11_clears 151 [(0, va_rf a0), (1, .long a1), (3, .int a3), (5, .long a5), (7, .int a7)] [] st r st' 0 := by
  intro k
  induction k with
  | zero => intro st a0 a1 a3 a5 a7 q h; cases h
  | succ k ih =>
    intro st a0 a1 a3 a5 a7 q h J
    unfold F_X11_clears_L151 at h
    refine r_iload (x := a7) dX11_clears_151 rfl ?_
    refine x_aload_n (o := a0) dX11_clears_153 rfl ?_
    obtain ⟨v20, hv20, h⟩ := xb h
    refine x_getI (o := a0) dX11_clears_154 xf_X11_276 hv20 ?_
    refine r_icmp_ge (tgt := 249) dX11_clears_157 (by decide) (fun c => ?_) (fun c => ?_)
    · replace h := (if_pos c).symm.trans h
      obtain rfl := Option.some.inj h
      exact x_sub [0, 2, 3] rfl J
    · replace h := (if_neg c).symm.trans h
      refine x_aload_n (o := a0) dX11_clears_160 rfl ?_
      obtain ⟨v21, hv21, h⟩ := xb h
      refine x_getR (o := a0) dX11_clears_161 xf_X11_27 hv21 ?_
      refine r_bipush (v := (7 : Int32)) dX11_clears_164 (by decide) ?_
      refine r_iload (x := a7) dX11_clears_166 rfl ?_
      refine r_imul dX11_clears_168 ?_
      refine r_iload_n (x := a3) dX11_clears_169 rfl ?_
      refine r_iadd dX11_clears_170 ?_
      obtain ⟨v22, hv22, h⟩ := xb h
      refine x_laload (o := v21) dX11_clears_171 hv22 ?_
      refine r_lstore (lv' := [(8, .long v22), (0, va_rf a0), (1, .long a1), (3, .int a3), (5, .long a5), (7, .int a7)]) (x := v22) dX11_clears_172 (by decide) rfl ?_
      refine r_iconst (v := (0 : Int32)) dX11_clears_174 (by decide) ?_
      refine r_istore (lv' := [(10, .int (0 : Int32)), (8, .long v22), (0, va_rf a0), (1, .long a1), (3, .int a3), (5, .long a5), (7, .int a7)]) (x := (0 : Int32)) dX11_clears_175 (by decide) rfl ?_
      obtain ⟨q31, hq31, h⟩ := xb h
      have Jq31 : Rn mX11_clears 243 [(0, va_rf a0), (1, .long a1), (3, .int a3), (5, .long a5), (7, .int a7)] [] q31 r st' 0 := by
        obtain ⟨v32, hv32, h⟩ := xb h
        refine x_iinc (c := (1 : Int32)) (lv' := [(7, .int v32), (0, va_rf a0), (1, .long a1), (3, .int a3), (5, .long a5)]) (x := a7) (v := v32) dX11_clears_243 rfl (by decide) (Option.some.inj hv32) (by decide) rfl ?_
        refine r_goto (tgt := 151) dX11_clears_246 (by decide) ?_
        exact x_sub [1, 2, 3, 4, 0] rfl (ih q31 a0 a1 a3 a5 v32 q h J)
      exact x_sub [2, 3, 4, 5, 6, 1, 0] rfl (R_X11_clears_L177 n n st a0 a1 a3 a5 a7 v22 (0 : Int32) q31 hq31 Jq31)
theorem R_X11_clears_L4 (n : Nat) (rv : Int64) (st' : xS) : ∀ (k : Nat) (st : xS) (a0 : Option Nat) (a1 : Int64) (a3 : Int32), F_X11_clears_L4 n k st a0 a1 a3 = some (rv, st') → Rn mX11_clears 4 [(0, va_rf a0), (1, .long a1), (3, .int a3)] [] st (some (.long rv)) st' 0 := by
  intro k
  induction k with
  | zero => intro st a0 a1 a3 h; cases h
  | succ k ih =>
    intro st a0 a1 a3 h
    unfold F_X11_clears_L4 at h
    refine r_iload_n (x := a3) dX11_clears_4 rfl ?_
    refine x_aload_n (o := a0) dX11_clears_5 rfl ?_
    obtain ⟨v1, hv1, h⟩ := xb h
    refine x_getI (o := a0) dX11_clears_6 xf_X11_276 hv1 ?_
    refine r_icmp_ge (tgt := 258) dX11_clears_9 (by decide) (fun c => ?_) (fun c => ?_)
    · replace h := (if_pos c).symm.trans h
      refine r_lload_n (x := a1) dX11_clears_258 rfl ?_
      obtain ⟨rfl, rfl⟩ := Prod.mk.inj (Option.some.inj h)
      exact r_lreturn dX11_clears_259 rfl
    · replace h := (if_neg c).symm.trans h
      refine r_iload_n (x := a3) dX11_clears_12 rfl ?_
      refine r_istore (lv' := [(4, .int a3), (0, va_rf a0), (1, .long a1), (3, .int a3)]) (x := a3) dX11_clears_13 (by decide) rfl ?_
      obtain ⟨q6, hq6, h⟩ := xb h
      have Jq6 : Rn mX11_clears 47 [(0, va_rf a0), (1, .long a1), (3, .int a3), (4, .int q6)] [] st (some (.long rv)) st' 0 := by
        refine r_iload (x := q6) dX11_clears_47 rfl ?_
        refine x_aload_n (o := a0) dX11_clears_49 rfl ?_
        obtain ⟨v7, hv7, h⟩ := xb h
        refine x_getI (o := a0) dX11_clears_50 xf_X11_276 hv7 ?_
        refine r_icmp_ne (tgt := 58) dX11_clears_53 (by decide) (fun c => ?_) (fun c => ?_)
        · replace h := (if_neg c).symm.trans h
          refine r_iconst (v := (0 : Int32)) dX11_clears_58 (by decide) ?_
          refine r_istore (lv' := [(5, .int (0 : Int32)), (0, va_rf a0), (1, .long a1), (3, .int a3), (4, .int q6)]) (x := (0 : Int32)) dX11_clears_59 (by decide) rfl ?_
          obtain ⟨q17, hq17, h⟩ := xb h
          have Jq17 : Rn mX11_clears 135 [(0, va_rf a0), (1, .long a1), (3, .int a3)] [] q17 (some (.long rv)) st' 0 := by
            refine x_aload_n (o := a0) dX11_clears_135 rfl ?_
            obtain ⟨v18, hv18, h⟩ := xb h
            refine x_getR (o := a0) dX11_clears_136 xf_X11_27 hv18 ?_
            refine r_bipush (v := (7 : Int32)) dX11_clears_139 (by decide) ?_
            refine r_iload_n (x := a3) dX11_clears_141 rfl ?_
            refine r_imul dX11_clears_142 ?_
            refine r_iload_n (x := a3) dX11_clears_143 rfl ?_
            refine r_iadd dX11_clears_144 ?_
            obtain ⟨v19, hv19, h⟩ := xb h
            refine x_laload (o := v18) dX11_clears_145 hv19 ?_
            refine r_lstore (lv' := [(5, .long v19), (0, va_rf a0), (1, .long a1), (3, .int a3)]) (x := v19) dX11_clears_146 (by decide) rfl ?_
            refine r_iconst (v := (0 : Int32)) dX11_clears_148 (by decide) ?_
            refine r_istore (lv' := [(7, .int (0 : Int32)), (5, .long v19), (0, va_rf a0), (1, .long a1), (3, .int a3)]) (x := (0 : Int32)) dX11_clears_149 (by decide) rfl ?_
            obtain ⟨q33, hq33, h⟩ := xb h
            have Jq33 : Rn mX11_clears 249 [(0, va_rf a0), (3, .int a3), (5, .long v19)] [] q33 (some (.long rv)) st' 0 := by
              refine r_lload (x := v19) dX11_clears_249 rfl ?_
              refine r_lstore_n (lv' := [(1, .long v19), (0, va_rf a0), (3, .int a3), (5, .long v19)]) (x := v19) dX11_clears_251 (by decide) (congrArg (List.cons _) (xfY (xk2 0 1 _) (xfY rfl (xfY rfl rfl)))) ?_
              obtain ⟨v34, hv34, h⟩ := xb h
              refine x_iinc (c := (1 : Int32)) (lv' := [(3, .int v34), (1, .long v19), (0, va_rf a0), (5, .long v19)]) (x := a3) (v := v34) dX11_clears_252 rfl (by decide) (Option.some.inj hv34) (by decide) rfl ?_
              refine r_goto (tgt := 4) dX11_clears_255 (by decide) ?_
              exact x_sub [2, 1, 0] rfl (ih q33 a0 v19 v34 h)
            exact x_sub [2, 3, 4, 1, 0] rfl (R_X11_clears_L151 n n q17 a0 a1 a3 v19 (0 : Int32) q33 hq33 Jq33)
          exact x_sub [1, 2, 3, 4, 0] rfl (R_X11_clears_L61 n n st a0 a1 a3 q6 (0 : Int32) q17 hq17 Jq17)
        · replace h := (if_pos c).symm.trans h
          refine r_lconst (v := (0 : Int64)) dX11_clears_56 (by decide) ?_
          obtain ⟨rfl, rfl⟩ := Prod.mk.inj (Option.some.inj h)
          exact r_lreturn dX11_clears_57 rfl
      exact x_sub [1, 2, 3, 0] rfl (R_X11_clears_L15 n n st a0 a1 a3 a3 q6 hq6 Jq6)
theorem R_X11_clears (n : Nat) (st : xS) (a0 : Option Nat) (rv : Int64) (st' : xS) (h : F_X11_clears n st a0 = some (rv, st')) : Rn mX11_clears 0 [(0, va_rf a0)] [] st (some (.long rv)) st' 0 := by
  unfold F_X11_clears at h
  refine r_lconst (v := (1 : Int64)) dX11_clears_0 (by decide) ?_
  refine r_lstore_n (lv' := [(1, .long (1 : Int64)), (0, va_rf a0)]) (x := (1 : Int64)) dX11_clears_1 (by decide) (congrArg (List.cons _) (xfY (xk2 0 1 _) rfl)) ?_
  refine r_iconst (v := (0 : Int32)) dX11_clears_2 (by decide) ?_
  refine r_istore_n (lv' := [(3, .int (0 : Int32)), (1, .long (1 : Int64)), (0, va_rf a0)]) (x := (0 : Int32)) dX11_clears_3 (by decide) rfl ?_
  exact x_sub [2, 1, 0] rfl (R_X11_clears_L4 n rv st' n st a0 (1 : Int64) (0 : Int32) h)
theorem S_X11_clears (n : Nat) (st : xS) (a0 : Option Nat) (rv : Int64) (st' : xS) (h : F_X11_clears n st a0 = some (rv, st')) : Ct mX11_clears [va_rf a0] st (some (.long rv)) st' 0 := by
  refine Ct.of (by decide) (by simp only [lgL_R, lgL_I, lgL_L, lgL_0]; decide) ?_
  try simp only [lvA_R]
  exact R_X11_clears n st a0 rv st' h
theorem R_X11_finds (n : Nat) (st : xS) (a0 : Option Nat) (a1 : Int32) (a2 : Int32) (a3 : Int32) (rv : Int32) (st' : xS) (h : F_X11_finds n st a0 a1 a2 a3 = some (rv, st')) : Rn mX11_finds 0 [(0, va_rf a0), (1, .int a1), (2, .int a2), (3, .int a3)] [] st (some (.int rv)) st' 4 := by
  unfold F_X11_finds at h
  refine x_aload_n (o := a0) dX11_finds_0 rfl ?_
  refine r_iload_n (x := a1) dX11_finds_1 rfl ?_
  refine r_iload_n (x := a2) dX11_finds_2 rfl ?_
  obtain ⟨q2, hq2, h⟩ := xb h
  obtain ⟨s1, hs1, h⟩ := xb h
  refine z_callV (as := [.int a1, .int a2]) (o := a0) (r1 := none) (stk := []) (stk2 := []) (st1 := s1) (d' := 3) dX11_finds_3 xl_X11_285 hq2 (by decide) (Nat.le_trans xs0 (by decide)) rfl rfl (S_X11_meets n st a0 a1 a2 s1 hs1) ?_
  refine x_aload_n (o := a0) dX11_finds_6 rfl ?_
  obtain ⟨v3, hv3, h⟩ := xb h
  refine x_getI (o := a0) dX11_finds_7 xf_X11_279 hv3 ?_
  refine r_if_lt (tgt := 22) dX11_finds_10 (by decide) (fun c => ?_) (fun c => ?_)
  · replace h := (if_pos c).symm.trans h
    refine r_iconst (v := (0 : Int32)) dX11_finds_22 (by decide) ?_
    obtain ⟨v4, hv4, h⟩ := xb h
    refine x_eqI (rz_inv2 hv4).1 ?_
    obtain ⟨rfl, rfl⟩ := Prod.mk.inj (Option.some.inj h)
    exact r_ireturn dX11_finds_23 .boolean rfl (by rcases (rz_inv2 hv4).2 with e | e <;> rw [e] <;> rfl)
  · replace h := (if_neg c).symm.trans h
    refine x_aload_n (o := a0) dX11_finds_13 rfl ?_
    obtain ⟨v5, hv5, h⟩ := xb h
    refine x_getI (o := a0) dX11_finds_14 xf_X11_276 hv5 ?_
    refine r_bipush (v := (6 : Int32)) dX11_finds_17 (by decide) ?_
    refine r_icmp_le (tgt := 24) dX11_finds_19 (by decide) (fun c => ?_) (fun c => ?_)
    · replace h := (if_pos c).symm.trans h
      refine x_aload_n (o := a0) dX11_finds_24 rfl ?_
      refine r_iload_n (x := a1) dX11_finds_25 rfl ?_
      refine r_iload_n (x := a2) dX11_finds_26 rfl ?_
      obtain ⟨q7, hq7, h⟩ := xb h
      obtain ⟨s6, hs6, h⟩ := xb h
      refine z_callV (as := [.int a1, .int a2]) (o := a0) (r1 := none) (stk := []) (stk2 := []) (st1 := s6) (d' := 2) dX11_finds_27 xl_X11_288 hq7 (by decide) (Nat.le_trans xs0 (by decide)) rfl rfl (S_X11_squares n s1 a0 a1 a2 s6 hs6) ?_
      refine x_aload_n (o := a0) dX11_finds_30 rfl ?_
      obtain ⟨q9, hq9, h⟩ := xb h
      obtain ⟨p8, hp8, h⟩ := xb h
      refine z_callV (as := []) (o := a0) (r1 := (some (.long p8.1))) (stk := []) (stk2 := [.long p8.1]) (st1 := p8.2) (d' := 0) dX11_finds_31 xl_X11_291 hq9 (by decide) (Nat.le_trans xs0 (by decide)) rfl rfl (S_X11_clears n s6 a0  p8.1 p8.2 hp8) ?_
      refine r_lstore (lv' := [(4, .long p8.1), (0, va_rf a0), (1, .int a1), (2, .int a2), (3, .int a3)]) (x := p8.1) dX11_finds_34 (by decide) rfl ?_
      refine r_lload (x := p8.1) dX11_finds_36 rfl ?_
      refine r_lconst (v := (0 : Int64)) dX11_finds_38 (by decide) ?_
      refine r_lcmp dX11_finds_39 ?_
      refine r_if_ne (tgt := 45) dX11_finds_40 (by decide) (fun c => ?_) (fun c => ?_)
      · replace h := (if_neg c).symm.trans h
        refine r_iload_n (x := a3) dX11_finds_45 rfl ?_
        refine r_iconst (v := (-1 : Int32)) dX11_finds_46 (by decide) ?_
        obtain ⟨q13, hq13, h⟩ := xb h
        have Jq13 : Rn mX11_finds 60 [(0, va_rf a0), (3, .int a3), (4, .long p8.1)] [.int q13] p8.2 (some (.int rv)) st' 4 := by
          refine r_istore (lv' := [(6, .int q13), (0, va_rf a0), (3, .int a3), (4, .long p8.1)]) (x := q13) dX11_finds_60 (by decide) rfl ?_
          refine x_aload_n (o := a0) dX11_finds_62 rfl ?_
          refine r_iload_n (x := a3) dX11_finds_63 rfl ?_
          refine r_iconst (v := (-1 : Int32)) dX11_finds_64 (by decide) ?_
          obtain ⟨q19, hq19, h⟩ := xb h
          have Jq19 : Rn mX11_finds 102 [(0, va_rf a0), (3, .int a3), (4, .long p8.1), (6, .int q13)] [.long q19, va_rf a0] p8.2 (some (.int rv)) st' 4 := by
            obtain ⟨s20, hs20, h⟩ := xb h
            refine x_putL (o := a0) dX11_finds_102 (xp_X11_295 _) hs20 ?_
            refine x_aload_n (o := a0) dX11_finds_105 rfl ?_
            refine r_lload (x := p8.1) dX11_finds_106 rfl ?_
            obtain ⟨s21, hs21, h⟩ := xb h
            refine x_putL (o := a0) dX11_finds_108 (xp_X11_299 _) hs21 ?_
            refine r_iload_n (x := a3) dX11_finds_111 rfl ?_
            refine r_iconst (v := (-1 : Int32)) dX11_finds_112 (by decide) ?_
            obtain ⟨q23, hq23, h⟩ := xb h
            have Jq23 : Rn mX11_finds 134 [] [.int q23] s21 (some (.int rv)) st' 4 := by
              obtain ⟨v24, hv24, h⟩ := xb h
              refine x_eqI (rz_inv2 hv24).1 ?_
              obtain ⟨rfl, rfl⟩ := Prod.mk.inj (Option.some.inj h)
              exact r_ireturn dX11_finds_134 .boolean rfl (by rcases (rz_inv2 hv24).2 with e | e <;> rw [e] <;> rfl)
            refine r_icmp_eq (tgt := 129) dX11_finds_113 (by decide) (fun c => ?_) (fun c => ?_)
            · replace hq23 := (if_pos c).symm.trans hq23
              refine r_iconst (v := (1 : Int32)) dX11_finds_129 (by decide) ?_
              refine r_goto (tgt := 134) dX11_finds_130 (by decide) ?_
              obtain rfl := Option.some.inj hq23
              exact x_sub [] rfl Jq23
            · replace hq23 := (if_neg c).symm.trans hq23
              refine r_iload_n (x := a3) dX11_finds_116 rfl ?_
              refine x_aload_n (o := a0) dX11_finds_117 rfl ?_
              obtain ⟨v22, hv22, hq23⟩ := xb hq23
              refine x_getI (o := a0) dX11_finds_118 xf_X11_279 hv22 ?_
              refine r_icmp_eq (tgt := 129) dX11_finds_121 (by decide) (fun c => ?_) (fun c => ?_)
              · replace hq23 := (if_pos c).symm.trans hq23
                refine r_iconst (v := (1 : Int32)) dX11_finds_129 (by decide) ?_
                refine r_goto (tgt := 134) dX11_finds_130 (by decide) ?_
                obtain rfl := Option.some.inj hq23
                exact x_sub [] rfl Jq23
              · replace hq23 := (if_neg c).symm.trans hq23
                refine r_iload (x := q13) dX11_finds_124 rfl ?_
                refine r_if_le (tgt := 133) dX11_finds_126 (by decide) (fun c => ?_) (fun c => ?_)
                · replace hq23 := (if_pos c).symm.trans hq23
                  refine r_iconst (v := (0 : Int32)) dX11_finds_133 (by decide) ?_
                  obtain rfl := Option.some.inj hq23
                  exact x_sub [] rfl Jq23
                · replace hq23 := (if_neg c).symm.trans hq23
                  refine r_iconst (v := (1 : Int32)) dX11_finds_129 (by decide) ?_
                  refine r_goto (tgt := 134) dX11_finds_130 (by decide) ?_
                  obtain rfl := Option.some.inj hq23
                  exact x_sub [] rfl Jq23
          refine r_icmp_eq (tgt := 80) dX11_finds_65 (by decide) (fun c => ?_) (fun c => ?_)
          · replace hq19 := (if_pos c).symm.trans hq19
            refine r_iload (x := q13) dX11_finds_80 rfl ?_
            refine r_if_ge (tgt := 89) dX11_finds_82 (by decide) (fun c => ?_) (fun c => ?_)
            · replace hq19 := (if_pos c).symm.trans hq19
              refine x_aload_n (o := a0) dX11_finds_89 rfl ?_
              obtain ⟨v14, hv14, hq19⟩ := xb hq19
              refine x_getR (o := a0) dX11_finds_90 xf_X11_27 hv14 ?_
              refine r_bipush (v := (7 : Int32)) dX11_finds_93 (by decide) ?_
              refine r_iload (x := q13) dX11_finds_95 rfl ?_
              refine r_imul dX11_finds_97 ?_
              refine r_bipush (v := (6 : Int32)) dX11_finds_98 (by decide) ?_
              refine r_iadd dX11_finds_100 ?_
              obtain ⟨v15, hv15, hq19⟩ := xb hq19
              refine x_laload (o := v14) dX11_finds_101 hv15 ?_
              obtain rfl := Option.some.inj hq19
              exact x_sub [1, 2, 3, 0] rfl Jq19
            · replace hq19 := (if_neg c).symm.trans hq19
              refine r_lconst (v := (0 : Int64)) dX11_finds_85 (by decide) ?_
              refine r_goto (tgt := 102) dX11_finds_86 (by decide) ?_
              obtain rfl := Option.some.inj hq19
              exact x_sub [1, 2, 3, 0] rfl Jq19
          · replace hq19 := (if_neg c).symm.trans hq19
            refine r_iload_n (x := a3) dX11_finds_68 rfl ?_
            refine x_aload_n (o := a0) dX11_finds_69 rfl ?_
            obtain ⟨v16, hv16, hq19⟩ := xb hq19
            refine x_getI (o := a0) dX11_finds_70 xf_X11_279 hv16 ?_
            refine r_icmp_ne (tgt := 80) dX11_finds_73 (by decide) (fun c => ?_) (fun c => ?_)
            · replace hq19 := (if_neg c).symm.trans hq19
              refine r_iload (x := q13) dX11_finds_80 rfl ?_
              refine r_if_ge (tgt := 89) dX11_finds_82 (by decide) (fun c => ?_) (fun c => ?_)
              · replace hq19 := (if_pos c).symm.trans hq19
                refine x_aload_n (o := a0) dX11_finds_89 rfl ?_
                obtain ⟨v17, hv17, hq19⟩ := xb hq19
                refine x_getR (o := a0) dX11_finds_90 xf_X11_27 hv17 ?_
                refine r_bipush (v := (7 : Int32)) dX11_finds_93 (by decide) ?_
                refine r_iload (x := q13) dX11_finds_95 rfl ?_
                refine r_imul dX11_finds_97 ?_
                refine r_bipush (v := (6 : Int32)) dX11_finds_98 (by decide) ?_
                refine r_iadd dX11_finds_100 ?_
                obtain ⟨v18, hv18, hq19⟩ := xb hq19
                refine x_laload (o := v17) dX11_finds_101 hv18 ?_
                obtain rfl := Option.some.inj hq19
                exact x_sub [1, 2, 3, 0] rfl Jq19
              · replace hq19 := (if_neg c).symm.trans hq19
                refine r_lconst (v := (0 : Int64)) dX11_finds_85 (by decide) ?_
                refine r_goto (tgt := 102) dX11_finds_86 (by decide) ?_
                obtain rfl := Option.some.inj hq19
                exact x_sub [1, 2, 3, 0] rfl Jq19
            · replace hq19 := (if_pos c).symm.trans hq19
              refine r_lconst (v := (0 : Int64)) dX11_finds_76 (by decide) ?_
              refine r_goto (tgt := 102) dX11_finds_77 (by decide) ?_
              obtain rfl := Option.some.inj hq19
              exact x_sub [1, 2, 3, 0] rfl Jq19
        refine r_icmp_ne (tgt := 54) dX11_finds_47 (by decide) (fun c => ?_) (fun c => ?_)
        · replace hq13 := (if_neg c).symm.trans hq13
          refine x_aload_n (o := a0) dX11_finds_54 rfl ?_
          obtain ⟨v11, hv11, hq13⟩ := xb hq13
          refine x_getR (o := a0) dX11_finds_55 xf_X11_31 hv11 ?_
          refine r_iload_n (x := a3) dX11_finds_58 rfl ?_
          obtain ⟨v12, hv12, hq13⟩ := xb hq13
          refine x_iaload (o := v11) dX11_finds_59 hv12 ?_
          obtain rfl := Option.some.inj hq13
          exact x_sub [1, 4, 0] rfl Jq13
        · replace hq13 := (if_pos c).symm.trans hq13
          refine r_iconst (v := (0 : Int32)) dX11_finds_50 (by decide) ?_
          refine r_goto (tgt := 60) dX11_finds_51 (by decide) ?_
          obtain rfl := Option.some.inj hq13
          exact x_sub [1, 4, 0] rfl Jq13
      · replace h := (if_pos c).symm.trans h
        refine r_iconst (v := (0 : Int32)) dX11_finds_43 (by decide) ?_
        obtain ⟨v10, hv10, h⟩ := xb h
        refine x_eqI (rz_inv2 hv10).1 ?_
        obtain ⟨rfl, rfl⟩ := Prod.mk.inj (Option.some.inj h)
        exact r_ireturn dX11_finds_44 .boolean rfl (by rcases (rz_inv2 hv10).2 with e | e <;> rw [e] <;> rfl)
    · replace h := (if_neg c).symm.trans h
      refine r_iconst (v := (0 : Int32)) dX11_finds_22 (by decide) ?_
      obtain ⟨v25, hv25, h⟩ := xb h
      refine x_eqI (rz_inv2 hv25).1 ?_
      obtain ⟨rfl, rfl⟩ := Prod.mk.inj (Option.some.inj h)
      exact r_ireturn dX11_finds_23 .boolean rfl (by rcases (rz_inv2 hv25).2 with e | e <;> rw [e] <;> rfl)
theorem S_X11_finds (n : Nat) (st : xS) (a0 : Option Nat) (a1 : Int32) (a2 : Int32) (a3 : Int32) (rv : Int32) (st' : xS) (h : F_X11_finds n st a0 a1 a2 a3 = some (rv, st')) : Ct mX11_finds [va_rf a0, .int a1, .int a2, .int a3] st (some (.int rv)) st' 4 := by
  refine Ct.of (by decide) (by simp only [lgL_R, lgL_I, lgL_L, lgL_0]; decide) ?_
  try simp only [lvA_R]
  exact R_X11_finds n st a0 a1 a2 a3 rv st' h
theorem R_X11_both (n : Nat) (st : xS) (a0 : Option Nat) (a1 : Int32) (a2 : Int32) (a3 : Int32) (a4 : Int32) (rv : Int64) (st' : xS) (h : F_X11_both n st a0 a1 a2 a3 a4 = some (rv, st')) : Rn mX11_both 0 [(0, va_rf a0), (1, .int a1), (2, .int a2), (3, .int a3), (4, .int a4)] [] st (some (.long rv)) st' 5 := by
  unfold F_X11_both at h
  refine r_iload_n (x := a3) dX11_both_0 rfl ?_
  refine r_iconst (v := (-1 : Int32)) dX11_both_1 (by decide) ?_
  refine r_icmp_eq (tgt := 19) dX11_both_2 (by decide) (fun c => ?_) (fun c => ?_)
  · replace h := (if_pos c).symm.trans h
    refine x_aload_n (o := a0) dX11_both_19 rfl ?_
    refine r_iload_n (x := a1) dX11_both_20 rfl ?_
    refine r_iload_n (x := a2) dX11_both_21 rfl ?_
    refine r_iload_n (x := a3) dX11_both_22 rfl ?_
    obtain ⟨q2, hq2, h⟩ := xb h
    obtain ⟨p1, hp1, h⟩ := xb h
    refine z_callV (as := [.int a1, .int a2, .int a3]) (o := a0) (r1 := (some (.int p1.1))) (stk := []) (stk2 := [.int p1.1]) (st1 := p1.2) (d' := 4) dX11_both_23 xl_X11_304 hq2 (by decide) (Nat.le_trans xs0 (by decide)) rfl rfl (S_X11_finds n st a0 a1 a2 a3 p1.1 p1.2 hp1) ?_
    obtain ⟨q6, hq6, h⟩ := xb h
    have Jq6 : Rn mX11_both 48 [] [.long q6] p1.2 (some (.long rv)) st' 5 := by
      obtain ⟨rfl, rfl⟩ := Prod.mk.inj (Option.some.inj h)
      exact r_lreturn dX11_both_48 rfl
    refine r_if_eq (tgt := 45) dX11_both_26 (by decide) (fun c => ?_) (fun c => ?_)
    · replace hq6 := (if_pos c).symm.trans hq6
      refine r_ldc2 (v := (-1000000000000000 : Int64)) dX11_both_45 xk_X11_302 ?_
      obtain rfl := Option.some.inj hq6
      exact x_sub [] rfl Jq6
    · replace hq6 := (if_neg c).symm.trans hq6
      refine x_aload_n (o := a0) dX11_both_29 rfl ?_
      obtain ⟨v3, hv3, hq6⟩ := xb hq6
      refine x_getL (o := a0) dX11_both_30 xf_X11_295 hv3 ?_
      refine x_aload_n (o := a0) dX11_both_33 rfl ?_
      obtain ⟨v4, hv4, hq6⟩ := xb hq6
      refine x_getL (o := a0) dX11_both_34 xf_X11_299 hv4 ?_
      refine r_iload (x := a4) dX11_both_37 rfl ?_
      obtain ⟨v5, hv5, hq6⟩ := xb hq6
      refine z_callS (as := [.long v3, .long v4, .int a4]) (r1 := (some (.long v5))) (stk := []) (stk2 := [.long v5]) (st1 := p1.2) (d' := 1) dX11_both_39 xl_X11_261 (by decide) (Nat.le_trans xs0 (by decide)) rfl rfl (S_X11_least n p1.2 v3 v4 a4 v5 hv5) ?_
      refine r_goto (tgt := 48) dX11_both_42 (by decide) ?_
      obtain rfl := Option.some.inj hq6
      exact x_sub [] rfl Jq6
  · replace h := (if_neg c).symm.trans h
    refine r_iload_n (x := a3) dX11_both_5 rfl ?_
    refine r_iconst (v := (0 : Int32)) dX11_both_6 (by decide) ?_
    refine r_bipush (v := (7 : Int32)) dX11_both_7 (by decide) ?_
    obtain ⟨v7, hv7, h⟩ := xb h
    refine z_callS (as := [.int a3, .int (0 : Int32), .int (7 : Int32)]) (r1 := (some (.int v7))) (stk := []) (stk2 := [.int v7]) (st1 := st) (d' := 0) dX11_both_9 xl_X11_90 (by decide) (Nat.le_trans xs0 (by decide)) rfl rfl (S_X11_isIn n st a3 (0 : Int32) (7 : Int32) v7 hv7) ?_
    refine r_if_ne (tgt := 19) dX11_both_12 (by decide) (fun c => ?_) (fun c => ?_)
    · replace h := (if_neg c).symm.trans h
      refine x_aload_n (o := a0) dX11_both_19 rfl ?_
      refine r_iload_n (x := a1) dX11_both_20 rfl ?_
      refine r_iload_n (x := a2) dX11_both_21 rfl ?_
      refine r_iload_n (x := a3) dX11_both_22 rfl ?_
      obtain ⟨q9, hq9, h⟩ := xb h
      obtain ⟨p8, hp8, h⟩ := xb h
      refine z_callV (as := [.int a1, .int a2, .int a3]) (o := a0) (r1 := (some (.int p8.1))) (stk := []) (stk2 := [.int p8.1]) (st1 := p8.2) (d' := 4) dX11_both_23 xl_X11_304 hq9 (by decide) (Nat.le_trans xs0 (by decide)) rfl rfl (S_X11_finds n st a0 a1 a2 a3 p8.1 p8.2 hp8) ?_
      obtain ⟨q13, hq13, h⟩ := xb h
      have Jq13 : Rn mX11_both 48 [] [.long q13] p8.2 (some (.long rv)) st' 5 := by
        obtain ⟨rfl, rfl⟩ := Prod.mk.inj (Option.some.inj h)
        exact r_lreturn dX11_both_48 rfl
      refine r_if_eq (tgt := 45) dX11_both_26 (by decide) (fun c => ?_) (fun c => ?_)
      · replace hq13 := (if_pos c).symm.trans hq13
        refine r_ldc2 (v := (-1000000000000000 : Int64)) dX11_both_45 xk_X11_302 ?_
        obtain rfl := Option.some.inj hq13
        exact x_sub [] rfl Jq13
      · replace hq13 := (if_neg c).symm.trans hq13
        refine x_aload_n (o := a0) dX11_both_29 rfl ?_
        obtain ⟨v10, hv10, hq13⟩ := xb hq13
        refine x_getL (o := a0) dX11_both_30 xf_X11_295 hv10 ?_
        refine x_aload_n (o := a0) dX11_both_33 rfl ?_
        obtain ⟨v11, hv11, hq13⟩ := xb hq13
        refine x_getL (o := a0) dX11_both_34 xf_X11_299 hv11 ?_
        refine r_iload (x := a4) dX11_both_37 rfl ?_
        obtain ⟨v12, hv12, hq13⟩ := xb hq13
        refine z_callS (as := [.long v10, .long v11, .int a4]) (r1 := (some (.long v12))) (stk := []) (stk2 := [.long v12]) (st1 := p8.2) (d' := 1) dX11_both_39 xl_X11_261 (by decide) (Nat.le_trans xs0 (by decide)) rfl rfl (S_X11_least n p8.2 v10 v11 a4 v12 hv12) ?_
        refine r_goto (tgt := 48) dX11_both_42 (by decide) ?_
        obtain rfl := Option.some.inj hq13
        exact x_sub [] rfl Jq13
    · replace h := (if_pos c).symm.trans h
      refine r_ldc2 (v := (-1000000000000000 : Int64)) dX11_both_15 xk_X11_302 ?_
      obtain ⟨rfl, rfl⟩ := Prod.mk.inj (Option.some.inj h)
      exact r_lreturn dX11_both_18 rfl
theorem S_X11_both (n : Nat) (st : xS) (a0 : Option Nat) (a1 : Int32) (a2 : Int32) (a3 : Int32) (a4 : Int32) (rv : Int64) (st' : xS) (h : F_X11_both n st a0 a1 a2 a3 a4 = some (rv, st')) : Ct mX11_both [va_rf a0, .int a1, .int a2, .int a3, .int a4] st (some (.long rv)) st' 5 := by
  refine Ct.of (by decide) (by simp only [lgL_R, lgL_I, lgL_L, lgL_0]; decide) ?_
  try simp only [lvA_R]
  exact R_X11_both n st a0 a1 a2 a3 a4 rv st' h
theorem R_X11_off (n : Nat) (st : xS) (a0 : Option Nat) (a1 : Int32) (a2 : Int32) (a3 : Int32) (rv : Int64) (st' : xS) (h : F_X11_off n st a0 a1 a2 a3 = some (rv, st')) : Rn mX11_off 0 [(0, va_rf a0), (1, .int a1), (2, .int a2), (3, .int a3)] [] st (some (.long rv)) st' 5 := by
  unfold F_X11_off at h
  refine x_aload_n (o := a0) dX11_off_0 rfl ?_
  refine r_iload_n (x := a1) dX11_off_1 rfl ?_
  refine r_iload_n (x := a2) dX11_off_2 rfl ?_
  refine r_iconst (v := (-1 : Int32)) dX11_off_3 (by decide) ?_
  obtain ⟨q2, hq2, h⟩ := xb h
  obtain ⟨p1, hp1, h⟩ := xb h
  refine z_callV (as := [.int a1, .int a2, .int (-1 : Int32)]) (o := a0) (r1 := (some (.int p1.1))) (stk := []) (stk2 := [.int p1.1]) (st1 := p1.2) (d' := 4) dX11_off_4 xl_X11_304 hq2 (by decide) (Nat.le_trans xs0 (by decide)) rfl rfl (S_X11_finds n st a0 a1 a2 (-1 : Int32) p1.1 p1.2 hp1) ?_
  refine r_if_ne (tgt := 14) dX11_off_7 (by decide) (fun c => ?_) (fun c => ?_)
  · replace h := (if_neg c).symm.trans h
    refine x_aload_n (o := a0) dX11_off_14 rfl ?_
    obtain ⟨v3, hv3, h⟩ := xb h
    refine x_getL (o := a0) dX11_off_15 xf_X11_295 hv3 ?_
    refine x_aload_n (o := a0) dX11_off_18 rfl ?_
    obtain ⟨v4, hv4, h⟩ := xb h
    refine x_getL (o := a0) dX11_off_19 xf_X11_299 hv4 ?_
    refine r_iconst (v := (0 : Int32)) dX11_off_22 (by decide) ?_
    obtain ⟨v5, hv5, h⟩ := xb h
    refine z_callS (as := [.long v3, .long v4, .int (0 : Int32)]) (r1 := (some (.long v5))) (stk := []) (stk2 := [.long v5]) (st1 := p1.2) (d' := 1) dX11_off_23 xl_X11_261 (by decide) (Nat.le_trans xs0 (by decide)) rfl rfl (S_X11_least n p1.2 v3 v4 (0 : Int32) v5 hv5) ?_
    refine r_lstore (lv' := [(4, .long v5), (0, va_rf a0), (1, .int a1), (2, .int a2), (3, .int a3)]) (x := v5) dX11_off_26 (by decide) rfl ?_
    refine x_aload_n (o := a0) dX11_off_28 rfl ?_
    obtain ⟨v6, hv6, h⟩ := xb h
    refine x_getL (o := a0) dX11_off_29 xf_X11_295 hv6 ?_
    refine x_aload_n (o := a0) dX11_off_32 rfl ?_
    obtain ⟨v7, hv7, h⟩ := xb h
    refine x_getL (o := a0) dX11_off_33 xf_X11_299 hv7 ?_
    refine r_iconst (v := (1 : Int32)) dX11_off_36 (by decide) ?_
    obtain ⟨v8, hv8, h⟩ := xb h
    refine z_callS (as := [.long v6, .long v7, .int (1 : Int32)]) (r1 := (some (.long v8))) (stk := []) (stk2 := [.long v8]) (st1 := p1.2) (d' := 1) dX11_off_37 xl_X11_261 (by decide) (Nat.le_trans xs0 (by decide)) rfl rfl (S_X11_least n p1.2 v6 v7 (1 : Int32) v8 hv8) ?_
    refine r_lstore (lv' := [(6, .long v8), (4, .long v5), (0, va_rf a0), (1, .int a1), (2, .int a2), (3, .int a3)]) (x := v8) dX11_off_40 (by decide) rfl ?_
    refine x_aload_n (o := a0) dX11_off_42 rfl ?_
    refine r_iload_n (x := a1) dX11_off_43 rfl ?_
    refine r_iload_n (x := a2) dX11_off_44 rfl ?_
    refine r_iconst (v := (1 : Int32)) dX11_off_45 (by decide) ?_
    obtain ⟨q10, hq10, h⟩ := xb h
    obtain ⟨p9, hp9, h⟩ := xb h
    refine z_callV (as := [.int a1, .int a2, .int (1 : Int32)]) (o := a0) (r1 := (some (.int p9.1))) (stk := []) (stk2 := [.int p9.1]) (st1 := p9.2) (d' := 2) dX11_off_46 xl_X11_307 hq10 (by decide) (Nat.le_trans xs0 (by decide)) rfl rfl (S_X11_alone n p1.2 a0 a1 a2 (1 : Int32) p9.1 p9.2 hp9) ?_
    refine r_i2l dX11_off_49 ?_
    refine r_lstore (lv' := [(8, .long p9.1.toInt64), (6, .long v8), (4, .long v5), (0, va_rf a0), (1, .int a1), (2, .int a2), (3, .int a3)]) (x := p9.1.toInt64) dX11_off_50 (by decide) rfl ?_
    refine x_aload_n (o := a0) dX11_off_52 rfl ?_
    refine r_iload_n (x := a1) dX11_off_53 rfl ?_
    refine r_iload_n (x := a2) dX11_off_54 rfl ?_
    refine r_iconst (v := (0 : Int32)) dX11_off_55 (by decide) ?_
    obtain ⟨q12, hq12, h⟩ := xb h
    obtain ⟨p11, hp11, h⟩ := xb h
    refine z_callV (as := [.int a1, .int a2, .int (0 : Int32)]) (o := a0) (r1 := (some (.int p11.1))) (stk := []) (stk2 := [.int p11.1]) (st1 := p11.2) (d' := 2) dX11_off_56 xl_X11_307 hq12 (by decide) (Nat.le_trans xs0 (by decide)) rfl rfl (S_X11_alone n p9.2 a0 a1 a2 (0 : Int32) p11.1 p11.2 hp11) ?_
    refine r_i2l dX11_off_59 ?_
    refine r_lstore (lv' := [(10, .long p11.1.toInt64), (8, .long p9.1.toInt64), (6, .long v8), (4, .long v5), (0, va_rf a0), (1, .int a1), (2, .int a2), (3, .int a3)]) (x := p11.1.toInt64) dX11_off_60 (by decide) rfl ?_
    refine r_lload (x := p11.1.toInt64) dX11_off_62 rfl ?_
    refine r_lload (x := v8) dX11_off_64 rfl ?_
    refine r_lmul dX11_off_66 ?_
    refine r_lload (x := v5) dX11_off_67 rfl ?_
    refine r_lload (x := p9.1.toInt64) dX11_off_69 rfl ?_
    refine r_lmul dX11_off_71 ?_
    refine r_lsub dX11_off_72 ?_
    refine r_lload (x := p9.1.toInt64) dX11_off_73 rfl ?_
    refine r_lload (x := v8) dX11_off_75 rfl ?_
    refine r_lmul dX11_off_77 ?_
    refine r_iload_n (x := a3) dX11_off_78 rfl ?_
    obtain ⟨v13, hv13, h⟩ := xb h
    refine z_callS (as := [.long ((p11.1.toInt64 * v8) - (v5 * p9.1.toInt64)), .long (p9.1.toInt64 * v8), .int a3]) (r1 := (some (.long v13))) (stk := []) (stk2 := [.long v13]) (st1 := p11.2) (d' := 1) dX11_off_79 xl_X11_261 (by decide) (Nat.le_trans xs0 (by decide)) rfl rfl (S_X11_least n p11.2 ((p11.1.toInt64 * v8) - (v5 * p9.1.toInt64)) (p9.1.toInt64 * v8) a3 v13 hv13) ?_
    obtain ⟨rfl, rfl⟩ := Prod.mk.inj (Option.some.inj h)
    exact r_lreturn dX11_off_82 rfl
  · replace h := (if_pos c).symm.trans h
    refine r_ldc2 (v := (-1000000000000000 : Int64)) dX11_off_10 xk_X11_302 ?_
    obtain ⟨rfl, rfl⟩ := Prod.mk.inj (Option.some.inj h)
    exact r_lreturn dX11_off_13 rfl
theorem S_X11_off (n : Nat) (st : xS) (a0 : Option Nat) (a1 : Int32) (a2 : Int32) (a3 : Int32) (rv : Int64) (st' : xS) (h : F_X11_off n st a0 a1 a2 a3 = some (rv, st')) : Ct mX11_off [va_rf a0, .int a1, .int a2, .int a3] st (some (.long rv)) st' 5 := by
  refine Ct.of (by decide) (by simp only [lgL_R, lgL_I, lgL_L, lgL_0]; decide) ?_
  try simp only [lvA_R]
  exact R_X11_off n st a0 a1 a2 a3 rv st' h
theorem R_X11_choose_L13 (n : Nat) {r : Option Value} {st' : xS} : ∀ (k : Nat) (st : xS) (a0 : Option Nat) (a1 : Int32) (a2 : Int32) (a3 : Int32) (q : (xS)), F_X11_choose_L13 n k st a0 a1 a2 a3 = some q → Rn mX11_choose 39 [(0, va_rf a0), (1, .int a1), (2, .int a2)] [] q r st' 0 → Rn mX11_choose 13 [(0, va_rf a0), (1, .int a1), (2, .int a2), (3, .int a3)] [] st r st' 0 := by
  intro k
  induction k with
  | zero => intro st a0 a1 a2 a3 q h; cases h
  | succ k ih =>
    intro st a0 a1 a2 a3 q h J
    unfold F_X11_choose_L13 at h
    refine r_iload_n (x := a3) dX11_choose_13 rfl ?_
    refine r_iload_n (x := a2) dX11_choose_14 rfl ?_
    refine r_icmp_gt (tgt := 39) dX11_choose_15 (by decide) (fun c => ?_) (fun c => ?_)
    · replace h := (if_pos c).symm.trans h
      obtain rfl := Option.some.inj h
      exact x_sub [0, 1, 2] rfl J
    · replace h := (if_neg c).symm.trans h
      refine x_aload_n (o := a0) dX11_choose_18 rfl ?_
      obtain ⟨v1, hv1, h⟩ := xb h
      refine x_getR (o := a0) dX11_choose_19 xf_X11_34 hv1 ?_
      refine r_iload_n (x := a3) dX11_choose_22 rfl ?_
      refine r_iload_n (x := a3) dX11_choose_23 rfl ?_
      obtain ⟨q2, hq2, h⟩ := xb h
      have Jq2 : Rn mX11_choose 32 [(0, va_rf a0), (1, .int a1), (2, .int a2), (3, .int a3)] [.long q2, .int a3, va_rf v1] st r st' 0 := by
        obtain ⟨s3, hs3, h⟩ := xb h
        refine x_lastore (o := v1) dX11_choose_32 hs3 ?_
        obtain ⟨v4, hv4, h⟩ := xb h
        refine x_iinc (c := (1 : Int32)) (lv' := [(3, .int v4), (0, va_rf a0), (1, .int a1), (2, .int a2)]) (x := a3) (v := v4) dX11_choose_33 rfl (by decide) (Option.some.inj hv4) (by decide) rfl ?_
        refine r_goto (tgt := 13) dX11_choose_36 (by decide) ?_
        exact x_sub [1, 2, 3, 0] rfl (ih s3 a0 a1 a2 v4 q h J)
      refine r_if_ne (tgt := 31) dX11_choose_24 (by decide) (fun c => ?_) (fun c => ?_)
      · replace hq2 := (if_neg c).symm.trans hq2
        refine r_lconst (v := (0 : Int64)) dX11_choose_31 (by decide) ?_
        obtain rfl := Option.some.inj hq2
        exact x_sub [0, 1, 2, 3] rfl Jq2
      · replace hq2 := (if_pos c).symm.trans hq2
        refine r_lconst (v := (1 : Int64)) dX11_choose_27 (by decide) ?_
        refine r_goto (tgt := 32) dX11_choose_28 (by decide) ?_
        obtain rfl := Option.some.inj hq2
        exact x_sub [0, 1, 2, 3] rfl Jq2
theorem R_X11_choose_L49 (n : Nat) {r : Option Value} {st' : xS} : ∀ (k : Nat) (st : xS) (a0 : Option Nat) (a1 : Int32) (a2 : Int32) (a3 : Int32) (a4 : Int32) (q : (xS)), F_X11_choose_L49 n k st a0 a1 a2 a3 a4 = some q → Rn mX11_choose 79 [(0, va_rf a0), (1, .int a1), (2, .int a2), (3, .int a3)] [] q r st' 0 → Rn mX11_choose 49 [(0, va_rf a0), (1, .int a1), (2, .int a2), (3, .int a3), (4, .int a4)] [] st r st' 0 := by
  intro k
  induction k with
  | zero => intro st a0 a1 a2 a3 a4 q h; cases h
  | succ k ih =>
    intro st a0 a1 a2 a3 a4 q h J
    unfold F_X11_choose_L49 at h
    refine r_iload (x := a4) dX11_choose_49 rfl ?_
    refine r_if_le (tgt := 79) dX11_choose_51 (by decide) (fun c => ?_) (fun c => ?_)
    · replace h := (if_pos c).symm.trans h
      obtain rfl := Option.some.inj h
      exact x_sub [0, 1, 2, 3] rfl J
    · replace h := (if_neg c).symm.trans h
      refine x_aload_n (o := a0) dX11_choose_54 rfl ?_
      obtain ⟨v6, hv6, h⟩ := xb h
      refine x_getR (o := a0) dX11_choose_55 xf_X11_34 hv6 ?_
      refine r_iload (x := a4) dX11_choose_58 rfl ?_
      refine r_dup2 dX11_choose_60 rfl (xrf_cat _) ?_
      obtain ⟨v7, hv7, h⟩ := xb h
      refine x_laload (o := v6) dX11_choose_61 hv7 ?_
      refine x_aload_n (o := a0) dX11_choose_62 rfl ?_
      obtain ⟨v8, hv8, h⟩ := xb h
      refine x_getR (o := a0) dX11_choose_63 xf_X11_34 hv8 ?_
      refine r_iload (x := a4) dX11_choose_66 rfl ?_
      refine r_iconst (v := (1 : Int32)) dX11_choose_68 (by decide) ?_
      refine r_isub dX11_choose_69 ?_
      obtain ⟨v9, hv9, h⟩ := xb h
      refine x_laload (o := v8) dX11_choose_70 hv9 ?_
      refine r_ladd dX11_choose_71 ?_
      obtain ⟨s10, hs10, h⟩ := xb h
      refine x_lastore (o := v6) dX11_choose_72 hs10 ?_
      obtain ⟨v11, hv11, h⟩ := xb h
      refine x_iinc (c := (-1 : Int32)) (lv' := [(4, .int v11), (0, va_rf a0), (1, .int a1), (2, .int a2), (3, .int a3)]) (x := a4) (v := v11) dX11_choose_73 rfl (by decide) (Option.some.inj hv11) (by decide) rfl ?_
      refine r_goto (tgt := 49) dX11_choose_76 (by decide) ?_
      exact x_sub [1, 2, 3, 4, 0] rfl (ih s10 a0 a1 a2 a3 v11 q h J)
theorem R_X11_choose_L41 (n : Nat) {r : Option Value} {st' : xS} : ∀ (k : Nat) (st : xS) (a0 : Option Nat) (a1 : Int32) (a2 : Int32) (a3 : Int32) (q : (xS)), F_X11_choose_L41 n k st a0 a1 a2 a3 = some q → Rn mX11_choose 85 [(0, va_rf a0), (2, .int a2)] [] q r st' 0 → Rn mX11_choose 41 [(0, va_rf a0), (1, .int a1), (2, .int a2), (3, .int a3)] [] st r st' 0 := by
  intro k
  induction k with
  | zero => intro st a0 a1 a2 a3 q h; cases h
  | succ k ih =>
    intro st a0 a1 a2 a3 q h J
    unfold F_X11_choose_L41 at h
    refine r_iload_n (x := a3) dX11_choose_41 rfl ?_
    refine r_iload_n (x := a1) dX11_choose_42 rfl ?_
    refine r_icmp_ge (tgt := 85) dX11_choose_43 (by decide) (fun c => ?_) (fun c => ?_)
    · replace h := (if_pos c).symm.trans h
      obtain rfl := Option.some.inj h
      exact x_sub [0, 2] rfl J
    · replace h := (if_neg c).symm.trans h
      refine r_iload_n (x := a2) dX11_choose_46 rfl ?_
      refine r_istore (lv' := [(4, .int a2), (0, va_rf a0), (1, .int a1), (2, .int a2), (3, .int a3)]) (x := a2) dX11_choose_47 (by decide) rfl ?_
      obtain ⟨q12, hq12, h⟩ := xb h
      have Jq12 : Rn mX11_choose 79 [(0, va_rf a0), (1, .int a1), (2, .int a2), (3, .int a3)] [] q12 r st' 0 := by
        obtain ⟨v13, hv13, h⟩ := xb h
        refine x_iinc (c := (1 : Int32)) (lv' := [(3, .int v13), (0, va_rf a0), (1, .int a1), (2, .int a2)]) (x := a3) (v := v13) dX11_choose_79 rfl (by decide) (Option.some.inj hv13) (by decide) rfl ?_
        refine r_goto (tgt := 41) dX11_choose_82 (by decide) ?_
        exact x_sub [1, 2, 3, 0] rfl (ih q12 a0 a1 a2 v13 q h J)
      exact x_sub [1, 2, 3, 4, 0] rfl (R_X11_choose_L49 n n st a0 a1 a2 a3 a2 q12 hq12 Jq12)
theorem R_X11_choose (n : Nat) (st : xS) (a0 : Option Nat) (a1 : Int32) (a2 : Int32) (rv : Int64) (st' : xS) (h : F_X11_choose n st a0 a1 a2 = some (rv, st')) : Rn mX11_choose 0 [(0, va_rf a0), (1, .int a1), (2, .int a2)] [] st (some (.long rv)) st' 0 := by
  unfold F_X11_choose at h
  refine r_iload_n (x := a2) dX11_choose_0 rfl ?_
  refine r_if_lt (tgt := 9) dX11_choose_1 (by decide) (fun c => ?_) (fun c => ?_)
  · replace h := (if_pos c).symm.trans h
    refine r_lconst (v := (0 : Int64)) dX11_choose_9 (by decide) ?_
    obtain ⟨rfl, rfl⟩ := Prod.mk.inj (Option.some.inj h)
    exact r_lreturn dX11_choose_10 rfl
  · replace h := (if_neg c).symm.trans h
    refine r_iload_n (x := a2) dX11_choose_4 rfl ?_
    refine r_iload_n (x := a1) dX11_choose_5 rfl ?_
    refine r_icmp_le (tgt := 11) dX11_choose_6 (by decide) (fun c => ?_) (fun c => ?_)
    · replace h := (if_pos c).symm.trans h
      refine r_iconst (v := (0 : Int32)) dX11_choose_11 (by decide) ?_
      refine r_istore_n (lv' := [(3, .int (0 : Int32)), (0, va_rf a0), (1, .int a1), (2, .int a2)]) (x := (0 : Int32)) dX11_choose_12 (by decide) rfl ?_
      obtain ⟨q5, hq5, h⟩ := xb h
      have Jq5 : Rn mX11_choose 39 [(0, va_rf a0), (1, .int a1), (2, .int a2)] [] q5 (some (.long rv)) st' 0 := by
        refine r_iconst (v := (0 : Int32)) dX11_choose_39 (by decide) ?_
        refine r_istore_n (lv' := [(3, .int (0 : Int32)), (0, va_rf a0), (1, .int a1), (2, .int a2)]) (x := (0 : Int32)) dX11_choose_40 (by decide) rfl ?_
        obtain ⟨q14, hq14, h⟩ := xb h
        have Jq14 : Rn mX11_choose 85 [(0, va_rf a0), (2, .int a2)] [] q14 (some (.long rv)) st' 0 := by
          refine x_aload_n (o := a0) dX11_choose_85 rfl ?_
          obtain ⟨v15, hv15, h⟩ := xb h
          refine x_getR (o := a0) dX11_choose_86 xf_X11_34 hv15 ?_
          refine r_iload_n (x := a2) dX11_choose_89 rfl ?_
          obtain ⟨v16, hv16, h⟩ := xb h
          refine x_laload (o := v15) dX11_choose_90 hv16 ?_
          obtain ⟨rfl, rfl⟩ := Prod.mk.inj (Option.some.inj h)
          exact r_lreturn dX11_choose_91 rfl
        exact x_sub [1, 2, 3, 0] rfl (R_X11_choose_L41 n n q5 a0 a1 a2 (0 : Int32) q14 hq14 Jq14)
      exact x_sub [1, 2, 3, 0] rfl (R_X11_choose_L13 n n st a0 a1 a2 (0 : Int32) q5 hq5 Jq5)
    · replace h := (if_neg c).symm.trans h
      refine r_lconst (v := (0 : Int64)) dX11_choose_9 (by decide) ?_
      obtain ⟨rfl, rfl⟩ := Prod.mk.inj (Option.some.inj h)
      exact r_lreturn dX11_choose_10 rfl
theorem S_X11_choose (n : Nat) (st : xS) (a0 : Option Nat) (a1 : Int32) (a2 : Int32) (rv : Int64) (st' : xS) (h : F_X11_choose n st a0 a1 a2 = some (rv, st')) : Ct mX11_choose [va_rf a0, .int a1, .int a2] st (some (.long rv)) st' 0 := by
  refine Ct.of (by decide) (by simp only [lgL_R, lgL_I, lgL_L, lgL_0]; decide) ?_
  try simp only [lvA_R]
  exact R_X11_choose n st a0 a1 a2 rv st' h
theorem R_X11_atLeast_L7 (n : Nat) {r : Option Value} {st' : xS} : ∀ (k : Nat) (st : xS) (a0 : Option Nat) (a1 : Int32) (a2 : Int32) (a3 : Int32) (a5 : Int64) (a7 : Int32) (q : (Int64 × xS)), F_X11_atLeast_L7 n k st a0 a1 a2 a3 a5 a7 = some q → Rn mX11_atLeast 64 [(5, .long q.1)] [] q.2 r st' 1 → Rn mX11_atLeast 7 [(0, va_rf a0), (1, .int a1), (2, .int a2), (3, .int a3), (5, .long a5), (7, .int a7)] [] st r st' 1 := by
  intro k
  induction k with
  | zero => intro st a0 a1 a2 a3 a5 a7 q h; cases h
  | succ k ih =>
    intro st a0 a1 a2 a3 a5 a7 q h J
    unfold F_X11_atLeast_L7 at h
    refine r_iload (x := a7) dX11_atLeast_7 rfl ?_
    refine r_iload_n (x := a2) dX11_atLeast_9 rfl ?_
    refine r_icmp_gt (tgt := 64) dX11_atLeast_10 (by decide) (fun c => ?_) (fun c => ?_)
    · replace h := (if_pos c).symm.trans h
      obtain rfl := Option.some.inj h
      exact x_sub [4] rfl J
    · replace h := (if_neg c).symm.trans h
      refine r_iload (x := a7) dX11_atLeast_13 rfl ?_
      refine r_iload_n (x := a3) dX11_atLeast_15 rfl ?_
      refine r_icmp_gt (tgt := 64) dX11_atLeast_16 (by decide) (fun c => ?_) (fun c => ?_)
      · replace h := (if_pos c).symm.trans h
        obtain rfl := Option.some.inj h
        exact x_sub [4] rfl J
      · replace h := (if_neg c).symm.trans h
        refine x_aload_n (o := a0) dX11_atLeast_19 rfl ?_
        refine r_iload_n (x := a2) dX11_atLeast_20 rfl ?_
        refine r_iload (x := a7) dX11_atLeast_21 rfl ?_
        obtain ⟨q2, hq2, h⟩ := xb h
        obtain ⟨p1, hp1, h⟩ := xb h
        refine z_callV (as := [.int a2, .int a7]) (o := a0) (r1 := (some (.long p1.1))) (stk := []) (stk2 := [.long p1.1]) (st1 := p1.2) (d' := 0) dX11_atLeast_23 xl_X11_311 hq2 (by decide) (Nat.le_trans xs0 (by decide)) rfl rfl (S_X11_choose n st a0 a2 a7 p1.1 p1.2 hp1) ?_
        refine r_lstore (lv' := [(8, .long p1.1), (0, va_rf a0), (1, .int a1), (2, .int a2), (3, .int a3), (5, .long a5), (7, .int a7)]) (x := p1.1) dX11_atLeast_26 (by decide) rfl ?_
        refine r_lload (x := a5) dX11_atLeast_28 rfl ?_
        refine r_lload (x := p1.1) dX11_atLeast_30 rfl ?_
        refine r_lconst (v := (0 : Int64)) dX11_atLeast_32 (by decide) ?_
        refine r_lcmp dX11_atLeast_33 ?_
        obtain ⟨q5, hq5, h⟩ := xb h
        have Jq5 : Rn mX11_atLeast 55 [(0, va_rf a0), (1, .int a1), (2, .int a2), (3, .int a3), (7, .int a7)] [.long q5.1, .long a5] q5.2 r st' 1 := by
          refine r_ladd dX11_atLeast_55 ?_
          obtain ⟨v6, hv6, h⟩ := xb h
          refine x_eqL (Option.some.inj hv6) ?_
          refine r_lstore (lv' := [(5, .long v6), (0, va_rf a0), (1, .int a1), (2, .int a2), (3, .int a3), (7, .int a7)]) (x := v6) dX11_atLeast_56 (by decide) rfl ?_
          obtain ⟨v7, hv7, h⟩ := xb h
          refine x_iinc (c := (1 : Int32)) (lv' := [(7, .int v7), (5, .long v6), (0, va_rf a0), (1, .int a1), (2, .int a2), (3, .int a3)]) (x := a7) (v := v7) dX11_atLeast_58 rfl (by decide) (Option.some.inj hv7) (by decide) rfl ?_
          refine r_goto (tgt := 7) dX11_atLeast_61 (by decide) ?_
          exact x_sub [2, 3, 4, 5, 1, 0] rfl (ih q5.2 a0 a1 a2 a3 v6 v7 q h J)
        refine r_if_ne (tgt := 41) dX11_atLeast_34 (by decide) (fun c => ?_) (fun c => ?_)
        · replace hq5 := (if_neg c).symm.trans hq5
          refine r_lload (x := p1.1) dX11_atLeast_41 rfl ?_
          refine x_aload_n (o := a0) dX11_atLeast_43 rfl ?_
          refine r_iload_n (x := a1) dX11_atLeast_44 rfl ?_
          refine r_iload_n (x := a2) dX11_atLeast_45 rfl ?_
          refine r_isub dX11_atLeast_46 ?_
          refine r_iload_n (x := a3) dX11_atLeast_47 rfl ?_
          refine r_iload (x := a7) dX11_atLeast_48 rfl ?_
          refine r_isub dX11_atLeast_50 ?_
          obtain ⟨q4, hq4, hq5⟩ := xb hq5
          obtain ⟨p3, hp3, hq5⟩ := xb hq5
          refine z_callV (as := [.int (a1 - a2), .int (a3 - a7)]) (o := a0) (r1 := (some (.long p3.1))) (stk := [.long p1.1, .long a5]) (stk2 := [.long p3.1, .long p1.1, .long a5]) (st1 := p3.2) (d' := 0) dX11_atLeast_51 xl_X11_311 hq4 (by decide) (Nat.le_trans (xsJ (xsJ xs0)) (by decide)) rfl rfl (S_X11_choose n p1.2 a0 (a1 - a2) (a3 - a7) p3.1 p3.2 hp3) ?_
          refine r_lmul dX11_atLeast_54 ?_
          obtain rfl := Option.some.inj hq5
          exact x_sub [1, 2, 3, 4, 6] rfl Jq5
        · replace hq5 := (if_pos c).symm.trans hq5
          refine r_lconst (v := (0 : Int64)) dX11_atLeast_37 (by decide) ?_
          refine r_goto (tgt := 55) dX11_atLeast_38 (by decide) ?_
          obtain rfl := Option.some.inj hq5
          exact x_sub [1, 2, 3, 4, 6] rfl Jq5
theorem R_X11_atLeast (n : Nat) (st : xS) (a0 : Option Nat) (a1 : Int32) (a2 : Int32) (a3 : Int32) (a4 : Int32) (rv : Int64) (st' : xS) (h : F_X11_atLeast n st a0 a1 a2 a3 a4 = some (rv, st')) : Rn mX11_atLeast 0 [(0, va_rf a0), (1, .int a1), (2, .int a2), (3, .int a3), (4, .int a4)] [] st (some (.long rv)) st' 1 := by
  unfold F_X11_atLeast at h
  refine r_lconst (v := (0 : Int64)) dX11_atLeast_0 (by decide) ?_
  refine r_lstore (lv' := [(5, .long (0 : Int64)), (0, va_rf a0), (1, .int a1), (2, .int a2), (3, .int a3), (4, .int a4)]) (x := (0 : Int64)) dX11_atLeast_1 (by decide) rfl ?_
  refine r_iload (x := a4) dX11_atLeast_3 rfl ?_
  refine r_istore (lv' := [(7, .int a4), (5, .long (0 : Int64)), (0, va_rf a0), (1, .int a1), (2, .int a2), (3, .int a3), (4, .int a4)]) (x := a4) dX11_atLeast_5 (by decide) rfl ?_
  obtain ⟨q8, hq8, h⟩ := xb h
  have Jq8 : Rn mX11_atLeast 64 [(5, .long q8.1)] [] q8.2 (some (.long rv)) st' 1 := by
    refine r_lload (x := q8.1) dX11_atLeast_64 rfl ?_
    obtain ⟨rfl, rfl⟩ := Prod.mk.inj (Option.some.inj h)
    exact r_lreturn dX11_atLeast_66 rfl
  exact x_sub [2, 3, 4, 5, 1, 0] rfl (R_X11_atLeast_L7 n n st a0 a1 a2 a3 (0 : Int64) a4 q8 hq8 Jq8)
theorem S_X11_atLeast (n : Nat) (st : xS) (a0 : Option Nat) (a1 : Int32) (a2 : Int32) (a3 : Int32) (a4 : Int32) (rv : Int64) (st' : xS) (h : F_X11_atLeast n st a0 a1 a2 a3 a4 = some (rv, st')) : Ct mX11_atLeast [va_rf a0, .int a1, .int a2, .int a3, .int a4] st (some (.long rv)) st' 1 := by
  refine Ct.of (by decide) (by simp only [lgL_R, lgL_I, lgL_L, lgL_0]; decide) ?_
  try simp only [lvA_R]
  exact R_X11_atLeast n st a0 a1 a2 a3 a4 rv st' h
theorem R_X11_odds_L40 (n : Nat) {r : Option Value} {st' : xS} : ∀ (k : Nat) (st : xS) (a0 : Option Nat) (a1 : Int32) (a2 : Int32) (a3 : Int32) (a4 : Int32) (a5 : Int32) (a6 : Int32) (a7 : Int32) (a8 : Int32) (q : (Int32 × Int32)), F_X11_odds_L40 n k st a0 a1 a2 a3 a4 a5 a6 a7 a8 = some q → Rn mX11_odds 105 [(0, va_rf a0), (1, .int a1), (2, .int a2), (4, .int a4), (5, .int a5), (6, .int q.1), (7, .int q.2)] [] st r st' 3 → Rn mX11_odds 40 [(0, va_rf a0), (1, .int a1), (2, .int a2), (3, .int a3), (4, .int a4), (5, .int a5), (6, .int a6), (7, .int a7), (8, .int a8)] [] st r st' 3 := by
  intro k
  induction k with
  | zero => intro st a0 a1 a2 a3 a4 a5 a6 a7 a8 q h; cases h
  | succ k ih =>
    intro st a0 a1 a2 a3 a4 a5 a6 a7 a8 q h J
    unfold F_X11_odds_L40 at h
    refine r_iload (x := a8) dX11_odds_40 rfl ?_
    refine x_aload_n (o := a0) dX11_odds_42 rfl ?_
    obtain ⟨v4, hv4, h⟩ := xb h
    refine x_getR (o := a0) dX11_odds_43 xf_X11_7 hv4 ?_
    refine r_iconst (v := (3 : Int32)) dX11_odds_46 (by decide) ?_
    obtain ⟨v5, hv5, h⟩ := xb h
    refine x_iaload (o := v4) dX11_odds_47 hv5 ?_
    refine r_icmp_ge (tgt := 105) dX11_odds_48 (by decide) (fun c => ?_) (fun c => ?_)
    · replace h := (if_pos c).symm.trans h
      obtain rfl := Option.some.inj h
      exact x_sub [0, 1, 2, 4, 5, 6, 7] rfl J
    · replace h := (if_neg c).symm.trans h
      refine x_aload_n (o := a0) dX11_odds_51 rfl ?_
      refine r_iload (x := a8) dX11_odds_52 rfl ?_
      refine r_iload_n (x := a1) dX11_odds_54 rfl ?_
      refine r_iload_n (x := a2) dX11_odds_55 rfl ?_
      obtain ⟨q7, hq7, h⟩ := xb h
      obtain ⟨v6, hv6, h⟩ := xb h
      refine z_callV (as := [.int a8, .int a1, .int a2]) (o := a0) (r1 := (some (.int v6))) (stk := []) (stk2 := [.int v6]) (st1 := st) (d' := 1) dX11_odds_56 xl_X11_229 hq7 (by decide) (Nat.le_trans xs0 (by decide)) rfl rfl (S_X11_isOfYears n st a0 a8 a1 a2 v6 hv6) ?_
      obtain ⟨q15, hq15, h⟩ := xb h
      have Jq15 : Rn mX11_odds 99 [(0, va_rf a0), (1, .int a1), (2, .int a2), (3, .int a3), (4, .int a4), (5, .int a5), (6, .int q15.1), (7, .int q15.2), (8, .int a8)] [] st r st' 3 := by
        obtain ⟨v16, hv16, h⟩ := xb h
        refine x_iinc (c := (1 : Int32)) (lv' := [(8, .int v16), (0, va_rf a0), (1, .int a1), (2, .int a2), (3, .int a3), (4, .int a4), (5, .int a5), (6, .int q15.1), (7, .int q15.2)]) (x := a8) (v := v16) dX11_odds_99 rfl (by decide) (Option.some.inj hv16) (by decide) rfl ?_
        refine r_goto (tgt := 40) dX11_odds_102 (by decide) ?_
        exact x_sub [1, 2, 3, 4, 5, 6, 7, 8, 0] rfl (ih st a0 a1 a2 a3 a4 a5 q15.1 q15.2 v16 q h J)
      refine r_if_eq (tgt := 99) dX11_odds_59 (by decide) (fun c => ?_) (fun c => ?_)
      · replace hq15 := (if_pos c).symm.trans hq15
        obtain rfl := Option.some.inj hq15
        exact x_sub [0, 1, 2, 3, 4, 5, 6, 7, 8] rfl Jq15
      · replace hq15 := (if_neg c).symm.trans hq15
        refine x_aload_n (o := a0) dX11_odds_62 rfl ?_
        refine r_iload (x := a8) dX11_odds_63 rfl ?_
        refine r_bipush (v := (8 : Int32)) dX11_odds_65 (by decide) ?_
        obtain ⟨q9, hq9, hq15⟩ := xb hq15
        obtain ⟨v8, hv8, hq15⟩ := xb hq15
        refine z_callV (as := [.int a8, .int (8 : Int32)]) (o := a0) (r1 := (some (.int v8))) (stk := []) (stk2 := [.int v8]) (st1 := st) (d' := 0) dX11_odds_67 xl_X11_226 hq9 (by decide) (Nat.le_trans xs0 (by decide)) rfl rfl (S_X11_noteAt n st a0 a8 (8 : Int32) v8 hv8) ?_
        refine r_iload_n (x := a3) dX11_odds_70 rfl ?_
        refine r_icmp_ge (tgt := 77) dX11_odds_71 (by decide) (fun c => ?_) (fun c => ?_)
        · replace hq15 := (if_pos c).symm.trans hq15
          obtain ⟨v10, hv10, hq15⟩ := xb hq15
          refine x_iinc (c := (1 : Int32)) (lv' := [(6, .int v10), (0, va_rf a0), (1, .int a1), (2, .int a2), (3, .int a3), (4, .int a4), (5, .int a5), (7, .int a7), (8, .int a8)]) (x := a6) (v := v10) dX11_odds_77 rfl (by decide) (Option.some.inj hv10) (by decide) rfl ?_
          refine r_iload (x := a7) dX11_odds_80 rfl ?_
          refine x_aload_n (o := a0) dX11_odds_82 rfl ?_
          refine r_iload (x := a8) dX11_odds_83 rfl ?_
          obtain ⟨q12, hq12, hq15⟩ := xb hq15
          obtain ⟨v11, hv11, hq15⟩ := xb hq15
          refine z_callV (as := [.int a8]) (o := a0) (r1 := (some (.int v11))) (stk := [.int a7]) (stk2 := [.int v11, .int a7]) (st1 := st) (d' := 1) dX11_odds_85 xl_X11_232 hq12 (by decide) (Nat.le_trans (xsI xs0) (by decide)) rfl rfl (S_X11_marginOf n st a0 a8 v11 hv11) ?_
          obtain ⟨q13, hq13, hq15⟩ := xb hq15
          have Jq13 : Rn mX11_odds 96 [(0, va_rf a0), (1, .int a1), (2, .int a2), (3, .int a3), (4, .int a4), (5, .int a5), (6, .int v10), (8, .int a8)] [.int q13, .int a7] st r st' 3 := by
            refine r_iadd dX11_odds_96 ?_
            obtain ⟨v14, hv14, hq15⟩ := xb hq15
            refine x_eqI (Option.some.inj hv14) ?_
            refine r_istore (lv' := [(7, .int v14), (0, va_rf a0), (1, .int a1), (2, .int a2), (3, .int a3), (4, .int a4), (5, .int a5), (6, .int v10), (8, .int a8)]) (x := v14) dX11_odds_97 (by decide) rfl ?_
            obtain rfl := Option.some.inj hq15
            exact x_sub [1, 2, 3, 4, 5, 6, 7, 0, 8] rfl Jq15
          refine r_if_le (tgt := 95) dX11_odds_88 (by decide) (fun c => ?_) (fun c => ?_)
          · replace hq13 := (if_pos c).symm.trans hq13
            refine r_iconst (v := (0 : Int32)) dX11_odds_95 (by decide) ?_
            obtain rfl := Option.some.inj hq13
            exact x_sub [1, 2, 3, 4, 5, 6, 0, 8] rfl Jq13
          · replace hq13 := (if_neg c).symm.trans hq13
            refine r_iconst (v := (1 : Int32)) dX11_odds_91 (by decide) ?_
            refine r_goto (tgt := 96) dX11_odds_92 (by decide) ?_
            obtain rfl := Option.some.inj hq13
            exact x_sub [1, 2, 3, 4, 5, 6, 0, 8] rfl Jq13
        · replace hq15 := (if_neg c).symm.trans hq15
          refine r_goto (tgt := 99) dX11_odds_74 (by decide) ?_
          obtain rfl := Option.some.inj hq15
          exact x_sub [0, 1, 2, 3, 4, 5, 6, 7, 8] rfl Jq15
theorem R_X11_odds (n : Nat) (st : xS) (a0 : Option Nat) (a1 : Int32) (a2 : Int32) (a3 : Int32) (a4 : Int32) (rv : Int64) (st' : xS) (h : F_X11_odds n st a0 a1 a2 a3 a4 = some (rv, st')) : Rn mX11_odds 0 [(0, va_rf a0), (1, .int a1), (2, .int a2), (3, .int a3), (4, .int a4)] [] st (some (.long rv)) st' 3 := by
  unfold F_X11_odds at h
  refine x_aload_n (o := a0) dX11_odds_0 rfl ?_
  refine r_iload_n (x := a1) dX11_odds_1 rfl ?_
  refine r_iload_n (x := a2) dX11_odds_2 rfl ?_
  refine r_iconst (v := (0 : Int32)) dX11_odds_3 (by decide) ?_
  obtain ⟨q2, hq2, h⟩ := xb h
  obtain ⟨v1, hv1, h⟩ := xb h
  refine z_callV (as := [.int a1, .int a2, .int (0 : Int32)]) (o := a0) (r1 := (some (.int v1))) (stk := []) (stk2 := [.int v1]) (st1 := st) (d' := 2) dX11_odds_4 xl_X11_314 hq2 (by decide) (Nat.le_trans xs0 (by decide)) rfl rfl (S_X11_sum n st a0 a1 a2 (0 : Int32) v1 hv1) ?_
  refine r_istore (lv' := [(5, .int v1), (0, va_rf a0), (1, .int a1), (2, .int a2), (3, .int a3), (4, .int a4)]) (x := v1) dX11_odds_7 (by decide) rfl ?_
  refine r_iload_n (x := a3) dX11_odds_9 rfl ?_
  refine r_iconst (v := (0 : Int32)) dX11_odds_10 (by decide) ?_
  refine r_sipush (v := (1000 : Int32)) dX11_odds_11 (by decide) ?_
  obtain ⟨v3, hv3, h⟩ := xb h
  refine z_callS (as := [.int a3, .int (0 : Int32), .int (1000 : Int32)]) (r1 := (some (.int v3))) (stk := []) (stk2 := [.int v3]) (st1 := st) (d' := 0) dX11_odds_14 xl_X11_90 (by decide) (Nat.le_trans xs0 (by decide)) rfl rfl (S_X11_isIn n st a3 (0 : Int32) (1000 : Int32) v3 hv3) ?_
  refine r_if_eq (tgt := 27) dX11_odds_17 (by decide) (fun c => ?_) (fun c => ?_)
  · replace h := (if_pos c).symm.trans h
    refine r_ldc2 (v := (-1 : Int64)) dX11_odds_27 xk_X11_206 ?_
    obtain ⟨rfl, rfl⟩ := Prod.mk.inj (Option.some.inj h)
    exact r_lreturn dX11_odds_30 rfl
  · replace h := (if_neg c).symm.trans h
    refine r_iload (x := v1) dX11_odds_20 rfl ?_
    refine r_bipush (v := (60 : Int32)) dX11_odds_22 (by decide) ?_
    refine r_icmp_le (tgt := 31) dX11_odds_24 (by decide) (fun c => ?_) (fun c => ?_)
    · replace h := (if_pos c).symm.trans h
      refine r_iconst (v := (0 : Int32)) dX11_odds_31 (by decide) ?_
      refine r_istore (lv' := [(6, .int (0 : Int32)), (5, .int v1), (0, va_rf a0), (1, .int a1), (2, .int a2), (3, .int a3), (4, .int a4)]) (x := (0 : Int32)) dX11_odds_32 (by decide) rfl ?_
      refine r_iconst (v := (0 : Int32)) dX11_odds_34 (by decide) ?_
      refine r_istore (lv' := [(7, .int (0 : Int32)), (6, .int (0 : Int32)), (5, .int v1), (0, va_rf a0), (1, .int a1), (2, .int a2), (3, .int a3), (4, .int a4)]) (x := (0 : Int32)) dX11_odds_35 (by decide) rfl ?_
      refine r_iconst (v := (0 : Int32)) dX11_odds_37 (by decide) ?_
      refine r_istore (lv' := [(8, .int (0 : Int32)), (7, .int (0 : Int32)), (6, .int (0 : Int32)), (5, .int v1), (0, va_rf a0), (1, .int a1), (2, .int a2), (3, .int a3), (4, .int a4)]) (x := (0 : Int32)) dX11_odds_38 (by decide) rfl ?_
      obtain ⟨q17, hq17, h⟩ := xb h
      have Jq17 : Rn mX11_odds 105 [(0, va_rf a0), (1, .int a1), (2, .int a2), (4, .int a4), (5, .int v1), (6, .int q17.1), (7, .int q17.2)] [] st (some (.long rv)) st' 3 := by
        refine r_iload (x := a4) dX11_odds_105 rfl ?_
        obtain ⟨q24, hq24, h⟩ := xb h
        have Jq24 : Rn mX11_odds 138 [] [.long q24.1] q24.2 (some (.long rv)) st' 3 := by
          obtain ⟨rfl, rfl⟩ := Prod.mk.inj (Option.some.inj h)
          exact r_lreturn dX11_odds_138 rfl
        refine r_if_eq (tgt := 121) dX11_odds_107 (by decide) (fun c => ?_) (fun c => ?_)
        · replace hq24 := (if_pos c).symm.trans hq24
          refine x_aload_n (o := a0) dX11_odds_121 rfl ?_
          refine r_iload (x := v1) dX11_odds_122 rfl ?_
          refine x_aload_n (o := a0) dX11_odds_124 rfl ?_
          refine r_iload_n (x := a1) dX11_odds_125 rfl ?_
          refine r_iload_n (x := a2) dX11_odds_126 rfl ?_
          refine r_iconst (v := (1 : Int32)) dX11_odds_127 (by decide) ?_
          obtain ⟨q19, hq19, hq24⟩ := xb hq24
          obtain ⟨v18, hv18, hq24⟩ := xb hq24
          refine z_callV (as := [.int a1, .int a2, .int (1 : Int32)]) (o := a0) (r1 := (some (.int v18))) (stk := [.int v1, va_rf a0]) (stk2 := [.int v18, .int v1, va_rf a0]) (st1 := st) (d' := 2) dX11_odds_128 xl_X11_314 hq19 (by decide) (Nat.le_trans (xsI (xsA xs0)) (by decide)) rfl rfl (S_X11_sum n st a0 a1 a2 (1 : Int32) v18 hv18) ?_
          refine r_iload (x := q17.1) dX11_odds_131 rfl ?_
          refine r_iload (x := q17.2) dX11_odds_133 rfl ?_
          obtain ⟨q21, hq21, hq24⟩ := xb hq24
          obtain ⟨p20, hp20, hq24⟩ := xb hq24
          refine z_callV (as := [.int v1, .int v18, .int q17.1, .int q17.2]) (o := a0) (r1 := (some (.long p20.1))) (stk := []) (stk2 := [.long p20.1]) (st1 := p20.2) (d' := 1) dX11_odds_135 xl_X11_317 hq21 (by decide) (Nat.le_trans xs0 (by decide)) rfl rfl (S_X11_atLeast n st a0 v1 v18 q17.1 q17.2 p20.1 p20.2 hp20) ?_
          obtain rfl := Option.some.inj hq24
          exact x_sub [] rfl Jq24
        · replace hq24 := (if_neg c).symm.trans hq24
          refine x_aload_n (o := a0) dX11_odds_110 rfl ?_
          refine r_iload (x := v1) dX11_odds_111 rfl ?_
          refine r_iload (x := q17.1) dX11_odds_113 rfl ?_
          obtain ⟨q23, hq23, hq24⟩ := xb hq24
          obtain ⟨p22, hp22, hq24⟩ := xb hq24
          refine z_callV (as := [.int v1, .int q17.1]) (o := a0) (r1 := (some (.long p22.1))) (stk := []) (stk2 := [.long p22.1]) (st1 := p22.2) (d' := 0) dX11_odds_115 xl_X11_311 hq23 (by decide) (Nat.le_trans xs0 (by decide)) rfl rfl (S_X11_choose n st a0 v1 q17.1 p22.1 p22.2 hp22) ?_
          refine r_goto (tgt := 138) dX11_odds_118 (by decide) ?_
          obtain rfl := Option.some.inj hq24
          exact x_sub [] rfl Jq24
      exact x_sub [4, 5, 6, 7, 8, 3, 2, 1, 0] rfl (R_X11_odds_L40 n n st a0 a1 a2 a3 a4 v1 (0 : Int32) (0 : Int32) (0 : Int32) q17 hq17 Jq17)
    · replace h := (if_neg c).symm.trans h
      refine r_ldc2 (v := (-1 : Int64)) dX11_odds_27 xk_X11_206 ?_
      obtain ⟨rfl, rfl⟩ := Prod.mk.inj (Option.some.inj h)
      exact r_lreturn dX11_odds_30 rfl
theorem S_X11_odds (n : Nat) (st : xS) (a0 : Option Nat) (a1 : Int32) (a2 : Int32) (a3 : Int32) (a4 : Int32) (rv : Int64) (st' : xS) (h : F_X11_odds n st a0 a1 a2 a3 a4 = some (rv, st')) : Ct mX11_odds [va_rf a0, .int a1, .int a2, .int a3, .int a4] st (some (.long rv)) st' 3 := by
  refine Ct.of (by decide) (by simp only [lgL_R, lgL_I, lgL_L, lgL_0]; decide) ?_
  try simp only [lvA_R]
  exact R_X11_odds n st a0 a1 a2 a3 a4 rv st' h

/-! printed by a program: the methods run as their functions say -/
theorem R_X11_carded_L9 (n : Nat) {r : Option Value} {st' : xS} : ∀ (k : Nat) (st : xS) (a0 : Option Nat) (a1 : Int32) (a2 : Int32) (a3 : Int32) (a4 : Int32) (a5 : Int32) (a6 : Int32) (q : (Int32 × Int32)), F_X11_carded_L9 n k st a0 a1 a2 a3 a4 a5 a6 = some q → Rn mX11_carded 76 [(4, .int q.1), (5, .int q.2)] [] st r st' 2 → Rn mX11_carded 9 [(0, va_rf a0), (1, .int a1), (2, .int a2), (3, .int a3), (4, .int a4), (5, .int a5), (6, .int a6)] [] st r st' 2 := by
  intro k
  induction k with
  | zero => intro st a0 a1 a2 a3 a4 a5 a6 q h; cases h
  | succ k ih =>
    intro st a0 a1 a2 a3 a4 a5 a6 q h J
    unfold F_X11_carded_L9 at h
    refine r_iload (x := a6) dX11_carded_9 rfl ?_
    refine x_aload_n (o := a0) dX11_carded_11 rfl ?_
    obtain ⟨v1, hv1, h⟩ := xb h
    refine x_getR (o := a0) dX11_carded_12 xf_X11_7 hv1 ?_
    refine r_iconst (v := (3 : Int32)) dX11_carded_15 (by decide) ?_
    obtain ⟨v2, hv2, h⟩ := xb h
    refine x_iaload (o := v1) dX11_carded_16 hv2 ?_
    refine r_icmp_ge (tgt := 76) dX11_carded_17 (by decide) (fun c => ?_) (fun c => ?_)
    · replace h := (if_pos c).symm.trans h
      obtain rfl := Option.some.inj h
      exact x_sub [4, 5] rfl J
    · replace h := (if_neg c).symm.trans h
      refine x_aload_n (o := a0) dX11_carded_20 rfl ?_
      refine r_iload (x := a6) dX11_carded_21 rfl ?_
      refine r_iload_n (x := a1) dX11_carded_23 rfl ?_
      refine r_iload_n (x := a2) dX11_carded_24 rfl ?_
      obtain ⟨q4, hq4, h⟩ := xb h
      obtain ⟨v3, hv3, h⟩ := xb h
      refine z_callV (as := [.int a6, .int a1, .int a2]) (o := a0) (r1 := (some (.int v3))) (stk := []) (stk2 := [.int v3]) (st1 := st) (d' := 1) dX11_carded_25 xl_X11_229 hq4 (by decide) (Nat.le_trans xs0 (by decide)) rfl rfl (S_X11_isOfYears n st a0 a6 a1 a2 v3 hv3) ?_
      obtain ⟨q13, hq13, h⟩ := xb h
      have Jq13 : Rn mX11_carded 70 [(0, va_rf a0), (1, .int a1), (2, .int a2), (3, .int a3), (4, .int q13.1), (5, .int q13.2), (6, .int a6)] [] st r st' 2 := by
        obtain ⟨v14, hv14, h⟩ := xb h
        refine x_iinc (c := (1 : Int32)) (lv' := [(6, .int v14), (0, va_rf a0), (1, .int a1), (2, .int a2), (3, .int a3), (4, .int q13.1), (5, .int q13.2)]) (x := a6) (v := v14) dX11_carded_70 rfl (by decide) (Option.some.inj hv14) (by decide) rfl ?_
        refine r_goto (tgt := 9) dX11_carded_73 (by decide) ?_
        exact x_sub [1, 2, 3, 4, 5, 6, 0] rfl (ih st a0 a1 a2 a3 q13.1 q13.2 v14 q h J)
      refine r_if_eq (tgt := 70) dX11_carded_28 (by decide) (fun c => ?_) (fun c => ?_)
      · replace hq13 := (if_pos c).symm.trans hq13
        obtain rfl := Option.some.inj hq13
        exact x_sub [0, 1, 2, 3, 4, 5, 6] rfl Jq13
      · replace hq13 := (if_neg c).symm.trans hq13
        refine x_aload_n (o := a0) dX11_carded_31 rfl ?_
        refine r_iload (x := a6) dX11_carded_32 rfl ?_
        refine r_bipush (v := (9 : Int32)) dX11_carded_34 (by decide) ?_
        obtain ⟨q6, hq6, hq13⟩ := xb hq13
        obtain ⟨v5, hv5, hq13⟩ := xb hq13
        refine z_callV (as := [.int a6, .int (9 : Int32)]) (o := a0) (r1 := (some (.int v5))) (stk := []) (stk2 := [.int v5]) (st1 := st) (d' := 0) dX11_carded_36 xl_X11_226 hq6 (by decide) (Nat.le_trans xs0 (by decide)) rfl rfl (S_X11_noteAt n st a0 a6 (9 : Int32) v5 hv5) ?_
        refine r_iload_n (x := a3) dX11_carded_39 rfl ?_
        refine r_icmp_eq (tgt := 46) dX11_carded_40 (by decide) (fun c => ?_) (fun c => ?_)
        · replace hq13 := (if_pos c).symm.trans hq13
          obtain ⟨v7, hv7, hq13⟩ := xb hq13
          refine x_iinc (c := (1 : Int32)) (lv' := [(4, .int v7), (0, va_rf a0), (1, .int a1), (2, .int a2), (3, .int a3), (5, .int a5), (6, .int a6)]) (x := a4) (v := v7) dX11_carded_46 rfl (by decide) (Option.some.inj hv7) (by decide) rfl ?_
          refine r_iload (x := a5) dX11_carded_49 rfl ?_
          refine x_aload_n (o := a0) dX11_carded_51 rfl ?_
          refine r_iload (x := a6) dX11_carded_52 rfl ?_
          refine r_bipush (v := (6 : Int32)) dX11_carded_54 (by decide) ?_
          obtain ⟨q9, hq9, hq13⟩ := xb hq13
          obtain ⟨v8, hv8, hq13⟩ := xb hq13
          refine z_callV (as := [.int a6, .int (6 : Int32)]) (o := a0) (r1 := (some (.int v8))) (stk := [.int a5]) (stk2 := [.int v8, .int a5]) (st1 := st) (d' := 0) dX11_carded_56 xl_X11_226 hq9 (by decide) (Nat.le_trans (xsI xs0) (by decide)) rfl rfl (S_X11_noteAt n st a0 a6 (6 : Int32) v8 hv8) ?_
          refine x_aload_n (o := a0) dX11_carded_59 rfl ?_
          refine r_iload (x := a6) dX11_carded_60 rfl ?_
          refine r_iconst (v := (5 : Int32)) dX11_carded_62 (by decide) ?_
          obtain ⟨q11, hq11, hq13⟩ := xb hq13
          obtain ⟨v10, hv10, hq13⟩ := xb hq13
          refine z_callV (as := [.int a6, .int (5 : Int32)]) (o := a0) (r1 := (some (.int v10))) (stk := [.int v8, .int a5]) (stk2 := [.int v10, .int v8, .int a5]) (st1 := st) (d' := 0) dX11_carded_63 xl_X11_226 hq11 (by decide) (Nat.le_trans (xsI (xsI xs0)) (by decide)) rfl rfl (S_X11_noteAt n st a0 a6 (5 : Int32) v10 hv10) ?_
          refine r_isub dX11_carded_66 ?_
          refine r_iadd dX11_carded_67 ?_
          obtain ⟨v12, hv12, hq13⟩ := xb hq13
          refine x_eqI (Option.some.inj hv12) ?_
          refine r_istore (lv' := [(5, .int v12), (4, .int v7), (0, va_rf a0), (1, .int a1), (2, .int a2), (3, .int a3), (6, .int a6)]) (x := v12) dX11_carded_68 (by decide) rfl ?_
          obtain rfl := Option.some.inj hq13
          exact x_sub [2, 3, 4, 5, 1, 0, 6] rfl Jq13
        · replace hq13 := (if_neg c).symm.trans hq13
          refine r_goto (tgt := 70) dX11_carded_43 (by decide) ?_
          obtain rfl := Option.some.inj hq13
          exact x_sub [0, 1, 2, 3, 4, 5, 6] rfl Jq13
theorem R_X11_carded (n : Nat) (st : xS) (a0 : Option Nat) (a1 : Int32) (a2 : Int32) (a3 : Int32) (rv : Int32) (h : F_X11_carded n st a0 a1 a2 a3 = some rv) : Rn mX11_carded 0 [(0, va_rf a0), (1, .int a1), (2, .int a2), (3, .int a3)] [] st (some (.int rv)) st 2 := by
  unfold F_X11_carded at h
  refine r_iconst (v := (0 : Int32)) dX11_carded_0 (by decide) ?_
  refine r_istore (lv' := [(4, .int (0 : Int32)), (0, va_rf a0), (1, .int a1), (2, .int a2), (3, .int a3)]) (x := (0 : Int32)) dX11_carded_1 (by decide) rfl ?_
  refine r_iconst (v := (0 : Int32)) dX11_carded_3 (by decide) ?_
  refine r_istore (lv' := [(5, .int (0 : Int32)), (4, .int (0 : Int32)), (0, va_rf a0), (1, .int a1), (2, .int a2), (3, .int a3)]) (x := (0 : Int32)) dX11_carded_4 (by decide) rfl ?_
  refine r_iconst (v := (0 : Int32)) dX11_carded_6 (by decide) ?_
  refine r_istore (lv' := [(6, .int (0 : Int32)), (5, .int (0 : Int32)), (4, .int (0 : Int32)), (0, va_rf a0), (1, .int a1), (2, .int a2), (3, .int a3)]) (x := (0 : Int32)) dX11_carded_7 (by decide) rfl ?_
  obtain ⟨q15, hq15, h⟩ := xb h
  have Jq15 : Rn mX11_carded 76 [(4, .int q15.1), (5, .int q15.2)] [] st (some (.int rv)) st 2 := by
    refine r_iload (x := q15.1) dX11_carded_76 rfl ?_
    obtain ⟨q16, hq16, h⟩ := xb h
    have Jq16 : Rn mX11_carded 89 [] [.int q16] st (some (.int rv)) st 2 := by
      obtain rfl := Option.some.inj h
      exact r_ireturn dX11_carded_89 .int rfl rfl
    refine r_if_ne (tgt := 87) dX11_carded_78 (by decide) (fun c => ?_) (fun c => ?_)
    · replace hq16 := (if_neg c).symm.trans hq16
      refine r_iload (x := q15.2) dX11_carded_87 rfl ?_
      obtain rfl := Option.some.inj hq16
      exact x_sub [] rfl Jq16
    · replace hq16 := (if_pos c).symm.trans hq16
      refine r_ldcw (v := (-1000000 : Int32)) dX11_carded_81 xk_X11_260 ?_
      refine r_goto (tgt := 89) dX11_carded_84 (by decide) ?_
      obtain rfl := Option.some.inj hq16
      exact x_sub [] rfl Jq16
  exact x_sub [3, 4, 5, 6, 2, 1, 0] rfl (R_X11_carded_L9 n n st a0 a1 a2 a3 (0 : Int32) (0 : Int32) (0 : Int32) q15 hq15 Jq15)
theorem S_X11_carded (n : Nat) (st : xS) (a0 : Option Nat) (a1 : Int32) (a2 : Int32) (a3 : Int32) (rv : Int32) (h : F_X11_carded n st a0 a1 a2 a3 = some rv) : Ct mX11_carded [va_rf a0, .int a1, .int a2, .int a3] st (some (.int rv)) st 2 := by
  refine Ct.of (by decide) (by simp only [lgL_R, lgL_I, lgL_L, lgL_0]; decide) ?_
  try simp only [lvA_R]
  exact R_X11_carded n st a0 a1 a2 a3 rv h
theorem R_X11_orders_L36 (n : Nat) {r : Option Value} {st' : xS} : ∀ (k : Nat) (st : xS) (a0 : Option Nat) (a1 : Int32) (a2 : Int32) (a3 : Int32) (a4 : Int32) (q : (Int32 × xS)), F_X11_orders_L36 n k st a0 a1 a2 a3 a4 = some q → Rn mX11_orders 86 [(0, va_rf a0), (1, .int a1), (2, .int a2), (3, .int a3), (4, .int q.1)] [] q.2 r st' 2 → Rn mX11_orders 36 [(0, va_rf a0), (1, .int a1), (2, .int a2), (3, .int a3), (4, .int a4)] [] st r st' 2 := by
  intro k
  induction k with
  | zero => intro st a0 a1 a2 a3 a4 q h; cases h
  | succ k ih =>
    intro st a0 a1 a2 a3 a4 q h J
    unfold F_X11_orders_L36 at h
    refine r_iload (x := a4) dX11_orders_36 rfl ?_
    refine r_if_le (tgt := 86) dX11_orders_38 (by decide) (fun c => ?_) (fun c => ?_)
    · replace h := (if_pos c).symm.trans h
      obtain rfl := Option.some.inj h
      exact x_sub [0, 1, 2, 3, 4] rfl J
    · replace h := (if_neg c).symm.trans h
      refine x_aload_n (o := a0) dX11_orders_41 rfl ?_
      refine x_aload_n (o := a0) dX11_orders_42 rfl ?_
      obtain ⟨v7, hv7, h⟩ := xb h
      refine x_getR (o := a0) dX11_orders_43 xf_X11_37 hv7 ?_
      refine r_iload (x := a4) dX11_orders_46 rfl ?_
      refine r_iconst (v := (1 : Int32)) dX11_orders_48 (by decide) ?_
      refine r_isub dX11_orders_49 ?_
      obtain ⟨v8, hv8, h⟩ := xb h
      refine x_iaload (o := v7) dX11_orders_50 hv8 ?_
      refine r_iconst (v := (2 : Int32)) dX11_orders_51 (by decide) ?_
      obtain ⟨q10, hq10, h⟩ := xb h
      obtain ⟨v9, hv9, h⟩ := xb h
      refine z_callV (as := [.int v8, .int (2 : Int32)]) (o := a0) (r1 := (some (.int v9))) (stk := []) (stk2 := [.int v9]) (st1 := st) (d' := 0) dX11_orders_52 xl_X11_226 hq10 (by decide) (Nat.le_trans xs0 (by decide)) rfl rfl (S_X11_noteAt n st a0 v8 (2 : Int32) v9 hv9) ?_
      refine x_aload_n (o := a0) dX11_orders_55 rfl ?_
      refine r_iload_n (x := a3) dX11_orders_56 rfl ?_
      refine r_iconst (v := (2 : Int32)) dX11_orders_57 (by decide) ?_
      obtain ⟨q12, hq12, h⟩ := xb h
      obtain ⟨v11, hv11, h⟩ := xb h
      refine z_callV (as := [.int a3, .int (2 : Int32)]) (o := a0) (r1 := (some (.int v11))) (stk := [.int v9]) (stk2 := [.int v11, .int v9]) (st1 := st) (d' := 0) dX11_orders_58 xl_X11_226 hq12 (by decide) (Nat.le_trans (xsI xs0) (by decide)) rfl rfl (S_X11_noteAt n st a0 a3 (2 : Int32) v11 hv11) ?_
      refine r_icmp_le (tgt := 86) dX11_orders_61 (by decide) (fun c => ?_) (fun c => ?_)
      · replace h := (if_pos c).symm.trans h
        obtain rfl := Option.some.inj h
        exact x_sub [0, 1, 2, 3, 4] rfl J
      · replace h := (if_neg c).symm.trans h
        refine x_aload_n (o := a0) dX11_orders_64 rfl ?_
        obtain ⟨v13, hv13, h⟩ := xb h
        refine x_getR (o := a0) dX11_orders_65 xf_X11_37 hv13 ?_
        refine r_iload (x := a4) dX11_orders_68 rfl ?_
        refine x_aload_n (o := a0) dX11_orders_70 rfl ?_
        obtain ⟨v14, hv14, h⟩ := xb h
        refine x_getR (o := a0) dX11_orders_71 xf_X11_37 hv14 ?_
        refine r_iload (x := a4) dX11_orders_74 rfl ?_
        refine r_iconst (v := (1 : Int32)) dX11_orders_76 (by decide) ?_
        refine r_isub dX11_orders_77 ?_
        obtain ⟨v15, hv15, h⟩ := xb h
        refine x_iaload (o := v14) dX11_orders_78 hv15 ?_
        obtain ⟨s16, hs16, h⟩ := xb h
        refine x_iastore (o := v13) dX11_orders_79 hs16 ?_
        obtain ⟨v17, hv17, h⟩ := xb h
        refine x_iinc (c := (-1 : Int32)) (lv' := [(4, .int v17), (0, va_rf a0), (1, .int a1), (2, .int a2), (3, .int a3)]) (x := a4) (v := v17) dX11_orders_80 rfl (by decide) (Option.some.inj hv17) (by decide) rfl ?_
        refine r_goto (tgt := 36) dX11_orders_83 (by decide) ?_
        exact x_sub [1, 2, 3, 4, 0] rfl (ih s16 a0 a1 a2 a3 v17 q h J)
theorem R_X11_orders_L7 (n : Nat) {r : Option Value} {st' : xS} : ∀ (k : Nat) (st : xS) (a0 : Option Nat) (a1 : Int32) (a2 : Int32) (a3 : Int32) (q : (xS)), F_X11_orders_L7 n k st a0 a1 a2 a3 = some q → Rn mX11_orders 110 [] [] q r st' 2 → Rn mX11_orders 7 [(0, va_rf a0), (1, .int a1), (2, .int a2), (3, .int a3)] [] st r st' 2 := by
  intro k
  induction k with
  | zero => intro st a0 a1 a2 a3 q h; cases h
  | succ k ih =>
    intro st a0 a1 a2 a3 q h J
    unfold F_X11_orders_L7 at h
    refine r_iload_n (x := a3) dX11_orders_7 rfl ?_
    refine x_aload_n (o := a0) dX11_orders_8 rfl ?_
    obtain ⟨v2, hv2, h⟩ := xb h
    refine x_getR (o := a0) dX11_orders_9 xf_X11_7 hv2 ?_
    refine r_iconst (v := (3 : Int32)) dX11_orders_12 (by decide) ?_
    obtain ⟨v3, hv3, h⟩ := xb h
    refine x_iaload (o := v2) dX11_orders_13 hv3 ?_
    refine r_icmp_ge (tgt := 110) dX11_orders_14 (by decide) (fun c => ?_) (fun c => ?_)
    · replace h := (if_pos c).symm.trans h
      obtain rfl := Option.some.inj h
      exact x_sub [] rfl J
    · replace h := (if_neg c).symm.trans h
      refine x_aload_n (o := a0) dX11_orders_17 rfl ?_
      refine r_iload_n (x := a3) dX11_orders_18 rfl ?_
      refine r_iload_n (x := a1) dX11_orders_19 rfl ?_
      refine r_iload_n (x := a2) dX11_orders_20 rfl ?_
      obtain ⟨q5, hq5, h⟩ := xb h
      obtain ⟨v4, hv4, h⟩ := xb h
      refine z_callV (as := [.int a3, .int a1, .int a2]) (o := a0) (r1 := (some (.int v4))) (stk := []) (stk2 := [.int v4]) (st1 := st) (d' := 1) dX11_orders_21 xl_X11_229 hq5 (by decide) (Nat.le_trans xs0 (by decide)) rfl rfl (S_X11_isOfYears n st a0 a3 a1 a2 v4 hv4) ?_
      obtain ⟨q23, hq23, h⟩ := xb h
      have Jq23 : Rn mX11_orders 104 [(0, va_rf a0), (1, .int a1), (2, .int a2), (3, .int a3)] [] q23 r st' 2 := by
        obtain ⟨v24, hv24, h⟩ := xb h
        refine x_iinc (c := (1 : Int32)) (lv' := [(3, .int v24), (0, va_rf a0), (1, .int a1), (2, .int a2)]) (x := a3) (v := v24) dX11_orders_104 rfl (by decide) (Option.some.inj hv24) (by decide) rfl ?_
        refine r_goto (tgt := 7) dX11_orders_107 (by decide) ?_
        exact x_sub [1, 2, 3, 0] rfl (ih q23 a0 a1 a2 v24 q h J)
      refine r_if_ne (tgt := 30) dX11_orders_24 (by decide) (fun c => ?_) (fun c => ?_)
      · replace hq23 := (if_neg c).symm.trans hq23
        refine x_aload_n (o := a0) dX11_orders_30 rfl ?_
        obtain ⟨v6, hv6, hq23⟩ := xb hq23
        refine x_getI (o := a0) dX11_orders_31 xf_X11_320 hv6 ?_
        refine r_istore (lv' := [(4, .int v6), (0, va_rf a0), (1, .int a1), (2, .int a2), (3, .int a3)]) (x := v6) dX11_orders_34 (by decide) rfl ?_
        obtain ⟨q18, hq18, hq23⟩ := xb hq23
        have Jq18 : Rn mX11_orders 86 [(0, va_rf a0), (1, .int a1), (2, .int a2), (3, .int a3), (4, .int q18.1)] [] q18.2 r st' 2 := by
          refine x_aload_n (o := a0) dX11_orders_86 rfl ?_
          obtain ⟨v19, hv19, hq23⟩ := xb hq23
          refine x_getR (o := a0) dX11_orders_87 xf_X11_37 hv19 ?_
          refine r_iload (x := q18.1) dX11_orders_90 rfl ?_
          refine r_iload_n (x := a3) dX11_orders_92 rfl ?_
          obtain ⟨s20, hs20, hq23⟩ := xb hq23
          refine x_iastore (o := v19) dX11_orders_93 hs20 ?_
          refine x_aload_n (o := a0) dX11_orders_94 rfl ?_
          refine x_dupR (o := a0) dX11_orders_95 ?_
          obtain ⟨v21, hv21, hq23⟩ := xb hq23
          refine x_getI (o := a0) dX11_orders_96 xf_X11_320 hv21 ?_
          refine r_iconst (v := (1 : Int32)) dX11_orders_99 (by decide) ?_
          refine r_iadd dX11_orders_100 ?_
          obtain ⟨s22, hs22, hq23⟩ := xb hq23
          refine x_putI (o := a0) dX11_orders_101 (xp_X11_320 _) hs22 ?_
          obtain rfl := Option.some.inj hq23
          exact x_sub [0, 1, 2, 3] rfl Jq23
        exact x_sub [1, 2, 3, 4, 0] rfl (R_X11_orders_L36 n n st a0 a1 a2 a3 v6 q18 hq18 Jq18)
      · replace hq23 := (if_pos c).symm.trans hq23
        refine r_goto (tgt := 104) dX11_orders_27 (by decide) ?_
        obtain rfl := Option.some.inj hq23
        exact x_sub [0, 1, 2, 3] rfl Jq23
theorem R_X11_orders (n : Nat) (st : xS) (a0 : Option Nat) (a1 : Int32) (a2 : Int32) (st' : xS) (h : F_X11_orders n st a0 a1 a2 = some st') : Rn mX11_orders 0 [(0, va_rf a0), (1, .int a1), (2, .int a2)] [] st none st' 2 := by
  unfold F_X11_orders at h
  refine x_aload_n (o := a0) dX11_orders_0 rfl ?_
  refine r_iconst (v := (0 : Int32)) dX11_orders_1 (by decide) ?_
  obtain ⟨s1, hs1, h⟩ := xb h
  refine x_putI (o := a0) dX11_orders_2 (xp_X11_320 _) hs1 ?_
  refine r_iconst (v := (0 : Int32)) dX11_orders_5 (by decide) ?_
  refine r_istore_n (lv' := [(3, .int (0 : Int32)), (0, va_rf a0), (1, .int a1), (2, .int a2)]) (x := (0 : Int32)) dX11_orders_6 (by decide) rfl ?_
  obtain ⟨q25, hq25, h⟩ := xb h
  have Jq25 : Rn mX11_orders 110 [] [] q25 none st' 2 := by
    obtain rfl := Option.some.inj h
    exact r_return dX11_orders_110 rfl
  exact x_sub [1, 2, 3, 0] rfl (R_X11_orders_L7 n n s1 a0 a1 a2 (0 : Int32) q25 hq25 Jq25)
theorem S_X11_orders (n : Nat) (st : xS) (a0 : Option Nat) (a1 : Int32) (a2 : Int32) (st' : xS) (h : F_X11_orders n st a0 a1 a2 = some st') : Ct mX11_orders [va_rf a0, .int a1, .int a2] st none st' 2 := by
  refine Ct.of (by decide) (by simp only [lgL_R, lgL_I, lgL_L, lgL_0]; decide) ?_
  try simp only [lvA_R]
  exact R_X11_orders n st a0 a1 a2 st' h
theorem R_X11_fresh_L40 (n : Nat) {r : Option Value} {st' : xS} : ∀ (k : Nat) (st : xS) (a0 : Option Nat) (a1 : Int32) (a3 : Int32) (a4 : Int32) (a5 : Int32) (a6 : Int32) (q : (Int32 × Int32)), F_X11_fresh_L40 n k st a0 a1 a3 a4 a5 a6 = some q → Rn mX11_fresh 138 [(3, .int a3), (4, .int q.1), (5, .int q.2)] [] st r st' 3 → Rn mX11_fresh 40 [(0, va_rf a0), (1, .int a1), (3, .int a3), (4, .int a4), (5, .int a5), (6, .int a6)] [] st r st' 3 := by
  intro k
  induction k with
  | zero => intro st a0 a1 a3 a4 a5 a6 q h; cases h
  | succ k ih =>
    intro st a0 a1 a3 a4 a5 a6 q h J
    unfold F_X11_fresh_L40 at h
    refine r_iload (x := a6) dX11_fresh_40 rfl ?_
    refine x_aload_n (o := a0) dX11_fresh_42 rfl ?_
    obtain ⟨v5, hv5, h⟩ := xb h
    refine x_getI (o := a0) dX11_fresh_43 xf_X11_320 hv5 ?_
    refine r_icmp_ge (tgt := 138) dX11_fresh_46 (by decide) (fun c => ?_) (fun c => ?_)
    · replace h := (if_pos c).symm.trans h
      obtain rfl := Option.some.inj h
      exact x_sub [2, 3, 4] rfl J
    · replace h := (if_neg c).symm.trans h
      refine r_iload (x := a4) dX11_fresh_49 rfl ?_
      refine r_iconst (v := (2 : Int32)) dX11_fresh_51 (by decide) ?_
      refine r_iload_n (x := a3) dX11_fresh_52 rfl ?_
      refine r_imul dX11_fresh_53 ?_
      refine r_icmp_ge (tgt := 138) dX11_fresh_54 (by decide) (fun c => ?_) (fun c => ?_)
      · replace h := (if_pos c).symm.trans h
        obtain rfl := Option.some.inj h
        exact x_sub [2, 3, 4] rfl J
      · replace h := (if_neg c).symm.trans h
        refine x_aload_n (o := a0) dX11_fresh_57 rfl ?_
        refine x_aload_n (o := a0) dX11_fresh_58 rfl ?_
        obtain ⟨v6, hv6, h⟩ := xb h
        refine x_getR (o := a0) dX11_fresh_59 xf_X11_37 hv6 ?_
        refine r_iload (x := a6) dX11_fresh_62 rfl ?_
        obtain ⟨v7, hv7, h⟩ := xb h
        refine x_iaload (o := v6) dX11_fresh_64 hv7 ?_
        refine r_iconst (v := (0 : Int32)) dX11_fresh_65 (by decide) ?_
        obtain ⟨q9, hq9, h⟩ := xb h
        obtain ⟨v8, hv8, h⟩ := xb h
        refine z_callV (as := [.int v7, .int (0 : Int32)]) (o := a0) (r1 := (some (.int v8))) (stk := []) (stk2 := [.int v8]) (st1 := st) (d' := 0) dX11_fresh_66 xl_X11_226 hq9 (by decide) (Nat.le_trans xs0 (by decide)) rfl rfl (S_X11_noteAt n st a0 v7 (0 : Int32) v8 hv8) ?_
        refine r_iload_n (x := a1) dX11_fresh_69 rfl ?_
        obtain ⟨q18, hq18, h⟩ := xb h
        have Jq18 : Rn mX11_fresh 132 [(0, va_rf a0), (1, .int a1), (3, .int a3), (4, .int q18.1), (5, .int q18.2), (6, .int a6)] [] st r st' 3 := by
          obtain ⟨v19, hv19, h⟩ := xb h
          refine x_iinc (c := (1 : Int32)) (lv' := [(6, .int v19), (0, va_rf a0), (1, .int a1), (3, .int a3), (4, .int q18.1), (5, .int q18.2)]) (x := a6) (v := v19) dX11_fresh_132 rfl (by decide) (Option.some.inj hv19) (by decide) rfl ?_
          refine r_goto (tgt := 40) dX11_fresh_135 (by decide) ?_
          exact x_sub [1, 2, 3, 4, 5, 0] rfl (ih st a0 a1 a3 q18.1 q18.2 v19 q h J)
        refine r_icmp_eq (tgt := 76) dX11_fresh_70 (by decide) (fun c => ?_) (fun c => ?_)
        · replace hq18 := (if_pos c).symm.trans hq18
          refine x_aload_n (o := a0) dX11_fresh_76 rfl ?_
          refine x_aload_n (o := a0) dX11_fresh_77 rfl ?_
          obtain ⟨v10, hv10, hq18⟩ := xb hq18
          refine x_getR (o := a0) dX11_fresh_78 xf_X11_37 hv10 ?_
          refine r_iload (x := a6) dX11_fresh_81 rfl ?_
          obtain ⟨v11, hv11, hq18⟩ := xb hq18
          refine x_iaload (o := v10) dX11_fresh_83 hv11 ?_
          obtain ⟨q13, hq13, hq18⟩ := xb hq18
          obtain ⟨v12, hv12, hq18⟩ := xb hq18
          refine z_callV (as := [.int v11]) (o := a0) (r1 := (some (.int v12))) (stk := []) (stk2 := [.int v12]) (st1 := st) (d' := 1) dX11_fresh_84 xl_X11_232 hq13 (by decide) (Nat.le_trans xs0 (by decide)) rfl rfl (S_X11_marginOf n st a0 v11 v12 hv12) ?_
          refine r_istore (lv' := [(7, .int v12), (0, va_rf a0), (1, .int a1), (3, .int a3), (4, .int a4), (5, .int a5), (6, .int a6)]) (x := v12) dX11_fresh_87 (by decide) rfl ?_
          refine r_iload (x := v12) dX11_fresh_89 rfl ?_
          obtain ⟨q14, hq14, hq18⟩ := xb hq18
          have Jq14 : Rn mX11_fresh 108 [(0, va_rf a0), (1, .int a1), (3, .int a3), (4, .int a4), (5, .int a5), (6, .int a6)] [.int q14] st r st' 3 := by
            refine r_istore (lv' := [(8, .int q14), (0, va_rf a0), (1, .int a1), (3, .int a3), (4, .int a4), (5, .int a5), (6, .int a6)]) (x := q14) dX11_fresh_108 (by decide) rfl ?_
            refine r_iload (x := a5) dX11_fresh_110 rfl ?_
            refine r_iload (x := a4) dX11_fresh_112 rfl ?_
            refine r_iload_n (x := a3) dX11_fresh_114 rfl ?_
            obtain ⟨q15, hq15, hq18⟩ := xb hq18
            have Jq15 : Rn mX11_fresh 126 [(0, va_rf a0), (1, .int a1), (3, .int a3), (4, .int a4), (6, .int a6)] [.int q15, .int a5] st r st' 3 := by
              refine r_iadd dX11_fresh_126 ?_
              obtain ⟨v16, hv16, hq18⟩ := xb hq18
              refine x_eqI (Option.some.inj hv16) ?_
              refine r_istore (lv' := [(5, .int v16), (0, va_rf a0), (1, .int a1), (3, .int a3), (4, .int a4), (6, .int a6)]) (x := v16) dX11_fresh_127 (by decide) rfl ?_
              obtain ⟨v17, hv17, hq18⟩ := xb hq18
              refine x_iinc (c := (1 : Int32)) (lv' := [(4, .int v17), (5, .int v16), (0, va_rf a0), (1, .int a1), (3, .int a3), (6, .int a6)]) (x := a4) (v := v17) dX11_fresh_129 rfl (by decide) (Option.some.inj hv17) (by decide) rfl ?_
              obtain rfl := Option.some.inj hq18
              exact x_sub [2, 3, 4, 0, 1, 5] rfl Jq18
            refine r_icmp_ge (tgt := 123) dX11_fresh_115 (by decide) (fun c => ?_) (fun c => ?_)
            · replace hq15 := (if_pos c).symm.trans hq15
              refine r_iload (x := q14) dX11_fresh_123 rfl ?_
              refine r_ineg dX11_fresh_125 ?_
              obtain rfl := Option.some.inj hq15
              exact x_sub [1, 2, 3, 4, 6] rfl Jq15
            · replace hq15 := (if_neg c).symm.trans hq15
              refine r_iload (x := q14) dX11_fresh_118 rfl ?_
              refine r_goto (tgt := 126) dX11_fresh_120 (by decide) ?_
              obtain rfl := Option.some.inj hq15
              exact x_sub [1, 2, 3, 4, 6] rfl Jq15
          refine r_if_le (tgt := 98) dX11_fresh_91 (by decide) (fun c => ?_) (fun c => ?_)
          · replace hq14 := (if_pos c).symm.trans hq14
            refine r_iload (x := v12) dX11_fresh_98 rfl ?_
            refine r_if_ne (tgt := 107) dX11_fresh_100 (by decide) (fun c => ?_) (fun c => ?_)
            · replace hq14 := (if_neg c).symm.trans hq14
              refine r_iconst (v := (0 : Int32)) dX11_fresh_107 (by decide) ?_
              obtain rfl := Option.some.inj hq14
              exact x_sub [1, 2, 3, 4, 5, 6] rfl Jq14
            · replace hq14 := (if_pos c).symm.trans hq14
              refine r_iconst (v := (1 : Int32)) dX11_fresh_103 (by decide) ?_
              refine r_goto (tgt := 108) dX11_fresh_104 (by decide) ?_
              obtain rfl := Option.some.inj hq14
              exact x_sub [1, 2, 3, 4, 5, 6] rfl Jq14
          · replace hq14 := (if_neg c).symm.trans hq14
            refine r_iconst (v := (3 : Int32)) dX11_fresh_94 (by decide) ?_
            refine r_goto (tgt := 108) dX11_fresh_95 (by decide) ?_
            obtain rfl := Option.some.inj hq14
            exact x_sub [1, 2, 3, 4, 5, 6] rfl Jq14
        · replace hq18 := (if_neg c).symm.trans hq18
          refine r_goto (tgt := 132) dX11_fresh_73 (by decide) ?_
          obtain rfl := Option.some.inj hq18
          exact x_sub [0, 1, 2, 3, 4, 5] rfl Jq18
theorem R_X11_fresh (n : Nat) (st : xS) (a0 : Option Nat) (a1 : Int32) (a2 : Int32) (a3 : Int32) (rv : Int32) (st' : xS) (h : F_X11_fresh n st a0 a1 a2 a3 = some (rv, st')) : Rn mX11_fresh 0 [(0, va_rf a0), (1, .int a1), (2, .int a2), (3, .int a3)] [] st (some (.int rv)) st' 3 := by
  unfold F_X11_fresh at h
  refine r_iload_n (x := a1) dX11_fresh_0 rfl ?_
  refine r_iconst (v := (0 : Int32)) dX11_fresh_1 (by decide) ?_
  refine r_bipush (v := (7 : Int32)) dX11_fresh_2 (by decide) ?_
  obtain ⟨v1, hv1, h⟩ := xb h
  refine z_callS (as := [.int a1, .int (0 : Int32), .int (7 : Int32)]) (r1 := (some (.int v1))) (stk := []) (stk2 := [.int v1]) (st1 := st) (d' := 0) dX11_fresh_4 xl_X11_90 (by decide) (Nat.le_trans xs0 (by decide)) rfl rfl (S_X11_isIn n st a1 (0 : Int32) (7 : Int32) v1 hv1) ?_
  refine r_if_eq (tgt := 20) dX11_fresh_7 (by decide) (fun c => ?_) (fun c => ?_)
  · replace h := (if_pos c).symm.trans h
    refine r_ldcw (v := (-1000000 : Int32)) dX11_fresh_20 xk_X11_260 ?_
    obtain ⟨rfl, rfl⟩ := Prod.mk.inj (Option.some.inj h)
    exact r_ireturn dX11_fresh_23 .int rfl rfl
  · replace h := (if_neg c).symm.trans h
    refine r_iload_n (x := a3) dX11_fresh_10 rfl ?_
    refine r_iconst (v := (1 : Int32)) dX11_fresh_11 (by decide) ?_
    refine r_bipush (v := (40 : Int32)) dX11_fresh_12 (by decide) ?_
    obtain ⟨v2, hv2, h⟩ := xb h
    refine z_callS (as := [.int a3, .int (1 : Int32), .int (40 : Int32)]) (r1 := (some (.int v2))) (stk := []) (stk2 := [.int v2]) (st1 := st) (d' := 0) dX11_fresh_14 xl_X11_90 (by decide) (Nat.le_trans xs0 (by decide)) rfl rfl (S_X11_isIn n st a3 (1 : Int32) (40 : Int32) v2 hv2) ?_
    refine r_if_ne (tgt := 24) dX11_fresh_17 (by decide) (fun c => ?_) (fun c => ?_)
    · replace h := (if_neg c).symm.trans h
      refine x_aload_n (o := a0) dX11_fresh_24 rfl ?_
      refine r_iload_n (x := a2) dX11_fresh_25 rfl ?_
      refine r_bipush (v := (59 : Int32)) dX11_fresh_26 (by decide) ?_
      obtain ⟨q4, hq4, h⟩ := xb h
      obtain ⟨s3, hs3, h⟩ := xb h
      refine z_callV (as := [.int a2, .int (59 : Int32)]) (o := a0) (r1 := none) (stk := []) (stk2 := []) (st1 := s3) (d' := 2) dX11_fresh_28 xl_X11_323 hq4 (by decide) (Nat.le_trans xs0 (by decide)) rfl rfl (S_X11_orders n st a0 a2 (59 : Int32) s3 hs3) ?_
      refine r_iconst (v := (0 : Int32)) dX11_fresh_31 (by decide) ?_
      refine r_istore (lv' := [(4, .int (0 : Int32)), (0, va_rf a0), (1, .int a1), (2, .int a2), (3, .int a3)]) (x := (0 : Int32)) dX11_fresh_32 (by decide) rfl ?_
      refine r_iconst (v := (0 : Int32)) dX11_fresh_34 (by decide) ?_
      refine r_istore (lv' := [(5, .int (0 : Int32)), (4, .int (0 : Int32)), (0, va_rf a0), (1, .int a1), (2, .int a2), (3, .int a3)]) (x := (0 : Int32)) dX11_fresh_35 (by decide) rfl ?_
      refine r_iconst (v := (0 : Int32)) dX11_fresh_37 (by decide) ?_
      refine r_istore (lv' := [(6, .int (0 : Int32)), (5, .int (0 : Int32)), (4, .int (0 : Int32)), (0, va_rf a0), (1, .int a1), (2, .int a2), (3, .int a3)]) (x := (0 : Int32)) dX11_fresh_38 (by decide) rfl ?_
      obtain ⟨q20, hq20, h⟩ := xb h
      have Jq20 : Rn mX11_fresh 138 [(3, .int a3), (4, .int q20.1), (5, .int q20.2)] [] s3 (some (.int rv)) st' 3 := by
        refine r_iload (x := q20.1) dX11_fresh_138 rfl ?_
        refine r_iconst (v := (2 : Int32)) dX11_fresh_140 (by decide) ?_
        refine r_iload_n (x := a3) dX11_fresh_141 rfl ?_
        refine r_imul dX11_fresh_142 ?_
        obtain ⟨q21, hq21, h⟩ := xb h
        have Jq21 : Rn mX11_fresh 154 [] [.int q21] s3 (some (.int rv)) st' 3 := by
          obtain ⟨rfl, rfl⟩ := Prod.mk.inj (Option.some.inj h)
          exact r_ireturn dX11_fresh_154 .int rfl rfl
        refine r_icmp_ge (tgt := 152) dX11_fresh_143 (by decide) (fun c => ?_) (fun c => ?_)
        · replace hq21 := (if_pos c).symm.trans hq21
          refine r_iload (x := q20.2) dX11_fresh_152 rfl ?_
          obtain rfl := Option.some.inj hq21
          exact x_sub [] rfl Jq21
        · replace hq21 := (if_neg c).symm.trans hq21
          refine r_ldcw (v := (-1000000 : Int32)) dX11_fresh_146 xk_X11_260 ?_
          refine r_goto (tgt := 154) dX11_fresh_149 (by decide) ?_
          obtain rfl := Option.some.inj hq21
          exact x_sub [] rfl Jq21
      exact x_sub [3, 4, 6, 2, 1, 0] rfl (R_X11_fresh_L40 n n s3 a0 a1 a3 (0 : Int32) (0 : Int32) (0 : Int32) q20 hq20 Jq20)
    · replace h := (if_pos c).symm.trans h
      refine r_ldcw (v := (-1000000 : Int32)) dX11_fresh_20 xk_X11_260 ?_
      obtain ⟨rfl, rfl⟩ := Prod.mk.inj (Option.some.inj h)
      exact r_ireturn dX11_fresh_23 .int rfl rfl
theorem S_X11_fresh (n : Nat) (st : xS) (a0 : Option Nat) (a1 : Int32) (a2 : Int32) (a3 : Int32) (rv : Int32) (st' : xS) (h : F_X11_fresh n st a0 a1 a2 a3 = some (rv, st')) : Ct mX11_fresh [va_rf a0, .int a1, .int a2, .int a3] st (some (.int rv)) st' 3 := by
  refine Ct.of (by decide) (by simp only [lgL_R, lgL_I, lgL_L, lgL_0]; decide) ?_
  try simp only [lvA_R]
  exact R_X11_fresh n st a0 a1 a2 a3 rv st' h
theorem R_X11_films (n : Nat) (st : xS) (a0 : Option Nat) (a1 : Int32) (a2 : Int32) (a3 : Int32) (a4 : Int32) (rv : Int32) (st' : xS) (h : F_X11_films n st a0 a1 a2 a3 a4 = some (rv, st')) : Rn mX11_films 0 [(0, va_rf a0), (1, .int a1), (2, .int a2), (3, .int a3), (4, .int a4)] [] st (some (.int rv)) st' 1 := by
  unfold F_X11_films at h
  refine r_iload_n (x := a1) dX11_films_0 rfl ?_
  refine r_iconst (v := (0 : Int32)) dX11_films_1 (by decide) ?_
  refine r_bipush (v := (7 : Int32)) dX11_films_2 (by decide) ?_
  obtain ⟨v1, hv1, h⟩ := xb h
  refine z_callS (as := [.int a1, .int (0 : Int32), .int (7 : Int32)]) (r1 := (some (.int v1))) (stk := []) (stk2 := [.int v1]) (st1 := st) (d' := 0) dX11_films_4 xl_X11_90 (by decide) (Nat.le_trans xs0 (by decide)) rfl rfl (S_X11_isIn n st a1 (0 : Int32) (7 : Int32) v1 hv1) ?_
  refine r_if_eq (tgt := 30) dX11_films_7 (by decide) (fun c => ?_) (fun c => ?_)
  · replace h := (if_pos c).symm.trans h
    refine r_iconst (v := (0 : Int32)) dX11_films_30 (by decide) ?_
    obtain ⟨v2, hv2, h⟩ := xb h
    refine x_eqI (rz_inv2 hv2).1 ?_
    obtain ⟨rfl, rfl⟩ := Prod.mk.inj (Option.some.inj h)
    exact r_ireturn dX11_films_31 .boolean rfl (by rcases (rz_inv2 hv2).2 with e | e <;> rw [e] <;> rfl)
  · replace h := (if_neg c).symm.trans h
    refine r_iload_n (x := a3) dX11_films_10 rfl ?_
    refine r_iconst (v := (0 : Int32)) dX11_films_11 (by decide) ?_
    refine r_bipush (v := (30 : Int32)) dX11_films_12 (by decide) ?_
    obtain ⟨v3, hv3, h⟩ := xb h
    refine z_callS (as := [.int a3, .int (0 : Int32), .int (30 : Int32)]) (r1 := (some (.int v3))) (stk := []) (stk2 := [.int v3]) (st1 := st) (d' := 0) dX11_films_14 xl_X11_90 (by decide) (Nat.le_trans xs0 (by decide)) rfl rfl (S_X11_isIn n st a3 (0 : Int32) (30 : Int32) v3 hv3) ?_
    refine r_if_eq (tgt := 30) dX11_films_17 (by decide) (fun c => ?_) (fun c => ?_)
    · replace h := (if_pos c).symm.trans h
      refine r_iconst (v := (0 : Int32)) dX11_films_30 (by decide) ?_
      obtain ⟨v4, hv4, h⟩ := xb h
      refine x_eqI (rz_inv2 hv4).1 ?_
      obtain ⟨rfl, rfl⟩ := Prod.mk.inj (Option.some.inj h)
      exact r_ireturn dX11_films_31 .boolean rfl (by rcases (rz_inv2 hv4).2 with e | e <;> rw [e] <;> rfl)
    · replace h := (if_neg c).symm.trans h
      refine r_iload (x := a4) dX11_films_20 rfl ?_
      refine r_iconst (v := (0 : Int32)) dX11_films_22 (by decide) ?_
      refine r_iload_n (x := a3) dX11_films_23 rfl ?_
      obtain ⟨v5, hv5, h⟩ := xb h
      refine z_callS (as := [.int a4, .int (0 : Int32), .int a3]) (r1 := (some (.int v5))) (stk := []) (stk2 := [.int v5]) (st1 := st) (d' := 0) dX11_films_24 xl_X11_90 (by decide) (Nat.le_trans xs0 (by decide)) rfl rfl (S_X11_isIn n st a4 (0 : Int32) a3 v5 hv5) ?_
      refine r_if_ne (tgt := 32) dX11_films_27 (by decide) (fun c => ?_) (fun c => ?_)
      · replace h := (if_neg c).symm.trans h
        refine x_aload_n (o := a0) dX11_films_32 rfl ?_
        obtain ⟨v7, hv7, h⟩ := xb h
        refine x_getR (o := a0) dX11_films_33 xf_X11_7 hv7 ?_
        refine r_sipush (v := (2530 : Int32)) dX11_films_36 (by decide) ?_
        refine r_iconst (v := (4 : Int32)) dX11_films_39 (by decide) ?_
        refine r_iload_n (x := a1) dX11_films_40 rfl ?_
        refine r_imul dX11_films_41 ?_
        refine r_iadd dX11_films_42 ?_
        refine r_iload_n (x := a2) dX11_films_43 rfl ?_
        obtain ⟨q8, hq8, h⟩ := xb h
        have Jq8 : Rn mX11_films 52 [(0, va_rf a0), (1, .int a1), (2, .int a2), (3, .int a3), (4, .int a4)] [.int q8, .int ((2530 : Int32) + ((4 : Int32) * a1)), va_rf v7] st (some (.int rv)) st' 1 := by
          refine r_iadd dX11_films_52 ?_
          refine r_iload_n (x := a3) dX11_films_53 rfl ?_
          obtain ⟨s9, hs9, h⟩ := xb h
          refine x_iastore (o := v7) dX11_films_54 hs9 ?_
          refine x_aload_n (o := a0) dX11_films_55 rfl ?_
          obtain ⟨v10, hv10, h⟩ := xb h
          refine x_getR (o := a0) dX11_films_56 xf_X11_7 hv10 ?_
          refine r_sipush (v := (2530 : Int32)) dX11_films_59 (by decide) ?_
          refine r_iconst (v := (4 : Int32)) dX11_films_62 (by decide) ?_
          refine r_iload_n (x := a1) dX11_films_63 rfl ?_
          refine r_imul dX11_films_64 ?_
          refine r_iadd dX11_films_65 ?_
          refine r_iload_n (x := a2) dX11_films_66 rfl ?_
          obtain ⟨q11, hq11, h⟩ := xb h
          have Jq11 : Rn mX11_films 75 [(4, .int a4)] [.int q11, .int ((2530 : Int32) + ((4 : Int32) * a1)), va_rf v10] s9 (some (.int rv)) st' 1 := by
            refine r_iadd dX11_films_75 ?_
            refine r_iload (x := a4) dX11_films_76 rfl ?_
            obtain ⟨s12, hs12, h⟩ := xb h
            refine x_iastore (o := v10) dX11_films_78 hs12 ?_
            refine r_iconst (v := (1 : Int32)) dX11_films_79 (by decide) ?_
            obtain ⟨v13, hv13, h⟩ := xb h
            refine x_eqI (rz_inv2 hv13).1 ?_
            obtain ⟨rfl, rfl⟩ := Prod.mk.inj (Option.some.inj h)
            exact r_ireturn dX11_films_80 .boolean rfl (by rcases (rz_inv2 hv13).2 with e | e <;> rw [e] <;> rfl)
          refine r_if_eq (tgt := 74) dX11_films_67 (by decide) (fun c => ?_) (fun c => ?_)
          · replace hq11 := (if_pos c).symm.trans hq11
            refine r_iconst (v := (1 : Int32)) dX11_films_74 (by decide) ?_
            obtain rfl := Option.some.inj hq11
            exact x_sub [4] rfl Jq11
          · replace hq11 := (if_neg c).symm.trans hq11
            refine r_iconst (v := (3 : Int32)) dX11_films_70 (by decide) ?_
            refine r_goto (tgt := 75) dX11_films_71 (by decide) ?_
            obtain rfl := Option.some.inj hq11
            exact x_sub [4] rfl Jq11
        refine r_if_eq (tgt := 51) dX11_films_44 (by decide) (fun c => ?_) (fun c => ?_)
        · replace hq8 := (if_pos c).symm.trans hq8
          refine r_iconst (v := (0 : Int32)) dX11_films_51 (by decide) ?_
          obtain rfl := Option.some.inj hq8
          exact x_sub [0, 1, 2, 3, 4] rfl Jq8
        · replace hq8 := (if_neg c).symm.trans hq8
          refine r_iconst (v := (2 : Int32)) dX11_films_47 (by decide) ?_
          refine r_goto (tgt := 52) dX11_films_48 (by decide) ?_
          obtain rfl := Option.some.inj hq8
          exact x_sub [0, 1, 2, 3, 4] rfl Jq8
      · replace h := (if_pos c).symm.trans h
        refine r_iconst (v := (0 : Int32)) dX11_films_30 (by decide) ?_
        obtain ⟨v6, hv6, h⟩ := xb h
        refine x_eqI (rz_inv2 hv6).1 ?_
        obtain ⟨rfl, rfl⟩ := Prod.mk.inj (Option.some.inj h)
        exact r_ireturn dX11_films_31 .boolean rfl (by rcases (rz_inv2 hv6).2 with e | e <;> rw [e] <;> rfl)
theorem S_X11_films (n : Nat) (st : xS) (a0 : Option Nat) (a1 : Int32) (a2 : Int32) (a3 : Int32) (a4 : Int32) (rv : Int32) (st' : xS) (h : F_X11_films n st a0 a1 a2 a3 a4 = some (rv, st')) : Ct mX11_films [va_rf a0, .int a1, .int a2, .int a3, .int a4] st (some (.int rv)) st' 1 := by
  refine Ct.of (by decide) (by simp only [lgL_R, lgL_I, lgL_L, lgL_0]; decide) ?_
  try simp only [lvA_R]
  exact R_X11_films n st a0 a1 a2 a3 a4 rv st' h
theorem R_X11_looser (n : Nat) (st : xS) (a0 : Option Nat) (a1 : Int32) (a2 : Int32) (rv : Int64) (st' : xS) (h : F_X11_looser n st a0 a1 a2 = some (rv, st')) : Rn mX11_looser 0 [(0, va_rf a0), (1, .int a1), (2, .int a2)] [] st (some (.long rv)) st' 2 := by
  unfold F_X11_looser at h
  refine r_iload_n (x := a1) dX11_looser_0 rfl ?_
  refine r_iconst (v := (0 : Int32)) dX11_looser_1 (by decide) ?_
  refine r_bipush (v := (7 : Int32)) dX11_looser_2 (by decide) ?_
  obtain ⟨v1, hv1, h⟩ := xb h
  refine z_callS (as := [.int a1, .int (0 : Int32), .int (7 : Int32)]) (r1 := (some (.int v1))) (stk := []) (stk2 := [.int v1]) (st1 := st) (d' := 0) dX11_looser_4 xl_X11_90 (by decide) (Nat.le_trans xs0 (by decide)) rfl rfl (S_X11_isIn n st a1 (0 : Int32) (7 : Int32) v1 hv1) ?_
  refine r_if_ne (tgt := 14) dX11_looser_7 (by decide) (fun c => ?_) (fun c => ?_)
  · replace h := (if_neg c).symm.trans h
    refine r_sipush (v := (2530 : Int32)) dX11_looser_14 (by decide) ?_
    refine r_iconst (v := (4 : Int32)) dX11_looser_17 (by decide) ?_
    refine r_iload_n (x := a1) dX11_looser_18 rfl ?_
    refine r_imul dX11_looser_19 ?_
    refine r_iadd dX11_looser_20 ?_
    obtain ⟨v2, hv2, h⟩ := xb h
    refine x_eqI (Option.some.inj hv2) ?_
    refine r_istore_n (lv' := [(3, .int v2), (0, va_rf a0), (1, .int a1), (2, .int a2)]) (x := v2) dX11_looser_21 (by decide) rfl ?_
    refine x_aload_n (o := a0) dX11_looser_22 rfl ?_
    obtain ⟨v3, hv3, h⟩ := xb h
    refine x_getR (o := a0) dX11_looser_23 xf_X11_7 hv3 ?_
    refine r_iload_n (x := v2) dX11_looser_26 rfl ?_
    obtain ⟨v4, hv4, h⟩ := xb h
    refine x_iaload (o := v3) dX11_looser_27 hv4 ?_
    refine x_aload_n (o := a0) dX11_looser_28 rfl ?_
    obtain ⟨v5, hv5, h⟩ := xb h
    refine x_getR (o := a0) dX11_looser_29 xf_X11_7 hv5 ?_
    refine r_iload_n (x := v2) dX11_looser_32 rfl ?_
    refine r_iconst (v := (2 : Int32)) dX11_looser_33 (by decide) ?_
    refine r_iadd dX11_looser_34 ?_
    obtain ⟨v6, hv6, h⟩ := xb h
    refine x_iaload (o := v5) dX11_looser_35 hv6 ?_
    refine r_iadd dX11_looser_36 ?_
    obtain ⟨v7, hv7, h⟩ := xb h
    refine x_eqI (Option.some.inj hv7) ?_
    refine r_istore (lv' := [(4, .int v7), (3, .int v2), (0, va_rf a0), (1, .int a1), (2, .int a2)]) (x := v7) dX11_looser_37 (by decide) rfl ?_
    refine r_iload_n (x := a2) dX11_looser_39 rfl ?_
    obtain ⟨q22, hq22, h⟩ := xb h
    have Jq22 : Rn mX11_looser 95 [] [.long q22.1] q22.2 (some (.long rv)) st' 2 := by
      obtain ⟨rfl, rfl⟩ := Prod.mk.inj (Option.some.inj h)
      exact r_lreturn dX11_looser_95 rfl
    refine r_if_eq (tgt := 58) dX11_looser_40 (by decide) (fun c => ?_) (fun c => ?_)
    · replace hq22 := (if_pos c).symm.trans hq22
      refine x_aload_n (o := a0) dX11_looser_58 rfl ?_
      refine r_iload (x := v7) dX11_looser_59 rfl ?_
      refine x_aload_n (o := a0) dX11_looser_61 rfl ?_
      obtain ⟨v8, hv8, hq22⟩ := xb hq22
      refine x_getR (o := a0) dX11_looser_62 xf_X11_7 hv8 ?_
      refine r_iload_n (x := v2) dX11_looser_65 rfl ?_
      refine r_iconst (v := (1 : Int32)) dX11_looser_66 (by decide) ?_
      refine r_iadd dX11_looser_67 ?_
      obtain ⟨v9, hv9, hq22⟩ := xb hq22
      refine x_iaload (o := v8) dX11_looser_68 hv9 ?_
      refine x_aload_n (o := a0) dX11_looser_69 rfl ?_
      obtain ⟨v10, hv10, hq22⟩ := xb hq22
      refine x_getR (o := a0) dX11_looser_70 xf_X11_7 hv10 ?_
      refine r_iload_n (x := v2) dX11_looser_73 rfl ?_
      refine r_iconst (v := (3 : Int32)) dX11_looser_74 (by decide) ?_
      refine r_iadd dX11_looser_75 ?_
      obtain ⟨v11, hv11, hq22⟩ := xb hq22
      refine x_iaload (o := v10) dX11_looser_76 hv11 ?_
      refine r_iadd dX11_looser_77 ?_
      refine x_aload_n (o := a0) dX11_looser_78 rfl ?_
      obtain ⟨v12, hv12, hq22⟩ := xb hq22
      refine x_getR (o := a0) dX11_looser_79 xf_X11_7 hv12 ?_
      refine r_iload_n (x := v2) dX11_looser_82 rfl ?_
      obtain ⟨v13, hv13, hq22⟩ := xb hq22
      refine x_iaload (o := v12) dX11_looser_83 hv13 ?_
      refine x_aload_n (o := a0) dX11_looser_84 rfl ?_
      obtain ⟨v14, hv14, hq22⟩ := xb hq22
      refine x_getR (o := a0) dX11_looser_85 xf_X11_7 hv14 ?_
      refine r_iload_n (x := v2) dX11_looser_88 rfl ?_
      refine r_iconst (v := (1 : Int32)) dX11_looser_89 (by decide) ?_
      refine r_iadd dX11_looser_90 ?_
      obtain ⟨v15, hv15, hq22⟩ := xb hq22
      refine x_iaload (o := v14) dX11_looser_91 hv15 ?_
      obtain ⟨q17, hq17, hq22⟩ := xb hq22
      obtain ⟨p16, hp16, hq22⟩ := xb hq22
      refine z_callV (as := [.int v7, .int (v9 + v11), .int v13, .int v15]) (o := a0) (r1 := (some (.long p16.1))) (stk := []) (stk2 := [.long p16.1]) (st1 := p16.2) (d' := 1) dX11_looser_92 xl_X11_317 hq17 (by decide) (Nat.le_trans xs0 (by decide)) rfl rfl (S_X11_atLeast n st a0 v7 (v9 + v11) v13 v15 p16.1 p16.2 hp16) ?_
      obtain rfl := Option.some.inj hq22
      exact x_sub [] rfl Jq22
    · replace hq22 := (if_neg c).symm.trans hq22
      refine x_aload_n (o := a0) dX11_looser_43 rfl ?_
      refine r_iload (x := v7) dX11_looser_44 rfl ?_
      refine x_aload_n (o := a0) dX11_looser_46 rfl ?_
      obtain ⟨v18, hv18, hq22⟩ := xb hq22
      refine x_getR (o := a0) dX11_looser_47 xf_X11_7 hv18 ?_
      refine r_iload_n (x := v2) dX11_looser_50 rfl ?_
      obtain ⟨v19, hv19, hq22⟩ := xb hq22
      refine x_iaload (o := v18) dX11_looser_51 hv19 ?_
      obtain ⟨q21, hq21, hq22⟩ := xb hq22
      obtain ⟨p20, hp20, hq22⟩ := xb hq22
      refine z_callV (as := [.int v7, .int v19]) (o := a0) (r1 := (some (.long p20.1))) (stk := []) (stk2 := [.long p20.1]) (st1 := p20.2) (d' := 0) dX11_looser_52 xl_X11_311 hq21 (by decide) (Nat.le_trans xs0 (by decide)) rfl rfl (S_X11_choose n st a0 v7 v19 p20.1 p20.2 hp20) ?_
      refine r_goto (tgt := 95) dX11_looser_55 (by decide) ?_
      obtain rfl := Option.some.inj hq22
      exact x_sub [] rfl Jq22
  · replace h := (if_pos c).symm.trans h
    refine r_ldc2 (v := (-1 : Int64)) dX11_looser_10 xk_X11_206 ?_
    obtain ⟨rfl, rfl⟩ := Prod.mk.inj (Option.some.inj h)
    exact r_lreturn dX11_looser_13 rfl
theorem S_X11_looser (n : Nat) (st : xS) (a0 : Option Nat) (a1 : Int32) (a2 : Int32) (rv : Int64) (st' : xS) (h : F_X11_looser n st a0 a1 a2 = some (rv, st')) : Ct mX11_looser [va_rf a0, .int a1, .int a2] st (some (.long rv)) st' 2 := by
  refine Ct.of (by decide) (by simp only [lgL_R, lgL_I, lgL_L, lgL_0]; decide) ?_
  try simp only [lvA_R]
  exact R_X11_looser n st a0 a1 a2 rv st' h
theorem R_X11_isPrice (n : Nat) (st : xS) (a0 : Int32) (rv : Int32) (h : F_X11_isPrice n st a0 = some rv) : Rn mX11_isPrice 0 [(0, .int a0)] [] st (some (.int rv)) st 1 := by
  unfold F_X11_isPrice at h
  refine r_iload_n (x := a0) dX11_isPrice_0 rfl ?_
  refine r_bipush (v := (101 : Int32)) dX11_isPrice_1 (by decide) ?_
  refine r_sipush (v := (999 : Int32)) dX11_isPrice_3 (by decide) ?_
  obtain ⟨v1, hv1, h⟩ := xb h
  refine z_callS (as := [.int a0, .int (101 : Int32), .int (999 : Int32)]) (r1 := (some (.int v1))) (stk := []) (stk2 := [.int v1]) (st1 := st) (d' := 0) dX11_isPrice_6 xl_X11_90 (by decide) (Nat.le_trans xs0 (by decide)) rfl rfl (S_X11_isIn n st a0 (101 : Int32) (999 : Int32) v1 hv1) ?_
  obtain ⟨v2, hv2, h⟩ := xb h
  refine x_eqI (rz_inv2 hv2).1 ?_
  obtain rfl := Option.some.inj h
  exact r_ireturn dX11_isPrice_9 .boolean rfl (by rcases (rz_inv2 hv2).2 with e | e <;> rw [e] <;> rfl)
theorem S_X11_isPrice (n : Nat) (st : xS) (a0 : Int32) (rv : Int32) (h : F_X11_isPrice n st a0 = some rv) : Ct mX11_isPrice [.int a0] st (some (.int rv)) st 1 := by
  refine Ct.of (by decide) (by simp only [lgL_R, lgL_I, lgL_L, lgL_0]; decide) ?_
  try simp only [lvA_R]
  exact R_X11_isPrice n st a0 rv h
theorem R_X11_had (n : Nat) (st : xS) (a0 : Option Nat) (a1 : Int32) (a2 : Int32) (a3 : Int32) (rv : Int32) (h : F_X11_had n st a0 a1 a2 a3 = some rv) : Rn mX11_had 0 [(0, va_rf a0), (1, .int a1), (2, .int a2), (3, .int a3)] [] st (some (.int rv)) st 3 := by
  unfold F_X11_had at h
  refine r_iload_n (x := a3) dX11_had_0 rfl ?_
  obtain ⟨v1, hv1, h⟩ := xb h
  refine z_callS (as := [.int a3]) (r1 := (some (.int v1))) (stk := []) (stk2 := [.int v1]) (st1 := st) (d' := 1) dX11_had_1 xl_X11_326 (by decide) (Nat.le_trans xs0 (by decide)) rfl rfl (S_X11_isPrice n st a3 v1 hv1) ?_
  refine r_if_ne (tgt := 11) dX11_had_4 (by decide) (fun c => ?_) (fun c => ?_)
  · replace h := (if_neg c).symm.trans h
    refine x_aload_n (o := a0) dX11_had_11 rfl ?_
    refine r_iload_n (x := a1) dX11_had_12 rfl ?_
    refine r_iload_n (x := a2) dX11_had_13 rfl ?_
    refine r_iconst (v := (1 : Int32)) dX11_had_14 (by decide) ?_
    obtain ⟨q3, hq3, h⟩ := xb h
    obtain ⟨v2, hv2, h⟩ := xb h
    refine z_callV (as := [.int a1, .int a2, .int (1 : Int32)]) (o := a0) (r1 := (some (.int v2))) (stk := []) (stk2 := [.int v2]) (st1 := st) (d' := 2) dX11_had_15 xl_X11_314 hq3 (by decide) (Nat.le_trans xs0 (by decide)) rfl rfl (S_X11_sum n st a0 a1 a2 (1 : Int32) v2 hv2) ?_
    refine r_iload_n (x := a3) dX11_had_18 rfl ?_
    refine r_imul dX11_had_19 ?_
    refine r_bipush (v := (100 : Int32)) dX11_had_20 (by decide) ?_
    refine x_aload_n (o := a0) dX11_had_22 rfl ?_
    refine r_iload_n (x := a1) dX11_had_23 rfl ?_
    refine r_iload_n (x := a2) dX11_had_24 rfl ?_
    refine r_iconst (v := (0 : Int32)) dX11_had_25 (by decide) ?_
    obtain ⟨q5, hq5, h⟩ := xb h
    obtain ⟨v4, hv4, h⟩ := xb h
    refine z_callV (as := [.int a1, .int a2, .int (0 : Int32)]) (o := a0) (r1 := (some (.int v4))) (stk := [.int (100 : Int32), .int (v2 * a3)]) (stk2 := [.int v4, .int (100 : Int32), .int (v2 * a3)]) (st1 := st) (d' := 2) dX11_had_26 xl_X11_314 hq5 (by decide) (Nat.le_trans (xsI (xsI xs0)) (by decide)) rfl rfl (S_X11_sum n st a0 a1 a2 (0 : Int32) v4 hv4) ?_
    refine r_imul dX11_had_29 ?_
    refine r_isub dX11_had_30 ?_
    obtain rfl := Option.some.inj h
    exact r_ireturn dX11_had_31 .int rfl rfl
  · replace h := (if_pos c).symm.trans h
    refine r_ldcw (v := (-1000000 : Int32)) dX11_had_7 xk_X11_260 ?_
    obtain rfl := Option.some.inj h
    exact r_ireturn dX11_had_10 .int rfl rfl
theorem S_X11_had (n : Nat) (st : xS) (a0 : Option Nat) (a1 : Int32) (a2 : Int32) (a3 : Int32) (rv : Int32) (h : F_X11_had n st a0 a1 a2 a3 = some rv) : Ct mX11_had [va_rf a0, .int a1, .int a2, .int a3] st (some (.int rv)) st 3 := by
  refine Ct.of (by decide) (by simp only [lgL_R, lgL_I, lgL_L, lgL_0]; decide) ?_
  try simp only [lvA_R]
  exact R_X11_had n st a0 a1 a2 a3 rv h
theorem R_X11_fixed_L33 (n : Nat) (rv : Int32) (st' : xS) : ∀ (k : Nat) (st : xS) (a0 : Option Nat) (a3 : Int32) (a4 : Int32) (a5 : Int32) (a6 : Int32), F_X11_fixed_L33 n k st a0 a3 a4 a5 a6 = some (rv, st') → Rn mX11_fixed 33 [(0, va_rf a0), (3, .int a3), (4, .int a4), (5, .int a5), (6, .int a6)] [] st (some (.int rv)) st' 3 := by
  intro k
  induction k with
  | zero => intro st a0 a3 a4 a5 a6 h; cases h
  | succ k ih =>
    intro st a0 a3 a4 a5 a6 h
    unfold F_X11_fixed_L33 at h
    refine r_iload (x := a6) dX11_fixed_33 rfl ?_
    refine x_aload_n (o := a0) dX11_fixed_35 rfl ?_
    obtain ⟨v5, hv5, h⟩ := xb h
    refine x_getI (o := a0) dX11_fixed_36 xf_X11_320 hv5 ?_
    refine r_icmp_ge (tgt := 89) dX11_fixed_39 (by decide) (fun c => ?_) (fun c => ?_)
    · replace h := (if_pos c).symm.trans h
      refine x_aload_n (o := a0) dX11_fixed_89 rfl ?_
      obtain ⟨v6, hv6, h⟩ := xb h
      refine x_getI (o := a0) dX11_fixed_90 xf_X11_320 hv6 ?_
      obtain ⟨rfl, rfl⟩ := Prod.mk.inj (Option.some.inj h)
      exact r_ireturn dX11_fixed_93 .int rfl rfl
    · replace h := (if_neg c).symm.trans h
      refine r_iload (x := a5) dX11_fixed_42 rfl ?_
      refine x_aload_n (o := a0) dX11_fixed_44 rfl ?_
      refine x_aload_n (o := a0) dX11_fixed_45 rfl ?_
      obtain ⟨v7, hv7, h⟩ := xb h
      refine x_getR (o := a0) dX11_fixed_46 xf_X11_37 hv7 ?_
      refine r_iload (x := a6) dX11_fixed_49 rfl ?_
      obtain ⟨v8, hv8, h⟩ := xb h
      refine x_iaload (o := v7) dX11_fixed_51 hv8 ?_
      obtain ⟨q10, hq10, h⟩ := xb h
      obtain ⟨v9, hv9, h⟩ := xb h
      refine z_callV (as := [.int v8]) (o := a0) (r1 := (some (.int v9))) (stk := [.int a5]) (stk2 := [.int v9, .int a5]) (st1 := st) (d' := 1) dX11_fixed_52 xl_X11_232 hq10 (by decide) (Nat.le_trans (xsI xs0) (by decide)) rfl rfl (S_X11_marginOf n st a0 v8 v9 hv9) ?_
      obtain ⟨q11, hq11, h⟩ := xb h
      have Jq11 : Rn mX11_fixed 67 [(0, va_rf a0), (3, .int a3), (4, .int a4), (6, .int a6)] [.int q11, .int a5] st (some (.int rv)) st' 3 := by
        refine r_iadd dX11_fixed_67 ?_
        obtain ⟨v12, hv12, h⟩ := xb h
        refine x_eqI (Option.some.inj hv12) ?_
        refine r_istore (lv' := [(5, .int v12), (0, va_rf a0), (3, .int a3), (4, .int a4), (6, .int a6)]) (x := v12) dX11_fixed_68 (by decide) rfl ?_
        refine r_iload (x := v12) dX11_fixed_70 rfl ?_
        refine r_iload (x := a4) dX11_fixed_72 rfl ?_
        refine r_ineg dX11_fixed_74 ?_
        refine r_icmp_ge (tgt := 83) dX11_fixed_75 (by decide) (fun c => ?_) (fun c => ?_)
        · replace h := (if_pos c).symm.trans h
          obtain ⟨v13, hv13, h⟩ := xb h
          refine x_iinc (c := (1 : Int32)) (lv' := [(6, .int v13), (5, .int v12), (0, va_rf a0), (3, .int a3), (4, .int a4)]) (x := a6) (v := v13) dX11_fixed_83 rfl (by decide) (Option.some.inj hv13) (by decide) rfl ?_
          refine r_goto (tgt := 33) dX11_fixed_86 (by decide) ?_
          exact x_sub [2, 3, 4, 1, 0] rfl (ih st a0 a3 a4 v12 v13 h)
        · replace h := (if_neg c).symm.trans h
          refine r_iload (x := a6) dX11_fixed_78 rfl ?_
          refine r_iconst (v := (1 : Int32)) dX11_fixed_80 (by decide) ?_
          refine r_iadd dX11_fixed_81 ?_
          obtain ⟨rfl, rfl⟩ := Prod.mk.inj (Option.some.inj h)
          exact r_ireturn dX11_fixed_82 .int rfl rfl
      refine r_if_le (tgt := 65) dX11_fixed_55 (by decide) (fun c => ?_) (fun c => ?_)
      · replace hq11 := (if_pos c).symm.trans hq11
        refine r_bipush (v := (-100 : Int32)) dX11_fixed_65 (by decide) ?_
        obtain rfl := Option.some.inj hq11
        exact x_sub [0, 1, 2, 4] rfl Jq11
      · replace hq11 := (if_neg c).symm.trans hq11
        refine r_iload_n (x := a3) dX11_fixed_58 rfl ?_
        refine r_bipush (v := (100 : Int32)) dX11_fixed_59 (by decide) ?_
        refine r_isub dX11_fixed_61 ?_
        refine r_goto (tgt := 67) dX11_fixed_62 (by decide) ?_
        obtain rfl := Option.some.inj hq11
        exact x_sub [0, 1, 2, 4] rfl Jq11
theorem R_X11_fixed (n : Nat) (st : xS) (a0 : Option Nat) (a1 : Int32) (a2 : Int32) (a3 : Int32) (a4 : Int32) (rv : Int32) (st' : xS) (h : F_X11_fixed n st a0 a1 a2 a3 a4 = some (rv, st')) : Rn mX11_fixed 0 [(0, va_rf a0), (1, .int a1), (2, .int a2), (3, .int a3), (4, .int a4)] [] st (some (.int rv)) st' 3 := by
  unfold F_X11_fixed at h
  refine r_iload_n (x := a3) dX11_fixed_0 rfl ?_
  obtain ⟨v1, hv1, h⟩ := xb h
  refine z_callS (as := [.int a3]) (r1 := (some (.int v1))) (stk := []) (stk2 := [.int v1]) (st1 := st) (d' := 1) dX11_fixed_1 xl_X11_326 (by decide) (Nat.le_trans xs0 (by decide)) rfl rfl (S_X11_isPrice n st a3 v1 hv1) ?_
  refine r_if_eq (tgt := 19) dX11_fixed_4 (by decide) (fun c => ?_) (fun c => ?_)
  · replace h := (if_pos c).symm.trans h
    refine r_iconst (v := (-1 : Int32)) dX11_fixed_19 (by decide) ?_
    obtain ⟨rfl, rfl⟩ := Prod.mk.inj (Option.some.inj h)
    exact r_ireturn dX11_fixed_20 .int rfl rfl
  · replace h := (if_neg c).symm.trans h
    refine r_iload (x := a4) dX11_fixed_7 rfl ?_
    refine r_iconst (v := (0 : Int32)) dX11_fixed_9 (by decide) ?_
    refine r_sipush (v := (9999 : Int32)) dX11_fixed_10 (by decide) ?_
    obtain ⟨v2, hv2, h⟩ := xb h
    refine z_callS (as := [.int a4, .int (0 : Int32), .int (9999 : Int32)]) (r1 := (some (.int v2))) (stk := []) (stk2 := [.int v2]) (st1 := st) (d' := 0) dX11_fixed_13 xl_X11_90 (by decide) (Nat.le_trans xs0 (by decide)) rfl rfl (S_X11_isIn n st a4 (0 : Int32) (9999 : Int32) v2 hv2) ?_
    refine r_if_ne (tgt := 21) dX11_fixed_16 (by decide) (fun c => ?_) (fun c => ?_)
    · replace h := (if_neg c).symm.trans h
      refine x_aload_n (o := a0) dX11_fixed_21 rfl ?_
      refine r_iload_n (x := a1) dX11_fixed_22 rfl ?_
      refine r_iload_n (x := a2) dX11_fixed_23 rfl ?_
      obtain ⟨q4, hq4, h⟩ := xb h
      obtain ⟨s3, hs3, h⟩ := xb h
      refine z_callV (as := [.int a1, .int a2]) (o := a0) (r1 := none) (stk := []) (stk2 := []) (st1 := s3) (d' := 2) dX11_fixed_24 xl_X11_323 hq4 (by decide) (Nat.le_trans xs0 (by decide)) rfl rfl (S_X11_orders n st a0 a1 a2 s3 hs3) ?_
      refine r_iconst (v := (0 : Int32)) dX11_fixed_27 (by decide) ?_
      refine r_istore (lv' := [(5, .int (0 : Int32)), (0, va_rf a0), (1, .int a1), (2, .int a2), (3, .int a3), (4, .int a4)]) (x := (0 : Int32)) dX11_fixed_28 (by decide) rfl ?_
      refine r_iconst (v := (0 : Int32)) dX11_fixed_30 (by decide) ?_
      refine r_istore (lv' := [(6, .int (0 : Int32)), (5, .int (0 : Int32)), (0, va_rf a0), (1, .int a1), (2, .int a2), (3, .int a3), (4, .int a4)]) (x := (0 : Int32)) dX11_fixed_31 (by decide) rfl ?_
      exact x_sub [2, 5, 6, 1, 0] rfl (R_X11_fixed_L33 n rv st' n s3 a0 a3 a4 (0 : Int32) (0 : Int32) h)
    · replace h := (if_pos c).symm.trans h
      refine r_iconst (v := (-1 : Int32)) dX11_fixed_19 (by decide) ?_
      obtain ⟨rfl, rfl⟩ := Prod.mk.inj (Option.some.inj h)
      exact r_ireturn dX11_fixed_20 .int rfl rfl
theorem S_X11_fixed (n : Nat) (st : xS) (a0 : Option Nat) (a1 : Int32) (a2 : Int32) (a3 : Int32) (a4 : Int32) (rv : Int32) (st' : xS) (h : F_X11_fixed n st a0 a1 a2 a3 a4 = some (rv, st')) : Ct mX11_fixed [va_rf a0, .int a1, .int a2, .int a3, .int a4] st (some (.int rv)) st' 3 := by
  refine Ct.of (by decide) (by simp only [lgL_R, lgL_I, lgL_L, lgL_0]; decide) ?_
  try simp only [lvA_R]
  exact R_X11_fixed n st a0 a1 a2 a3 a4 rv st' h
theorem R_X11_milesOf (n : Nat) (st : xS) (a0 : Option Nat) (a1 : Int32) (a2 : Int32) (a3 : Int32) (rv : Int32) (h : F_X11_milesOf n st a0 a1 a2 a3 = some rv) : Rn mX11_milesOf 0 [(0, va_rf a0), (1, .int a1), (2, .int a2), (3, .int a3)] [] st (some (.int rv)) st 0 := by
  unfold F_X11_milesOf at h
  refine x_aload_n (o := a0) dX11_milesOf_0 rfl ?_
  obtain ⟨v1, hv1, h⟩ := xb h
  refine x_getR (o := a0) dX11_milesOf_1 xf_X11_7 hv1 ?_
  refine r_iload_n (x := a1) dX11_milesOf_4 rfl ?_
  refine r_bipush (v := (50 : Int32)) dX11_milesOf_5 (by decide) ?_
  refine r_iadd dX11_milesOf_7 ?_
  refine r_bipush (v := (10 : Int32)) dX11_milesOf_8 (by decide) ?_
  refine r_iload_n (x := a2) dX11_milesOf_10 rfl ?_
  refine r_imul dX11_milesOf_11 ?_
  refine r_iadd dX11_milesOf_12 ?_
  refine r_iload_n (x := a3) dX11_milesOf_13 rfl ?_
  refine r_iadd dX11_milesOf_14 ?_
  obtain ⟨v2, hv2, h⟩ := xb h
  refine x_iaload (o := v1) dX11_milesOf_15 hv2 ?_
  obtain rfl := Option.some.inj h
  exact r_ireturn dX11_milesOf_16 .int rfl rfl
theorem S_X11_milesOf (n : Nat) (st : xS) (a0 : Option Nat) (a1 : Int32) (a2 : Int32) (a3 : Int32) (rv : Int32) (h : F_X11_milesOf n st a0 a1 a2 a3 = some rv) : Ct mX11_milesOf [va_rf a0, .int a1, .int a2, .int a3] st (some (.int rv)) st 0 := by
  refine Ct.of (by decide) (by simp only [lgL_R, lgL_I, lgL_L, lgL_0]; decide) ?_
  try simp only [lvA_R]
  exact R_X11_milesOf n st a0 a1 a2 a3 rv h
theorem R_X11_plays (n : Nat) (st : xS) (a0 : Option Nat) (a1 : Int32) (a2 : Int32) (a3 : Int32) (rv : Int32) (h : F_X11_plays n st a0 a1 a2 a3 = some rv) : Rn mX11_plays 0 [(0, va_rf a0), (1, .int a1), (2, .int a2), (3, .int a3)] [] st (some (.int rv)) st 2 := by
  unfold F_X11_plays at h
  refine x_aload_n (o := a0) dX11_plays_0 rfl ?_
  refine r_iload_n (x := a1) dX11_plays_1 rfl ?_
  refine r_iload_n (x := a2) dX11_plays_2 rfl ?_
  refine r_iconst (v := (0 : Int32)) dX11_plays_3 (by decide) ?_
  obtain ⟨q2, hq2, h⟩ := xb h
  obtain ⟨v1, hv1, h⟩ := xb h
  refine z_callV (as := [.int a1, .int a2, .int (0 : Int32)]) (o := a0) (r1 := (some (.int v1))) (stk := []) (stk2 := [.int v1]) (st1 := st) (d' := 1) dX11_plays_4 xl_X11_156 hq2 (by decide) (Nat.le_trans xs0 (by decide)) rfl rfl (S_X11_gameOf n st a0 a1 a2 (0 : Int32) v1 hv1) ?_
  refine r_iload_n (x := a3) dX11_plays_7 rfl ?_
  obtain ⟨q5, hq5, h⟩ := xb h
  have Jq5 : Rn mX11_plays 27 [] [.int q5] st (some (.int rv)) st 2 := by
    obtain ⟨v6, hv6, h⟩ := xb h
    refine x_eqI (rz_inv2 hv6).1 ?_
    obtain rfl := Option.some.inj h
    exact r_ireturn dX11_plays_27 .boolean rfl (by rcases (rz_inv2 hv6).2 with e | e <;> rw [e] <;> rfl)
  refine r_icmp_eq (tgt := 22) dX11_plays_8 (by decide) (fun c => ?_) (fun c => ?_)
  · replace hq5 := (if_pos c).symm.trans hq5
    refine r_iconst (v := (1 : Int32)) dX11_plays_22 (by decide) ?_
    refine r_goto (tgt := 27) dX11_plays_23 (by decide) ?_
    obtain rfl := Option.some.inj hq5
    exact x_sub [] rfl Jq5
  · replace hq5 := (if_neg c).symm.trans hq5
    refine x_aload_n (o := a0) dX11_plays_11 rfl ?_
    refine r_iload_n (x := a1) dX11_plays_12 rfl ?_
    refine r_iload_n (x := a2) dX11_plays_13 rfl ?_
    refine r_iconst (v := (1 : Int32)) dX11_plays_14 (by decide) ?_
    obtain ⟨q4, hq4, hq5⟩ := xb hq5
    obtain ⟨v3, hv3, hq5⟩ := xb hq5
    refine z_callV (as := [.int a1, .int a2, .int (1 : Int32)]) (o := a0) (r1 := (some (.int v3))) (stk := []) (stk2 := [.int v3]) (st1 := st) (d' := 1) dX11_plays_15 xl_X11_156 hq4 (by decide) (Nat.le_trans xs0 (by decide)) rfl rfl (S_X11_gameOf n st a0 a1 a2 (1 : Int32) v3 hv3) ?_
    refine r_iload_n (x := a3) dX11_plays_18 rfl ?_
    refine r_icmp_ne (tgt := 26) dX11_plays_19 (by decide) (fun c => ?_) (fun c => ?_)
    · replace hq5 := (if_neg c).symm.trans hq5
      refine r_iconst (v := (0 : Int32)) dX11_plays_26 (by decide) ?_
      obtain rfl := Option.some.inj hq5
      exact x_sub [] rfl Jq5
    · replace hq5 := (if_pos c).symm.trans hq5
      refine r_iconst (v := (1 : Int32)) dX11_plays_22 (by decide) ?_
      refine r_goto (tgt := 27) dX11_plays_23 (by decide) ?_
      obtain rfl := Option.some.inj hq5
      exact x_sub [] rfl Jq5
theorem S_X11_plays (n : Nat) (st : xS) (a0 : Option Nat) (a1 : Int32) (a2 : Int32) (a3 : Int32) (rv : Int32) (h : F_X11_plays n st a0 a1 a2 a3 = some rv) : Ct mX11_plays [va_rf a0, .int a1, .int a2, .int a3] st (some (.int rv)) st 2 := by
  refine Ct.of (by decide) (by simp only [lgL_R, lgL_I, lgL_L, lgL_0]; decide) ?_
  try simp only [lvA_R]
  exact R_X11_plays n st a0 a1 a2 a3 rv h
theorem R_X11_travelOf_L14 (n : Nat) {r : Option Value} {st' : xS} : ∀ (k : Nat) (st : xS) (a0 : Option Nat) (a1 : Int32) (a2 : Int32) (a3 : Int32) (a4 : Int32) (a5 : Int32) (a6 : Int32) (q : (Int32 × Int32)), F_X11_travelOf_L14 n k st a0 a1 a2 a3 a4 a5 a6 = some q → Rn mX11_travelOf 72 [(0, va_rf a0), (1, .int a1), (3, .int a3), (4, .int q.1), (5, .int q.2)] [] st r st' 3 → Rn mX11_travelOf 14 [(0, va_rf a0), (1, .int a1), (2, .int a2), (3, .int a3), (4, .int a4), (5, .int a5), (6, .int a6)] [] st r st' 3 := by
  intro k
  induction k with
  | zero => intro st a0 a1 a2 a3 a4 a5 a6 q h; cases h
  | succ k ih =>
    intro st a0 a1 a2 a3 a4 a5 a6 q h J
    unfold F_X11_travelOf_L14 at h
    refine r_iload (x := a6) dX11_travelOf_14 rfl ?_
    refine x_aload_n (o := a0) dX11_travelOf_16 rfl ?_
    refine r_iload_n (x := a2) dX11_travelOf_17 rfl ?_
    obtain ⟨q4, hq4, h⟩ := xb h
    obtain ⟨v3, hv3, h⟩ := xb h
    refine z_callV (as := [.int a2]) (o := a0) (r1 := (some (.int v3))) (stk := [.int a6]) (stk2 := [.int v3, .int a6]) (st1 := st) (d' := 1) dX11_travelOf_18 xl_X11_153 hq4 (by decide) (Nat.le_trans (xsI xs0) (by decide)) rfl rfl (S_X11_gamesOf n st a0 a2 v3 hv3) ?_
    refine r_icmp_ge (tgt := 72) dX11_travelOf_21 (by decide) (fun c => ?_) (fun c => ?_)
    · replace h := (if_pos c).symm.trans h
      obtain rfl := Option.some.inj h
      exact x_sub [0, 1, 3, 4, 5] rfl J
    · replace h := (if_neg c).symm.trans h
      refine x_aload_n (o := a0) dX11_travelOf_24 rfl ?_
      refine r_iload_n (x := a2) dX11_travelOf_25 rfl ?_
      refine r_iload (x := a6) dX11_travelOf_26 rfl ?_
      refine r_iload_n (x := a3) dX11_travelOf_28 rfl ?_
      obtain ⟨q6, hq6, h⟩ := xb h
      obtain ⟨v5, hv5, h⟩ := xb h
      refine z_callV (as := [.int a2, .int a6, .int a3]) (o := a0) (r1 := (some (.int v5))) (stk := []) (stk2 := [.int v5]) (st1 := st) (d' := 2) dX11_travelOf_29 xl_X11_329 hq6 (by decide) (Nat.le_trans xs0 (by decide)) rfl rfl (S_X11_plays n st a0 a2 a6 a3 v5 hv5) ?_
      obtain ⟨q12, hq12, h⟩ := xb h
      have Jq12 : Rn mX11_travelOf 66 [(0, va_rf a0), (1, .int a1), (2, .int a2), (3, .int a3), (4, .int q12.1), (5, .int q12.2), (6, .int a6)] [] st r st' 3 := by
        obtain ⟨v13, hv13, h⟩ := xb h
        refine x_iinc (c := (1 : Int32)) (lv' := [(6, .int v13), (0, va_rf a0), (1, .int a1), (2, .int a2), (3, .int a3), (4, .int q12.1), (5, .int q12.2)]) (x := a6) (v := v13) dX11_travelOf_66 rfl (by decide) (Option.some.inj hv13) (by decide) rfl ?_
        refine r_goto (tgt := 14) dX11_travelOf_69 (by decide) ?_
        exact x_sub [1, 2, 3, 4, 5, 6, 0] rfl (ih st a0 a1 a2 a3 q12.1 q12.2 v13 q h J)
      refine r_if_ne (tgt := 38) dX11_travelOf_32 (by decide) (fun c => ?_) (fun c => ?_)
      · replace hq12 := (if_neg c).symm.trans hq12
        refine x_aload_n (o := a0) dX11_travelOf_38 rfl ?_
        refine r_iload_n (x := a1) dX11_travelOf_39 rfl ?_
        refine r_iload_n (x := a2) dX11_travelOf_40 rfl ?_
        refine r_iload (x := a6) dX11_travelOf_41 rfl ?_
        obtain ⟨q8, hq8, hq12⟩ := xb hq12
        obtain ⟨v7, hv7, hq12⟩ := xb hq12
        refine z_callV (as := [.int a1, .int a2, .int a6]) (o := a0) (r1 := (some (.int v7))) (stk := []) (stk2 := [.int v7]) (st1 := st) (d' := 2) dX11_travelOf_43 xl_X11_162 hq8 (by decide) (Nat.le_trans xs0 (by decide)) rfl rfl (S_X11_groundOf n st a0 a1 a2 a6 v7 hv7) ?_
        refine r_istore (lv' := [(7, .int v7), (0, va_rf a0), (1, .int a1), (2, .int a2), (3, .int a3), (4, .int a4), (5, .int a5), (6, .int a6)]) (x := v7) dX11_travelOf_46 (by decide) rfl ?_
        refine r_iload (x := a5) dX11_travelOf_48 rfl ?_
        refine x_aload_n (o := a0) dX11_travelOf_50 rfl ?_
        refine r_iload_n (x := a1) dX11_travelOf_51 rfl ?_
        refine r_iload (x := a4) dX11_travelOf_52 rfl ?_
        refine r_iload (x := v7) dX11_travelOf_54 rfl ?_
        obtain ⟨q10, hq10, hq12⟩ := xb hq12
        obtain ⟨v9, hv9, hq12⟩ := xb hq12
        refine z_callV (as := [.int a1, .int a4, .int v7]) (o := a0) (r1 := (some (.int v9))) (stk := [.int a5]) (stk2 := [.int v9, .int a5]) (st1 := st) (d' := 0) dX11_travelOf_56 xl_X11_332 hq10 (by decide) (Nat.le_trans (xsI xs0) (by decide)) rfl rfl (S_X11_milesOf n st a0 a1 a4 v7 v9 hv9) ?_
        refine r_iadd dX11_travelOf_59 ?_
        obtain ⟨v11, hv11, hq12⟩ := xb hq12
        refine x_eqI (Option.some.inj hv11) ?_
        refine r_istore (lv' := [(5, .int v11), (7, .int v7), (0, va_rf a0), (1, .int a1), (2, .int a2), (3, .int a3), (4, .int a4), (6, .int a6)]) (x := v11) dX11_travelOf_60 (by decide) rfl ?_
        refine r_iload (x := v7) dX11_travelOf_62 rfl ?_
        refine r_istore (lv' := [(4, .int v7), (5, .int v11), (7, .int v7), (0, va_rf a0), (1, .int a1), (2, .int a2), (3, .int a3), (6, .int a6)]) (x := v7) dX11_travelOf_64 (by decide) rfl ?_
        obtain rfl := Option.some.inj hq12
        exact x_sub [3, 4, 5, 6, 0, 1, 7] rfl Jq12
      · replace hq12 := (if_pos c).symm.trans hq12
        refine r_goto (tgt := 66) dX11_travelOf_35 (by decide) ?_
        obtain rfl := Option.some.inj hq12
        exact x_sub [0, 1, 2, 3, 4, 5, 6] rfl Jq12
theorem R_X11_travelOf (n : Nat) (st : xS) (a0 : Option Nat) (a1 : Int32) (a2 : Int32) (a3 : Int32) (rv : Int32) (h : F_X11_travelOf n st a0 a1 a2 a3 = some rv) : Rn mX11_travelOf 0 [(0, va_rf a0), (1, .int a1), (2, .int a2), (3, .int a3)] [] st (some (.int rv)) st 3 := by
  unfold F_X11_travelOf at h
  refine x_aload_n (o := a0) dX11_travelOf_0 rfl ?_
  refine r_iload_n (x := a1) dX11_travelOf_1 rfl ?_
  refine r_iload_n (x := a3) dX11_travelOf_2 rfl ?_
  obtain ⟨q2, hq2, h⟩ := xb h
  obtain ⟨v1, hv1, h⟩ := xb h
  refine z_callV (as := [.int a1, .int a3]) (o := a0) (r1 := (some (.int v1))) (stk := []) (stk2 := [.int v1]) (st1 := st) (d' := 0) dX11_travelOf_3 xl_X11_159 hq2 (by decide) (Nat.le_trans xs0 (by decide)) rfl rfl (S_X11_ownOf n st a0 a1 a3 v1 hv1) ?_
  refine r_istore (lv' := [(4, .int v1), (0, va_rf a0), (1, .int a1), (2, .int a2), (3, .int a3)]) (x := v1) dX11_travelOf_6 (by decide) rfl ?_
  refine r_iconst (v := (0 : Int32)) dX11_travelOf_8 (by decide) ?_
  refine r_istore (lv' := [(5, .int (0 : Int32)), (4, .int v1), (0, va_rf a0), (1, .int a1), (2, .int a2), (3, .int a3)]) (x := (0 : Int32)) dX11_travelOf_9 (by decide) rfl ?_
  refine r_iconst (v := (0 : Int32)) dX11_travelOf_11 (by decide) ?_
  refine r_istore (lv' := [(6, .int (0 : Int32)), (5, .int (0 : Int32)), (4, .int v1), (0, va_rf a0), (1, .int a1), (2, .int a2), (3, .int a3)]) (x := (0 : Int32)) dX11_travelOf_12 (by decide) rfl ?_
  obtain ⟨q14, hq14, h⟩ := xb h
  have Jq14 : Rn mX11_travelOf 72 [(0, va_rf a0), (1, .int a1), (3, .int a3), (4, .int q14.1), (5, .int q14.2)] [] st (some (.int rv)) st 3 := by
    refine r_iload (x := q14.2) dX11_travelOf_72 rfl ?_
    refine x_aload_n (o := a0) dX11_travelOf_74 rfl ?_
    refine r_iload_n (x := a1) dX11_travelOf_75 rfl ?_
    refine r_iload (x := q14.1) dX11_travelOf_76 rfl ?_
    refine x_aload_n (o := a0) dX11_travelOf_78 rfl ?_
    refine r_iload_n (x := a1) dX11_travelOf_79 rfl ?_
    refine r_iload_n (x := a3) dX11_travelOf_80 rfl ?_
    obtain ⟨q16, hq16, h⟩ := xb h
    obtain ⟨v15, hv15, h⟩ := xb h
    refine z_callV (as := [.int a1, .int a3]) (o := a0) (r1 := (some (.int v15))) (stk := [.int q14.1, .int a1, va_rf a0, .int q14.2]) (stk2 := [.int v15, .int q14.1, .int a1, va_rf a0, .int q14.2]) (st1 := st) (d' := 0) dX11_travelOf_81 xl_X11_159 hq16 (by decide) (Nat.le_trans (xsI (xsI (xsA (xsI xs0)))) (by decide)) rfl rfl (S_X11_ownOf n st a0 a1 a3 v15 hv15) ?_
    obtain ⟨q18, hq18, h⟩ := xb h
    obtain ⟨v17, hv17, h⟩ := xb h
    refine z_callV (as := [.int a1, .int q14.1, .int v15]) (o := a0) (r1 := (some (.int v17))) (stk := [.int q14.2]) (stk2 := [.int v17, .int q14.2]) (st1 := st) (d' := 0) dX11_travelOf_84 xl_X11_332 hq18 (by decide) (Nat.le_trans (xsI xs0) (by decide)) rfl rfl (S_X11_milesOf n st a0 a1 q14.1 v15 v17 hv17) ?_
    refine r_iadd dX11_travelOf_87 ?_
    obtain rfl := Option.some.inj h
    exact r_ireturn dX11_travelOf_88 .int rfl rfl
  exact x_sub [3, 4, 5, 6, 2, 1, 0] rfl (R_X11_travelOf_L14 n n st a0 a1 a2 a3 v1 (0 : Int32) (0 : Int32) q14 hq14 Jq14)
theorem S_X11_travelOf (n : Nat) (st : xS) (a0 : Option Nat) (a1 : Int32) (a2 : Int32) (a3 : Int32) (rv : Int32) (h : F_X11_travelOf n st a0 a1 a2 a3 = some rv) : Ct mX11_travelOf [va_rf a0, .int a1, .int a2, .int a3] st (some (.int rv)) st 3 := by
  refine Ct.of (by decide) (by simp only [lgL_R, lgL_I, lgL_L, lgL_0]; decide) ?_
  try simp only [lvA_R]
  exact R_X11_travelOf n st a0 a1 a2 a3 rv h
theorem R_X11_travelAll_L5 (n : Nat) {r : Option Value} {st' : xS} : ∀ (k : Nat) (st : xS) (a0 : Option Nat) (a1 : Int32) (a2 : Int32) (a3 : Int32) (a4 : Int32) (q : (Int32)), F_X11_travelAll_L5 n k st a0 a1 a2 a3 a4 = some q → Rn mX11_travelAll 35 [(3, .int q)] [] st r st' 4 → Rn mX11_travelAll 5 [(0, va_rf a0), (1, .int a1), (2, .int a2), (3, .int a3), (4, .int a4)] [] st r st' 4 := by
  intro k
  induction k with
  | zero => intro st a0 a1 a2 a3 a4 q h; cases h
  | succ k ih =>
    intro st a0 a1 a2 a3 a4 q h J
    unfold F_X11_travelAll_L5 at h
    refine r_iload (x := a4) dX11_travelAll_5 rfl ?_
    refine x_aload_n (o := a0) dX11_travelAll_7 rfl ?_
    obtain ⟨v1, hv1, h⟩ := xb h
    refine x_getR (o := a0) dX11_travelAll_8 xf_X11_7 hv1 ?_
    refine r_iload_n (x := a1) dX11_travelAll_11 rfl ?_
    refine r_iconst (v := (1 : Int32)) dX11_travelAll_12 (by decide) ?_
    refine r_iadd dX11_travelAll_13 ?_
    obtain ⟨v2, hv2, h⟩ := xb h
    refine x_iaload (o := v1) dX11_travelAll_14 hv2 ?_
    refine r_icmp_ge (tgt := 35) dX11_travelAll_15 (by decide) (fun c => ?_) (fun c => ?_)
    · replace h := (if_pos c).symm.trans h
      obtain rfl := Option.some.inj h
      exact x_sub [3] rfl J
    · replace h := (if_neg c).symm.trans h
      refine r_iload_n (x := a3) dX11_travelAll_18 rfl ?_
      refine x_aload_n (o := a0) dX11_travelAll_19 rfl ?_
      refine r_iload_n (x := a1) dX11_travelAll_20 rfl ?_
      refine r_iload_n (x := a2) dX11_travelAll_21 rfl ?_
      refine r_iload (x := a4) dX11_travelAll_22 rfl ?_
      obtain ⟨q4, hq4, h⟩ := xb h
      obtain ⟨v3, hv3, h⟩ := xb h
      refine z_callV (as := [.int a1, .int a2, .int a4]) (o := a0) (r1 := (some (.int v3))) (stk := [.int a3]) (stk2 := [.int v3, .int a3]) (st1 := st) (d' := 3) dX11_travelAll_24 xl_X11_335 hq4 (by decide) (Nat.le_trans (xsI xs0) (by decide)) rfl rfl (S_X11_travelOf n st a0 a1 a2 a4 v3 hv3) ?_
      refine r_iadd dX11_travelAll_27 ?_
      obtain ⟨v5, hv5, h⟩ := xb h
      refine x_eqI (Option.some.inj hv5) ?_
      refine r_istore_n (lv' := [(3, .int v5), (0, va_rf a0), (1, .int a1), (2, .int a2), (4, .int a4)]) (x := v5) dX11_travelAll_28 (by decide) rfl ?_
      obtain ⟨v6, hv6, h⟩ := xb h
      refine x_iinc (c := (1 : Int32)) (lv' := [(4, .int v6), (3, .int v5), (0, va_rf a0), (1, .int a1), (2, .int a2)]) (x := a4) (v := v6) dX11_travelAll_29 rfl (by decide) (Option.some.inj hv6) (by decide) rfl ?_
      refine r_goto (tgt := 5) dX11_travelAll_32 (by decide) ?_
      exact x_sub [2, 3, 4, 1, 0] rfl (ih st a0 a1 a2 v5 v6 q h J)
theorem R_X11_travelAll (n : Nat) (st : xS) (a0 : Option Nat) (a1 : Int32) (a2 : Int32) (rv : Int32) (h : F_X11_travelAll n st a0 a1 a2 = some rv) : Rn mX11_travelAll 0 [(0, va_rf a0), (1, .int a1), (2, .int a2)] [] st (some (.int rv)) st 4 := by
  unfold F_X11_travelAll at h
  refine r_iconst (v := (0 : Int32)) dX11_travelAll_0 (by decide) ?_
  refine r_istore_n (lv' := [(3, .int (0 : Int32)), (0, va_rf a0), (1, .int a1), (2, .int a2)]) (x := (0 : Int32)) dX11_travelAll_1 (by decide) rfl ?_
  refine r_iconst (v := (0 : Int32)) dX11_travelAll_2 (by decide) ?_
  refine r_istore (lv' := [(4, .int (0 : Int32)), (3, .int (0 : Int32)), (0, va_rf a0), (1, .int a1), (2, .int a2)]) (x := (0 : Int32)) dX11_travelAll_3 (by decide) rfl ?_
  obtain ⟨q7, hq7, h⟩ := xb h
  have Jq7 : Rn mX11_travelAll 35 [(3, .int q7)] [] st (some (.int rv)) st 4 := by
    refine r_iload_n (x := q7) dX11_travelAll_35 rfl ?_
    obtain rfl := Option.some.inj h
    exact r_ireturn dX11_travelAll_36 .int rfl rfl
  exact x_sub [2, 3, 4, 1, 0] rfl (R_X11_travelAll_L5 n n st a0 a1 a2 (0 : Int32) (0 : Int32) q7 hq7 Jq7)
theorem S_X11_travelAll (n : Nat) (st : xS) (a0 : Option Nat) (a1 : Int32) (a2 : Int32) (rv : Int32) (h : F_X11_travelAll n st a0 a1 a2 = some rv) : Ct mX11_travelAll [va_rf a0, .int a1, .int a2] st (some (.int rv)) st 4 := by
  refine Ct.of (by decide) (by simp only [lgL_R, lgL_I, lgL_L, lgL_0]; decide) ?_
  try simp only [lvA_R]
  exact R_X11_travelAll n st a0 a1 a2 rv h
theorem R_X11_travel (n : Nat) (st : xS) (a0 : Option Nat) (a1 : Int32) (a2 : Int32) (a3 : Int32) (rv : Int32) (h : F_X11_travel n st a0 a1 a2 a3 = some rv) : Rn mX11_travel 0 [(0, va_rf a0), (1, .int a1), (2, .int a2), (3, .int a3)] [] st (some (.int rv)) st 4 := by
  unfold F_X11_travel at h
  refine x_aload_n (o := a0) dX11_travel_0 rfl ?_
  refine r_iload_n (x := a1) dX11_travel_1 rfl ?_
  refine r_iload_n (x := a2) dX11_travel_2 rfl ?_
  obtain ⟨q2, hq2, h⟩ := xb h
  obtain ⟨v1, hv1, h⟩ := xb h
  refine z_callV (as := [.int a1, .int a2]) (o := a0) (r1 := (some (.int v1))) (stk := []) (stk2 := [.int v1]) (st1 := st) (d' := 2) dX11_travel_3 xl_X11_199 hq2 (by decide) (Nat.le_trans xs0 (by decide)) rfl rfl (S_X11_goes n st a0 a1 a2 v1 hv1) ?_
  refine r_if_eq (tgt := 31) dX11_travel_6 (by decide) (fun c => ?_) (fun c => ?_)
  · replace h := (if_pos c).symm.trans h
    refine r_iconst (v := (-1 : Int32)) dX11_travel_31 (by decide) ?_
    obtain rfl := Option.some.inj h
    exact r_ireturn dX11_travel_32 .int rfl rfl
  · replace h := (if_neg c).symm.trans h
    refine r_iload_n (x := a3) dX11_travel_9 rfl ?_
    refine r_iconst (v := (0 : Int32)) dX11_travel_10 (by decide) ?_
    refine x_aload_n (o := a0) dX11_travel_11 rfl ?_
    obtain ⟨v3, hv3, h⟩ := xb h
    refine x_getR (o := a0) dX11_travel_12 xf_X11_7 hv3 ?_
    refine r_iconst (v := (0 : Int32)) dX11_travel_15 (by decide) ?_
    refine r_iload_n (x := a1) dX11_travel_16 rfl ?_
    obtain ⟨v4, hv4, h⟩ := xb h
    refine z_callS (as := [.int (0 : Int32), .int a1]) (r1 := (some (.int v4))) (stk := [va_rf v3, .int (0 : Int32), .int a3]) (stk2 := [.int v4, va_rf v3, .int (0 : Int32), .int a3]) (st1 := st) (d' := 0) dX11_travel_17 xl_X11_150 (by decide) (Nat.le_trans (xsA (xsI (xsI xs0))) (by decide)) rfl rfl (S_X11_placeOf n st (0 : Int32) a1 v4 hv4) ?_
    refine r_iconst (v := (1 : Int32)) dX11_travel_20 (by decide) ?_
    refine r_iadd dX11_travel_21 ?_
    obtain ⟨v5, hv5, h⟩ := xb h
    refine x_iaload (o := v3) dX11_travel_22 hv5 ?_
    refine r_iconst (v := (1 : Int32)) dX11_travel_23 (by decide) ?_
    refine r_isub dX11_travel_24 ?_
    obtain ⟨v6, hv6, h⟩ := xb h
    refine z_callS (as := [.int a3, .int (0 : Int32), .int (v5 - (1 : Int32))]) (r1 := (some (.int v6))) (stk := []) (stk2 := [.int v6]) (st1 := st) (d' := 0) dX11_travel_25 xl_X11_90 (by decide) (Nat.le_trans xs0 (by decide)) rfl rfl (S_X11_isIn n st a3 (0 : Int32) (v5 - (1 : Int32)) v6 hv6) ?_
    refine r_if_ne (tgt := 33) dX11_travel_28 (by decide) (fun c => ?_) (fun c => ?_)
    · replace h := (if_neg c).symm.trans h
      refine x_aload_n (o := a0) dX11_travel_33 rfl ?_
      refine r_iconst (v := (0 : Int32)) dX11_travel_34 (by decide) ?_
      refine r_iload_n (x := a1) dX11_travel_35 rfl ?_
      obtain ⟨v7, hv7, h⟩ := xb h
      refine z_callS (as := [.int (0 : Int32), .int a1]) (r1 := (some (.int v7))) (stk := [va_rf a0]) (stk2 := [.int v7, va_rf a0]) (st1 := st) (d' := 0) dX11_travel_36 xl_X11_150 (by decide) (Nat.le_trans (xsA xs0) (by decide)) rfl rfl (S_X11_placeOf n st (0 : Int32) a1 v7 hv7) ?_
      refine r_iload_n (x := a2) dX11_travel_39 rfl ?_
      refine r_iload_n (x := a3) dX11_travel_40 rfl ?_
      obtain ⟨q9, hq9, h⟩ := xb h
      obtain ⟨v8, hv8, h⟩ := xb h
      refine z_callV (as := [.int v7, .int a2, .int a3]) (o := a0) (r1 := (some (.int v8))) (stk := []) (stk2 := [.int v8]) (st1 := st) (d' := 3) dX11_travel_41 xl_X11_335 hq9 (by decide) (Nat.le_trans xs0 (by decide)) rfl rfl (S_X11_travelOf n st a0 v7 a2 a3 v8 hv8) ?_
      obtain rfl := Option.some.inj h
      exact r_ireturn dX11_travel_44 .int rfl rfl
    · replace h := (if_pos c).symm.trans h
      refine r_iconst (v := (-1 : Int32)) dX11_travel_31 (by decide) ?_
      obtain rfl := Option.some.inj h
      exact r_ireturn dX11_travel_32 .int rfl rfl
theorem S_X11_travel (n : Nat) (st : xS) (a0 : Option Nat) (a1 : Int32) (a2 : Int32) (a3 : Int32) (rv : Int32) (h : F_X11_travel n st a0 a1 a2 a3 = some rv) : Ct mX11_travel [va_rf a0, .int a1, .int a2, .int a3] st (some (.int rv)) st 4 := by
  refine Ct.of (by decide) (by simp only [lgL_R, lgL_I, lgL_L, lgL_0]; decide) ?_
  try simp only [lvA_R]
  exact R_X11_travel n st a0 a1 a2 a3 rv h
theorem R_X11_runs_L30 (n : Nat) {r : Option Value} {st' : xS} : ∀ (k : Nat) (st : xS) (a0 : Option Nat) (a1 : Int32) (a2 : Int32) (a3 : Int32) (a4 : Int32) (a5 : Int32) (a6 : Int32) (q : (Int32)), F_X11_runs_L30 n k st a0 a1 a2 a3 a4 a5 a6 = some q → Rn mX11_runs 107 [(5, .int q)] [] st r st' 3 → Rn mX11_runs 30 [(0, va_rf a0), (1, .int a1), (2, .int a2), (3, .int a3), (4, .int a4), (5, .int a5), (6, .int a6)] [] st r st' 3 := by
  intro k
  induction k with
  | zero => intro st a0 a1 a2 a3 a4 a5 a6 q h; cases h
  | succ k ih =>
    intro st a0 a1 a2 a3 a4 a5 a6 q h J
    unfold F_X11_runs_L30 at h
    refine r_iload (x := a6) dX11_runs_30 rfl ?_
    refine x_aload_n (o := a0) dX11_runs_32 rfl ?_
    refine r_iload_n (x := a1) dX11_runs_33 rfl ?_
    obtain ⟨q5, hq5, h⟩ := xb h
    obtain ⟨v4, hv4, h⟩ := xb h
    refine z_callV (as := [.int a1]) (o := a0) (r1 := (some (.int v4))) (stk := [.int a6]) (stk2 := [.int v4, .int a6]) (st1 := st) (d' := 1) dX11_runs_34 xl_X11_153 hq5 (by decide) (Nat.le_trans (xsI xs0) (by decide)) rfl rfl (S_X11_gamesOf n st a0 a1 v4 hv4) ?_
    refine r_icmp_ge (tgt := 107) dX11_runs_37 (by decide) (fun c => ?_) (fun c => ?_)
    · replace h := (if_pos c).symm.trans h
      obtain rfl := Option.some.inj h
      exact x_sub [5] rfl J
    · replace h := (if_neg c).symm.trans h
      refine x_aload_n (o := a0) dX11_runs_40 rfl ?_
      refine r_iload_n (x := a1) dX11_runs_41 rfl ?_
      refine r_iload (x := a6) dX11_runs_42 rfl ?_
      refine r_iload_n (x := a2) dX11_runs_44 rfl ?_
      obtain ⟨q7, hq7, h⟩ := xb h
      obtain ⟨v6, hv6, h⟩ := xb h
      refine z_callV (as := [.int a1, .int a6, .int a2]) (o := a0) (r1 := (some (.int v6))) (stk := []) (stk2 := [.int v6]) (st1 := st) (d' := 2) dX11_runs_45 xl_X11_329 hq7 (by decide) (Nat.le_trans xs0 (by decide)) rfl rfl (S_X11_plays n st a0 a1 a6 a2 v6 hv6) ?_
      obtain ⟨q13, hq13, h⟩ := xb h
      have Jq13 : Rn mX11_runs 101 [(0, va_rf a0), (1, .int a1), (2, .int a2), (3, .int a3), (4, .int q13.1), (5, .int q13.2), (6, .int a6)] [] st r st' 3 := by
        obtain ⟨v14, hv14, h⟩ := xb h
        refine x_iinc (c := (1 : Int32)) (lv' := [(6, .int v14), (0, va_rf a0), (1, .int a1), (2, .int a2), (3, .int a3), (4, .int q13.1), (5, .int q13.2)]) (x := a6) (v := v14) dX11_runs_101 rfl (by decide) (Option.some.inj hv14) (by decide) rfl ?_
        refine r_goto (tgt := 30) dX11_runs_104 (by decide) ?_
        exact x_sub [1, 2, 3, 4, 5, 6, 0] rfl (ih st a0 a1 a2 a3 q13.1 q13.2 v14 q h J)
      refine r_if_ne (tgt := 54) dX11_runs_48 (by decide) (fun c => ?_) (fun c => ?_)
      · replace hq13 := (if_neg c).symm.trans hq13
        refine x_aload_n (o := a0) dX11_runs_54 rfl ?_
        refine r_iload_n (x := a1) dX11_runs_55 rfl ?_
        refine r_iload (x := a6) dX11_runs_56 rfl ?_
        refine r_iconst (v := (0 : Int32)) dX11_runs_58 (by decide) ?_
        obtain ⟨q9, hq9, hq13⟩ := xb hq13
        obtain ⟨v8, hv8, hq13⟩ := xb hq13
        refine z_callV (as := [.int a1, .int a6, .int (0 : Int32)]) (o := a0) (r1 := (some (.int v8))) (stk := []) (stk2 := [.int v8]) (st1 := st) (d' := 1) dX11_runs_59 xl_X11_156 hq9 (by decide) (Nat.le_trans xs0 (by decide)) rfl rfl (S_X11_gameOf n st a0 a1 a6 (0 : Int32) v8 hv8) ?_
        refine r_iload_n (x := a2) dX11_runs_62 rfl ?_
        obtain ⟨q10, hq10, hq13⟩ := xb hq13
        have Jq10 : Rn mX11_runs 71 [(0, va_rf a0), (1, .int a1), (2, .int a2), (3, .int a3), (4, .int a4), (5, .int a5), (6, .int a6)] [.int q10] st r st' 3 := by
          refine r_iload_n (x := a3) dX11_runs_71 rfl ?_
          obtain ⟨q11, hq11, hq13⟩ := xb hq13
          have Jq11 : Rn mX11_runs 83 [(0, va_rf a0), (1, .int a1), (2, .int a2), (3, .int a3), (5, .int a5), (6, .int a6)] [.int q11] st r st' 3 := by
            refine r_istore (lv' := [(4, .int q11), (0, va_rf a0), (1, .int a1), (2, .int a2), (3, .int a3), (5, .int a5), (6, .int a6)]) (x := q11) dX11_runs_83 (by decide) rfl ?_
            refine r_iload (x := q11) dX11_runs_85 rfl ?_
            refine r_iload (x := a5) dX11_runs_87 rfl ?_
            obtain ⟨q12, hq12, hq13⟩ := xb hq13
            have Jq12 : Rn mX11_runs 99 [(0, va_rf a0), (1, .int a1), (2, .int a2), (3, .int a3), (4, .int q11), (6, .int a6)] [.int q12] st r st' 3 := by
              refine r_istore (lv' := [(5, .int q12), (0, va_rf a0), (1, .int a1), (2, .int a2), (3, .int a3), (4, .int q11), (6, .int a6)]) (x := q12) dX11_runs_99 (by decide) rfl ?_
              obtain rfl := Option.some.inj hq13
              exact x_sub [1, 2, 3, 4, 5, 0, 6] rfl Jq13
            refine r_icmp_le (tgt := 97) dX11_runs_89 (by decide) (fun c => ?_) (fun c => ?_)
            · replace hq12 := (if_pos c).symm.trans hq12
              refine r_iload (x := a5) dX11_runs_97 rfl ?_
              obtain rfl := Option.some.inj hq12
              exact x_sub [1, 2, 3, 4, 0, 6] rfl Jq12
            · replace hq12 := (if_neg c).symm.trans hq12
              refine r_iload (x := q11) dX11_runs_92 rfl ?_
              refine r_goto (tgt := 99) dX11_runs_94 (by decide) ?_
              obtain rfl := Option.some.inj hq12
              exact x_sub [1, 2, 3, 4, 0, 6] rfl Jq12
          refine r_icmp_ne (tgt := 82) dX11_runs_72 (by decide) (fun c => ?_) (fun c => ?_)
          · replace hq11 := (if_neg c).symm.trans hq11
            refine r_iconst (v := (0 : Int32)) dX11_runs_82 (by decide) ?_
            obtain rfl := Option.some.inj hq11
            exact x_sub [0, 1, 2, 3, 5, 6] rfl Jq11
          · replace hq11 := (if_pos c).symm.trans hq11
            refine r_iload (x := a4) dX11_runs_75 rfl ?_
            refine r_iconst (v := (1 : Int32)) dX11_runs_77 (by decide) ?_
            refine r_iadd dX11_runs_78 ?_
            refine r_goto (tgt := 83) dX11_runs_79 (by decide) ?_
            obtain rfl := Option.some.inj hq11
            exact x_sub [0, 1, 2, 3, 5, 6] rfl Jq11
        refine r_icmp_ne (tgt := 70) dX11_runs_63 (by decide) (fun c => ?_) (fun c => ?_)
        · replace hq10 := (if_neg c).symm.trans hq10
          refine r_iconst (v := (0 : Int32)) dX11_runs_70 (by decide) ?_
          obtain rfl := Option.some.inj hq10
          exact x_sub [0, 1, 2, 3, 4, 5, 6] rfl Jq10
        · replace hq10 := (if_pos c).symm.trans hq10
          refine r_iconst (v := (1 : Int32)) dX11_runs_66 (by decide) ?_
          refine r_goto (tgt := 71) dX11_runs_67 (by decide) ?_
          obtain rfl := Option.some.inj hq10
          exact x_sub [0, 1, 2, 3, 4, 5, 6] rfl Jq10
      · replace hq13 := (if_pos c).symm.trans hq13
        refine r_goto (tgt := 101) dX11_runs_51 (by decide) ?_
        obtain rfl := Option.some.inj hq13
        exact x_sub [0, 1, 2, 3, 4, 5, 6] rfl Jq13
theorem R_X11_runs (n : Nat) (st : xS) (a0 : Option Nat) (a1 : Int32) (a2 : Int32) (a3 : Int32) (rv : Int32) (h : F_X11_runs n st a0 a1 a2 a3 = some rv) : Rn mX11_runs 0 [(0, va_rf a0), (1, .int a1), (2, .int a2), (3, .int a3)] [] st (some (.int rv)) st 3 := by
  unfold F_X11_runs at h
  refine x_aload_n (o := a0) dX11_runs_0 rfl ?_
  refine r_iconst (v := (2 : Int32)) dX11_runs_1 (by decide) ?_
  refine r_iload_n (x := a1) dX11_runs_2 rfl ?_
  obtain ⟨q2, hq2, h⟩ := xb h
  obtain ⟨v1, hv1, h⟩ := xb h
  refine z_callV (as := [.int (2 : Int32), .int a1]) (o := a0) (r1 := (some (.int v1))) (stk := []) (stk2 := [.int v1]) (st1 := st) (d' := 1) dX11_runs_3 xl_X11_130 hq2 (by decide) (Nat.le_trans xs0 (by decide)) rfl rfl (S_X11_isOf n st a0 (2 : Int32) a1 v1 hv1) ?_
  refine r_if_eq (tgt := 19) dX11_runs_6 (by decide) (fun c => ?_) (fun c => ?_)
  · replace h := (if_pos c).symm.trans h
    refine r_iconst (v := (-1 : Int32)) dX11_runs_19 (by decide) ?_
    obtain rfl := Option.some.inj h
    exact r_ireturn dX11_runs_20 .int rfl rfl
  · replace h := (if_neg c).symm.trans h
    refine r_iload_n (x := a2) dX11_runs_9 rfl ?_
    refine r_iconst (v := (0 : Int32)) dX11_runs_10 (by decide) ?_
    refine r_bipush (v := (7 : Int32)) dX11_runs_11 (by decide) ?_
    obtain ⟨v3, hv3, h⟩ := xb h
    refine z_callS (as := [.int a2, .int (0 : Int32), .int (7 : Int32)]) (r1 := (some (.int v3))) (stk := []) (stk2 := [.int v3]) (st1 := st) (d' := 0) dX11_runs_13 xl_X11_90 (by decide) (Nat.le_trans xs0 (by decide)) rfl rfl (S_X11_isIn n st a2 (0 : Int32) (7 : Int32) v3 hv3) ?_
    refine r_if_ne (tgt := 21) dX11_runs_16 (by decide) (fun c => ?_) (fun c => ?_)
    · replace h := (if_neg c).symm.trans h
      refine r_iconst (v := (0 : Int32)) dX11_runs_21 (by decide) ?_
      refine r_istore (lv' := [(4, .int (0 : Int32)), (0, va_rf a0), (1, .int a1), (2, .int a2), (3, .int a3)]) (x := (0 : Int32)) dX11_runs_22 (by decide) rfl ?_
      refine r_iconst (v := (0 : Int32)) dX11_runs_24 (by decide) ?_
      refine r_istore (lv' := [(5, .int (0 : Int32)), (4, .int (0 : Int32)), (0, va_rf a0), (1, .int a1), (2, .int a2), (3, .int a3)]) (x := (0 : Int32)) dX11_runs_25 (by decide) rfl ?_
      refine r_iconst (v := (0 : Int32)) dX11_runs_27 (by decide) ?_
      refine r_istore (lv' := [(6, .int (0 : Int32)), (5, .int (0 : Int32)), (4, .int (0 : Int32)), (0, va_rf a0), (1, .int a1), (2, .int a2), (3, .int a3)]) (x := (0 : Int32)) dX11_runs_28 (by decide) rfl ?_
      obtain ⟨q15, hq15, h⟩ := xb h
      have Jq15 : Rn mX11_runs 107 [(5, .int q15)] [] st (some (.int rv)) st 3 := by
        refine r_iload (x := q15) dX11_runs_107 rfl ?_
        obtain rfl := Option.some.inj h
        exact r_ireturn dX11_runs_109 .int rfl rfl
      exact x_sub [3, 4, 5, 6, 2, 1, 0] rfl (R_X11_runs_L30 n n st a0 a1 a2 a3 (0 : Int32) (0 : Int32) (0 : Int32) q15 hq15 Jq15)
    · replace h := (if_pos c).symm.trans h
      refine r_iconst (v := (-1 : Int32)) dX11_runs_19 (by decide) ?_
      obtain rfl := Option.some.inj h
      exact r_ireturn dX11_runs_20 .int rfl rfl
theorem S_X11_runs (n : Nat) (st : xS) (a0 : Option Nat) (a1 : Int32) (a2 : Int32) (a3 : Int32) (rv : Int32) (h : F_X11_runs n st a0 a1 a2 a3 = some rv) : Ct mX11_runs [va_rf a0, .int a1, .int a2, .int a3] st (some (.int rv)) st 3 := by
  refine Ct.of (by decide) (by simp only [lgL_R, lgL_I, lgL_L, lgL_0]; decide) ?_
  try simp only [lvA_R]
  exact R_X11_runs n st a0 a1 a2 a3 rv h
theorem R_X11_early_L39 (n : Nat) {r : Option Value} {st' : xS} : ∀ (k : Nat) (st : xS) (a0 : Option Nat) (a2 : Int32) (a3 : Int32) (a4 : Int32) (a5 : Int32) (a6 : Int32) (q : (Int32)), F_X11_early_L39 n k st a0 a2 a3 a4 a5 a6 = some q → Rn mX11_early 95 [(5, .int q)] [] st r st' 3 → Rn mX11_early 39 [(0, va_rf a0), (2, .int a2), (3, .int a3), (4, .int a4), (5, .int a5), (6, .int a6)] [] st r st' 3 := by
  intro k
  induction k with
  | zero => intro st a0 a2 a3 a4 a5 a6 q h; cases h
  | succ k ih =>
    intro st a0 a2 a3 a4 a5 a6 q h J
    unfold F_X11_early_L39 at h
    refine r_iload (x := a6) dX11_early_39 rfl ?_
    refine r_iload_n (x := a3) dX11_early_41 rfl ?_
    refine r_icmp_ge (tgt := 95) dX11_early_42 (by decide) (fun c => ?_) (fun c => ?_)
    · replace h := (if_pos c).symm.trans h
      obtain rfl := Option.some.inj h
      exact x_sub [4] rfl J
    · replace h := (if_neg c).symm.trans h
      refine r_iload (x := a5) dX11_early_45 rfl ?_
      refine x_aload_n (o := a0) dX11_early_47 rfl ?_
      obtain ⟨v7, hv7, h⟩ := xb h
      refine x_getR (o := a0) dX11_early_48 xf_X11_7 hv7 ?_
      refine r_iload (x := a4) dX11_early_51 rfl ?_
      refine r_bipush (v := (40 : Int32)) dX11_early_53 (by decide) ?_
      refine r_iadd dX11_early_55 ?_
      refine x_aload_n (o := a0) dX11_early_56 rfl ?_
      refine r_iload_n (x := a2) dX11_early_57 rfl ?_
      refine r_iload (x := a6) dX11_early_58 rfl ?_
      refine r_iconst (v := (0 : Int32)) dX11_early_60 (by decide) ?_
      obtain ⟨q9, hq9, h⟩ := xb h
      obtain ⟨v8, hv8, h⟩ := xb h
      refine z_callV (as := [.int a2, .int a6, .int (0 : Int32)]) (o := a0) (r1 := (some (.int v8))) (stk := [.int (a4 + (40 : Int32)), va_rf v7, .int a5]) (stk2 := [.int v8, .int (a4 + (40 : Int32)), va_rf v7, .int a5]) (st1 := st) (d' := 1) dX11_early_61 xl_X11_156 hq9 (by decide) (Nat.le_trans (xsI (xsA (xsI xs0))) (by decide)) rfl rfl (S_X11_gameOf n st a0 a2 a6 (0 : Int32) v8 hv8) ?_
      refine r_iadd dX11_early_64 ?_
      obtain ⟨v10, hv10, h⟩ := xb h
      refine x_iaload (o := v7) dX11_early_65 hv10 ?_
      refine x_aload_n (o := a0) dX11_early_66 rfl ?_
      obtain ⟨v11, hv11, h⟩ := xb h
      refine x_getR (o := a0) dX11_early_67 xf_X11_7 hv11 ?_
      refine r_iload (x := a4) dX11_early_70 rfl ?_
      refine r_bipush (v := (40 : Int32)) dX11_early_72 (by decide) ?_
      refine r_iadd dX11_early_74 ?_
      refine x_aload_n (o := a0) dX11_early_75 rfl ?_
      refine r_iload_n (x := a2) dX11_early_76 rfl ?_
      refine r_iload (x := a6) dX11_early_77 rfl ?_
      refine r_iconst (v := (1 : Int32)) dX11_early_79 (by decide) ?_
      obtain ⟨q13, hq13, h⟩ := xb h
      obtain ⟨v12, hv12, h⟩ := xb h
      refine z_callV (as := [.int a2, .int a6, .int (1 : Int32)]) (o := a0) (r1 := (some (.int v12))) (stk := [.int (a4 + (40 : Int32)), va_rf v11, .int v10, .int a5]) (stk2 := [.int v12, .int (a4 + (40 : Int32)), va_rf v11, .int v10, .int a5]) (st1 := st) (d' := 1) dX11_early_80 xl_X11_156 hq13 (by decide) (Nat.le_trans (xsI (xsA (xsI (xsI xs0)))) (by decide)) rfl rfl (S_X11_gameOf n st a0 a2 a6 (1 : Int32) v12 hv12) ?_
      refine r_iadd dX11_early_83 ?_
      obtain ⟨v14, hv14, h⟩ := xb h
      refine x_iaload (o := v11) dX11_early_84 hv14 ?_
      refine r_isub dX11_early_85 ?_
      refine r_iadd dX11_early_86 ?_
      obtain ⟨v15, hv15, h⟩ := xb h
      refine x_eqI (Option.some.inj hv15) ?_
      refine r_istore (lv' := [(5, .int v15), (0, va_rf a0), (2, .int a2), (3, .int a3), (4, .int a4), (6, .int a6)]) (x := v15) dX11_early_87 (by decide) rfl ?_
      obtain ⟨v16, hv16, h⟩ := xb h
      refine x_iinc (c := (1 : Int32)) (lv' := [(6, .int v16), (5, .int v15), (0, va_rf a0), (2, .int a2), (3, .int a3), (4, .int a4)]) (x := a6) (v := v16) dX11_early_89 rfl (by decide) (Option.some.inj hv16) (by decide) rfl ?_
      refine r_goto (tgt := 39) dX11_early_92 (by decide) ?_
      exact x_sub [2, 3, 4, 5, 1, 0] rfl (ih st a0 a2 a3 a4 v15 v16 q h J)
theorem R_X11_early (n : Nat) (st : xS) (a0 : Option Nat) (a1 : Int32) (a2 : Int32) (a3 : Int32) (rv : Int32) (h : F_X11_early n st a0 a1 a2 a3 = some rv) : Rn mX11_early 0 [(0, va_rf a0), (1, .int a1), (2, .int a2), (3, .int a3)] [] st (some (.int rv)) st 3 := by
  unfold F_X11_early at h
  refine x_aload_n (o := a0) dX11_early_0 rfl ?_
  refine r_iload_n (x := a1) dX11_early_1 rfl ?_
  refine r_iload_n (x := a2) dX11_early_2 rfl ?_
  obtain ⟨q2, hq2, h⟩ := xb h
  obtain ⟨v1, hv1, h⟩ := xb h
  refine z_callV (as := [.int a1, .int a2]) (o := a0) (r1 := (some (.int v1))) (stk := []) (stk2 := [.int v1]) (st1 := st) (d' := 2) dX11_early_3 xl_X11_199 hq2 (by decide) (Nat.le_trans xs0 (by decide)) rfl rfl (S_X11_goes n st a0 a1 a2 v1 hv1) ?_
  refine r_if_eq (tgt := 22) dX11_early_6 (by decide) (fun c => ?_) (fun c => ?_)
  · replace h := (if_pos c).symm.trans h
    refine r_ldcw (v := (-1000000 : Int32)) dX11_early_22 xk_X11_260 ?_
    obtain rfl := Option.some.inj h
    exact r_ireturn dX11_early_25 .int rfl rfl
  · replace h := (if_neg c).symm.trans h
    refine r_iload_n (x := a3) dX11_early_9 rfl ?_
    refine r_iconst (v := (0 : Int32)) dX11_early_10 (by decide) ?_
    refine x_aload_n (o := a0) dX11_early_11 rfl ?_
    refine r_iload_n (x := a2) dX11_early_12 rfl ?_
    obtain ⟨q4, hq4, h⟩ := xb h
    obtain ⟨v3, hv3, h⟩ := xb h
    refine z_callV (as := [.int a2]) (o := a0) (r1 := (some (.int v3))) (stk := [.int (0 : Int32), .int a3]) (stk2 := [.int v3, .int (0 : Int32), .int a3]) (st1 := st) (d' := 1) dX11_early_13 xl_X11_153 hq4 (by decide) (Nat.le_trans (xsI (xsI xs0)) (by decide)) rfl rfl (S_X11_gamesOf n st a0 a2 v3 hv3) ?_
    obtain ⟨v5, hv5, h⟩ := xb h
    refine z_callS (as := [.int a3, .int (0 : Int32), .int v3]) (r1 := (some (.int v5))) (stk := []) (stk2 := [.int v5]) (st1 := st) (d' := 0) dX11_early_16 xl_X11_90 (by decide) (Nat.le_trans xs0 (by decide)) rfl rfl (S_X11_isIn n st a3 (0 : Int32) v3 v5 hv5) ?_
    refine r_if_ne (tgt := 26) dX11_early_19 (by decide) (fun c => ?_) (fun c => ?_)
    · replace h := (if_neg c).symm.trans h
      refine r_iconst (v := (0 : Int32)) dX11_early_26 (by decide) ?_
      refine r_iload_n (x := a1) dX11_early_27 rfl ?_
      obtain ⟨v6, hv6, h⟩ := xb h
      refine z_callS (as := [.int (0 : Int32), .int a1]) (r1 := (some (.int v6))) (stk := []) (stk2 := [.int v6]) (st1 := st) (d' := 0) dX11_early_28 xl_X11_150 (by decide) (Nat.le_trans xs0 (by decide)) rfl rfl (S_X11_placeOf n st (0 : Int32) a1 v6 hv6) ?_
      refine r_istore (lv' := [(4, .int v6), (0, va_rf a0), (1, .int a1), (2, .int a2), (3, .int a3)]) (x := v6) dX11_early_31 (by decide) rfl ?_
      refine r_iconst (v := (0 : Int32)) dX11_early_33 (by decide) ?_
      refine r_istore (lv' := [(5, .int (0 : Int32)), (4, .int v6), (0, va_rf a0), (1, .int a1), (2, .int a2), (3, .int a3)]) (x := (0 : Int32)) dX11_early_34 (by decide) rfl ?_
      refine r_iconst (v := (0 : Int32)) dX11_early_36 (by decide) ?_
      refine r_istore (lv' := [(6, .int (0 : Int32)), (5, .int (0 : Int32)), (4, .int v6), (0, va_rf a0), (1, .int a1), (2, .int a2), (3, .int a3)]) (x := (0 : Int32)) dX11_early_37 (by decide) rfl ?_
      obtain ⟨q17, hq17, h⟩ := xb h
      have Jq17 : Rn mX11_early 95 [(5, .int q17)] [] st (some (.int rv)) st 3 := by
        refine r_iload (x := q17) dX11_early_95 rfl ?_
        obtain rfl := Option.some.inj h
        exact r_ireturn dX11_early_97 .int rfl rfl
      exact x_sub [3, 5, 6, 2, 1, 0] rfl (R_X11_early_L39 n n st a0 a2 a3 v6 (0 : Int32) (0 : Int32) q17 hq17 Jq17)
    · replace h := (if_pos c).symm.trans h
      refine r_ldcw (v := (-1000000 : Int32)) dX11_early_22 xk_X11_260 ?_
      obtain rfl := Option.some.inj h
      exact r_ireturn dX11_early_25 .int rfl rfl
theorem S_X11_early (n : Nat) (st : xS) (a0 : Option Nat) (a1 : Int32) (a2 : Int32) (a3 : Int32) (rv : Int32) (h : F_X11_early n st a0 a1 a2 a3 = some rv) : Ct mX11_early [va_rf a0, .int a1, .int a2, .int a3] st (some (.int rv)) st 3 := by
  refine Ct.of (by decide) (by simp only [lgL_R, lgL_I, lgL_L, lgL_0]; decide) ?_
  try simp only [lvA_R]
  exact R_X11_early n st a0 a1 a2 a3 rv h
theorem R_X11_uneven_L36 (n : Nat) {r : Option Value} {st' : xS} : ∀ (k : Nat) (st : xS) (a0 : Option Nat) (a1 : Int32) (a2 : Int32) (a3 : Int32) (a4 : Int32) (a5 : Int32) (a6 : Int32) (q : (Int32)), F_X11_uneven_L36 n k st a0 a1 a2 a3 a4 a5 a6 = some q → Rn mX11_uneven 97 [(0, va_rf a0), (1, .int a1), (2, .int a2), (3, .int a3), (4, .int a4), (5, .int q)] [] st r st' 3 → Rn mX11_uneven 36 [(0, va_rf a0), (1, .int a1), (2, .int a2), (3, .int a3), (4, .int a4), (5, .int a5), (6, .int a6)] [] st r st' 3 := by
  intro k
  induction k with
  | zero => intro st a0 a1 a2 a3 a4 a5 a6 q h; cases h
  | succ k ih =>
    intro st a0 a1 a2 a3 a4 a5 a6 q h J
    unfold F_X11_uneven_L36 at h
    refine r_iload (x := a6) dX11_uneven_36 rfl ?_
    refine x_aload_n (o := a0) dX11_uneven_38 rfl ?_
    refine r_iload_n (x := a1) dX11_uneven_39 rfl ?_
    obtain ⟨q4, hq4, h⟩ := xb h
    obtain ⟨v3, hv3, h⟩ := xb h
    refine z_callV (as := [.int a1]) (o := a0) (r1 := (some (.int v3))) (stk := [.int a6]) (stk2 := [.int v3, .int a6]) (st1 := st) (d' := 1) dX11_uneven_40 xl_X11_153 hq4 (by decide) (Nat.le_trans (xsI xs0) (by decide)) rfl rfl (S_X11_gamesOf n st a0 a1 v3 hv3) ?_
    refine r_icmp_ge (tgt := 97) dX11_uneven_43 (by decide) (fun c => ?_) (fun c => ?_)
    · replace h := (if_pos c).symm.trans h
      obtain rfl := Option.some.inj h
      exact x_sub [0, 1, 2, 3, 4, 5] rfl J
    · replace h := (if_neg c).symm.trans h
      refine x_aload_n (o := a0) dX11_uneven_46 rfl ?_
      refine r_iload_n (x := a1) dX11_uneven_47 rfl ?_
      refine r_iload (x := a6) dX11_uneven_48 rfl ?_
      refine r_iload_n (x := a3) dX11_uneven_50 rfl ?_
      obtain ⟨q6, hq6, h⟩ := xb h
      obtain ⟨v5, hv5, h⟩ := xb h
      refine z_callV (as := [.int a1, .int a6, .int a3]) (o := a0) (r1 := (some (.int v5))) (stk := []) (stk2 := [.int v5]) (st1 := st) (d' := 2) dX11_uneven_51 xl_X11_329 hq6 (by decide) (Nat.le_trans xs0 (by decide)) rfl rfl (S_X11_plays n st a0 a1 a6 a3 v5 hv5) ?_
      obtain ⟨q13, hq13, h⟩ := xb h
      have Jq13 : Rn mX11_uneven 91 [(0, va_rf a0), (1, .int a1), (2, .int a2), (3, .int a3), (4, .int a4), (5, .int q13), (6, .int a6)] [] st r st' 3 := by
        obtain ⟨v14, hv14, h⟩ := xb h
        refine x_iinc (c := (1 : Int32)) (lv' := [(6, .int v14), (0, va_rf a0), (1, .int a1), (2, .int a2), (3, .int a3), (4, .int a4), (5, .int q13)]) (x := a6) (v := v14) dX11_uneven_91 rfl (by decide) (Option.some.inj hv14) (by decide) rfl ?_
        refine r_goto (tgt := 36) dX11_uneven_94 (by decide) ?_
        exact x_sub [1, 2, 3, 4, 5, 6, 0] rfl (ih st a0 a1 a2 a3 a4 q13 v14 q h J)
      refine r_if_eq (tgt := 91) dX11_uneven_54 (by decide) (fun c => ?_) (fun c => ?_)
      · replace hq13 := (if_pos c).symm.trans hq13
        obtain rfl := Option.some.inj hq13
        exact x_sub [0, 1, 2, 3, 4, 5, 6] rfl Jq13
      · replace hq13 := (if_neg c).symm.trans hq13
        refine x_aload_n (o := a0) dX11_uneven_57 rfl ?_
        refine r_iload_n (x := a1) dX11_uneven_58 rfl ?_
        refine r_iload (x := a6) dX11_uneven_59 rfl ?_
        refine r_iload (x := a4) dX11_uneven_61 rfl ?_
        obtain ⟨q8, hq8, hq13⟩ := xb hq13
        obtain ⟨v7, hv7, hq13⟩ := xb hq13
        refine z_callV (as := [.int a1, .int a6, .int a4]) (o := a0) (r1 := (some (.int v7))) (stk := []) (stk2 := [.int v7]) (st1 := st) (d' := 2) dX11_uneven_63 xl_X11_329 hq8 (by decide) (Nat.le_trans xs0 (by decide)) rfl rfl (S_X11_plays n st a0 a1 a6 a4 v7 hv7) ?_
        refine r_if_eq (tgt := 91) dX11_uneven_66 (by decide) (fun c => ?_) (fun c => ?_)
        · replace hq13 := (if_pos c).symm.trans hq13
          obtain rfl := Option.some.inj hq13
          exact x_sub [0, 1, 2, 3, 4, 5, 6] rfl Jq13
        · replace hq13 := (if_neg c).symm.trans hq13
          refine r_iload (x := a5) dX11_uneven_69 rfl ?_
          refine x_aload_n (o := a0) dX11_uneven_71 rfl ?_
          refine r_iload_n (x := a1) dX11_uneven_72 rfl ?_
          refine r_iload (x := a6) dX11_uneven_73 rfl ?_
          refine r_iconst (v := (0 : Int32)) dX11_uneven_75 (by decide) ?_
          obtain ⟨q10, hq10, hq13⟩ := xb hq13
          obtain ⟨v9, hv9, hq13⟩ := xb hq13
          refine z_callV (as := [.int a1, .int a6, .int (0 : Int32)]) (o := a0) (r1 := (some (.int v9))) (stk := [.int a5]) (stk2 := [.int v9, .int a5]) (st1 := st) (d' := 1) dX11_uneven_76 xl_X11_156 hq10 (by decide) (Nat.le_trans (xsI xs0) (by decide)) rfl rfl (S_X11_gameOf n st a0 a1 a6 (0 : Int32) v9 hv9) ?_
          refine r_iload_n (x := a3) dX11_uneven_79 rfl ?_
          obtain ⟨q11, hq11, hq13⟩ := xb hq13
          have Jq11 : Rn mX11_uneven 88 [(0, va_rf a0), (1, .int a1), (2, .int a2), (3, .int a3), (4, .int a4), (6, .int a6)] [.int q11, .int a5] st r st' 3 := by
            refine r_iadd dX11_uneven_88 ?_
            obtain ⟨v12, hv12, hq13⟩ := xb hq13
            refine x_eqI (Option.some.inj hv12) ?_
            refine r_istore (lv' := [(5, .int v12), (0, va_rf a0), (1, .int a1), (2, .int a2), (3, .int a3), (4, .int a4), (6, .int a6)]) (x := v12) dX11_uneven_89 (by decide) rfl ?_
            obtain rfl := Option.some.inj hq13
            exact x_sub [1, 2, 3, 4, 5, 0, 6] rfl Jq13
          refine r_icmp_ne (tgt := 87) dX11_uneven_80 (by decide) (fun c => ?_) (fun c => ?_)
          · replace hq11 := (if_neg c).symm.trans hq11
            refine r_iconst (v := (-1 : Int32)) dX11_uneven_87 (by decide) ?_
            obtain rfl := Option.some.inj hq11
            exact x_sub [0, 1, 2, 3, 4, 6] rfl Jq11
          · replace hq11 := (if_pos c).symm.trans hq11
            refine r_iconst (v := (1 : Int32)) dX11_uneven_83 (by decide) ?_
            refine r_goto (tgt := 88) dX11_uneven_84 (by decide) ?_
            obtain rfl := Option.some.inj hq11
            exact x_sub [0, 1, 2, 3, 4, 6] rfl Jq11
theorem R_X11_uneven_L24 (n : Nat) {r : Option Value} {st' : xS} : ∀ (k : Nat) (st : xS) (a0 : Option Nat) (a1 : Int32) (a2 : Int32) (a3 : Int32) (a4 : Int32) (q : (Int32)), F_X11_uneven_L24 n k st a0 a1 a2 a3 a4 = some q → Rn mX11_uneven 116 [(0, va_rf a0), (1, .int a1), (2, .int q), (3, .int a3)] [] st r st' 3 → Rn mX11_uneven 24 [(0, va_rf a0), (1, .int a1), (2, .int a2), (3, .int a3), (4, .int a4)] [] st r st' 3 := by
  intro k
  induction k with
  | zero => intro st a0 a1 a2 a3 a4 q h; cases h
  | succ k ih =>
    intro st a0 a1 a2 a3 a4 q h J
    unfold F_X11_uneven_L24 at h
    refine r_iload (x := a4) dX11_uneven_24 rfl ?_
    refine r_iload_n (x := a3) dX11_uneven_26 rfl ?_
    refine r_icmp_ge (tgt := 116) dX11_uneven_27 (by decide) (fun c => ?_) (fun c => ?_)
    · replace h := (if_pos c).symm.trans h
      obtain rfl := Option.some.inj h
      exact x_sub [0, 1, 2, 3] rfl J
    · replace h := (if_neg c).symm.trans h
      refine r_iconst (v := (0 : Int32)) dX11_uneven_30 (by decide) ?_
      refine r_istore (lv' := [(5, .int (0 : Int32)), (0, va_rf a0), (1, .int a1), (2, .int a2), (3, .int a3), (4, .int a4)]) (x := (0 : Int32)) dX11_uneven_31 (by decide) rfl ?_
      refine r_iconst (v := (0 : Int32)) dX11_uneven_33 (by decide) ?_
      refine r_istore (lv' := [(6, .int (0 : Int32)), (5, .int (0 : Int32)), (0, va_rf a0), (1, .int a1), (2, .int a2), (3, .int a3), (4, .int a4)]) (x := (0 : Int32)) dX11_uneven_34 (by decide) rfl ?_
      obtain ⟨q15, hq15, h⟩ := xb h
      have Jq15 : Rn mX11_uneven 97 [(0, va_rf a0), (1, .int a1), (2, .int a2), (3, .int a3), (4, .int a4), (5, .int q15)] [] st r st' 3 := by
        refine r_iload_n (x := a2) dX11_uneven_97 rfl ?_
        refine r_iload (x := q15) dX11_uneven_98 rfl ?_
        obtain ⟨q16, hq16, h⟩ := xb h
        have Jq16 : Rn mX11_uneven 108 [(0, va_rf a0), (1, .int a1), (3, .int a3), (4, .int a4)] [.int q16, .int a2] st r st' 3 := by
          refine r_iadd dX11_uneven_108 ?_
          obtain ⟨v17, hv17, h⟩ := xb h
          refine x_eqI (Option.some.inj hv17) ?_
          refine r_istore_n (lv' := [(2, .int v17), (0, va_rf a0), (1, .int a1), (3, .int a3), (4, .int a4)]) (x := v17) dX11_uneven_109 (by decide) rfl ?_
          obtain ⟨v18, hv18, h⟩ := xb h
          refine x_iinc (c := (1 : Int32)) (lv' := [(4, .int v18), (2, .int v17), (0, va_rf a0), (1, .int a1), (3, .int a3)]) (x := a4) (v := v18) dX11_uneven_110 rfl (by decide) (Option.some.inj hv18) (by decide) rfl ?_
          refine r_goto (tgt := 24) dX11_uneven_113 (by decide) ?_
          exact x_sub [2, 3, 1, 4, 0] rfl (ih st a0 a1 v17 a3 v18 q h J)
        refine r_if_ne (tgt := 107) dX11_uneven_100 (by decide) (fun c => ?_) (fun c => ?_)
        · replace hq16 := (if_neg c).symm.trans hq16
          refine r_iconst (v := (1 : Int32)) dX11_uneven_107 (by decide) ?_
          obtain rfl := Option.some.inj hq16
          exact x_sub [0, 1, 3, 4] rfl Jq16
        · replace hq16 := (if_pos c).symm.trans hq16
          refine r_iconst (v := (0 : Int32)) dX11_uneven_103 (by decide) ?_
          refine r_goto (tgt := 108) dX11_uneven_104 (by decide) ?_
          obtain rfl := Option.some.inj hq16
          exact x_sub [0, 1, 3, 4] rfl Jq16
      exact x_sub [2, 3, 4, 5, 6, 1, 0] rfl (R_X11_uneven_L36 n n st a0 a1 a2 a3 a4 (0 : Int32) (0 : Int32) q15 hq15 Jq15)
theorem R_X11_uneven_L15 (n : Nat) {r : Option Value} {st' : xS} : ∀ (k : Nat) (st : xS) (a0 : Option Nat) (a1 : Int32) (a2 : Int32) (a3 : Int32) (q : (Int32)), F_X11_uneven_L15 n k st a0 a1 a2 a3 = some q → Rn mX11_uneven 122 [(2, .int q)] [] st r st' 3 → Rn mX11_uneven 15 [(0, va_rf a0), (1, .int a1), (2, .int a2), (3, .int a3)] [] st r st' 3 := by
  intro k
  induction k with
  | zero => intro st a0 a1 a2 a3 q h; cases h
  | succ k ih =>
    intro st a0 a1 a2 a3 q h J
    unfold F_X11_uneven_L15 at h
    refine r_iload_n (x := a3) dX11_uneven_15 rfl ?_
    refine r_bipush (v := (8 : Int32)) dX11_uneven_16 (by decide) ?_
    refine r_icmp_ge (tgt := 122) dX11_uneven_18 (by decide) (fun c => ?_) (fun c => ?_)
    · replace h := (if_pos c).symm.trans h
      obtain rfl := Option.some.inj h
      exact x_sub [2] rfl J
    · replace h := (if_neg c).symm.trans h
      refine r_iconst (v := (0 : Int32)) dX11_uneven_21 (by decide) ?_
      refine r_istore (lv' := [(4, .int (0 : Int32)), (0, va_rf a0), (1, .int a1), (2, .int a2), (3, .int a3)]) (x := (0 : Int32)) dX11_uneven_22 (by decide) rfl ?_
      obtain ⟨q19, hq19, h⟩ := xb h
      have Jq19 : Rn mX11_uneven 116 [(0, va_rf a0), (1, .int a1), (2, .int q19), (3, .int a3)] [] st r st' 3 := by
        obtain ⟨v20, hv20, h⟩ := xb h
        refine x_iinc (c := (1 : Int32)) (lv' := [(3, .int v20), (0, va_rf a0), (1, .int a1), (2, .int q19)]) (x := a3) (v := v20) dX11_uneven_116 rfl (by decide) (Option.some.inj hv20) (by decide) rfl ?_
        refine r_goto (tgt := 15) dX11_uneven_119 (by decide) ?_
        exact x_sub [1, 2, 3, 0] rfl (ih st a0 a1 q19 v20 q h J)
      exact x_sub [1, 2, 3, 4, 0] rfl (R_X11_uneven_L24 n n st a0 a1 a2 a3 (0 : Int32) q19 hq19 Jq19)
theorem R_X11_uneven (n : Nat) (st : xS) (a0 : Option Nat) (a1 : Int32) (rv : Int32) (h : F_X11_uneven n st a0 a1 = some rv) : Rn mX11_uneven 0 [(0, va_rf a0), (1, .int a1)] [] st (some (.int rv)) st 3 := by
  unfold F_X11_uneven at h
  refine x_aload_n (o := a0) dX11_uneven_0 rfl ?_
  refine r_iconst (v := (2 : Int32)) dX11_uneven_1 (by decide) ?_
  refine r_iload_n (x := a1) dX11_uneven_2 rfl ?_
  obtain ⟨q2, hq2, h⟩ := xb h
  obtain ⟨v1, hv1, h⟩ := xb h
  refine z_callV (as := [.int (2 : Int32), .int a1]) (o := a0) (r1 := (some (.int v1))) (stk := []) (stk2 := [.int v1]) (st1 := st) (d' := 1) dX11_uneven_3 xl_X11_130 hq2 (by decide) (Nat.le_trans xs0 (by decide)) rfl rfl (S_X11_isOf n st a0 (2 : Int32) a1 v1 hv1) ?_
  refine r_if_ne (tgt := 11) dX11_uneven_6 (by decide) (fun c => ?_) (fun c => ?_)
  · replace h := (if_neg c).symm.trans h
    refine r_iconst (v := (0 : Int32)) dX11_uneven_11 (by decide) ?_
    refine r_istore_n (lv' := [(2, .int (0 : Int32)), (0, va_rf a0), (1, .int a1)]) (x := (0 : Int32)) dX11_uneven_12 (by decide) rfl ?_
    refine r_iconst (v := (0 : Int32)) dX11_uneven_13 (by decide) ?_
    refine r_istore_n (lv' := [(3, .int (0 : Int32)), (2, .int (0 : Int32)), (0, va_rf a0), (1, .int a1)]) (x := (0 : Int32)) dX11_uneven_14 (by decide) rfl ?_
    obtain ⟨q21, hq21, h⟩ := xb h
    have Jq21 : Rn mX11_uneven 122 [(2, .int q21)] [] st (some (.int rv)) st 3 := by
      refine r_iload_n (x := q21) dX11_uneven_122 rfl ?_
      obtain rfl := Option.some.inj h
      exact r_ireturn dX11_uneven_123 .int rfl rfl
    exact x_sub [2, 3, 1, 0] rfl (R_X11_uneven_L15 n n st a0 a1 (0 : Int32) (0 : Int32) q21 hq21 Jq21)
  · replace h := (if_pos c).symm.trans h
    refine r_iconst (v := (-1 : Int32)) dX11_uneven_9 (by decide) ?_
    obtain rfl := Option.some.inj h
    exact r_ireturn dX11_uneven_10 .int rfl rfl
theorem S_X11_uneven (n : Nat) (st : xS) (a0 : Option Nat) (a1 : Int32) (rv : Int32) (h : F_X11_uneven n st a0 a1 = some rv) : Ct mX11_uneven [va_rf a0, .int a1] st (some (.int rv)) st 3 := by
  refine Ct.of (by decide) (by simp only [lgL_R, lgL_I, lgL_L, lgL_0]; decide) ?_
  try simp only [lvA_R]
  exact R_X11_uneven n st a0 a1 rv h
theorem R_X11_exchanges (n : Nat) (st : xS) (a0 : Option Nat) (a1 : Int32) (a2 : Int32) (st' : xS) (h : F_X11_exchanges n st a0 a1 a2 = some st') : Rn mX11_exchanges 0 [(0, va_rf a0), (1, .int a1), (2, .int a2)] [] st none st' 1 := by
  unfold F_X11_exchanges at h
  refine r_iconst (v := (2 : Int32)) dX11_exchanges_0 (by decide) ?_
  refine r_iload_n (x := a1) dX11_exchanges_1 rfl ?_
  obtain ⟨v1, hv1, h⟩ := xb h
  refine z_callS (as := [.int (2 : Int32), .int a1]) (r1 := (some (.int v1))) (stk := []) (stk2 := [.int v1]) (st1 := st) (d' := 0) dX11_exchanges_2 xl_X11_150 (by decide) (Nat.le_trans xs0 (by decide)) rfl rfl (S_X11_placeOf n st (2 : Int32) a1 v1 hv1) ?_
  refine r_iconst (v := (1 : Int32)) dX11_exchanges_5 (by decide) ?_
  refine r_iadd dX11_exchanges_6 ?_
  refine r_bipush (v := (6 : Int32)) dX11_exchanges_7 (by decide) ?_
  refine r_iload_n (x := a2) dX11_exchanges_9 rfl ?_
  refine r_imul dX11_exchanges_10 ?_
  refine r_iadd dX11_exchanges_11 ?_
  obtain ⟨v2, hv2, h⟩ := xb h
  refine x_eqI (Option.some.inj hv2) ?_
  refine r_istore_n (lv' := [(3, .int v2), (0, va_rf a0), (1, .int a1), (2, .int a2)]) (x := v2) dX11_exchanges_12 (by decide) rfl ?_
  refine x_aload_n (o := a0) dX11_exchanges_13 rfl ?_
  obtain ⟨v3, hv3, h⟩ := xb h
  refine x_getR (o := a0) dX11_exchanges_14 xf_X11_7 hv3 ?_
  refine r_iload_n (x := v2) dX11_exchanges_17 rfl ?_
  obtain ⟨v4, hv4, h⟩ := xb h
  refine x_iaload (o := v3) dX11_exchanges_18 hv4 ?_
  refine r_istore (lv' := [(4, .int v4), (3, .int v2), (0, va_rf a0), (1, .int a1), (2, .int a2)]) (x := v4) dX11_exchanges_19 (by decide) rfl ?_
  refine x_aload_n (o := a0) dX11_exchanges_21 rfl ?_
  obtain ⟨v5, hv5, h⟩ := xb h
  refine x_getR (o := a0) dX11_exchanges_22 xf_X11_7 hv5 ?_
  refine r_iload_n (x := v2) dX11_exchanges_25 rfl ?_
  refine x_aload_n (o := a0) dX11_exchanges_26 rfl ?_
  obtain ⟨v6, hv6, h⟩ := xb h
  refine x_getR (o := a0) dX11_exchanges_27 xf_X11_7 hv6 ?_
  refine r_iload_n (x := v2) dX11_exchanges_30 rfl ?_
  refine r_iconst (v := (1 : Int32)) dX11_exchanges_31 (by decide) ?_
  refine r_iadd dX11_exchanges_32 ?_
  obtain ⟨v7, hv7, h⟩ := xb h
  refine x_iaload (o := v6) dX11_exchanges_33 hv7 ?_
  obtain ⟨s8, hs8, h⟩ := xb h
  refine x_iastore (o := v5) dX11_exchanges_34 hs8 ?_
  refine x_aload_n (o := a0) dX11_exchanges_35 rfl ?_
  obtain ⟨v9, hv9, h⟩ := xb h
  refine x_getR (o := a0) dX11_exchanges_36 xf_X11_7 hv9 ?_
  refine r_iload_n (x := v2) dX11_exchanges_39 rfl ?_
  refine r_iconst (v := (1 : Int32)) dX11_exchanges_40 (by decide) ?_
  refine r_iadd dX11_exchanges_41 ?_
  refine r_iload (x := v4) dX11_exchanges_42 rfl ?_
  obtain ⟨s10, hs10, h⟩ := xb h
  refine x_iastore (o := v9) dX11_exchanges_44 hs10 ?_
  obtain rfl := Option.some.inj h
  exact r_return dX11_exchanges_45 rfl
theorem S_X11_exchanges (n : Nat) (st : xS) (a0 : Option Nat) (a1 : Int32) (a2 : Int32) (st' : xS) (h : F_X11_exchanges n st a0 a1 a2 = some st') : Ct mX11_exchanges [va_rf a0, .int a1, .int a2] st none st' 1 := by
  refine Ct.of (by decide) (by simp only [lgL_R, lgL_I, lgL_L, lgL_0]; decide) ?_
  try simp only [lvA_R]
  exact R_X11_exchanges n st a0 a1 a2 st' h
theorem R_X11_turned_L31 (n : Nat) {r : Option Value} {st' : xS} : ∀ (k : Nat) (st : xS) (a0 : Option Nat) (a2 : Int32) (a3 : Int32) (a4 : Int32) (a5 : Int32) (a6 : Int32) (q : (Int32 × xS)), F_X11_turned_L31 n k st a0 a2 a3 a4 a5 a6 = some q → Rn mX11_turned 87 [(4, .int q.1)] [] q.2 r st' 5 → Rn mX11_turned 31 [(0, va_rf a0), (2, .int a2), (3, .int a3), (4, .int a4), (5, .int a5), (6, .int a6)] [] st r st' 5 := by
  intro k
  induction k with
  | zero => intro st a0 a2 a3 a4 a5 a6 q h; cases h
  | succ k ih =>
    intro st a0 a2 a3 a4 a5 a6 q h J
    unfold F_X11_turned_L31 at h
    refine r_iload (x := a6) dX11_turned_31 rfl ?_
    refine x_aload_n (o := a0) dX11_turned_33 rfl ?_
    refine r_iload_n (x := a2) dX11_turned_34 rfl ?_
    obtain ⟨q7, hq7, h⟩ := xb h
    obtain ⟨v6, hv6, h⟩ := xb h
    refine z_callV (as := [.int a2]) (o := a0) (r1 := (some (.int v6))) (stk := [.int a6]) (stk2 := [.int v6, .int a6]) (st1 := st) (d' := 1) dX11_turned_35 xl_X11_153 hq7 (by decide) (Nat.le_trans (xsI xs0) (by decide)) rfl rfl (S_X11_gamesOf n st a0 a2 v6 hv6) ?_
    refine r_icmp_ge (tgt := 87) dX11_turned_38 (by decide) (fun c => ?_) (fun c => ?_)
    · replace h := (if_pos c).symm.trans h
      obtain rfl := Option.some.inj h
      exact x_sub [3] rfl J
    · replace h := (if_neg c).symm.trans h
      refine x_aload_n (o := a0) dX11_turned_41 rfl ?_
      refine r_iload_n (x := a2) dX11_turned_42 rfl ?_
      refine r_iload (x := a6) dX11_turned_43 rfl ?_
      obtain ⟨q9, hq9, h⟩ := xb h
      obtain ⟨s8, hs8, h⟩ := xb h
      refine z_callV (as := [.int a2, .int a6]) (o := a0) (r1 := none) (stk := []) (stk2 := []) (st1 := s8) (d' := 1) dX11_turned_45 xl_X11_341 hq9 (by decide) (Nat.le_trans xs0 (by decide)) rfl rfl (S_X11_exchanges n st a0 a2 a6 s8 hs8) ?_
      refine x_aload_n (o := a0) dX11_turned_48 rfl ?_
      refine r_iload_n (x := a3) dX11_turned_49 rfl ?_
      refine r_iload_n (x := a2) dX11_turned_50 rfl ?_
      obtain ⟨q11, hq11, h⟩ := xb h
      obtain ⟨v10, hv10, h⟩ := xb h
      refine z_callV (as := [.int a3, .int a2]) (o := a0) (r1 := (some (.int v10))) (stk := []) (stk2 := [.int v10]) (st1 := s8) (d' := 4) dX11_turned_51 xl_X11_338 hq11 (by decide) (Nat.le_trans xs0 (by decide)) rfl rfl (S_X11_travelAll n s8 a0 a3 a2 v10 hv10) ?_
      refine r_istore (lv' := [(7, .int v10), (0, va_rf a0), (2, .int a2), (3, .int a3), (4, .int a4), (5, .int a5), (6, .int a6)]) (x := v10) dX11_turned_54 (by decide) rfl ?_
      refine x_aload_n (o := a0) dX11_turned_56 rfl ?_
      refine r_iload_n (x := a2) dX11_turned_57 rfl ?_
      refine r_iload (x := a6) dX11_turned_58 rfl ?_
      obtain ⟨q13, hq13, h⟩ := xb h
      obtain ⟨s12, hs12, h⟩ := xb h
      refine z_callV (as := [.int a2, .int a6]) (o := a0) (r1 := none) (stk := []) (stk2 := []) (st1 := s12) (d' := 1) dX11_turned_60 xl_X11_341 hq13 (by decide) (Nat.le_trans xs0 (by decide)) rfl rfl (S_X11_exchanges n s8 a0 a2 a6 s12 hs12) ?_
      refine r_iload (x := v10) dX11_turned_63 rfl ?_
      refine r_iload (x := a5) dX11_turned_65 rfl ?_
      obtain ⟨q14, hq14, h⟩ := xb h
      have Jq14 : Rn mX11_turned 81 [(0, va_rf a0), (2, .int a2), (3, .int a3), (4, .int q14.1), (5, .int q14.2), (6, .int a6)] [] s12 r st' 5 := by
        obtain ⟨v15, hv15, h⟩ := xb h
        refine x_iinc (c := (1 : Int32)) (lv' := [(6, .int v15), (0, va_rf a0), (2, .int a2), (3, .int a3), (4, .int q14.1), (5, .int q14.2)]) (x := a6) (v := v15) dX11_turned_81 rfl (by decide) (Option.some.inj hv15) (by decide) rfl ?_
        refine r_goto (tgt := 31) dX11_turned_84 (by decide) ?_
        exact x_sub [1, 2, 3, 4, 5, 0] rfl (ih s12 a0 a2 a3 q14.1 q14.2 v15 q h J)
      refine r_icmp_lt (tgt := 73) dX11_turned_67 (by decide) (fun c => ?_) (fun c => ?_)
      · replace hq14 := (if_pos c).symm.trans hq14
        refine r_iload (x := a6) dX11_turned_73 rfl ?_
        refine r_istore (lv' := [(4, .int a6), (7, .int v10), (0, va_rf a0), (2, .int a2), (3, .int a3), (5, .int a5), (6, .int a6)]) (x := a6) dX11_turned_75 (by decide) rfl ?_
        refine r_iload (x := v10) dX11_turned_77 rfl ?_
        refine r_istore (lv' := [(5, .int v10), (4, .int a6), (7, .int v10), (0, va_rf a0), (2, .int a2), (3, .int a3), (6, .int a6)]) (x := v10) dX11_turned_79 (by decide) rfl ?_
        obtain rfl := Option.some.inj hq14
        exact x_sub [3, 4, 5, 1, 0, 6] rfl Jq14
      · replace hq14 := (if_neg c).symm.trans hq14
        refine r_goto (tgt := 81) dX11_turned_70 (by decide) ?_
        obtain rfl := Option.some.inj hq14
        exact x_sub [1, 2, 3, 4, 5, 6] rfl Jq14
theorem R_X11_turned (n : Nat) (st : xS) (a0 : Option Nat) (a1 : Int32) (a2 : Int32) (rv : Int32) (st' : xS) (h : F_X11_turned n st a0 a1 a2 = some (rv, st')) : Rn mX11_turned 0 [(0, va_rf a0), (1, .int a1), (2, .int a2)] [] st (some (.int rv)) st' 5 := by
  unfold F_X11_turned at h
  refine x_aload_n (o := a0) dX11_turned_0 rfl ?_
  refine r_iload_n (x := a1) dX11_turned_1 rfl ?_
  refine r_iload_n (x := a2) dX11_turned_2 rfl ?_
  obtain ⟨q2, hq2, h⟩ := xb h
  obtain ⟨v1, hv1, h⟩ := xb h
  refine z_callV (as := [.int a1, .int a2]) (o := a0) (r1 := (some (.int v1))) (stk := []) (stk2 := [.int v1]) (st1 := st) (d' := 2) dX11_turned_3 xl_X11_199 hq2 (by decide) (Nat.le_trans xs0 (by decide)) rfl rfl (S_X11_goes n st a0 a1 a2 v1 hv1) ?_
  refine r_if_ne (tgt := 11) dX11_turned_6 (by decide) (fun c => ?_) (fun c => ?_)
  · replace h := (if_neg c).symm.trans h
    refine r_iconst (v := (0 : Int32)) dX11_turned_11 (by decide) ?_
    refine r_iload_n (x := a1) dX11_turned_12 rfl ?_
    obtain ⟨v3, hv3, h⟩ := xb h
    refine z_callS (as := [.int (0 : Int32), .int a1]) (r1 := (some (.int v3))) (stk := []) (stk2 := [.int v3]) (st1 := st) (d' := 0) dX11_turned_13 xl_X11_150 (by decide) (Nat.le_trans xs0 (by decide)) rfl rfl (S_X11_placeOf n st (0 : Int32) a1 v3 hv3) ?_
    refine r_istore_n (lv' := [(3, .int v3), (0, va_rf a0), (1, .int a1), (2, .int a2)]) (x := v3) dX11_turned_16 (by decide) rfl ?_
    refine r_iconst (v := (-1 : Int32)) dX11_turned_17 (by decide) ?_
    refine r_istore (lv' := [(4, .int (-1 : Int32)), (3, .int v3), (0, va_rf a0), (1, .int a1), (2, .int a2)]) (x := (-1 : Int32)) dX11_turned_18 (by decide) rfl ?_
    refine x_aload_n (o := a0) dX11_turned_20 rfl ?_
    refine r_iload_n (x := v3) dX11_turned_21 rfl ?_
    refine r_iload_n (x := a2) dX11_turned_22 rfl ?_
    obtain ⟨q5, hq5, h⟩ := xb h
    obtain ⟨v4, hv4, h⟩ := xb h
    refine z_callV (as := [.int v3, .int a2]) (o := a0) (r1 := (some (.int v4))) (stk := []) (stk2 := [.int v4]) (st1 := st) (d' := 4) dX11_turned_23 xl_X11_338 hq5 (by decide) (Nat.le_trans xs0 (by decide)) rfl rfl (S_X11_travelAll n st a0 v3 a2 v4 hv4) ?_
    refine r_istore (lv' := [(5, .int v4), (4, .int (-1 : Int32)), (3, .int v3), (0, va_rf a0), (1, .int a1), (2, .int a2)]) (x := v4) dX11_turned_26 (by decide) rfl ?_
    refine r_iconst (v := (0 : Int32)) dX11_turned_28 (by decide) ?_
    refine r_istore (lv' := [(6, .int (0 : Int32)), (5, .int v4), (4, .int (-1 : Int32)), (3, .int v3), (0, va_rf a0), (1, .int a1), (2, .int a2)]) (x := (0 : Int32)) dX11_turned_29 (by decide) rfl ?_
    obtain ⟨q16, hq16, h⟩ := xb h
    have Jq16 : Rn mX11_turned 87 [(4, .int q16.1)] [] q16.2 (some (.int rv)) st' 5 := by
      refine r_iload (x := q16.1) dX11_turned_87 rfl ?_
      obtain ⟨rfl, rfl⟩ := Prod.mk.inj (Option.some.inj h)
      exact r_ireturn dX11_turned_89 .int rfl rfl
    exact x_sub [4, 6, 3, 2, 1, 0] rfl (R_X11_turned_L31 n n st a0 a2 v3 (-1 : Int32) v4 (0 : Int32) q16 hq16 Jq16)
  · replace h := (if_pos c).symm.trans h
    refine r_iconst (v := (-1 : Int32)) dX11_turned_9 (by decide) ?_
    obtain ⟨rfl, rfl⟩ := Prod.mk.inj (Option.some.inj h)
    exact r_ireturn dX11_turned_10 .int rfl rfl
theorem S_X11_turned (n : Nat) (st : xS) (a0 : Option Nat) (a1 : Int32) (a2 : Int32) (rv : Int32) (st' : xS) (h : F_X11_turned n st a0 a1 a2 = some (rv, st')) : Ct mX11_turned [va_rf a0, .int a1, .int a2] st (some (.int rv)) st' 5 := by
  refine Ct.of (by decide) (by simp only [lgL_R, lgL_I, lgL_L, lgL_0]; decide) ?_
  try simp only [lvA_R]
  exact R_X11_turned n st a0 a1 a2 rv st' h
theorem R_X11_isPart (n : Nat) (st : xS) (a0 : Option Nat) (a1 : Int32) (a2 : Int32) (a3 : Int32) (a4 : Int32) (rv : Int32) (h : F_X11_isPart n st a0 a1 a2 a3 a4 = some rv) : Rn mX11_isPart 0 [(0, va_rf a0), (1, .int a1), (2, .int a2), (3, .int a3), (4, .int a4)] [] st (some (.int rv)) st 3 := by
  unfold F_X11_isPart at h
  refine x_aload_n (o := a0) dX11_isPart_0 rfl ?_
  refine r_iload_n (x := a1) dX11_isPart_1 rfl ?_
  refine r_iload_n (x := a3) dX11_isPart_2 rfl ?_
  obtain ⟨q2, hq2, h⟩ := xb h
  obtain ⟨v1, hv1, h⟩ := xb h
  refine z_callV (as := [.int a1, .int a3]) (o := a0) (r1 := (some (.int v1))) (stk := []) (stk2 := [.int v1]) (st1 := st) (d' := 2) dX11_isPart_3 xl_X11_199 hq2 (by decide) (Nat.le_trans xs0 (by decide)) rfl rfl (S_X11_goes n st a0 a1 a3 v1 hv1) ?_
  obtain ⟨q6, hq6, h⟩ := xb h
  have Jq6 : Rn mX11_isPart 33 [] [.int q6] st (some (.int rv)) st 3 := by
    obtain ⟨v7, hv7, h⟩ := xb h
    refine x_eqI (rz_inv2 hv7).1 ?_
    obtain rfl := Option.some.inj h
    exact r_ireturn dX11_isPart_33 .boolean rfl (by rcases (rz_inv2 hv7).2 with e | e <;> rw [e] <;> rfl)
  refine r_if_eq (tgt := 32) dX11_isPart_6 (by decide) (fun c => ?_) (fun c => ?_)
  · replace hq6 := (if_pos c).symm.trans hq6
    refine r_iconst (v := (0 : Int32)) dX11_isPart_32 (by decide) ?_
    obtain rfl := Option.some.inj hq6
    exact x_sub [] rfl Jq6
  · replace hq6 := (if_neg c).symm.trans hq6
    refine x_aload_n (o := a0) dX11_isPart_9 rfl ?_
    refine r_iconst (v := (1 : Int32)) dX11_isPart_10 (by decide) ?_
    refine r_iload_n (x := a2) dX11_isPart_11 rfl ?_
    obtain ⟨q4, hq4, hq6⟩ := xb hq6
    obtain ⟨v3, hv3, hq6⟩ := xb hq6
    refine z_callV (as := [.int (1 : Int32), .int a2]) (o := a0) (r1 := (some (.int v3))) (stk := []) (stk2 := [.int v3]) (st1 := st) (d' := 1) dX11_isPart_12 xl_X11_130 hq4 (by decide) (Nat.le_trans xs0 (by decide)) rfl rfl (S_X11_isOf n st a0 (1 : Int32) a2 v3 hv3) ?_
    refine r_if_eq (tgt := 32) dX11_isPart_15 (by decide) (fun c => ?_) (fun c => ?_)
    · replace hq6 := (if_pos c).symm.trans hq6
      refine r_iconst (v := (0 : Int32)) dX11_isPart_32 (by decide) ?_
      obtain rfl := Option.some.inj hq6
      exact x_sub [] rfl Jq6
    · replace hq6 := (if_neg c).symm.trans hq6
      refine r_iload (x := a4) dX11_isPart_18 rfl ?_
      refine r_iconst (v := (0 : Int32)) dX11_isPart_20 (by decide) ?_
      refine r_iconst (v := (5 : Int32)) dX11_isPart_21 (by decide) ?_
      obtain ⟨v5, hv5, hq6⟩ := xb hq6
      refine z_callS (as := [.int a4, .int (0 : Int32), .int (5 : Int32)]) (r1 := (some (.int v5))) (stk := []) (stk2 := [.int v5]) (st1 := st) (d' := 0) dX11_isPart_22 xl_X11_90 (by decide) (Nat.le_trans xs0 (by decide)) rfl rfl (S_X11_isIn n st a4 (0 : Int32) (5 : Int32) v5 hv5) ?_
      refine r_if_eq (tgt := 32) dX11_isPart_25 (by decide) (fun c => ?_) (fun c => ?_)
      · replace hq6 := (if_pos c).symm.trans hq6
        refine r_iconst (v := (0 : Int32)) dX11_isPart_32 (by decide) ?_
        obtain rfl := Option.some.inj hq6
        exact x_sub [] rfl Jq6
      · replace hq6 := (if_neg c).symm.trans hq6
        refine r_iconst (v := (1 : Int32)) dX11_isPart_28 (by decide) ?_
        refine r_goto (tgt := 33) dX11_isPart_29 (by decide) ?_
        obtain rfl := Option.some.inj hq6
        exact x_sub [] rfl Jq6
theorem S_X11_isPart (n : Nat) (st : xS) (a0 : Option Nat) (a1 : Int32) (a2 : Int32) (a3 : Int32) (a4 : Int32) (rv : Int32) (h : F_X11_isPart n st a0 a1 a2 a3 a4 = some rv) : Ct mX11_isPart [va_rf a0, .int a1, .int a2, .int a3, .int a4] st (some (.int rv)) st 3 := by
  refine Ct.of (by decide) (by simp only [lgL_R, lgL_I, lgL_L, lgL_0]; decide) ?_
  try simp only [lvA_R]
  exact R_X11_isPart n st a0 a1 a2 a3 a4 rv h
theorem R_X11_isAwake (n : Nat) (st : xS) (a0 : Option Nat) (a1 : Int32) (a2 : Int32) (a3 : Int32) (a4 : Int32) (a5 : Int32) (rv : Int32) (h : F_X11_isAwake n st a0 a1 a2 a3 a4 a5 = some rv) : Rn mX11_isAwake 0 [(0, va_rf a0), (1, .int a1), (2, .int a2), (3, .int a3), (4, .int a4), (5, .int a5)] [] st (some (.int rv)) st 6 := by
  unfold F_X11_isAwake at h
  refine x_aload_n (o := a0) dX11_isAwake_0 rfl ?_
  refine r_iload_n (x := a1) dX11_isAwake_1 rfl ?_
  refine r_iload_n (x := a2) dX11_isAwake_2 rfl ?_
  refine r_iload_n (x := a3) dX11_isAwake_3 rfl ?_
  refine r_iload (x := a4) dX11_isAwake_4 rfl ?_
  refine r_iload (x := a5) dX11_isAwake_6 rfl ?_
  obtain ⟨q2, hq2, h⟩ := xb h
  obtain ⟨v1, hv1, h⟩ := xb h
  refine z_callV (as := [.int a1, .int a2, .int a3, .int a4, .int a5]) (o := a0) (r1 := (some (.int v1))) (stk := []) (stk2 := [.int v1]) (st1 := st) (d' := 5) dX11_isAwake_8 xl_X11_175 hq2 (by decide) (Nat.le_trans xs0 (by decide)) rfl rfl (S_X11_partOf n st a0 a1 a2 a3 a4 a5 v1 hv1) ?_
  obtain ⟨q3, hq3, h⟩ := xb h
  have Jq3 : Rn mX11_isAwake 19 [] [.int q3] st (some (.int rv)) st 6 := by
    obtain ⟨v4, hv4, h⟩ := xb h
    refine x_eqI (rz_inv2 hv4).1 ?_
    obtain rfl := Option.some.inj h
    exact r_ireturn dX11_isAwake_19 .boolean rfl (by rcases (rz_inv2 hv4).2 with e | e <;> rw [e] <;> rfl)
  refine r_if_le (tgt := 18) dX11_isAwake_11 (by decide) (fun c => ?_) (fun c => ?_)
  · replace hq3 := (if_pos c).symm.trans hq3
    refine r_iconst (v := (0 : Int32)) dX11_isAwake_18 (by decide) ?_
    obtain rfl := Option.some.inj hq3
    exact x_sub [] rfl Jq3
  · replace hq3 := (if_neg c).symm.trans hq3
    refine r_iconst (v := (1 : Int32)) dX11_isAwake_14 (by decide) ?_
    refine r_goto (tgt := 19) dX11_isAwake_15 (by decide) ?_
    obtain rfl := Option.some.inj hq3
    exact x_sub [] rfl Jq3
theorem S_X11_isAwake (n : Nat) (st : xS) (a0 : Option Nat) (a1 : Int32) (a2 : Int32) (a3 : Int32) (a4 : Int32) (a5 : Int32) (rv : Int32) (h : F_X11_isAwake n st a0 a1 a2 a3 a4 a5 = some rv) : Ct mX11_isAwake [va_rf a0, .int a1, .int a2, .int a3, .int a4, .int a5] st (some (.int rv)) st 6 := by
  refine Ct.of (by decide) (by simp only [lgL_R, lgL_I, lgL_L, lgL_0]; decide) ?_
  try simp only [lvA_R]
  exact R_X11_isAwake n st a0 a1 a2 a3 a4 a5 rv h
theorem R_X11_like_L47 (n : Nat) {r : Option Value} {st' : xS} : ∀ (k : Nat) (st : xS) (a0 : Option Nat) (a3 : Int32) (a4 : Int32) (a5 : Int32) (a6 : Int32) (a7 : Int32) (a8 : Int32) (a9 : Int32) (a10 : Int32) (q : (Int32)), F_X11_like_L47 n k st a0 a3 a4 a5 a6 a7 a8 a9 a10 = some q → Rn mX11_like 104 [(0, va_rf a0), (3, .int a3), (4, .int a4), (5, .int a5), (6, .int a6), (7, .int a7), (8, .int a8), (9, .int q)] [] st r st' 7 → Rn mX11_like 47 [(0, va_rf a0), (3, .int a3), (4, .int a4), (5, .int a5), (6, .int a6), (7, .int a7), (8, .int a8), (9, .int a9), (10, .int a10)] [] st r st' 7 := by
  intro k
  induction k with
  | zero => intro st a0 a3 a4 a5 a6 a7 a8 a9 a10 q h; cases h
  | succ k ih =>
    intro st a0 a3 a4 a5 a6 a7 a8 a9 a10 q h J
    unfold F_X11_like_L47 at h
    refine r_iload (x := a10) dX11_like_47 rfl ?_
    refine x_aload_n (o := a0) dX11_like_49 rfl ?_
    refine r_iload_n (x := a3) dX11_like_50 rfl ?_
    obtain ⟨q6, hq6, h⟩ := xb h
    obtain ⟨v5, hv5, h⟩ := xb h
    refine z_callV (as := [.int a3]) (o := a0) (r1 := (some (.int v5))) (stk := [.int a10]) (stk2 := [.int v5, .int a10]) (st1 := st) (d' := 1) dX11_like_51 xl_X11_153 hq6 (by decide) (Nat.le_trans (xsI xs0) (by decide)) rfl rfl (S_X11_gamesOf n st a0 a3 v5 hv5) ?_
    refine r_icmp_ge (tgt := 104) dX11_like_54 (by decide) (fun c => ?_) (fun c => ?_)
    · replace h := (if_pos c).symm.trans h
      obtain rfl := Option.some.inj h
      exact x_sub [0, 1, 2, 3, 4, 5, 6, 7] rfl J
    · replace h := (if_neg c).symm.trans h
      refine r_iload (x := a9) dX11_like_57 rfl ?_
      obtain ⟨q11, hq11, h⟩ := xb h
      have Jq11 : Rn mX11_like 96 [(0, va_rf a0), (3, .int a3), (4, .int a4), (5, .int a5), (6, .int a6), (7, .int a7), (8, .int a8), (10, .int a10)] [.int q11] st r st' 7 := by
        refine r_istore (lv' := [(9, .int q11), (0, va_rf a0), (3, .int a3), (4, .int a4), (5, .int a5), (6, .int a6), (7, .int a7), (8, .int a8), (10, .int a10)]) (x := q11) dX11_like_96 (by decide) rfl ?_
        obtain ⟨v12, hv12, h⟩ := xb h
        refine x_iinc (c := (1 : Int32)) (lv' := [(10, .int v12), (9, .int q11), (0, va_rf a0), (3, .int a3), (4, .int a4), (5, .int a5), (6, .int a6), (7, .int a7), (8, .int a8)]) (x := a10) (v := v12) dX11_like_98 rfl (by decide) (Option.some.inj hv12) (by decide) rfl ?_
        refine r_goto (tgt := 47) dX11_like_101 (by decide) ?_
        exact x_sub [2, 3, 4, 5, 6, 7, 8, 1, 0] rfl (ih st a0 a3 a4 a5 a6 a7 a8 q11 v12 q h J)
      refine r_if_eq (tgt := 95) dX11_like_59 (by decide) (fun c => ?_) (fun c => ?_)
      · replace hq11 := (if_pos c).symm.trans hq11
        refine r_iconst (v := (0 : Int32)) dX11_like_95 (by decide) ?_
        obtain rfl := Option.some.inj hq11
        exact x_sub [0, 1, 2, 3, 4, 5, 6, 8] rfl Jq11
      · replace hq11 := (if_neg c).symm.trans hq11
        refine x_aload_n (o := a0) dX11_like_62 rfl ?_
        refine r_iload (x := a5) dX11_like_63 rfl ?_
        refine r_iload (x := a6) dX11_like_65 rfl ?_
        refine r_iload_n (x := a3) dX11_like_67 rfl ?_
        refine r_iload (x := a10) dX11_like_68 rfl ?_
        refine r_iload (x := a4) dX11_like_70 rfl ?_
        obtain ⟨q8, hq8, hq11⟩ := xb hq11
        obtain ⟨v7, hv7, hq11⟩ := xb hq11
        refine z_callV (as := [.int a5, .int a6, .int a3, .int a10, .int a4]) (o := a0) (r1 := (some (.int v7))) (stk := []) (stk2 := [.int v7]) (st1 := st) (d' := 6) dX11_like_72 xl_X11_347 hq8 (by decide) (Nat.le_trans xs0 (by decide)) rfl rfl (S_X11_isAwake n st a0 a5 a6 a3 a10 a4 v7 hv7) ?_
        refine x_aload_n (o := a0) dX11_like_75 rfl ?_
        refine r_iload (x := a5) dX11_like_76 rfl ?_
        refine r_iload (x := a6) dX11_like_78 rfl ?_
        refine r_iload_n (x := a3) dX11_like_80 rfl ?_
        refine r_iload (x := a10) dX11_like_81 rfl ?_
        refine r_iload (x := a8) dX11_like_83 rfl ?_
        obtain ⟨q10, hq10, hq11⟩ := xb hq11
        obtain ⟨v9, hv9, hq11⟩ := xb hq11
        refine z_callV (as := [.int a5, .int a6, .int a3, .int a10, .int a8]) (o := a0) (r1 := (some (.int v9))) (stk := [.int v7]) (stk2 := [.int v9, .int v7]) (st1 := st) (d' := 6) dX11_like_85 xl_X11_347 hq10 (by decide) (Nat.le_trans (xsI xs0) (by decide)) rfl rfl (S_X11_isAwake n st a0 a5 a6 a3 a10 a8 v9 hv9) ?_
        refine r_icmp_ne (tgt := 95) dX11_like_88 (by decide) (fun c => ?_) (fun c => ?_)
        · replace hq11 := (if_neg c).symm.trans hq11
          refine r_iconst (v := (0 : Int32)) dX11_like_95 (by decide) ?_
          obtain rfl := Option.some.inj hq11
          exact x_sub [0, 1, 2, 3, 4, 5, 6, 8] rfl Jq11
        · replace hq11 := (if_pos c).symm.trans hq11
          refine r_iconst (v := (1 : Int32)) dX11_like_91 (by decide) ?_
          refine r_goto (tgt := 96) dX11_like_92 (by decide) ?_
          obtain rfl := Option.some.inj hq11
          exact x_sub [0, 1, 2, 3, 4, 5, 6, 8] rfl Jq11
theorem R_X11_like_L34 (n : Nat) {r : Option Value} {st' : xS} : ∀ (k : Nat) (st : xS) (a0 : Option Nat) (a3 : Int32) (a4 : Int32) (a5 : Int32) (a6 : Int32) (a7 : Int32) (a8 : Int32) (q : (Int32)), F_X11_like_L34 n k st a0 a3 a4 a5 a6 a7 a8 = some q → Rn mX11_like 128 [(7, .int q)] [] st r st' 7 → Rn mX11_like 34 [(0, va_rf a0), (3, .int a3), (4, .int a4), (5, .int a5), (6, .int a6), (7, .int a7), (8, .int a8)] [] st r st' 7 := by
  intro k
  induction k with
  | zero => intro st a0 a3 a4 a5 a6 a7 a8 q h; cases h
  | succ k ih =>
    intro st a0 a3 a4 a5 a6 a7 a8 q h J
    unfold F_X11_like_L34 at h
    refine r_iload (x := a8) dX11_like_34 rfl ?_
    refine r_bipush (v := (6 : Int32)) dX11_like_36 (by decide) ?_
    refine r_icmp_ge (tgt := 128) dX11_like_38 (by decide) (fun c => ?_) (fun c => ?_)
    · replace h := (if_pos c).symm.trans h
      obtain rfl := Option.some.inj h
      exact x_sub [5] rfl J
    · replace h := (if_neg c).symm.trans h
      refine r_iconst (v := (1 : Int32)) dX11_like_41 (by decide) ?_
      refine r_istore (lv' := [(9, .int (1 : Int32)), (0, va_rf a0), (3, .int a3), (4, .int a4), (5, .int a5), (6, .int a6), (7, .int a7), (8, .int a8)]) (x := (1 : Int32)) dX11_like_42 (by decide) rfl ?_
      refine r_iconst (v := (0 : Int32)) dX11_like_44 (by decide) ?_
      refine r_istore (lv' := [(10, .int (0 : Int32)), (9, .int (1 : Int32)), (0, va_rf a0), (3, .int a3), (4, .int a4), (5, .int a5), (6, .int a6), (7, .int a7), (8, .int a8)]) (x := (0 : Int32)) dX11_like_45 (by decide) rfl ?_
      obtain ⟨q13, hq13, h⟩ := xb h
      have Jq13 : Rn mX11_like 104 [(0, va_rf a0), (3, .int a3), (4, .int a4), (5, .int a5), (6, .int a6), (7, .int a7), (8, .int a8), (9, .int q13)] [] st r st' 7 := by
        refine r_iload (x := a7) dX11_like_104 rfl ?_
        refine r_iload (x := q13) dX11_like_106 rfl ?_
        obtain ⟨q14, hq14, h⟩ := xb h
        have Jq14 : Rn mX11_like 119 [(0, va_rf a0), (3, .int a3), (4, .int a4), (5, .int a5), (6, .int a6), (8, .int a8)] [.int q14, .int a7] st r st' 7 := by
          refine r_ior dX11_like_119 ?_
          obtain ⟨v15, hv15, h⟩ := xb h
          refine x_eqI (Option.some.inj hv15) ?_
          refine r_istore (lv' := [(7, .int v15), (0, va_rf a0), (3, .int a3), (4, .int a4), (5, .int a5), (6, .int a6), (8, .int a8)]) (x := v15) dX11_like_120 (by decide) rfl ?_
          obtain ⟨v16, hv16, h⟩ := xb h
          refine x_iinc (c := (1 : Int32)) (lv' := [(8, .int v16), (7, .int v15), (0, va_rf a0), (3, .int a3), (4, .int a4), (5, .int a5), (6, .int a6)]) (x := a8) (v := v16) dX11_like_122 rfl (by decide) (Option.some.inj hv16) (by decide) rfl ?_
          refine r_goto (tgt := 34) dX11_like_125 (by decide) ?_
          exact x_sub [2, 3, 4, 5, 6, 1, 0] rfl (ih st a0 a3 a4 a5 a6 v15 v16 q h J)
        refine r_if_eq (tgt := 118) dX11_like_108 (by decide) (fun c => ?_) (fun c => ?_)
        · replace hq14 := (if_pos c).symm.trans hq14
          refine r_iconst (v := (0 : Int32)) dX11_like_118 (by decide) ?_
          obtain rfl := Option.some.inj hq14
          exact x_sub [0, 1, 2, 3, 4, 6] rfl Jq14
        · replace hq14 := (if_neg c).symm.trans hq14
          refine r_iconst (v := (1 : Int32)) dX11_like_111 (by decide) ?_
          refine r_iload (x := a8) dX11_like_112 rfl ?_
          refine r_ishl dX11_like_114 ?_
          refine r_goto (tgt := 119) dX11_like_115 (by decide) ?_
          obtain rfl := Option.some.inj hq14
          exact x_sub [0, 1, 2, 3, 4, 6] rfl Jq14
      exact x_sub [2, 3, 4, 5, 6, 7, 8, 1, 0] rfl (R_X11_like_L47 n n st a0 a3 a4 a5 a6 a7 a8 (1 : Int32) (0 : Int32) q13 hq13 Jq13)
theorem R_X11_like (n : Nat) (st : xS) (a0 : Option Nat) (a1 : Int32) (a2 : Int32) (a3 : Int32) (a4 : Int32) (rv : Int32) (h : F_X11_like n st a0 a1 a2 a3 a4 = some rv) : Rn mX11_like 0 [(0, va_rf a0), (1, .int a1), (2, .int a2), (3, .int a3), (4, .int a4)] [] st (some (.int rv)) st 7 := by
  unfold F_X11_like at h
  refine x_aload_n (o := a0) dX11_like_0 rfl ?_
  refine r_iload_n (x := a1) dX11_like_1 rfl ?_
  refine r_iload_n (x := a2) dX11_like_2 rfl ?_
  refine r_iload_n (x := a3) dX11_like_3 rfl ?_
  refine r_iload (x := a4) dX11_like_4 rfl ?_
  obtain ⟨q2, hq2, h⟩ := xb h
  obtain ⟨v1, hv1, h⟩ := xb h
  refine z_callV (as := [.int a1, .int a2, .int a3, .int a4]) (o := a0) (r1 := (some (.int v1))) (stk := []) (stk2 := [.int v1]) (st1 := st) (d' := 3) dX11_like_6 xl_X11_344 hq2 (by decide) (Nat.le_trans xs0 (by decide)) rfl rfl (S_X11_isPart n st a0 a1 a2 a3 a4 v1 hv1) ?_
  refine r_if_ne (tgt := 14) dX11_like_9 (by decide) (fun c => ?_) (fun c => ?_)
  · replace h := (if_neg c).symm.trans h
    refine r_iconst (v := (0 : Int32)) dX11_like_14 (by decide) ?_
    refine r_iload_n (x := a1) dX11_like_15 rfl ?_
    obtain ⟨v3, hv3, h⟩ := xb h
    refine z_callS (as := [.int (0 : Int32), .int a1]) (r1 := (some (.int v3))) (stk := []) (stk2 := [.int v3]) (st1 := st) (d' := 0) dX11_like_16 xl_X11_150 (by decide) (Nat.le_trans xs0 (by decide)) rfl rfl (S_X11_placeOf n st (0 : Int32) a1 v3 hv3) ?_
    refine r_istore (lv' := [(5, .int v3), (0, va_rf a0), (1, .int a1), (2, .int a2), (3, .int a3), (4, .int a4)]) (x := v3) dX11_like_19 (by decide) rfl ?_
    refine r_iconst (v := (1 : Int32)) dX11_like_21 (by decide) ?_
    refine r_iload_n (x := a2) dX11_like_22 rfl ?_
    obtain ⟨v4, hv4, h⟩ := xb h
    refine z_callS (as := [.int (1 : Int32), .int a2]) (r1 := (some (.int v4))) (stk := []) (stk2 := [.int v4]) (st1 := st) (d' := 0) dX11_like_23 xl_X11_150 (by decide) (Nat.le_trans xs0 (by decide)) rfl rfl (S_X11_placeOf n st (1 : Int32) a2 v4 hv4) ?_
    refine r_istore (lv' := [(6, .int v4), (5, .int v3), (0, va_rf a0), (1, .int a1), (2, .int a2), (3, .int a3), (4, .int a4)]) (x := v4) dX11_like_26 (by decide) rfl ?_
    refine r_iconst (v := (0 : Int32)) dX11_like_28 (by decide) ?_
    refine r_istore (lv' := [(7, .int (0 : Int32)), (6, .int v4), (5, .int v3), (0, va_rf a0), (1, .int a1), (2, .int a2), (3, .int a3), (4, .int a4)]) (x := (0 : Int32)) dX11_like_29 (by decide) rfl ?_
    refine r_iconst (v := (0 : Int32)) dX11_like_31 (by decide) ?_
    refine r_istore (lv' := [(8, .int (0 : Int32)), (7, .int (0 : Int32)), (6, .int v4), (5, .int v3), (0, va_rf a0), (1, .int a1), (2, .int a2), (3, .int a3), (4, .int a4)]) (x := (0 : Int32)) dX11_like_32 (by decide) rfl ?_
    obtain ⟨q17, hq17, h⟩ := xb h
    have Jq17 : Rn mX11_like 128 [(7, .int q17)] [] st (some (.int rv)) st 7 := by
      refine r_iload (x := q17) dX11_like_128 rfl ?_
      obtain rfl := Option.some.inj h
      exact r_ireturn dX11_like_130 .int rfl rfl
    exact x_sub [4, 7, 8, 3, 2, 1, 0] rfl (R_X11_like_L34 n n st a0 a3 a4 v3 v4 (0 : Int32) (0 : Int32) q17 hq17 Jq17)
  · replace h := (if_pos c).symm.trans h
    refine r_iconst (v := (-1 : Int32)) dX11_like_12 (by decide) ?_
    obtain rfl := Option.some.inj h
    exact r_ireturn dX11_like_13 .int rfl rfl
theorem S_X11_like (n : Nat) (st : xS) (a0 : Option Nat) (a1 : Int32) (a2 : Int32) (a3 : Int32) (a4 : Int32) (rv : Int32) (h : F_X11_like n st a0 a1 a2 a3 a4 = some rv) : Ct mX11_like [va_rf a0, .int a1, .int a2, .int a3, .int a4] st (some (.int rv)) st 7 := by
  refine Ct.of (by decide) (by simp only [lgL_R, lgL_I, lgL_L, lgL_0]; decide) ?_
  try simp only [lvA_R]
  exact R_X11_like n st a0 a1 a2 a3 a4 rv h
theorem R_X11_wakes_L24 (n : Nat) {r : Option Value} {st' : xS} : ∀ (k : Nat) (st : xS) (a0 : Option Nat) (a1 : Int32) (a2 : Int32) (a3 : Int32) (a4 : Int32) (a5 : Int32) (q : (xS)), F_X11_wakes_L24 n k st a0 a1 a2 a3 a4 a5 = some q → Rn mX11_wakes 77 [(0, va_rf a0), (1, .int a1), (2, .int a2), (3, .int a3), (4, .int a4)] [] q r st' 7 → Rn mX11_wakes 24 [(0, va_rf a0), (1, .int a1), (2, .int a2), (3, .int a3), (4, .int a4), (5, .int a5)] [] st r st' 7 := by
  intro k
  induction k with
  | zero => intro st a0 a1 a2 a3 a4 a5 q h; cases h
  | succ k ih =>
    intro st a0 a1 a2 a3 a4 a5 q h J
    unfold F_X11_wakes_L24 at h
    refine r_iload (x := a5) dX11_wakes_24 rfl ?_
    refine r_bipush (v := (6 : Int32)) dX11_wakes_26 (by decide) ?_
    refine r_icmp_ge (tgt := 77) dX11_wakes_28 (by decide) (fun c => ?_) (fun c => ?_)
    · replace h := (if_pos c).symm.trans h
      obtain rfl := Option.some.inj h
      exact x_sub [0, 1, 2, 3, 4] rfl J
    · replace h := (if_neg c).symm.trans h
      refine x_aload_n (o := a0) dX11_wakes_31 rfl ?_
      obtain ⟨v5, hv5, h⟩ := xb h
      refine x_getR (o := a0) dX11_wakes_32 xf_X11_40 hv5 ?_
      refine r_iload (x := a4) dX11_wakes_35 rfl ?_
      refine r_dup2 dX11_wakes_37 rfl (xrf_cat _) ?_
      obtain ⟨v6, hv6, h⟩ := xb h
      refine x_iaload (o := v5) dX11_wakes_38 hv6 ?_
      refine x_aload_n (o := a0) dX11_wakes_39 rfl ?_
      refine r_iconst (v := (0 : Int32)) dX11_wakes_40 (by decide) ?_
      refine r_iload_n (x := a1) dX11_wakes_41 rfl ?_
      obtain ⟨v7, hv7, h⟩ := xb h
      refine z_callS (as := [.int (0 : Int32), .int a1]) (r1 := (some (.int v7))) (stk := [va_rf a0, .int v6, .int a4, va_rf v5]) (stk2 := [.int v7, va_rf a0, .int v6, .int a4, va_rf v5]) (st1 := st) (d' := 0) dX11_wakes_42 xl_X11_150 (by decide) (Nat.le_trans (xsA (xsI (xsI (xsA xs0)))) (by decide)) rfl rfl (S_X11_placeOf n st (0 : Int32) a1 v7 hv7) ?_
      refine r_iconst (v := (1 : Int32)) dX11_wakes_45 (by decide) ?_
      refine r_iload_n (x := a2) dX11_wakes_46 rfl ?_
      obtain ⟨v8, hv8, h⟩ := xb h
      refine z_callS (as := [.int (1 : Int32), .int a2]) (r1 := (some (.int v8))) (stk := [.int v7, va_rf a0, .int v6, .int a4, va_rf v5]) (stk2 := [.int v8, .int v7, va_rf a0, .int v6, .int a4, va_rf v5]) (st1 := st) (d' := 0) dX11_wakes_47 xl_X11_150 (by decide) (Nat.le_trans (xsI (xsA (xsI (xsI (xsA xs0))))) (by decide)) rfl rfl (S_X11_placeOf n st (1 : Int32) a2 v8 hv8) ?_
      refine r_iload_n (x := a3) dX11_wakes_50 rfl ?_
      refine r_iload (x := a4) dX11_wakes_51 rfl ?_
      refine r_iload (x := a5) dX11_wakes_53 rfl ?_
      obtain ⟨q10, hq10, h⟩ := xb h
      obtain ⟨v9, hv9, h⟩ := xb h
      refine z_callV (as := [.int v7, .int v8, .int a3, .int a4, .int a5]) (o := a0) (r1 := (some (.int v9))) (stk := [.int v6, .int a4, va_rf v5]) (stk2 := [.int v9, .int v6, .int a4, va_rf v5]) (st1 := st) (d' := 6) dX11_wakes_55 xl_X11_347 hq10 (by decide) (Nat.le_trans (xsI (xsI (xsA xs0))) (by decide)) rfl rfl (S_X11_isAwake n st a0 v7 v8 a3 a4 a5 v9 hv9) ?_
      obtain ⟨q11, hq11, h⟩ := xb h
      have Jq11 : Rn mX11_wakes 69 [(0, va_rf a0), (1, .int a1), (2, .int a2), (3, .int a3), (4, .int a4), (5, .int a5)] [.int q11, .int v6, .int a4, va_rf v5] st r st' 7 := by
        refine r_ior dX11_wakes_69 ?_
        obtain ⟨s12, hs12, h⟩ := xb h
        refine x_iastore (o := v5) dX11_wakes_70 hs12 ?_
        obtain ⟨v13, hv13, h⟩ := xb h
        refine x_iinc (c := (1 : Int32)) (lv' := [(5, .int v13), (0, va_rf a0), (1, .int a1), (2, .int a2), (3, .int a3), (4, .int a4)]) (x := a5) (v := v13) dX11_wakes_71 rfl (by decide) (Option.some.inj hv13) (by decide) rfl ?_
        refine r_goto (tgt := 24) dX11_wakes_74 (by decide) ?_
        exact x_sub [1, 2, 3, 4, 5, 0] rfl (ih s12 a0 a1 a2 a3 a4 v13 q h J)
      refine r_if_eq (tgt := 68) dX11_wakes_58 (by decide) (fun c => ?_) (fun c => ?_)
      · replace hq11 := (if_pos c).symm.trans hq11
        refine r_iconst (v := (0 : Int32)) dX11_wakes_68 (by decide) ?_
        obtain rfl := Option.some.inj hq11
        exact x_sub [0, 1, 2, 3, 4, 5] rfl Jq11
      · replace hq11 := (if_neg c).symm.trans hq11
        refine r_iconst (v := (1 : Int32)) dX11_wakes_61 (by decide) ?_
        refine r_iload (x := a5) dX11_wakes_62 rfl ?_
        refine r_ishl dX11_wakes_64 ?_
        refine r_goto (tgt := 69) dX11_wakes_65 (by decide) ?_
        obtain rfl := Option.some.inj hq11
        exact x_sub [0, 1, 2, 3, 4, 5] rfl Jq11
theorem R_X11_wakes_L3 (n : Nat) {r : Option Value} {st' : xS} : ∀ (k : Nat) (st : xS) (a0 : Option Nat) (a1 : Int32) (a2 : Int32) (a3 : Int32) (a4 : Int32) (q : (xS)), F_X11_wakes_L3 n k st a0 a1 a2 a3 a4 = some q → Rn mX11_wakes 83 [] [] q r st' 7 → Rn mX11_wakes 3 [(0, va_rf a0), (1, .int a1), (2, .int a2), (3, .int a3), (4, .int a4)] [] st r st' 7 := by
  intro k
  induction k with
  | zero => intro st a0 a1 a2 a3 a4 q h; cases h
  | succ k ih =>
    intro st a0 a1 a2 a3 a4 q h J
    unfold F_X11_wakes_L3 at h
    refine r_iload (x := a4) dX11_wakes_3 rfl ?_
    refine x_aload_n (o := a0) dX11_wakes_5 rfl ?_
    refine r_iload_n (x := a3) dX11_wakes_6 rfl ?_
    obtain ⟨q2, hq2, h⟩ := xb h
    obtain ⟨v1, hv1, h⟩ := xb h
    refine z_callV (as := [.int a3]) (o := a0) (r1 := (some (.int v1))) (stk := [.int a4]) (stk2 := [.int v1, .int a4]) (st1 := st) (d' := 1) dX11_wakes_7 xl_X11_153 hq2 (by decide) (Nat.le_trans (xsI xs0) (by decide)) rfl rfl (S_X11_gamesOf n st a0 a3 v1 hv1) ?_
    refine r_icmp_ge (tgt := 83) dX11_wakes_10 (by decide) (fun c => ?_) (fun c => ?_)
    · replace h := (if_pos c).symm.trans h
      obtain rfl := Option.some.inj h
      exact x_sub [] rfl J
    · replace h := (if_neg c).symm.trans h
      refine x_aload_n (o := a0) dX11_wakes_13 rfl ?_
      obtain ⟨v3, hv3, h⟩ := xb h
      refine x_getR (o := a0) dX11_wakes_14 xf_X11_40 hv3 ?_
      refine r_iload (x := a4) dX11_wakes_17 rfl ?_
      refine r_iconst (v := (0 : Int32)) dX11_wakes_19 (by decide) ?_
      obtain ⟨s4, hs4, h⟩ := xb h
      refine x_iastore (o := v3) dX11_wakes_20 hs4 ?_
      refine r_iconst (v := (0 : Int32)) dX11_wakes_21 (by decide) ?_
      refine r_istore (lv' := [(5, .int (0 : Int32)), (0, va_rf a0), (1, .int a1), (2, .int a2), (3, .int a3), (4, .int a4)]) (x := (0 : Int32)) dX11_wakes_22 (by decide) rfl ?_
      obtain ⟨q14, hq14, h⟩ := xb h
      have Jq14 : Rn mX11_wakes 77 [(0, va_rf a0), (1, .int a1), (2, .int a2), (3, .int a3), (4, .int a4)] [] q14 r st' 7 := by
        obtain ⟨v15, hv15, h⟩ := xb h
        refine x_iinc (c := (1 : Int32)) (lv' := [(4, .int v15), (0, va_rf a0), (1, .int a1), (2, .int a2), (3, .int a3)]) (x := a4) (v := v15) dX11_wakes_77 rfl (by decide) (Option.some.inj hv15) (by decide) rfl ?_
        refine r_goto (tgt := 3) dX11_wakes_80 (by decide) ?_
        exact x_sub [1, 2, 3, 4, 0] rfl (ih q14 a0 a1 a2 a3 v15 q h J)
      exact x_sub [1, 2, 3, 4, 5, 0] rfl (R_X11_wakes_L24 n n s4 a0 a1 a2 a3 a4 (0 : Int32) q14 hq14 Jq14)
theorem R_X11_wakes (n : Nat) (st : xS) (a0 : Option Nat) (a1 : Int32) (a2 : Int32) (a3 : Int32) (st' : xS) (h : F_X11_wakes n st a0 a1 a2 a3 = some st') : Rn mX11_wakes 0 [(0, va_rf a0), (1, .int a1), (2, .int a2), (3, .int a3)] [] st none st' 7 := by
  unfold F_X11_wakes at h
  refine r_iconst (v := (0 : Int32)) dX11_wakes_0 (by decide) ?_
  refine r_istore (lv' := [(4, .int (0 : Int32)), (0, va_rf a0), (1, .int a1), (2, .int a2), (3, .int a3)]) (x := (0 : Int32)) dX11_wakes_1 (by decide) rfl ?_
  obtain ⟨q16, hq16, h⟩ := xb h
  have Jq16 : Rn mX11_wakes 83 [] [] q16 none st' 7 := by
    obtain rfl := Option.some.inj h
    exact r_return dX11_wakes_83 rfl
  exact x_sub [1, 2, 3, 4, 0] rfl (R_X11_wakes_L3 n n st a0 a1 a2 a3 (0 : Int32) q16 hq16 Jq16)
theorem S_X11_wakes (n : Nat) (st : xS) (a0 : Option Nat) (a1 : Int32) (a2 : Int32) (a3 : Int32) (st' : xS) (h : F_X11_wakes n st a0 a1 a2 a3 = some st') : Ct mX11_wakes [va_rf a0, .int a1, .int a2, .int a3] st none st' 7 := by
  refine Ct.of (by decide) (by simp only [lgL_R, lgL_I, lgL_L, lgL_0]; decide) ?_
  try simp only [lvA_R]
  exact R_X11_wakes n st a0 a1 a2 a3 st' h
theorem R_X11_single_L40 (n : Nat) {r : Option Value} {st' : xS} : ∀ (k : Nat) (st : xS) (a0 : Option Nat) (a3 : Int32) (a4 : Int32) (a5 : Int32) (a6 : Int32) (a7 : Int32) (q : (Int32)), F_X11_single_L40 n k st a0 a3 a4 a5 a6 a7 = some q → Rn mX11_single 85 [(0, va_rf a0), (3, .int a3), (4, .int a4), (5, .int q), (6, .int a6)] [] st r st' 8 → Rn mX11_single 40 [(0, va_rf a0), (3, .int a3), (4, .int a4), (5, .int a5), (6, .int a6), (7, .int a7)] [] st r st' 8 := by
  intro k
  induction k with
  | zero => intro st a0 a3 a4 a5 a6 a7 q h; cases h
  | succ k ih =>
    intro st a0 a3 a4 a5 a6 a7 q h J
    unfold F_X11_single_L40 at h
    refine r_iload (x := a7) dX11_single_40 rfl ?_
    refine r_iload (x := a6) dX11_single_42 rfl ?_
    refine r_icmp_ge (tgt := 85) dX11_single_44 (by decide) (fun c => ?_) (fun c => ?_)
    · replace h := (if_pos c).symm.trans h
      obtain rfl := Option.some.inj h
      exact x_sub [0, 1, 2, 3, 4] rfl J
    · replace h := (if_neg c).symm.trans h
      refine r_iload (x := a5) dX11_single_47 rfl ?_
      refine x_aload_n (o := a0) dX11_single_49 rfl ?_
      obtain ⟨v7, hv7, h⟩ := xb h
      refine x_getR (o := a0) dX11_single_50 xf_X11_40 hv7 ?_
      refine r_iload (x := a6) dX11_single_53 rfl ?_
      obtain ⟨v8, hv8, h⟩ := xb h
      refine x_iaload (o := v7) dX11_single_55 hv8 ?_
      refine x_aload_n (o := a0) dX11_single_56 rfl ?_
      obtain ⟨v9, hv9, h⟩ := xb h
      refine x_getR (o := a0) dX11_single_57 xf_X11_40 hv9 ?_
      refine r_iload (x := a7) dX11_single_60 rfl ?_
      obtain ⟨v10, hv10, h⟩ := xb h
      refine x_iaload (o := v9) dX11_single_62 hv10 ?_
      refine r_ixor dX11_single_63 ?_
      refine r_iconst (v := (1 : Int32)) dX11_single_64 (by decide) ?_
      refine r_iload (x := a4) dX11_single_65 rfl ?_
      refine r_ishl dX11_single_67 ?_
      obtain ⟨q11, hq11, h⟩ := xb h
      have Jq11 : Rn mX11_single 76 [(0, va_rf a0), (3, .int a3), (4, .int a4), (6, .int a6), (7, .int a7)] [.int q11, .int a5] st r st' 8 := by
        refine r_iadd dX11_single_76 ?_
        obtain ⟨v12, hv12, h⟩ := xb h
        refine x_eqI (Option.some.inj hv12) ?_
        refine r_istore (lv' := [(5, .int v12), (0, va_rf a0), (3, .int a3), (4, .int a4), (6, .int a6), (7, .int a7)]) (x := v12) dX11_single_77 (by decide) rfl ?_
        obtain ⟨v13, hv13, h⟩ := xb h
        refine x_iinc (c := (1 : Int32)) (lv' := [(7, .int v13), (5, .int v12), (0, va_rf a0), (3, .int a3), (4, .int a4), (6, .int a6)]) (x := a7) (v := v13) dX11_single_79 rfl (by decide) (Option.some.inj hv13) (by decide) rfl ?_
        refine r_goto (tgt := 40) dX11_single_82 (by decide) ?_
        exact x_sub [2, 3, 4, 1, 5, 0] rfl (ih st a0 a3 a4 v12 a6 v13 q h J)
      refine r_icmp_ne (tgt := 75) dX11_single_68 (by decide) (fun c => ?_) (fun c => ?_)
      · replace hq11 := (if_neg c).symm.trans hq11
        refine r_iconst (v := (0 : Int32)) dX11_single_75 (by decide) ?_
        obtain rfl := Option.some.inj hq11
        exact x_sub [0, 1, 2, 4, 5] rfl Jq11
      · replace hq11 := (if_pos c).symm.trans hq11
        refine r_iconst (v := (1 : Int32)) dX11_single_71 (by decide) ?_
        refine r_goto (tgt := 76) dX11_single_72 (by decide) ?_
        obtain rfl := Option.some.inj hq11
        exact x_sub [0, 1, 2, 4, 5] rfl Jq11
theorem R_X11_single_L27 (n : Nat) {r : Option Value} {st' : xS} : ∀ (k : Nat) (st : xS) (a0 : Option Nat) (a3 : Int32) (a4 : Int32) (a5 : Int32) (a6 : Int32) (q : (Int32)), F_X11_single_L27 n k st a0 a3 a4 a5 a6 = some q → Rn mX11_single 91 [(5, .int q)] [] st r st' 8 → Rn mX11_single 27 [(0, va_rf a0), (3, .int a3), (4, .int a4), (5, .int a5), (6, .int a6)] [] st r st' 8 := by
  intro k
  induction k with
  | zero => intro st a0 a3 a4 a5 a6 q h; cases h
  | succ k ih =>
    intro st a0 a3 a4 a5 a6 q h J
    unfold F_X11_single_L27 at h
    refine r_iload (x := a6) dX11_single_27 rfl ?_
    refine x_aload_n (o := a0) dX11_single_29 rfl ?_
    refine r_iload_n (x := a3) dX11_single_30 rfl ?_
    obtain ⟨q6, hq6, h⟩ := xb h
    obtain ⟨v5, hv5, h⟩ := xb h
    refine z_callV (as := [.int a3]) (o := a0) (r1 := (some (.int v5))) (stk := [.int a6]) (stk2 := [.int v5, .int a6]) (st1 := st) (d' := 1) dX11_single_31 xl_X11_153 hq6 (by decide) (Nat.le_trans (xsI xs0) (by decide)) rfl rfl (S_X11_gamesOf n st a0 a3 v5 hv5) ?_
    refine r_icmp_ge (tgt := 91) dX11_single_34 (by decide) (fun c => ?_) (fun c => ?_)
    · replace h := (if_pos c).symm.trans h
      obtain rfl := Option.some.inj h
      exact x_sub [3] rfl J
    · replace h := (if_neg c).symm.trans h
      refine r_iconst (v := (0 : Int32)) dX11_single_37 (by decide) ?_
      refine r_istore (lv' := [(7, .int (0 : Int32)), (0, va_rf a0), (3, .int a3), (4, .int a4), (5, .int a5), (6, .int a6)]) (x := (0 : Int32)) dX11_single_38 (by decide) rfl ?_
      obtain ⟨q14, hq14, h⟩ := xb h
      have Jq14 : Rn mX11_single 85 [(0, va_rf a0), (3, .int a3), (4, .int a4), (5, .int q14), (6, .int a6)] [] st r st' 8 := by
        obtain ⟨v15, hv15, h⟩ := xb h
        refine x_iinc (c := (1 : Int32)) (lv' := [(6, .int v15), (0, va_rf a0), (3, .int a3), (4, .int a4), (5, .int q14)]) (x := a6) (v := v15) dX11_single_85 rfl (by decide) (Option.some.inj hv15) (by decide) rfl ?_
        refine r_goto (tgt := 27) dX11_single_88 (by decide) ?_
        exact x_sub [1, 2, 3, 4, 0] rfl (ih st a0 a3 a4 q14 v15 q h J)
      exact x_sub [1, 2, 3, 4, 5, 0] rfl (R_X11_single_L40 n n st a0 a3 a4 a5 a6 (0 : Int32) q14 hq14 Jq14)
theorem R_X11_single (n : Nat) (st : xS) (a0 : Option Nat) (a1 : Int32) (a2 : Int32) (a3 : Int32) (a4 : Int32) (rv : Int32) (st' : xS) (h : F_X11_single n st a0 a1 a2 a3 a4 = some (rv, st')) : Rn mX11_single 0 [(0, va_rf a0), (1, .int a1), (2, .int a2), (3, .int a3), (4, .int a4)] [] st (some (.int rv)) st' 8 := by
  unfold F_X11_single at h
  refine x_aload_n (o := a0) dX11_single_0 rfl ?_
  refine r_iload_n (x := a1) dX11_single_1 rfl ?_
  refine r_iload_n (x := a2) dX11_single_2 rfl ?_
  refine r_iload_n (x := a3) dX11_single_3 rfl ?_
  refine r_iload (x := a4) dX11_single_4 rfl ?_
  obtain ⟨q2, hq2, h⟩ := xb h
  obtain ⟨v1, hv1, h⟩ := xb h
  refine z_callV (as := [.int a1, .int a2, .int a3, .int a4]) (o := a0) (r1 := (some (.int v1))) (stk := []) (stk2 := [.int v1]) (st1 := st) (d' := 3) dX11_single_6 xl_X11_344 hq2 (by decide) (Nat.le_trans xs0 (by decide)) rfl rfl (S_X11_isPart n st a0 a1 a2 a3 a4 v1 hv1) ?_
  refine r_if_ne (tgt := 14) dX11_single_9 (by decide) (fun c => ?_) (fun c => ?_)
  · replace h := (if_neg c).symm.trans h
    refine x_aload_n (o := a0) dX11_single_14 rfl ?_
    refine r_iload_n (x := a1) dX11_single_15 rfl ?_
    refine r_iload_n (x := a2) dX11_single_16 rfl ?_
    refine r_iload_n (x := a3) dX11_single_17 rfl ?_
    obtain ⟨q4, hq4, h⟩ := xb h
    obtain ⟨s3, hs3, h⟩ := xb h
    refine z_callV (as := [.int a1, .int a2, .int a3]) (o := a0) (r1 := none) (stk := []) (stk2 := []) (st1 := s3) (d' := 7) dX11_single_18 xl_X11_351 hq4 (by decide) (Nat.le_trans xs0 (by decide)) rfl rfl (S_X11_wakes n st a0 a1 a2 a3 s3 hs3) ?_
    refine r_iconst (v := (0 : Int32)) dX11_single_21 (by decide) ?_
    refine r_istore (lv' := [(5, .int (0 : Int32)), (0, va_rf a0), (1, .int a1), (2, .int a2), (3, .int a3), (4, .int a4)]) (x := (0 : Int32)) dX11_single_22 (by decide) rfl ?_
    refine r_iconst (v := (0 : Int32)) dX11_single_24 (by decide) ?_
    refine r_istore (lv' := [(6, .int (0 : Int32)), (5, .int (0 : Int32)), (0, va_rf a0), (1, .int a1), (2, .int a2), (3, .int a3), (4, .int a4)]) (x := (0 : Int32)) dX11_single_25 (by decide) rfl ?_
    obtain ⟨q16, hq16, h⟩ := xb h
    have Jq16 : Rn mX11_single 91 [(5, .int q16)] [] s3 (some (.int rv)) st' 8 := by
      refine r_iload (x := q16) dX11_single_91 rfl ?_
      obtain ⟨rfl, rfl⟩ := Prod.mk.inj (Option.some.inj h)
      exact r_ireturn dX11_single_93 .int rfl rfl
    exact x_sub [2, 5, 6, 1, 0] rfl (R_X11_single_L27 n n s3 a0 a3 a4 (0 : Int32) (0 : Int32) q16 hq16 Jq16)
  · replace h := (if_pos c).symm.trans h
    refine r_iconst (v := (-1 : Int32)) dX11_single_12 (by decide) ?_
    obtain ⟨rfl, rfl⟩ := Prod.mk.inj (Option.some.inj h)
    exact r_ireturn dX11_single_13 .int rfl rfl
theorem S_X11_single (n : Nat) (st : xS) (a0 : Option Nat) (a1 : Int32) (a2 : Int32) (a3 : Int32) (a4 : Int32) (rv : Int32) (st' : xS) (h : F_X11_single n st a0 a1 a2 a3 a4 = some (rv, st')) : Ct mX11_single [va_rf a0, .int a1, .int a2, .int a3, .int a4] st (some (.int rv)) st' 8 := by
  refine Ct.of (by decide) (by simp only [lgL_R, lgL_I, lgL_L, lgL_0]; decide) ?_
  try simp only [lvA_R]
  exact R_X11_single n st a0 a1 a2 a3 a4 rv st' h
theorem R_X11_felt_L69 (n : Nat) {r : Option Value} {st' : xS} : ∀ (k : Nat) (st : xS) (a0 : Option Nat) (a3 : Int32) (a4 : Int32) (a6 : Int32) (a7 : Int32) (a8 : Int32) (a9 : Int32) (a10 : Int32) (q : (Int32 × Int32)), F_X11_felt_L69 n k st a0 a3 a4 a6 a7 a8 a9 a10 = some q → Rn mX11_felt 156 [(0, va_rf a0), (3, .int a3), (4, .int a4), (6, .int a6), (7, .int q.1), (8, .int q.2), (9, .int a9)] [] st r st' 8 → Rn mX11_felt 69 [(0, va_rf a0), (3, .int a3), (4, .int a4), (6, .int a6), (7, .int a7), (8, .int a8), (9, .int a9), (10, .int a10)] [] st r st' 8 := by
  intro k
  induction k with
  | zero => intro st a0 a3 a4 a6 a7 a8 a9 a10 q h; cases h
  | succ k ih =>
    intro st a0 a3 a4 a6 a7 a8 a9 a10 q h J
    unfold F_X11_felt_L69 at h
    refine r_iload (x := a10) dX11_felt_69 rfl ?_
    refine x_aload_n (o := a0) dX11_felt_71 rfl ?_
    refine r_iload_n (x := a3) dX11_felt_72 rfl ?_
    obtain ⟨q13, hq13, h⟩ := xb h
    obtain ⟨v12, hv12, h⟩ := xb h
    refine z_callV (as := [.int a3]) (o := a0) (r1 := (some (.int v12))) (stk := [.int a10]) (stk2 := [.int v12, .int a10]) (st1 := st) (d' := 1) dX11_felt_73 xl_X11_153 hq13 (by decide) (Nat.le_trans (xsI xs0) (by decide)) rfl rfl (S_X11_gamesOf n st a0 a3 v12 hv12) ?_
    refine r_icmp_ge (tgt := 156) dX11_felt_76 (by decide) (fun c => ?_) (fun c => ?_)
    · replace h := (if_pos c).symm.trans h
      obtain rfl := Option.some.inj h
      exact x_sub [0, 1, 2, 3, 4, 5, 6] rfl J
    · replace h := (if_neg c).symm.trans h
      refine x_aload_n (o := a0) dX11_felt_79 rfl ?_
      obtain ⟨v14, hv14, h⟩ := xb h
      refine x_getR (o := a0) dX11_felt_80 xf_X11_40 hv14 ?_
      refine r_iload (x := a9) dX11_felt_83 rfl ?_
      obtain ⟨v15, hv15, h⟩ := xb h
      refine x_iaload (o := v14) dX11_felt_85 hv15 ?_
      refine x_aload_n (o := a0) dX11_felt_86 rfl ?_
      obtain ⟨v16, hv16, h⟩ := xb h
      refine x_getR (o := a0) dX11_felt_87 xf_X11_40 hv16 ?_
      refine r_iload (x := a10) dX11_felt_90 rfl ?_
      obtain ⟨v17, hv17, h⟩ := xb h
      refine x_iaload (o := v16) dX11_felt_92 hv17 ?_
      refine r_ixor dX11_felt_93 ?_
      refine r_iconst (v := (1 : Int32)) dX11_felt_94 (by decide) ?_
      refine r_iload (x := a4) dX11_felt_95 rfl ?_
      refine r_ishl dX11_felt_97 ?_
      obtain ⟨q30, hq30, h⟩ := xb h
      have Jq30 : Rn mX11_felt 150 [(0, va_rf a0), (3, .int a3), (4, .int a4), (6, .int a6), (7, .int q30.1), (8, .int q30.2), (9, .int a9), (10, .int a10)] [] st r st' 8 := by
        obtain ⟨v31, hv31, h⟩ := xb h
        refine x_iinc (c := (1 : Int32)) (lv' := [(10, .int v31), (0, va_rf a0), (3, .int a3), (4, .int a4), (6, .int a6), (7, .int q30.1), (8, .int q30.2), (9, .int a9)]) (x := a10) (v := v31) dX11_felt_150 rfl (by decide) (Option.some.inj hv31) (by decide) rfl ?_
        refine r_goto (tgt := 69) dX11_felt_153 (by decide) ?_
        exact x_sub [1, 2, 3, 4, 5, 6, 7, 0] rfl (ih st a0 a3 a4 a6 q30.1 q30.2 a9 v31 q h J)
      refine r_icmp_ne (tgt := 150) dX11_felt_98 (by decide) (fun c => ?_) (fun c => ?_)
      · replace hq30 := (if_neg c).symm.trans hq30
        obtain rfl := Option.some.inj hq30
        exact x_sub [0, 1, 2, 3, 4, 5, 6, 7] rfl Jq30
      · replace hq30 := (if_pos c).symm.trans hq30
        refine x_aload_n (o := a0) dX11_felt_101 rfl ?_
        obtain ⟨v18, hv18, hq30⟩ := xb hq30
        refine x_getR (o := a0) dX11_felt_102 xf_X11_40 hv18 ?_
        refine r_iload (x := a9) dX11_felt_105 rfl ?_
        obtain ⟨v19, hv19, hq30⟩ := xb hq30
        refine x_iaload (o := v18) dX11_felt_107 hv19 ?_
        refine r_iload (x := a4) dX11_felt_108 rfl ?_
        refine r_ishr dX11_felt_110 ?_
        refine r_iconst (v := (1 : Int32)) dX11_felt_111 (by decide) ?_
        refine r_iand dX11_felt_112 ?_
        refine r_if_ne (tgt := 119) dX11_felt_113 (by decide) (fun c => ?_) (fun c => ?_)
        · replace hq30 := (if_neg c).symm.trans hq30
          obtain ⟨v20, hv20, hq30⟩ := xb hq30
          refine x_iinc (c := (1 : Int32)) (lv' := [(7, .int v20), (0, va_rf a0), (3, .int a3), (4, .int a4), (6, .int a6), (8, .int a8), (9, .int a9), (10, .int a10)]) (x := a7) (v := v20) dX11_felt_119 rfl (by decide) (Option.some.inj hv20) (by decide) rfl ?_
          refine r_iload (x := a8) dX11_felt_122 rfl ?_
          refine x_aload_n (o := a0) dX11_felt_124 rfl ?_
          refine x_aload_n (o := a0) dX11_felt_125 rfl ?_
          obtain ⟨v21, hv21, hq30⟩ := xb hq30
          refine x_getR (o := a0) dX11_felt_126 xf_X11_37 hv21 ?_
          refine r_iload (x := a9) dX11_felt_129 rfl ?_
          obtain ⟨v22, hv22, hq30⟩ := xb hq30
          refine x_iaload (o := v21) dX11_felt_131 hv22 ?_
          obtain ⟨q24, hq24, hq30⟩ := xb hq30
          obtain ⟨v23, hv23, hq30⟩ := xb hq30
          refine z_callV (as := [.int v22]) (o := a0) (r1 := (some (.int v23))) (stk := [.int a8]) (stk2 := [.int v23, .int a8]) (st1 := st) (d' := 1) dX11_felt_132 xl_X11_232 hq24 (by decide) (Nat.le_trans (xsI xs0) (by decide)) rfl rfl (S_X11_marginOf n st a0 v22 v23 hv23) ?_
          refine x_aload_n (o := a0) dX11_felt_135 rfl ?_
          refine x_aload_n (o := a0) dX11_felt_136 rfl ?_
          obtain ⟨v25, hv25, hq30⟩ := xb hq30
          refine x_getR (o := a0) dX11_felt_137 xf_X11_37 hv25 ?_
          refine r_iload (x := a10) dX11_felt_140 rfl ?_
          obtain ⟨v26, hv26, hq30⟩ := xb hq30
          refine x_iaload (o := v25) dX11_felt_142 hv26 ?_
          obtain ⟨q28, hq28, hq30⟩ := xb hq30
          obtain ⟨v27, hv27, hq30⟩ := xb hq30
          refine z_callV (as := [.int v26]) (o := a0) (r1 := (some (.int v27))) (stk := [.int v23, .int a8]) (stk2 := [.int v27, .int v23, .int a8]) (st1 := st) (d' := 1) dX11_felt_143 xl_X11_232 hq28 (by decide) (Nat.le_trans (xsI (xsI xs0)) (by decide)) rfl rfl (S_X11_marginOf n st a0 v26 v27 hv27) ?_
          refine r_isub dX11_felt_146 ?_
          refine r_iadd dX11_felt_147 ?_
          obtain ⟨v29, hv29, hq30⟩ := xb hq30
          refine x_eqI (Option.some.inj hv29) ?_
          refine r_istore (lv' := [(8, .int v29), (7, .int v20), (0, va_rf a0), (3, .int a3), (4, .int a4), (6, .int a6), (9, .int a9), (10, .int a10)]) (x := v29) dX11_felt_148 (by decide) rfl ?_
          obtain rfl := Option.some.inj hq30
          exact x_sub [2, 3, 4, 5, 1, 0, 6, 7] rfl Jq30
        · replace hq30 := (if_pos c).symm.trans hq30
          refine r_goto (tgt := 150) dX11_felt_116 (by decide) ?_
          obtain rfl := Option.some.inj hq30
          exact x_sub [0, 1, 2, 3, 4, 5, 6, 7] rfl Jq30
theorem R_X11_felt_L56 (n : Nat) {r : Option Value} {st' : xS} : ∀ (k : Nat) (st : xS) (a0 : Option Nat) (a3 : Int32) (a4 : Int32) (a6 : Int32) (a7 : Int32) (a8 : Int32) (a9 : Int32) (q : (Int32 × Int32)), F_X11_felt_L56 n k st a0 a3 a4 a6 a7 a8 a9 = some q → Rn mX11_felt 162 [(6, .int a6), (7, .int q.1), (8, .int q.2)] [] st r st' 8 → Rn mX11_felt 56 [(0, va_rf a0), (3, .int a3), (4, .int a4), (6, .int a6), (7, .int a7), (8, .int a8), (9, .int a9)] [] st r st' 8 := by
  intro k
  induction k with
  | zero => intro st a0 a3 a4 a6 a7 a8 a9 q h; cases h
  | succ k ih =>
    intro st a0 a3 a4 a6 a7 a8 a9 q h J
    unfold F_X11_felt_L56 at h
    refine r_iload (x := a9) dX11_felt_56 rfl ?_
    refine x_aload_n (o := a0) dX11_felt_58 rfl ?_
    refine r_iload_n (x := a3) dX11_felt_59 rfl ?_
    obtain ⟨q11, hq11, h⟩ := xb h
    obtain ⟨v10, hv10, h⟩ := xb h
    refine z_callV (as := [.int a3]) (o := a0) (r1 := (some (.int v10))) (stk := [.int a9]) (stk2 := [.int v10, .int a9]) (st1 := st) (d' := 1) dX11_felt_60 xl_X11_153 hq11 (by decide) (Nat.le_trans (xsI xs0) (by decide)) rfl rfl (S_X11_gamesOf n st a0 a3 v10 hv10) ?_
    refine r_icmp_ge (tgt := 162) dX11_felt_63 (by decide) (fun c => ?_) (fun c => ?_)
    · replace h := (if_pos c).symm.trans h
      obtain rfl := Option.some.inj h
      exact x_sub [3, 4, 5] rfl J
    · replace h := (if_neg c).symm.trans h
      refine r_iconst (v := (0 : Int32)) dX11_felt_66 (by decide) ?_
      refine r_istore (lv' := [(10, .int (0 : Int32)), (0, va_rf a0), (3, .int a3), (4, .int a4), (6, .int a6), (7, .int a7), (8, .int a8), (9, .int a9)]) (x := (0 : Int32)) dX11_felt_67 (by decide) rfl ?_
      obtain ⟨q32, hq32, h⟩ := xb h
      have Jq32 : Rn mX11_felt 156 [(0, va_rf a0), (3, .int a3), (4, .int a4), (6, .int a6), (7, .int q32.1), (8, .int q32.2), (9, .int a9)] [] st r st' 8 := by
        obtain ⟨v33, hv33, h⟩ := xb h
        refine x_iinc (c := (1 : Int32)) (lv' := [(9, .int v33), (0, va_rf a0), (3, .int a3), (4, .int a4), (6, .int a6), (7, .int q32.1), (8, .int q32.2)]) (x := a9) (v := v33) dX11_felt_156 rfl (by decide) (Option.some.inj hv33) (by decide) rfl ?_
        refine r_goto (tgt := 56) dX11_felt_159 (by decide) ?_
        exact x_sub [1, 2, 3, 4, 5, 6, 0] rfl (ih st a0 a3 a4 a6 q32.1 q32.2 v33 q h J)
      exact x_sub [1, 2, 3, 4, 5, 6, 7, 0] rfl (R_X11_felt_L69 n n st a0 a3 a4 a6 a7 a8 a9 (0 : Int32) q32 hq32 Jq32)
theorem R_X11_felt (n : Nat) (st : xS) (a0 : Option Nat) (a1 : Int32) (a2 : Int32) (a3 : Int32) (a4 : Int32) (a5 : Int32) (a6 : Int32) (rv : Int32) (st' : xS) (h : F_X11_felt n st a0 a1 a2 a3 a4 a5 a6 = some (rv, st')) : Rn mX11_felt 0 [(0, va_rf a0), (1, .int a1), (2, .int a2), (3, .int a3), (4, .int a4), (5, .int a5), (6, .int a6)] [] st (some (.int rv)) st' 8 := by
  unfold F_X11_felt at h
  refine x_aload_n (o := a0) dX11_felt_0 rfl ?_
  refine r_iload_n (x := a1) dX11_felt_1 rfl ?_
  refine r_iload_n (x := a2) dX11_felt_2 rfl ?_
  refine r_iload_n (x := a3) dX11_felt_3 rfl ?_
  refine r_iload (x := a4) dX11_felt_4 rfl ?_
  obtain ⟨q2, hq2, h⟩ := xb h
  obtain ⟨v1, hv1, h⟩ := xb h
  refine z_callV (as := [.int a1, .int a2, .int a3, .int a4]) (o := a0) (r1 := (some (.int v1))) (stk := []) (stk2 := [.int v1]) (st1 := st) (d' := 3) dX11_felt_6 xl_X11_344 hq2 (by decide) (Nat.le_trans xs0 (by decide)) rfl rfl (S_X11_isPart n st a0 a1 a2 a3 a4 v1 hv1) ?_
  refine r_if_ne (tgt := 16) dX11_felt_9 (by decide) (fun c => ?_) (fun c => ?_)
  · replace h := (if_neg c).symm.trans h
    refine x_aload_n (o := a0) dX11_felt_16 rfl ?_
    refine r_iload (x := a5) dX11_felt_17 rfl ?_
    refine r_iload (x := a5) dX11_felt_19 rfl ?_
    obtain ⟨q4, hq4, h⟩ := xb h
    obtain ⟨s3, hs3, h⟩ := xb h
    refine z_callV (as := [.int a5, .int a5]) (o := a0) (r1 := none) (stk := []) (stk2 := []) (st1 := s3) (d' := 2) dX11_felt_21 xl_X11_323 hq4 (by decide) (Nat.le_trans xs0 (by decide)) rfl rfl (S_X11_orders n st a0 a5 a5 s3 hs3) ?_
    refine x_aload_n (o := a0) dX11_felt_24 rfl ?_
    obtain ⟨v5, hv5, h⟩ := xb h
    refine x_getI (o := a0) dX11_felt_25 xf_X11_320 hv5 ?_
    refine x_aload_n (o := a0) dX11_felt_28 rfl ?_
    refine r_iload_n (x := a3) dX11_felt_29 rfl ?_
    obtain ⟨q7, hq7, h⟩ := xb h
    obtain ⟨v6, hv6, h⟩ := xb h
    refine z_callV (as := [.int a3]) (o := a0) (r1 := (some (.int v6))) (stk := [.int v5]) (stk2 := [.int v6, .int v5]) (st1 := s3) (d' := 1) dX11_felt_30 xl_X11_153 hq7 (by decide) (Nat.le_trans (xsI xs0) (by decide)) rfl rfl (S_X11_gamesOf n s3 a0 a3 v6 hv6) ?_
    refine r_icmp_ge (tgt := 40) dX11_felt_33 (by decide) (fun c => ?_) (fun c => ?_)
    · replace h := (if_pos c).symm.trans h
      refine x_aload_n (o := a0) dX11_felt_40 rfl ?_
      refine r_iload_n (x := a1) dX11_felt_41 rfl ?_
      refine r_iload_n (x := a2) dX11_felt_42 rfl ?_
      refine r_iload_n (x := a3) dX11_felt_43 rfl ?_
      obtain ⟨q9, hq9, h⟩ := xb h
      obtain ⟨s8, hs8, h⟩ := xb h
      refine z_callV (as := [.int a1, .int a2, .int a3]) (o := a0) (r1 := none) (stk := []) (stk2 := []) (st1 := s8) (d' := 7) dX11_felt_44 xl_X11_351 hq9 (by decide) (Nat.le_trans xs0 (by decide)) rfl rfl (S_X11_wakes n s3 a0 a1 a2 a3 s8 hs8) ?_
      refine r_iconst (v := (0 : Int32)) dX11_felt_47 (by decide) ?_
      refine r_istore (lv' := [(7, .int (0 : Int32)), (0, va_rf a0), (1, .int a1), (2, .int a2), (3, .int a3), (4, .int a4), (5, .int a5), (6, .int a6)]) (x := (0 : Int32)) dX11_felt_48 (by decide) rfl ?_
      refine r_iconst (v := (0 : Int32)) dX11_felt_50 (by decide) ?_
      refine r_istore (lv' := [(8, .int (0 : Int32)), (7, .int (0 : Int32)), (0, va_rf a0), (1, .int a1), (2, .int a2), (3, .int a3), (4, .int a4), (5, .int a5), (6, .int a6)]) (x := (0 : Int32)) dX11_felt_51 (by decide) rfl ?_
      refine r_iconst (v := (0 : Int32)) dX11_felt_53 (by decide) ?_
      refine r_istore (lv' := [(9, .int (0 : Int32)), (8, .int (0 : Int32)), (7, .int (0 : Int32)), (0, va_rf a0), (1, .int a1), (2, .int a2), (3, .int a3), (4, .int a4), (5, .int a5), (6, .int a6)]) (x := (0 : Int32)) dX11_felt_54 (by decide) rfl ?_
      obtain ⟨q34, hq34, h⟩ := xb h
      have Jq34 : Rn mX11_felt 162 [(6, .int a6), (7, .int q34.1), (8, .int q34.2)] [] s8 (some (.int rv)) st' 8 := by
        refine r_iload (x := q34.1) dX11_felt_162 rfl ?_
        obtain ⟨q36, hq36, h⟩ := xb h
        have Jq36 : Rn mX11_felt 185 [] [.int q36] s8 (some (.int rv)) st' 8 := by
          obtain ⟨rfl, rfl⟩ := Prod.mk.inj (Option.some.inj h)
          exact r_ireturn dX11_felt_185 .int rfl rfl
        refine r_if_ne (tgt := 173) dX11_felt_164 (by decide) (fun c => ?_) (fun c => ?_)
        · replace hq36 := (if_neg c).symm.trans hq36
          refine r_iload (x := q34.2) dX11_felt_173 rfl ?_
          refine r_i2l dX11_felt_175 ?_
          refine r_iload (x := q34.1) dX11_felt_176 rfl ?_
          refine r_i2l dX11_felt_178 ?_
          refine r_iload (x := a6) dX11_felt_179 rfl ?_
          obtain ⟨v35, hv35, hq36⟩ := xb hq36
          refine z_callS (as := [.long q34.2.toInt64, .long q34.1.toInt64, .int a6]) (r1 := (some (.long v35))) (stk := []) (stk2 := [.long v35]) (st1 := s8) (d' := 1) dX11_felt_181 xl_X11_261 (by decide) (Nat.le_trans xs0 (by decide)) rfl rfl (S_X11_least n s8 q34.2.toInt64 q34.1.toInt64 a6 v35 hv35) ?_
          refine r_l2i dX11_felt_184 ?_
          obtain rfl := Option.some.inj hq36
          exact x_sub [] rfl Jq36
        · replace hq36 := (if_pos c).symm.trans hq36
          refine r_ldcw (v := (-1000000 : Int32)) dX11_felt_167 xk_X11_260 ?_
          refine r_goto (tgt := 185) dX11_felt_170 (by decide) ?_
          obtain rfl := Option.some.inj hq36
          exact x_sub [] rfl Jq36
      exact x_sub [3, 6, 7, 9, 2, 1, 0] rfl (R_X11_felt_L56 n n s8 a0 a3 a4 a6 (0 : Int32) (0 : Int32) (0 : Int32) q34 hq34 Jq34)
    · replace h := (if_neg c).symm.trans h
      refine r_ldcw (v := (-1000000 : Int32)) dX11_felt_36 xk_X11_260 ?_
      obtain ⟨rfl, rfl⟩ := Prod.mk.inj (Option.some.inj h)
      exact r_ireturn dX11_felt_39 .int rfl rfl
  · replace h := (if_pos c).symm.trans h
    refine r_ldcw (v := (-1000000 : Int32)) dX11_felt_12 xk_X11_260 ?_
    obtain ⟨rfl, rfl⟩ := Prod.mk.inj (Option.some.inj h)
    exact r_ireturn dX11_felt_15 .int rfl rfl
theorem S_X11_felt (n : Nat) (st : xS) (a0 : Option Nat) (a1 : Int32) (a2 : Int32) (a3 : Int32) (a4 : Int32) (a5 : Int32) (a6 : Int32) (rv : Int32) (st' : xS) (h : F_X11_felt n st a0 a1 a2 a3 a4 a5 a6 = some (rv, st')) : Ct mX11_felt [va_rf a0, .int a1, .int a2, .int a3, .int a4, .int a5, .int a6] st (some (.int rv)) st' 8 := by
  refine Ct.of (by decide) (by simp only [lgL_R, lgL_I, lgL_L, lgL_0]; decide) ?_
  try simp only [lvA_R]
  exact R_X11_felt n st a0 a1 a2 a3 a4 a5 a6 rv st' h
theorem R_X11_hopes_L6 (n : Nat) {r : Option Value} {st' : xS} : ∀ (k : Nat) (st : xS) (a0 : Option Nat) (a1 : Int32) (a2 : Int32) (a3 : Int32) (a4 : Int64) (a6 : Int32) (q : (Int64)), F_X11_hopes_L6 n k st a0 a1 a2 a3 a4 a6 = some q → Rn mX11_hopes 36 [(4, .long q)] [] st r st' 10 → Rn mX11_hopes 6 [(0, va_rf a0), (1, .int a1), (2, .int a2), (3, .int a3), (4, .long a4), (6, .int a6)] [] st r st' 10 := by
  intro k
  induction k with
  | zero => intro st a0 a1 a2 a3 a4 a6 q h; cases h
  | succ k ih =>
    intro st a0 a1 a2 a3 a4 a6 q h J
    unfold F_X11_hopes_L6 at h
    refine r_iload (x := a6) dX11_hopes_6 rfl ?_
    refine x_aload_n (o := a0) dX11_hopes_8 rfl ?_
    refine r_iload_n (x := a3) dX11_hopes_9 rfl ?_
    obtain ⟨q2, hq2, h⟩ := xb h
    obtain ⟨v1, hv1, h⟩ := xb h
    refine z_callV (as := [.int a3]) (o := a0) (r1 := (some (.int v1))) (stk := [.int a6]) (stk2 := [.int v1, .int a6]) (st1 := st) (d' := 1) dX11_hopes_10 xl_X11_153 hq2 (by decide) (Nat.le_trans (xsI xs0) (by decide)) rfl rfl (S_X11_gamesOf n st a0 a3 v1 hv1) ?_
    refine r_icmp_ge (tgt := 36) dX11_hopes_13 (by decide) (fun c => ?_) (fun c => ?_)
    · replace h := (if_pos c).symm.trans h
      obtain rfl := Option.some.inj h
      exact x_sub [4] rfl J
    · replace h := (if_neg c).symm.trans h
      refine r_lload (x := a4) dX11_hopes_16 rfl ?_
      refine x_aload_n (o := a0) dX11_hopes_18 rfl ?_
      refine r_iload_n (x := a1) dX11_hopes_19 rfl ?_
      refine r_iload_n (x := a2) dX11_hopes_20 rfl ?_
      refine r_iload_n (x := a3) dX11_hopes_21 rfl ?_
      refine r_iload (x := a6) dX11_hopes_22 rfl ?_
      obtain ⟨q4, hq4, h⟩ := xb h
      obtain ⟨v3, hv3, h⟩ := xb h
      refine z_callV (as := [.int a1, .int a2, .int a3, .int a6]) (o := a0) (r1 := (some (.long v3))) (stk := [.long a4]) (stk2 := [.long v3, .long a4]) (st1 := st) (d' := 9) dX11_hopes_24 xl_X11_208 hq4 (by decide) (Nat.le_trans (xsJ xs0) (by decide)) rfl rfl (S_X11_hopeOf n st a0 a1 a2 a3 a6 v3 hv3) ?_
      refine r_ladd dX11_hopes_27 ?_
      obtain ⟨v5, hv5, h⟩ := xb h
      refine x_eqL (Option.some.inj hv5) ?_
      refine r_lstore (lv' := [(4, .long v5), (0, va_rf a0), (1, .int a1), (2, .int a2), (3, .int a3), (6, .int a6)]) (x := v5) dX11_hopes_28 (by decide) rfl ?_
      obtain ⟨v6, hv6, h⟩ := xb h
      refine x_iinc (c := (1 : Int32)) (lv' := [(6, .int v6), (4, .long v5), (0, va_rf a0), (1, .int a1), (2, .int a2), (3, .int a3)]) (x := a6) (v := v6) dX11_hopes_30 rfl (by decide) (Option.some.inj hv6) (by decide) rfl ?_
      refine r_goto (tgt := 6) dX11_hopes_33 (by decide) ?_
      exact x_sub [2, 3, 4, 5, 1, 0] rfl (ih st a0 a1 a2 a3 v5 v6 q h J)
theorem R_X11_hopes (n : Nat) (st : xS) (a0 : Option Nat) (a1 : Int32) (a2 : Int32) (a3 : Int32) (rv : Int64) (h : F_X11_hopes n st a0 a1 a2 a3 = some rv) : Rn mX11_hopes 0 [(0, va_rf a0), (1, .int a1), (2, .int a2), (3, .int a3)] [] st (some (.long rv)) st 10 := by
  unfold F_X11_hopes at h
  refine r_lconst (v := (0 : Int64)) dX11_hopes_0 (by decide) ?_
  refine r_lstore (lv' := [(4, .long (0 : Int64)), (0, va_rf a0), (1, .int a1), (2, .int a2), (3, .int a3)]) (x := (0 : Int64)) dX11_hopes_1 (by decide) rfl ?_
  refine r_iconst (v := (0 : Int32)) dX11_hopes_3 (by decide) ?_
  refine r_istore (lv' := [(6, .int (0 : Int32)), (4, .long (0 : Int64)), (0, va_rf a0), (1, .int a1), (2, .int a2), (3, .int a3)]) (x := (0 : Int32)) dX11_hopes_4 (by decide) rfl ?_
  obtain ⟨q7, hq7, h⟩ := xb h
  have Jq7 : Rn mX11_hopes 36 [(4, .long q7)] [] st (some (.long rv)) st 10 := by
    refine r_lload (x := q7) dX11_hopes_36 rfl ?_
    obtain rfl := Option.some.inj h
    exact r_lreturn dX11_hopes_38 rfl
  exact x_sub [2, 3, 4, 5, 1, 0] rfl (R_X11_hopes_L6 n n st a0 a1 a2 a3 (0 : Int64) (0 : Int32) q7 hq7 Jq7)
theorem S_X11_hopes (n : Nat) (st : xS) (a0 : Option Nat) (a1 : Int32) (a2 : Int32) (a3 : Int32) (rv : Int64) (h : F_X11_hopes n st a0 a1 a2 a3 = some rv) : Ct mX11_hopes [va_rf a0, .int a1, .int a2, .int a3] st (some (.long rv)) st 10 := by
  refine Ct.of (by decide) (by simp only [lgL_R, lgL_I, lgL_L, lgL_0]; decide) ?_
  try simp only [lvA_R]
  exact R_X11_hopes n st a0 a1 a2 a3 rv h
theorem R_X11_rule (n : Nat) (st : xS) (a0 : Option Nat) (a1 : Int32) (a2 : Int32) (a3 : Int32) (a4 : Int32) (rv : Int64) (h : F_X11_rule n st a0 a1 a2 a3 a4 = some rv) : Rn mX11_rule 0 [(0, va_rf a0), (1, .int a1), (2, .int a2), (3, .int a3), (4, .int a4)] [] st (some (.long rv)) st 11 := by
  unfold F_X11_rule at h
  refine x_aload_n (o := a0) dX11_rule_0 rfl ?_
  refine r_iload_n (x := a1) dX11_rule_1 rfl ?_
  refine r_iload (x := a4) dX11_rule_2 rfl ?_
  obtain ⟨q2, hq2, h⟩ := xb h
  obtain ⟨v1, hv1, h⟩ := xb h
  refine z_callV (as := [.int a1, .int a4]) (o := a0) (r1 := (some (.int v1))) (stk := []) (stk2 := [.int v1]) (st1 := st) (d' := 2) dX11_rule_4 xl_X11_199 hq2 (by decide) (Nat.le_trans xs0 (by decide)) rfl rfl (S_X11_goes n st a0 a1 a4 v1 hv1) ?_
  refine r_if_eq (tgt := 28) dX11_rule_7 (by decide) (fun c => ?_) (fun c => ?_)
  · replace h := (if_pos c).symm.trans h
    refine r_ldc2 (v := (-9223372036854775808 : Int64)) dX11_rule_28 xk_X11_354 ?_
    obtain rfl := Option.some.inj h
    exact r_lreturn dX11_rule_31 rfl
  · replace h := (if_neg c).symm.trans h
    refine x_aload_n (o := a0) dX11_rule_10 rfl ?_
    refine r_iconst (v := (1 : Int32)) dX11_rule_11 (by decide) ?_
    refine r_iload_n (x := a2) dX11_rule_12 rfl ?_
    obtain ⟨q4, hq4, h⟩ := xb h
    obtain ⟨v3, hv3, h⟩ := xb h
    refine z_callV (as := [.int (1 : Int32), .int a2]) (o := a0) (r1 := (some (.int v3))) (stk := []) (stk2 := [.int v3]) (st1 := st) (d' := 1) dX11_rule_13 xl_X11_130 hq4 (by decide) (Nat.le_trans xs0 (by decide)) rfl rfl (S_X11_isOf n st a0 (1 : Int32) a2 v3 hv3) ?_
    refine r_if_eq (tgt := 28) dX11_rule_16 (by decide) (fun c => ?_) (fun c => ?_)
    · replace h := (if_pos c).symm.trans h
      refine r_ldc2 (v := (-9223372036854775808 : Int64)) dX11_rule_28 xk_X11_354 ?_
      obtain rfl := Option.some.inj h
      exact r_lreturn dX11_rule_31 rfl
    · replace h := (if_neg c).symm.trans h
      refine x_aload_n (o := a0) dX11_rule_19 rfl ?_
      refine r_iconst (v := (1 : Int32)) dX11_rule_20 (by decide) ?_
      refine r_iload_n (x := a3) dX11_rule_21 rfl ?_
      obtain ⟨q6, hq6, h⟩ := xb h
      obtain ⟨v5, hv5, h⟩ := xb h
      refine z_callV (as := [.int (1 : Int32), .int a3]) (o := a0) (r1 := (some (.int v5))) (stk := []) (stk2 := [.int v5]) (st1 := st) (d' := 1) dX11_rule_22 xl_X11_130 hq6 (by decide) (Nat.le_trans xs0 (by decide)) rfl rfl (S_X11_isOf n st a0 (1 : Int32) a3 v5 hv5) ?_
      refine r_if_ne (tgt := 32) dX11_rule_25 (by decide) (fun c => ?_) (fun c => ?_)
      · replace h := (if_neg c).symm.trans h
        refine x_aload_n (o := a0) dX11_rule_32 rfl ?_
        refine r_iconst (v := (0 : Int32)) dX11_rule_33 (by decide) ?_
        refine r_iload_n (x := a1) dX11_rule_34 rfl ?_
        obtain ⟨v7, hv7, h⟩ := xb h
        refine z_callS (as := [.int (0 : Int32), .int a1]) (r1 := (some (.int v7))) (stk := [va_rf a0]) (stk2 := [.int v7, va_rf a0]) (st1 := st) (d' := 0) dX11_rule_35 xl_X11_150 (by decide) (Nat.le_trans (xsA xs0) (by decide)) rfl rfl (S_X11_placeOf n st (0 : Int32) a1 v7 hv7) ?_
        refine r_iconst (v := (1 : Int32)) dX11_rule_38 (by decide) ?_
        refine r_iload_n (x := a2) dX11_rule_39 rfl ?_
        obtain ⟨v8, hv8, h⟩ := xb h
        refine z_callS (as := [.int (1 : Int32), .int a2]) (r1 := (some (.int v8))) (stk := [.int v7, va_rf a0]) (stk2 := [.int v8, .int v7, va_rf a0]) (st1 := st) (d' := 0) dX11_rule_40 xl_X11_150 (by decide) (Nat.le_trans (xsI (xsA xs0)) (by decide)) rfl rfl (S_X11_placeOf n st (1 : Int32) a2 v8 hv8) ?_
        refine r_iload (x := a4) dX11_rule_43 rfl ?_
        obtain ⟨q10, hq10, h⟩ := xb h
        obtain ⟨v9, hv9, h⟩ := xb h
        refine z_callV (as := [.int v7, .int v8, .int a4]) (o := a0) (r1 := (some (.long v9))) (stk := []) (stk2 := [.long v9]) (st1 := st) (d' := 10) dX11_rule_45 xl_X11_356 hq10 (by decide) (Nat.le_trans xs0 (by decide)) rfl rfl (S_X11_hopes n st a0 v7 v8 a4 v9 hv9) ?_
        refine x_aload_n (o := a0) dX11_rule_48 rfl ?_
        refine r_iconst (v := (0 : Int32)) dX11_rule_49 (by decide) ?_
        refine r_iload_n (x := a1) dX11_rule_50 rfl ?_
        obtain ⟨v11, hv11, h⟩ := xb h
        refine z_callS (as := [.int (0 : Int32), .int a1]) (r1 := (some (.int v11))) (stk := [va_rf a0, .long v9]) (stk2 := [.int v11, va_rf a0, .long v9]) (st1 := st) (d' := 0) dX11_rule_51 xl_X11_150 (by decide) (Nat.le_trans (xsA (xsJ xs0)) (by decide)) rfl rfl (S_X11_placeOf n st (0 : Int32) a1 v11 hv11) ?_
        refine r_iconst (v := (1 : Int32)) dX11_rule_54 (by decide) ?_
        refine r_iload_n (x := a3) dX11_rule_55 rfl ?_
        obtain ⟨v12, hv12, h⟩ := xb h
        refine z_callS (as := [.int (1 : Int32), .int a3]) (r1 := (some (.int v12))) (stk := [.int v11, va_rf a0, .long v9]) (stk2 := [.int v12, .int v11, va_rf a0, .long v9]) (st1 := st) (d' := 0) dX11_rule_56 xl_X11_150 (by decide) (Nat.le_trans (xsI (xsA (xsJ xs0))) (by decide)) rfl rfl (S_X11_placeOf n st (1 : Int32) a3 v12 hv12) ?_
        refine r_iload (x := a4) dX11_rule_59 rfl ?_
        obtain ⟨q14, hq14, h⟩ := xb h
        obtain ⟨v13, hv13, h⟩ := xb h
        refine z_callV (as := [.int v11, .int v12, .int a4]) (o := a0) (r1 := (some (.long v13))) (stk := [.long v9]) (stk2 := [.long v13, .long v9]) (st1 := st) (d' := 10) dX11_rule_61 xl_X11_356 hq14 (by decide) (Nat.le_trans (xsJ xs0) (by decide)) rfl rfl (S_X11_hopes n st a0 v11 v12 a4 v13 hv13) ?_
        refine r_lsub dX11_rule_64 ?_
        obtain rfl := Option.some.inj h
        exact r_lreturn dX11_rule_65 rfl
      · replace h := (if_pos c).symm.trans h
        refine r_ldc2 (v := (-9223372036854775808 : Int64)) dX11_rule_28 xk_X11_354 ?_
        obtain rfl := Option.some.inj h
        exact r_lreturn dX11_rule_31 rfl
theorem S_X11_rule (n : Nat) (st : xS) (a0 : Option Nat) (a1 : Int32) (a2 : Int32) (a3 : Int32) (a4 : Int32) (rv : Int64) (h : F_X11_rule n st a0 a1 a2 a3 a4 = some rv) : Ct mX11_rule [va_rf a0, .int a1, .int a2, .int a3, .int a4] st (some (.long rv)) st 11 := by
  refine Ct.of (by decide) (by simp only [lgL_R, lgL_I, lgL_L, lgL_0]; decide) ?_
  try simp only [lvA_R]
  exact R_X11_rule n st a0 a1 a2 a3 a4 rv h
theorem R_X11_less (n : Nat) (st : xS) (a0 : Option Nat) (a1 : Int32) (a2 : Int32) (a3 : Int32) (a4 : Int32) (rv : Int64) (st' : xS) (h : F_X11_less n st a0 a1 a2 a3 a4 = some (rv, st')) : Rn mX11_less 0 [(0, va_rf a0), (1, .int a1), (2, .int a2), (3, .int a3), (4, .int a4)] [] st (some (.long rv)) st' 11 := by
  unfold F_X11_less at h
  refine x_aload_n (o := a0) dX11_less_0 rfl ?_
  refine r_iload_n (x := a1) dX11_less_1 rfl ?_
  refine r_iload_n (x := a2) dX11_less_2 rfl ?_
  refine r_iload_n (x := a3) dX11_less_3 rfl ?_
  refine r_iload (x := a4) dX11_less_4 rfl ?_
  obtain ⟨q2, hq2, h⟩ := xb h
  obtain ⟨v1, hv1, h⟩ := xb h
  refine z_callV (as := [.int a1, .int a2, .int a3, .int a4]) (o := a0) (r1 := (some (.int v1))) (stk := []) (stk2 := [.int v1]) (st1 := st) (d' := 3) dX11_less_6 xl_X11_344 hq2 (by decide) (Nat.le_trans xs0 (by decide)) rfl rfl (S_X11_isPart n st a0 a1 a2 a3 a4 v1 hv1) ?_
  refine r_if_ne (tgt := 16) dX11_less_9 (by decide) (fun c => ?_) (fun c => ?_)
  · replace h := (if_neg c).symm.trans h
    refine x_aload_n (o := a0) dX11_less_16 rfl ?_
    refine r_iconst (v := (0 : Int32)) dX11_less_17 (by decide) ?_
    refine r_iload_n (x := a1) dX11_less_18 rfl ?_
    obtain ⟨v3, hv3, h⟩ := xb h
    refine z_callS (as := [.int (0 : Int32), .int a1]) (r1 := (some (.int v3))) (stk := [va_rf a0]) (stk2 := [.int v3, va_rf a0]) (st1 := st) (d' := 0) dX11_less_19 xl_X11_150 (by decide) (Nat.le_trans (xsA xs0) (by decide)) rfl rfl (S_X11_placeOf n st (0 : Int32) a1 v3 hv3) ?_
    refine r_iconst (v := (1 : Int32)) dX11_less_22 (by decide) ?_
    refine r_iload_n (x := a2) dX11_less_23 rfl ?_
    obtain ⟨v4, hv4, h⟩ := xb h
    refine z_callS (as := [.int (1 : Int32), .int a2]) (r1 := (some (.int v4))) (stk := [.int v3, va_rf a0]) (stk2 := [.int v4, .int v3, va_rf a0]) (st1 := st) (d' := 0) dX11_less_24 xl_X11_150 (by decide) (Nat.le_trans (xsI (xsA xs0)) (by decide)) rfl rfl (S_X11_placeOf n st (1 : Int32) a2 v4 hv4) ?_
    refine r_iload_n (x := a3) dX11_less_27 rfl ?_
    obtain ⟨q6, hq6, h⟩ := xb h
    obtain ⟨v5, hv5, h⟩ := xb h
    refine z_callV (as := [.int v3, .int v4, .int a3]) (o := a0) (r1 := (some (.long v5))) (stk := []) (stk2 := [.long v5]) (st1 := st) (d' := 10) dX11_less_28 xl_X11_356 hq6 (by decide) (Nat.le_trans xs0 (by decide)) rfl rfl (S_X11_hopes n st a0 v3 v4 a3 v5 hv5) ?_
    refine r_lstore (lv' := [(5, .long v5), (0, va_rf a0), (1, .int a1), (2, .int a2), (3, .int a3), (4, .int a4)]) (x := v5) dX11_less_31 (by decide) rfl ?_
    refine x_aload_n (o := a0) dX11_less_33 rfl ?_
    refine r_iload (x := a4) dX11_less_34 rfl ?_
    obtain ⟨s7, hs7, h⟩ := xb h
    refine x_putI (o := a0) dX11_less_36 (xp_X11_23 _) hs7 ?_
    refine x_aload_n (o := a0) dX11_less_39 rfl ?_
    refine r_iconst (v := (0 : Int32)) dX11_less_40 (by decide) ?_
    refine r_iload_n (x := a1) dX11_less_41 rfl ?_
    obtain ⟨v8, hv8, h⟩ := xb h
    refine z_callS (as := [.int (0 : Int32), .int a1]) (r1 := (some (.int v8))) (stk := [va_rf a0]) (stk2 := [.int v8, va_rf a0]) (st1 := s7) (d' := 0) dX11_less_42 xl_X11_150 (by decide) (Nat.le_trans (xsA xs0) (by decide)) rfl rfl (S_X11_placeOf n s7 (0 : Int32) a1 v8 hv8) ?_
    refine r_iconst (v := (1 : Int32)) dX11_less_45 (by decide) ?_
    refine r_iload_n (x := a2) dX11_less_46 rfl ?_
    obtain ⟨v9, hv9, h⟩ := xb h
    refine z_callS (as := [.int (1 : Int32), .int a2]) (r1 := (some (.int v9))) (stk := [.int v8, va_rf a0]) (stk2 := [.int v9, .int v8, va_rf a0]) (st1 := s7) (d' := 0) dX11_less_47 xl_X11_150 (by decide) (Nat.le_trans (xsI (xsA xs0)) (by decide)) rfl rfl (S_X11_placeOf n s7 (1 : Int32) a2 v9 hv9) ?_
    refine r_iload_n (x := a3) dX11_less_50 rfl ?_
    obtain ⟨q11, hq11, h⟩ := xb h
    obtain ⟨v10, hv10, h⟩ := xb h
    refine z_callV (as := [.int v8, .int v9, .int a3]) (o := a0) (r1 := (some (.long v10))) (stk := []) (stk2 := [.long v10]) (st1 := s7) (d' := 10) dX11_less_51 xl_X11_356 hq11 (by decide) (Nat.le_trans xs0 (by decide)) rfl rfl (S_X11_hopes n s7 a0 v8 v9 a3 v10 hv10) ?_
    refine r_lstore (lv' := [(7, .long v10), (5, .long v5), (0, va_rf a0), (1, .int a1), (2, .int a2), (3, .int a3), (4, .int a4)]) (x := v10) dX11_less_54 (by decide) rfl ?_
    refine x_aload_n (o := a0) dX11_less_56 rfl ?_
    refine r_iconst (v := (-1 : Int32)) dX11_less_57 (by decide) ?_
    obtain ⟨s12, hs12, h⟩ := xb h
    refine x_putI (o := a0) dX11_less_58 (xp_X11_23 _) hs12 ?_
    refine r_lload (x := v10) dX11_less_61 rfl ?_
    refine r_lload (x := v5) dX11_less_63 rfl ?_
    refine r_lsub dX11_less_65 ?_
    obtain ⟨rfl, rfl⟩ := Prod.mk.inj (Option.some.inj h)
    exact r_lreturn dX11_less_66 rfl
  · replace h := (if_pos c).symm.trans h
    refine r_ldc2 (v := (-9223372036854775808 : Int64)) dX11_less_12 xk_X11_354 ?_
    obtain ⟨rfl, rfl⟩ := Prod.mk.inj (Option.some.inj h)
    exact r_lreturn dX11_less_15 rfl
theorem S_X11_less (n : Nat) (st : xS) (a0 : Option Nat) (a1 : Int32) (a2 : Int32) (a3 : Int32) (a4 : Int32) (rv : Int64) (st' : xS) (h : F_X11_less n st a0 a1 a2 a3 a4 = some (rv, st')) : Ct mX11_less [va_rf a0, .int a1, .int a2, .int a3, .int a4] st (some (.long rv)) st' 11 := by
  refine Ct.of (by decide) (by simp only [lgL_R, lgL_I, lgL_L, lgL_0]; decide) ?_
  try simp only [lvA_R]
  exact R_X11_less n st a0 a1 a2 a3 a4 rv st' h
theorem R_X11_betOf (n : Nat) (st : xS) (a0 : Option Nat) (a1 : Int32) (a2 : Int32) (a3 : Int32) (a4 : Int32) (a5 : Int32) (rv : Int64) (h : F_X11_betOf n st a0 a1 a2 a3 a4 a5 = some rv) : Rn mX11_betOf 0 [(0, va_rf a0), (1, .int a1), (2, .int a2), (3, .int a3), (4, .int a4), (5, .int a5)] [] st (some (.long rv)) st 9 := by
  unfold F_X11_betOf at h
  refine x_aload_n (o := a0) dX11_betOf_0 rfl ?_
  refine r_iload_n (x := a1) dX11_betOf_1 rfl ?_
  refine r_iload_n (x := a2) dX11_betOf_2 rfl ?_
  refine r_iload_n (x := a3) dX11_betOf_3 rfl ?_
  refine r_iload (x := a4) dX11_betOf_4 rfl ?_
  refine r_iconst (v := (0 : Int32)) dX11_betOf_6 (by decide) ?_
  obtain ⟨q2, hq2, h⟩ := xb h
  obtain ⟨v1, hv1, h⟩ := xb h
  refine z_callV (as := [.int a1, .int a2, .int a3, .int a4, .int (0 : Int32)]) (o := a0) (r1 := (some (.long v1))) (stk := []) (stk2 := [.long v1]) (st1 := st) (d' := 8) dX11_betOf_7 xl_X11_195 hq2 (by decide) (Nat.le_trans xs0 (by decide)) rfl rfl (S_X11_chanceOf n st a0 a1 a2 a3 a4 (0 : Int32) v1 hv1) ?_
  refine r_iload (x := a5) dX11_betOf_10 rfl ?_
  refine r_i2l dX11_betOf_12 ?_
  refine r_lmul dX11_betOf_13 ?_
  refine r_ldc2 (v := (100000000000000 : Int64)) dX11_betOf_14 xk_X11_360 ?_
  refine r_lsub dX11_betOf_17 ?_
  obtain rfl := Option.some.inj h
  exact r_lreturn dX11_betOf_18 rfl
theorem S_X11_betOf (n : Nat) (st : xS) (a0 : Option Nat) (a1 : Int32) (a2 : Int32) (a3 : Int32) (a4 : Int32) (a5 : Int32) (rv : Int64) (h : F_X11_betOf n st a0 a1 a2 a3 a4 a5 = some rv) : Ct mX11_betOf [va_rf a0, .int a1, .int a2, .int a3, .int a4, .int a5] st (some (.long rv)) st 9 := by
  refine Ct.of (by decide) (by simp only [lgL_R, lgL_I, lgL_L, lgL_0]; decide) ?_
  try simp only [lvA_R]
  exact R_X11_betOf n st a0 a1 a2 a3 a4 a5 rv h
theorem R_X11_bet (n : Nat) (st : xS) (a0 : Option Nat) (a1 : Int32) (a2 : Int32) (a3 : Int32) (a4 : Int32) (a5 : Int32) (rv : Int64) (h : F_X11_bet n st a0 a1 a2 a3 a4 a5 = some rv) : Rn mX11_bet 0 [(0, va_rf a0), (1, .int a1), (2, .int a2), (3, .int a3), (4, .int a4), (5, .int a5)] [] st (some (.long rv)) st 10 := by
  unfold F_X11_bet at h
  refine x_aload_n (o := a0) dX11_bet_0 rfl ?_
  refine r_iload_n (x := a1) dX11_bet_1 rfl ?_
  refine r_iload_n (x := a2) dX11_bet_2 rfl ?_
  refine r_iload_n (x := a3) dX11_bet_3 rfl ?_
  refine r_iload (x := a4) dX11_bet_4 rfl ?_
  obtain ⟨q2, hq2, h⟩ := xb h
  obtain ⟨v1, hv1, h⟩ := xb h
  refine z_callV (as := [.int a1, .int a2, .int a3, .int a4]) (o := a0) (r1 := (some (.int v1))) (stk := []) (stk2 := [.int v1]) (st1 := st) (d' := 3) dX11_bet_6 xl_X11_202 hq2 (by decide) (Nat.le_trans xs0 (by decide)) rfl rfl (S_X11_isGame n st a0 a1 a2 a3 a4 v1 hv1) ?_
  obtain ⟨q8, hq8, h⟩ := xb h
  have Jq8 : Rn mX11_bet 45 [] [.long q8] st (some (.long rv)) st 10 := by
    obtain rfl := Option.some.inj h
    exact r_lreturn dX11_bet_45 rfl
  refine r_if_eq (tgt := 42) dX11_bet_9 (by decide) (fun c => ?_) (fun c => ?_)
  · replace hq8 := (if_pos c).symm.trans hq8
    refine r_ldc2 (v := (-9223372036854775808 : Int64)) dX11_bet_42 xk_X11_354 ?_
    obtain rfl := Option.some.inj hq8
    exact x_sub [] rfl Jq8
  · replace hq8 := (if_neg c).symm.trans hq8
    refine r_iload (x := a5) dX11_bet_12 rfl ?_
    obtain ⟨v3, hv3, hq8⟩ := xb hq8
    refine z_callS (as := [.int a5]) (r1 := (some (.int v3))) (stk := []) (stk2 := [.int v3]) (st1 := st) (d' := 1) dX11_bet_14 xl_X11_326 (by decide) (Nat.le_trans xs0 (by decide)) rfl rfl (S_X11_isPrice n st a5 v3 hv3) ?_
    refine r_if_eq (tgt := 42) dX11_bet_17 (by decide) (fun c => ?_) (fun c => ?_)
    · replace hq8 := (if_pos c).symm.trans hq8
      refine r_ldc2 (v := (-9223372036854775808 : Int64)) dX11_bet_42 xk_X11_354 ?_
      obtain rfl := Option.some.inj hq8
      exact x_sub [] rfl Jq8
    · replace hq8 := (if_neg c).symm.trans hq8
      refine x_aload_n (o := a0) dX11_bet_20 rfl ?_
      refine r_iconst (v := (0 : Int32)) dX11_bet_21 (by decide) ?_
      refine r_iload_n (x := a1) dX11_bet_22 rfl ?_
      obtain ⟨v4, hv4, hq8⟩ := xb hq8
      refine z_callS (as := [.int (0 : Int32), .int a1]) (r1 := (some (.int v4))) (stk := [va_rf a0]) (stk2 := [.int v4, va_rf a0]) (st1 := st) (d' := 0) dX11_bet_23 xl_X11_150 (by decide) (Nat.le_trans (xsA xs0) (by decide)) rfl rfl (S_X11_placeOf n st (0 : Int32) a1 v4 hv4) ?_
      refine r_iconst (v := (1 : Int32)) dX11_bet_26 (by decide) ?_
      refine r_iload_n (x := a2) dX11_bet_27 rfl ?_
      obtain ⟨v5, hv5, hq8⟩ := xb hq8
      refine z_callS (as := [.int (1 : Int32), .int a2]) (r1 := (some (.int v5))) (stk := [.int v4, va_rf a0]) (stk2 := [.int v5, .int v4, va_rf a0]) (st1 := st) (d' := 0) dX11_bet_28 xl_X11_150 (by decide) (Nat.le_trans (xsI (xsA xs0)) (by decide)) rfl rfl (S_X11_placeOf n st (1 : Int32) a2 v5 hv5) ?_
      refine r_iload_n (x := a3) dX11_bet_31 rfl ?_
      refine r_iload (x := a4) dX11_bet_32 rfl ?_
      refine r_iload (x := a5) dX11_bet_34 rfl ?_
      obtain ⟨q7, hq7, hq8⟩ := xb hq8
      obtain ⟨v6, hv6, hq8⟩ := xb hq8
      refine z_callV (as := [.int v4, .int v5, .int a3, .int a4, .int a5]) (o := a0) (r1 := (some (.long v6))) (stk := []) (stk2 := [.long v6]) (st1 := st) (d' := 9) dX11_bet_36 xl_X11_362 hq7 (by decide) (Nat.le_trans xs0 (by decide)) rfl rfl (S_X11_betOf n st a0 v4 v5 a3 a4 a5 v6 hv6) ?_
      refine r_goto (tgt := 45) dX11_bet_39 (by decide) ?_
      obtain rfl := Option.some.inj hq8
      exact x_sub [] rfl Jq8
theorem S_X11_bet (n : Nat) (st : xS) (a0 : Option Nat) (a1 : Int32) (a2 : Int32) (a3 : Int32) (a4 : Int32) (a5 : Int32) (rv : Int64) (h : F_X11_bet n st a0 a1 a2 a3 a4 a5 = some rv) : Ct mX11_bet [va_rf a0, .int a1, .int a2, .int a3, .int a4, .int a5] st (some (.long rv)) st 10 := by
  refine Ct.of (by decide) (by simp only [lgL_R, lgL_I, lgL_L, lgL_0]; decide) ?_
  try simp only [lvA_R]
  exact R_X11_bet n st a0 a1 a2 a3 a4 a5 rv h
theorem R_X11_best_L37 (n : Nat) {r : Option Value} {st' : xS} : ∀ (k : Nat) (st : xS) (a0 : Option Nat) (a1 : Int32) (a2 : Int32) (a3 : Int32) (a4 : Int32) (a5 : Int32) (a6 : Int64) (a8 : Int32) (q : (Int32)), F_X11_best_L37 n k st a0 a1 a2 a3 a4 a5 a6 a8 = some q → Rn mX11_best 93 [(5, .int q)] [] st r st' 10 → Rn mX11_best 37 [(0, va_rf a0), (1, .int a1), (2, .int a2), (3, .int a3), (4, .int a4), (5, .int a5), (6, .long a6), (8, .int a8)] [] st r st' 10 := by
  intro k
  induction k with
  | zero => intro st a0 a1 a2 a3 a4 a5 a6 a8 q h; cases h
  | succ k ih =>
    intro st a0 a1 a2 a3 a4 a5 a6 a8 q h J
    unfold F_X11_best_L37 at h
    refine r_iload (x := a8) dX11_best_37 rfl ?_
    refine x_aload_n (o := a0) dX11_best_39 rfl ?_
    refine r_iload_n (x := a3) dX11_best_40 rfl ?_
    obtain ⟨q7, hq7, h⟩ := xb h
    obtain ⟨v6, hv6, h⟩ := xb h
    refine z_callV (as := [.int a3]) (o := a0) (r1 := (some (.int v6))) (stk := [.int a8]) (stk2 := [.int v6, .int a8]) (st1 := st) (d' := 1) dX11_best_41 xl_X11_153 hq7 (by decide) (Nat.le_trans (xsI xs0) (by decide)) rfl rfl (S_X11_gamesOf n st a0 a3 v6 hv6) ?_
    refine r_icmp_ge (tgt := 93) dX11_best_44 (by decide) (fun c => ?_) (fun c => ?_)
    · replace h := (if_pos c).symm.trans h
      obtain rfl := Option.some.inj h
      exact x_sub [5] rfl J
    · replace h := (if_neg c).symm.trans h
      refine x_aload_n (o := a0) dX11_best_47 rfl ?_
      refine r_iconst (v := (0 : Int32)) dX11_best_48 (by decide) ?_
      refine r_iload_n (x := a1) dX11_best_49 rfl ?_
      obtain ⟨v8, hv8, h⟩ := xb h
      refine z_callS (as := [.int (0 : Int32), .int a1]) (r1 := (some (.int v8))) (stk := [va_rf a0]) (stk2 := [.int v8, va_rf a0]) (st1 := st) (d' := 0) dX11_best_50 xl_X11_150 (by decide) (Nat.le_trans (xsA xs0) (by decide)) rfl rfl (S_X11_placeOf n st (0 : Int32) a1 v8 hv8) ?_
      refine r_iconst (v := (1 : Int32)) dX11_best_53 (by decide) ?_
      refine r_iload_n (x := a2) dX11_best_54 rfl ?_
      obtain ⟨v9, hv9, h⟩ := xb h
      refine z_callS (as := [.int (1 : Int32), .int a2]) (r1 := (some (.int v9))) (stk := [.int v8, va_rf a0]) (stk2 := [.int v9, .int v8, va_rf a0]) (st1 := st) (d' := 0) dX11_best_55 xl_X11_150 (by decide) (Nat.le_trans (xsI (xsA xs0)) (by decide)) rfl rfl (S_X11_placeOf n st (1 : Int32) a2 v9 hv9) ?_
      refine r_iload_n (x := a3) dX11_best_58 rfl ?_
      refine r_iload (x := a8) dX11_best_59 rfl ?_
      refine r_iload (x := a4) dX11_best_61 rfl ?_
      obtain ⟨q11, hq11, h⟩ := xb h
      obtain ⟨v10, hv10, h⟩ := xb h
      refine z_callV (as := [.int v8, .int v9, .int a3, .int a8, .int a4]) (o := a0) (r1 := (some (.long v10))) (stk := []) (stk2 := [.long v10]) (st1 := st) (d' := 9) dX11_best_63 xl_X11_362 hq11 (by decide) (Nat.le_trans xs0 (by decide)) rfl rfl (S_X11_betOf n st a0 v8 v9 a3 a8 a4 v10 hv10) ?_
      refine r_lstore (lv' := [(9, .long v10), (0, va_rf a0), (1, .int a1), (2, .int a2), (3, .int a3), (4, .int a4), (5, .int a5), (6, .long a6), (8, .int a8)]) (x := v10) dX11_best_66 (by decide) rfl ?_
      refine r_lload (x := v10) dX11_best_68 rfl ?_
      refine r_lload (x := a6) dX11_best_70 rfl ?_
      refine r_lcmp dX11_best_72 ?_
      obtain ⟨q12, hq12, h⟩ := xb h
      have Jq12 : Rn mX11_best 87 [(0, va_rf a0), (1, .int a1), (2, .int a2), (3, .int a3), (4, .int a4), (5, .int q12.1), (6, .long q12.2), (8, .int a8)] [] st r st' 10 := by
        obtain ⟨v13, hv13, h⟩ := xb h
        refine x_iinc (c := (1 : Int32)) (lv' := [(8, .int v13), (0, va_rf a0), (1, .int a1), (2, .int a2), (3, .int a3), (4, .int a4), (5, .int q12.1), (6, .long q12.2)]) (x := a8) (v := v13) dX11_best_87 rfl (by decide) (Option.some.inj hv13) (by decide) rfl ?_
        refine r_goto (tgt := 37) dX11_best_90 (by decide) ?_
        exact x_sub [1, 2, 3, 4, 5, 6, 7, 0] rfl (ih st a0 a1 a2 a3 a4 q12.1 q12.2 v13 q h J)
      refine r_if_gt (tgt := 79) dX11_best_73 (by decide) (fun c => ?_) (fun c => ?_)
      · replace hq12 := (if_pos c).symm.trans hq12
        refine r_iload (x := a8) dX11_best_79 rfl ?_
        refine r_istore (lv' := [(5, .int a8), (9, .long v10), (0, va_rf a0), (1, .int a1), (2, .int a2), (3, .int a3), (4, .int a4), (6, .long a6), (8, .int a8)]) (x := a8) dX11_best_81 (by decide) rfl ?_
        refine r_lload (x := v10) dX11_best_83 rfl ?_
        refine r_lstore (lv' := [(6, .long v10), (5, .int a8), (9, .long v10), (0, va_rf a0), (1, .int a1), (2, .int a2), (3, .int a3), (4, .int a4), (8, .int a8)]) (x := v10) dX11_best_85 (by decide) rfl ?_
        obtain rfl := Option.some.inj hq12
        exact x_sub [3, 4, 5, 6, 7, 1, 0, 8] rfl Jq12
      · replace hq12 := (if_neg c).symm.trans hq12
        refine r_goto (tgt := 87) dX11_best_76 (by decide) ?_
        obtain rfl := Option.some.inj hq12
        exact x_sub [1, 2, 3, 4, 5, 6, 7, 8] rfl Jq12
theorem R_X11_best (n : Nat) (st : xS) (a0 : Option Nat) (a1 : Int32) (a2 : Int32) (a3 : Int32) (a4 : Int32) (rv : Int32) (h : F_X11_best n st a0 a1 a2 a3 a4 = some rv) : Rn mX11_best 0 [(0, va_rf a0), (1, .int a1), (2, .int a2), (3, .int a3), (4, .int a4)] [] st (some (.int rv)) st 10 := by
  unfold F_X11_best at h
  refine x_aload_n (o := a0) dX11_best_0 rfl ?_
  refine r_iload_n (x := a1) dX11_best_1 rfl ?_
  refine r_iload_n (x := a3) dX11_best_2 rfl ?_
  obtain ⟨q2, hq2, h⟩ := xb h
  obtain ⟨v1, hv1, h⟩ := xb h
  refine z_callV (as := [.int a1, .int a3]) (o := a0) (r1 := (some (.int v1))) (stk := []) (stk2 := [.int v1]) (st1 := st) (d' := 2) dX11_best_3 xl_X11_199 hq2 (by decide) (Nat.le_trans xs0 (by decide)) rfl rfl (S_X11_goes n st a0 a1 a3 v1 hv1) ?_
  refine r_if_eq (tgt := 26) dX11_best_6 (by decide) (fun c => ?_) (fun c => ?_)
  · replace h := (if_pos c).symm.trans h
    refine r_iconst (v := (-1 : Int32)) dX11_best_26 (by decide) ?_
    obtain rfl := Option.some.inj h
    exact r_ireturn dX11_best_27 .int rfl rfl
  · replace h := (if_neg c).symm.trans h
    refine x_aload_n (o := a0) dX11_best_9 rfl ?_
    refine r_iconst (v := (1 : Int32)) dX11_best_10 (by decide) ?_
    refine r_iload_n (x := a2) dX11_best_11 rfl ?_
    obtain ⟨q4, hq4, h⟩ := xb h
    obtain ⟨v3, hv3, h⟩ := xb h
    refine z_callV (as := [.int (1 : Int32), .int a2]) (o := a0) (r1 := (some (.int v3))) (stk := []) (stk2 := [.int v3]) (st1 := st) (d' := 1) dX11_best_12 xl_X11_130 hq4 (by decide) (Nat.le_trans xs0 (by decide)) rfl rfl (S_X11_isOf n st a0 (1 : Int32) a2 v3 hv3) ?_
    refine r_if_eq (tgt := 26) dX11_best_15 (by decide) (fun c => ?_) (fun c => ?_)
    · replace h := (if_pos c).symm.trans h
      refine r_iconst (v := (-1 : Int32)) dX11_best_26 (by decide) ?_
      obtain rfl := Option.some.inj h
      exact r_ireturn dX11_best_27 .int rfl rfl
    · replace h := (if_neg c).symm.trans h
      refine r_iload (x := a4) dX11_best_18 rfl ?_
      obtain ⟨v5, hv5, h⟩ := xb h
      refine z_callS (as := [.int a4]) (r1 := (some (.int v5))) (stk := []) (stk2 := [.int v5]) (st1 := st) (d' := 1) dX11_best_20 xl_X11_326 (by decide) (Nat.le_trans xs0 (by decide)) rfl rfl (S_X11_isPrice n st a4 v5 hv5) ?_
      refine r_if_ne (tgt := 28) dX11_best_23 (by decide) (fun c => ?_) (fun c => ?_)
      · replace h := (if_neg c).symm.trans h
        refine r_iconst (v := (-1 : Int32)) dX11_best_28 (by decide) ?_
        refine r_istore (lv' := [(5, .int (-1 : Int32)), (0, va_rf a0), (1, .int a1), (2, .int a2), (3, .int a3), (4, .int a4)]) (x := (-1 : Int32)) dX11_best_29 (by decide) rfl ?_
        refine r_lconst (v := (0 : Int64)) dX11_best_31 (by decide) ?_
        refine r_lstore (lv' := [(6, .long (0 : Int64)), (5, .int (-1 : Int32)), (0, va_rf a0), (1, .int a1), (2, .int a2), (3, .int a3), (4, .int a4)]) (x := (0 : Int64)) dX11_best_32 (by decide) rfl ?_
        refine r_iconst (v := (0 : Int32)) dX11_best_34 (by decide) ?_
        refine r_istore (lv' := [(8, .int (0 : Int32)), (6, .long (0 : Int64)), (5, .int (-1 : Int32)), (0, va_rf a0), (1, .int a1), (2, .int a2), (3, .int a3), (4, .int a4)]) (x := (0 : Int32)) dX11_best_35 (by decide) rfl ?_
        obtain ⟨q14, hq14, h⟩ := xb h
        have Jq14 : Rn mX11_best 93 [(5, .int q14)] [] st (some (.int rv)) st 10 := by
          refine r_iload (x := q14) dX11_best_93 rfl ?_
          obtain rfl := Option.some.inj h
          exact r_ireturn dX11_best_95 .int rfl rfl
        exact x_sub [3, 4, 5, 6, 7, 2, 1, 0] rfl (R_X11_best_L37 n n st a0 a1 a2 a3 a4 (-1 : Int32) (0 : Int64) (0 : Int32) q14 hq14 Jq14)
      · replace h := (if_pos c).symm.trans h
        refine r_iconst (v := (-1 : Int32)) dX11_best_26 (by decide) ?_
        obtain rfl := Option.some.inj h
        exact r_ireturn dX11_best_27 .int rfl rfl
theorem S_X11_best (n : Nat) (st : xS) (a0 : Option Nat) (a1 : Int32) (a2 : Int32) (a3 : Int32) (a4 : Int32) (rv : Int32) (h : F_X11_best n st a0 a1 a2 a3 a4 = some rv) : Ct mX11_best [va_rf a0, .int a1, .int a2, .int a3, .int a4] st (some (.int rv)) st 10 := by
  refine Ct.of (by decide) (by simp only [lgL_R, lgL_I, lgL_L, lgL_0]; decide) ?_
  try simp only [lvA_R]
  exact R_X11_best n st a0 a1 a2 a3 a4 rv h

/-! printed by a program: the methods run as their functions say -/
theorem R_X0_init (n : Nat) (st : xS) (a0 : Option Nat) (a1 : Int32) (st' : xS) (h : F_X0_init n st a0 a1 = some st') : Rn mX0_init 0 [(0, va_rf a0), (1, .int a1)] [] st none st' 1 := by
  unfold F_X0_init at h
  refine x_aload_n (o := a0) dX0_init_0 rfl ?_
  obtain ⟨b1, hb1, h⟩ := xb h
  refine x_objInit (o := a0) dX0_init_1 xo_X0_1 xo_2 xo_3 (by decide) (Nat.le_trans xs0 (by decide)) hb1 ?_
  refine x_aload_n (o := a0) dX0_init_4 rfl ?_
  refine r_iload_n (x := a1) dX0_init_5 rfl ?_
  obtain ⟨s2, hs2, h⟩ := xb h
  refine x_putI (o := a0) dX0_init_6 (xp_X0_7 _) hs2 ?_
  obtain rfl := Option.some.inj h
  exact r_return dX0_init_9 rfl
theorem S_X0_init (n : Nat) (st : xS) (a0 : Option Nat) (a1 : Int32) (st' : xS) (h : F_X0_init n st a0 a1 = some st') : Ct mX0_init [va_rf a0, .int a1] st none st' 1 := by
  refine Ct.of (by decide) (by simp only [lgL_R, lgL_I, lgL_L, lgL_0]; decide) ?_
  try simp only [lvA_R]
  exact R_X0_init n st a0 a1 st' h
theorem R_X0_below (n : Nat) (st : xS) (a0 : Option Nat) (a1 : Int32) (rv : Int32) (st' : xS) (h : F_X0_below n st a0 a1 = some (rv, st')) : Rn mX0_below 0 [(0, va_rf a0), (1, .int a1)] [] st (some (.int rv)) st' 0 := by
  unfold F_X0_below at h
  refine x_aload_n (o := a0) dX0_below_0 rfl ?_
  refine x_aload_n (o := a0) dX0_below_1 rfl ?_
  obtain ⟨v1, hv1, h⟩ := xb h
  refine x_getI (o := a0) dX0_below_2 xf_X0_7 hv1 ?_
  refine r_ldc (v := (1103515245 : Int32)) dX0_below_5 xk_X0_13 ?_
  refine r_imul dX0_below_7 ?_
  refine r_sipush (v := (12345 : Int32)) dX0_below_8 (by decide) ?_
  refine r_iadd dX0_below_11 ?_
  obtain ⟨s2, hs2, h⟩ := xb h
  refine x_putI (o := a0) dX0_below_12 (xp_X0_7 _) hs2 ?_
  refine r_iload_n (x := a1) dX0_below_15 rfl ?_
  obtain ⟨q5, hq5, h⟩ := xb h
  have Jq5 : Rn mX0_below 32 [] [.int q5] s2 (some (.int rv)) st' 0 := by
    obtain ⟨rfl, rfl⟩ := Prod.mk.inj (Option.some.inj h)
    exact r_ireturn dX0_below_32 .int rfl rfl
  refine r_if_le (tgt := 31) dX0_below_16 (by decide) (fun c => ?_) (fun c => ?_)
  · replace hq5 := (if_pos c).symm.trans hq5
    refine r_iconst (v := (0 : Int32)) dX0_below_31 (by decide) ?_
    obtain rfl := Option.some.inj hq5
    exact x_sub [] rfl Jq5
  · replace hq5 := (if_neg c).symm.trans hq5
    refine x_aload_n (o := a0) dX0_below_19 rfl ?_
    obtain ⟨v3, hv3, hq5⟩ := xb hq5
    refine x_getI (o := a0) dX0_below_20 xf_X0_7 hv3 ?_
    refine r_bipush (v := (16 : Int32)) dX0_below_23 (by decide) ?_
    refine r_iushr dX0_below_25 ?_
    refine r_iload_n (x := a1) dX0_below_26 rfl ?_
    obtain ⟨v4, hv4, hq5⟩ := xb hq5
    refine x_irem dX0_below_27 hv4 ?_
    refine r_goto (tgt := 32) dX0_below_28 (by decide) ?_
    obtain rfl := Option.some.inj hq5
    exact x_sub [] rfl Jq5
theorem S_X0_below (n : Nat) (st : xS) (a0 : Option Nat) (a1 : Int32) (rv : Int32) (st' : xS) (h : F_X0_below n st a0 a1 = some (rv, st')) : Ct mX0_below [va_rf a0, .int a1] st (some (.int rv)) st' 0 := by
  refine Ct.of (by decide) (by simp only [lgL_R, lgL_I, lgL_L, lgL_0]; decide) ?_
  try simp only [lvA_R]
  exact R_X0_below n st a0 a1 rv st' h
theorem R_X0_shots_L4 (n : Nat) {r : Option Value} {st' : xS} : ∀ (k : Nat) (st : xS) (a0 : Option Nat) (a1 : Int32) (a2 : Int32) (a3 : Int32) (q : (Int32 × xS)), F_X0_shots_L4 n k st a0 a1 a2 a3 = some q → Rn mX0_shots 28 [(2, .int q.1)] [] q.2 r st' 1 → Rn mX0_shots 4 [(0, va_rf a0), (1, .int a1), (2, .int a2), (3, .int a3)] [] st r st' 1 := by
  intro k
  induction k with
  | zero => intro st a0 a1 a2 a3 q h; cases h
  | succ k ih =>
    intro st a0 a1 a2 a3 q h J
    unfold F_X0_shots_L4 at h
    refine r_iload_n (x := a3) dX0_shots_4 rfl ?_
    refine r_iconst (v := (3 : Int32)) dX0_shots_5 (by decide) ?_
    refine r_icmp_ge (tgt := 28) dX0_shots_6 (by decide) (fun c => ?_) (fun c => ?_)
    · replace h := (if_pos c).symm.trans h
      obtain rfl := Option.some.inj h
      exact x_sub [2] rfl J
    · replace h := (if_neg c).symm.trans h
      refine x_aload_n (o := a0) dX0_shots_9 rfl ?_
      refine r_bipush (v := (100 : Int32)) dX0_shots_10 (by decide) ?_
      obtain ⟨q2, hq2, h⟩ := xb h
      obtain ⟨p1, hp1, h⟩ := xb h
      refine z_callV (as := [.int (100 : Int32)]) (o := a0) (r1 := (some (.int p1.1))) (stk := []) (stk2 := [.int p1.1]) (st1 := p1.2) (d' := 0) dX0_shots_12 xl_X0_14 hq2 (by decide) (Nat.le_trans xs0 (by decide)) rfl rfl (S_X0_below n st a0 (100 : Int32) p1.1 p1.2 hp1) ?_
      refine r_iload_n (x := a1) dX0_shots_15 rfl ?_
      obtain ⟨q4, hq4, h⟩ := xb h
      have Jq4 : Rn mX0_shots 22 [(0, va_rf a0), (1, .int a1), (2, .int q4), (3, .int a3)] [] p1.2 r st' 1 := by
        obtain ⟨v5, hv5, h⟩ := xb h
        refine x_iinc (c := (1 : Int32)) (lv' := [(3, .int v5), (0, va_rf a0), (1, .int a1), (2, .int q4)]) (x := a3) (v := v5) dX0_shots_22 rfl (by decide) (Option.some.inj hv5) (by decide) rfl ?_
        refine r_goto (tgt := 4) dX0_shots_25 (by decide) ?_
        exact x_sub [1, 2, 3, 0] rfl (ih p1.2 a0 a1 q4 v5 q h J)
      refine r_icmp_ge (tgt := 22) dX0_shots_16 (by decide) (fun c => ?_) (fun c => ?_)
      · replace hq4 := (if_pos c).symm.trans hq4
        obtain rfl := Option.some.inj hq4
        exact x_sub [0, 1, 2, 3] rfl Jq4
      · replace hq4 := (if_neg c).symm.trans hq4
        obtain ⟨v3, hv3, hq4⟩ := xb hq4
        refine x_iinc (c := (1 : Int32)) (lv' := [(2, .int v3), (0, va_rf a0), (1, .int a1), (3, .int a3)]) (x := a2) (v := v3) dX0_shots_19 rfl (by decide) (Option.some.inj hv3) (by decide) rfl ?_
        obtain rfl := Option.some.inj hq4
        exact x_sub [1, 2, 0, 3] rfl Jq4
theorem R_X0_shots (n : Nat) (st : xS) (a0 : Option Nat) (a1 : Int32) (rv : Int32) (st' : xS) (h : F_X0_shots n st a0 a1 = some (rv, st')) : Rn mX0_shots 0 [(0, va_rf a0), (1, .int a1)] [] st (some (.int rv)) st' 1 := by
  unfold F_X0_shots at h
  refine r_iconst (v := (0 : Int32)) dX0_shots_0 (by decide) ?_
  refine r_istore_n (lv' := [(2, .int (0 : Int32)), (0, va_rf a0), (1, .int a1)]) (x := (0 : Int32)) dX0_shots_1 (by decide) rfl ?_
  refine r_iconst (v := (0 : Int32)) dX0_shots_2 (by decide) ?_
  refine r_istore_n (lv' := [(3, .int (0 : Int32)), (2, .int (0 : Int32)), (0, va_rf a0), (1, .int a1)]) (x := (0 : Int32)) dX0_shots_3 (by decide) rfl ?_
  obtain ⟨q6, hq6, h⟩ := xb h
  have Jq6 : Rn mX0_shots 28 [(2, .int q6.1)] [] q6.2 (some (.int rv)) st' 1 := by
    refine r_iload_n (x := q6.1) dX0_shots_28 rfl ?_
    obtain ⟨rfl, rfl⟩ := Prod.mk.inj (Option.some.inj h)
    exact r_ireturn dX0_shots_29 .int rfl rfl
  exact x_sub [2, 3, 1, 0] rfl (R_X0_shots_L4 n n st a0 a1 (0 : Int32) (0 : Int32) q6 hq6 Jq6)
theorem S_X0_shots (n : Nat) (st : xS) (a0 : Option Nat) (a1 : Int32) (rv : Int32) (st' : xS) (h : F_X0_shots n st a0 a1 = some (rv, st')) : Ct mX0_shots [va_rf a0, .int a1] st (some (.int rv)) st' 1 := by
  refine Ct.of (by decide) (by simp only [lgL_R, lgL_I, lgL_L, lgL_0]; decide) ?_
  try simp only [lvA_R]
  exact R_X0_shots n st a0 a1 rv st' h
theorem xo_X1_3 : Cond.methodLink RX1 3 Lib.objectInit ∈ xT := (xin 321 (by decide +kernel) rfl)
theorem xp_X1_9 : xfldP RX1 "<init>" 9 1 0 (.array .int) := ⟨RX1, TX1, 3, tyX1, xc_X1, rfl, by decide, tyX1_ok, rfl, nmX1, Or.inr ⟨rfl, rfl, rfl, (xin 324 (by decide +kernel) rfl)⟩⟩
theorem xp_X1_17 : xfldP RX1 "<init>" 17 1 1 (.array (.array .long)) := ⟨RX1, TX1, 3, tyX1, xc_X1, rfl, by decide, tyX1_ok, rfl, nmX1, Or.inr ⟨rfl, rfl, rfl, (xin 325 (by decide +kernel) rfl)⟩⟩
theorem xw_X1_15 : Cond.classLink RX1 15 ("[" ++ (FieldType.array .long).toString) ∈ xT := (xin 322 (by decide +kernel) rfl)
theorem xov_J : Cond.arrayOver (.array .long) ∈ xTN := (xinN 323 (by decide +kernel) rfl)
theorem xar_J : Cond.arrayClass .long ∈ xT := (xin 334 (by decide +kernel) rfl)
theorem R_X1_init (n : Nat) (st : xS) (a0 : Option Nat) (st' : xS) (h : F_X1_init n st a0 = some st') : Rn mX1_init 0 [(0, va_rf a0)] [] st none st' 1 := by
  unfold F_X1_init at h
  refine x_aload_n (o := a0) dX1_init_0 rfl ?_
  obtain ⟨b1, hb1, h⟩ := xb h
  refine x_objInit (o := a0) dX1_init_1 xo_X1_3 xo_2 xo_3 (by decide) (Nat.le_trans xs0 (by decide)) hb1 ?_
  refine x_aload_n (o := a0) dX1_init_4 rfl ?_
  refine r_bipush (v := (8 : Int32)) dX1_init_5 (by decide) ?_
  obtain ⟨s2, hs2, h⟩ := xb h
  refine x_newarray (t := 0) (o := some (64 + st.1)) dX1_init_7 (by decide) rfl xar_0 (by decide) (by decide) (by decide) (Option.some.inj hs2) rfl ?_
  obtain ⟨s3, hs3, h⟩ := xb h
  refine x_putR (o := a0) (x := some (64 + st.1)) dX1_init_9 xp_X1_9 (Or.inr ⟨_, rfl⟩) hs3 ?_
  refine x_aload_n (o := a0) dX1_init_12 rfl ?_
  refine r_bipush (v := (6 : Int32)) dX1_init_13 (by decide) ?_
  refine r_bipush (v := (7 : Int32)) dX1_init_15 (by decide) ?_
  obtain ⟨s4, hs4, h⟩ := xb h
  obtain rfl := Option.some.inj hs4
  refine r_multi dX1_init_17 xw_X1_15 xov_J xar_J ?_
  obtain ⟨s5, hs5, h⟩ := xb h
  refine x_putR (o := a0) (x := some (64 + s3.1)) dX1_init_21 xp_X1_17 (Or.inr ⟨_, rfl⟩) hs5 ?_
  refine x_aload_n (o := a0) dX1_init_24 rfl ?_
  refine r_iconst (v := (0 : Int32)) dX1_init_25 (by decide) ?_
  obtain ⟨s6, hs6, h⟩ := xb h
  refine x_putI (o := a0) dX1_init_26 (xp_X1_20 "<init>") hs6 ?_
  obtain rfl := Option.some.inj h
  exact r_return dX1_init_29 rfl
theorem S_X1_init (n : Nat) (st : xS) (a0 : Option Nat) (st' : xS) (h : F_X1_init n st a0 = some st') : Ct mX1_init [va_rf a0] st none st' 1 := by
  refine Ct.of (by decide) (by simp only [lgL_R, lgL_I, lgL_L, lgL_0]; decide) ?_
  try simp only [lvA_R]
  exact R_X1_init n st a0 st' h
theorem R_X1_clear_L2 (n : Nat) {r : Option Value} {st' : xS} : ∀ (k : Nat) (st : xS) (a0 : Option Nat) (a1 : Int32) (q : (xS)), F_X1_clear_L2 n k st a0 a1 = some q → Rn mX1_clear 21 [] [] q r st' 0 → Rn mX1_clear 2 [(0, va_rf a0), (1, .int a1)] [] st r st' 0 := by
  intro k
  induction k with
  | zero => intro st a0 a1 q h; cases h
  | succ k ih =>
    intro st a0 a1 q h J
    unfold F_X1_clear_L2 at h
    refine r_iload_n (x := a1) dX1_clear_2 rfl ?_
    refine r_bipush (v := (8 : Int32)) dX1_clear_3 (by decide) ?_
    refine r_icmp_ge (tgt := 21) dX1_clear_5 (by decide) (fun c => ?_) (fun c => ?_)
    · replace h := (if_pos c).symm.trans h
      obtain rfl := Option.some.inj h
      exact x_sub [] rfl J
    · replace h := (if_neg c).symm.trans h
      refine x_aload_n (o := a0) dX1_clear_8 rfl ?_
      obtain ⟨v1, hv1, h⟩ := xb h
      refine x_getR (o := a0) dX1_clear_9 xf_X1_9 hv1 ?_
      refine r_iload_n (x := a1) dX1_clear_12 rfl ?_
      refine r_iconst (v := (-1 : Int32)) dX1_clear_13 (by decide) ?_
      obtain ⟨s2, hs2, h⟩ := xb h
      refine x_iastore (o := v1) dX1_clear_14 hs2 ?_
      obtain ⟨v3, hv3, h⟩ := xb h
      refine x_iinc (c := (1 : Int32)) (lv' := [(1, .int v3), (0, va_rf a0)]) (x := a1) (v := v3) dX1_clear_15 rfl (by decide) (Option.some.inj hv3) (by decide) (congrArg (List.cons _) (xfY (xk1 0 1 _) (xfN rfl rfl))) ?_
      refine r_goto (tgt := 2) dX1_clear_18 (by decide) ?_
      exact x_sub [1, 0] rfl (ih s2 a0 v3 q h J)
theorem R_X1_clear (n : Nat) (st : xS) (a0 : Option Nat) (st' : xS) (h : F_X1_clear n st a0 = some st') : Rn mX1_clear 0 [(0, va_rf a0)] [] st none st' 0 := by
  unfold F_X1_clear at h
  refine r_iconst (v := (0 : Int32)) dX1_clear_0 (by decide) ?_
  refine r_istore_n (lv' := [(1, .int (0 : Int32)), (0, va_rf a0)]) (x := (0 : Int32)) dX1_clear_1 (by decide) (congrArg (List.cons _) (xfY (xk1 0 1 _) rfl)) ?_
  obtain ⟨q4, hq4, h⟩ := xb h
  have Jq4 : Rn mX1_clear 21 [] [] q4 none st' 0 := by
    obtain rfl := Option.some.inj h
    exact r_return dX1_clear_21 rfl
  exact x_sub [1, 0] rfl (R_X1_clear_L2 n n st a0 (0 : Int32) q4 hq4 Jq4)
theorem S_X1_clear (n : Nat) (st : xS) (a0 : Option Nat) (st' : xS) (h : F_X1_clear n st a0 = some st') : Ct mX1_clear [va_rf a0] st none st' 0 := by
  refine Ct.of (by decide) (by simp only [lgL_R, lgL_I, lgL_L, lgL_0]; decide) ?_
  try simp only [lvA_R]
  exact R_X1_clear n st a0 st' h
theorem R_X10_setAt (n : Nat) (st : xS) (a0 : Option Nat) (a1 : Int32) (a2 : Int32) (st' : xS) (h : F_X10_setAt n st a0 a1 a2 = some st') : Rn mX10_setAt 0 [(0, va_rf a0), (1, .int a1), (2, .int a2)] [] st none st' 0 := by
  unfold F_X10_setAt at h
  refine r_iload_n (x := a1) dX10_setAt_0 rfl ?_
  obtain ⟨q3, hq3, h⟩ := xb h
  have Jq3 : Rn mX10_setAt 14 [] [] q3 none st' 0 := by
    obtain rfl := Option.some.inj h
    exact r_return dX10_setAt_14 rfl
  refine r_if_lt (tgt := 14) dX10_setAt_1 (by decide) (fun c => ?_) (fun c => ?_)
  · replace hq3 := (if_pos c).symm.trans hq3
    obtain rfl := Option.some.inj hq3
    exact x_sub [] rfl Jq3
  · replace hq3 := (if_neg c).symm.trans hq3
    refine r_iload_n (x := a1) dX10_setAt_4 rfl ?_
    refine x_aload_n (o := a0) dX10_setAt_5 rfl ?_
    obtain ⟨v1, hv1, hq3⟩ := xb hq3
    refine x_alen (o := a0) dX10_setAt_6 hv1 ?_
    refine r_icmp_ge (tgt := 14) dX10_setAt_7 (by decide) (fun c => ?_) (fun c => ?_)
    · replace hq3 := (if_pos c).symm.trans hq3
      obtain rfl := Option.some.inj hq3
      exact x_sub [] rfl Jq3
    · replace hq3 := (if_neg c).symm.trans hq3
      refine x_aload_n (o := a0) dX10_setAt_10 rfl ?_
      refine r_iload_n (x := a1) dX10_setAt_11 rfl ?_
      refine r_iload_n (x := a2) dX10_setAt_12 rfl ?_
      obtain ⟨s2, hs2, hq3⟩ := xb hq3
      refine x_iastore (o := a0) dX10_setAt_13 hs2 ?_
      obtain rfl := Option.some.inj hq3
      exact x_sub [] rfl Jq3
theorem S_X10_setAt (n : Nat) (st : xS) (a0 : Option Nat) (a1 : Int32) (a2 : Int32) (st' : xS) (h : F_X10_setAt n st a0 a1 a2 = some st') : Ct mX10_setAt [va_rf a0, .int a1, .int a2] st none st' 0 := by
  refine Ct.of (by decide) (by simp only [lgL_R, lgL_I, lgL_L, lgL_0]; decide) ?_
  try simp only [lvA_R]
  exact R_X10_setAt n st a0 a1 a2 st' h
theorem R_X1_see (n : Nat) (st : xS) (a0 : Option Nat) (a1 : Int32) (a2 : Int32) (st' : xS) (h : F_X1_see n st a0 a1 a2 = some st') : Rn mX1_see 0 [(0, va_rf a0), (1, .int a1), (2, .int a2)] [] st none st' 1 := by
  unfold F_X1_see at h
  refine x_aload_n (o := a0) dX1_see_0 rfl ?_
  obtain ⟨v1, hv1, h⟩ := xb h
  refine x_getR (o := a0) dX1_see_1 xf_X1_9 hv1 ?_
  refine r_iload_n (x := a1) dX1_see_4 rfl ?_
  refine r_iconst (v := (0 : Int32)) dX1_see_5 (by decide) ?_
  obtain ⟨s2, hs2, h⟩ := xb h
  refine z_callS (as := [va_rf v1, .int a1, .int (0 : Int32)]) (r1 := none) (stk := []) (stk2 := []) (st1 := s2) (d' := 0) dX1_see_6 xl_X1_24 (by decide) (Nat.le_trans xs0 (by decide)) rfl rfl (S_X10_setAt n st v1 a1 (0 : Int32) s2 hs2) ?_
  refine x_aload_n (o := a0) dX1_see_9 rfl ?_
  obtain ⟨v3, hv3, h⟩ := xb h
  refine x_getR (o := a0) dX1_see_10 xf_X1_9 hv3 ?_
  refine r_iload_n (x := a2) dX1_see_13 rfl ?_
  refine r_iconst (v := (0 : Int32)) dX1_see_14 (by decide) ?_
  obtain ⟨s4, hs4, h⟩ := xb h
  refine z_callS (as := [va_rf v3, .int a2, .int (0 : Int32)]) (r1 := none) (stk := []) (stk2 := []) (st1 := s4) (d' := 0) dX1_see_15 xl_X1_24 (by decide) (Nat.le_trans xs0 (by decide)) rfl rfl (S_X10_setAt n s2 v3 a2 (0 : Int32) s4 hs4) ?_
  obtain rfl := Option.some.inj h
  exact r_return dX1_see_18 rfl
theorem S_X1_see (n : Nat) (st : xS) (a0 : Option Nat) (a1 : Int32) (a2 : Int32) (st' : xS) (h : F_X1_see n st a0 a1 a2 = some st') : Ct mX1_see [va_rf a0, .int a1, .int a2] st none st' 1 := by
  refine Ct.of (by decide) (by simp only [lgL_R, lgL_I, lgL_L, lgL_0]; decide) ?_
  try simp only [lvA_R]
  exact R_X1_see n st a0 a1 a2 st' h
theorem R_X1_arrange_L7 (n : Nat) {r : Option Value} {st' : xS} : ∀ (k : Nat) (st : xS) (a0 : Option Nat) (a1 : Int32) (q : (xS)), F_X1_arrange_L7 n k st a0 a1 = some q → Rn mX1_arrange 49 [(0, va_rf a0)] [] q r st' 0 → Rn mX1_arrange 7 [(0, va_rf a0), (1, .int a1)] [] st r st' 0 := by
  intro k
  induction k with
  | zero => intro st a0 a1 q h; cases h
  | succ k ih =>
    intro st a0 a1 q h J
    unfold F_X1_arrange_L7 at h
    refine r_iload_n (x := a1) dX1_arrange_7 rfl ?_
    refine r_bipush (v := (8 : Int32)) dX1_arrange_8 (by decide) ?_
    refine r_icmp_ge (tgt := 49) dX1_arrange_10 (by decide) (fun c => ?_) (fun c => ?_)
    · replace h := (if_pos c).symm.trans h
      obtain rfl := Option.some.inj h
      exact x_sub [0] rfl J
    · replace h := (if_neg c).symm.trans h
      refine x_aload_n (o := a0) dX1_arrange_13 rfl ?_
      obtain ⟨v2, hv2, h⟩ := xb h
      refine x_getR (o := a0) dX1_arrange_14 xf_X1_9 hv2 ?_
      refine r_iload_n (x := a1) dX1_arrange_17 rfl ?_
      obtain ⟨v3, hv3, h⟩ := xb h
      refine x_iaload (o := v2) dX1_arrange_18 hv3 ?_
      refine r_iconst (v := (-1 : Int32)) dX1_arrange_19 (by decide) ?_
      obtain ⟨q9, hq9, h⟩ := xb h
      have Jq9 : Rn mX1_arrange 43 [(0, va_rf a0), (1, .int a1)] [] q9 r st' 0 := by
        obtain ⟨v10, hv10, h⟩ := xb h
        refine x_iinc (c := (1 : Int32)) (lv' := [(1, .int v10), (0, va_rf a0)]) (x := a1) (v := v10) dX1_arrange_43 rfl (by decide) (Option.some.inj hv10) (by decide) (congrArg (List.cons _) (xfY (xk1 0 1 _) (xfN rfl rfl))) ?_
        refine r_goto (tgt := 7) dX1_arrange_46 (by decide) ?_
        exact x_sub [1, 0] rfl (ih q9 a0 v10 q h J)
      refine r_icmp_eq (tgt := 43) dX1_arrange_20 (by decide) (fun c => ?_) (fun c => ?_)
      · replace hq9 := (if_pos c).symm.trans hq9
        obtain rfl := Option.some.inj hq9
        exact x_sub [0, 1] rfl Jq9
      · replace hq9 := (if_neg c).symm.trans hq9
        refine x_aload_n (o := a0) dX1_arrange_23 rfl ?_
        obtain ⟨v4, hv4, hq9⟩ := xb hq9
        refine x_getR (o := a0) dX1_arrange_24 xf_X1_9 hv4 ?_
        refine r_iload_n (x := a1) dX1_arrange_27 rfl ?_
        refine x_aload_n (o := a0) dX1_arrange_28 rfl ?_
        obtain ⟨v5, hv5, hq9⟩ := xb hq9
        refine x_getI (o := a0) dX1_arrange_29 xf_X1_20 hv5 ?_
        obtain ⟨s6, hs6, hq9⟩ := xb hq9
        refine x_iastore (o := v4) dX1_arrange_32 hs6 ?_
        refine x_aload_n (o := a0) dX1_arrange_33 rfl ?_
        refine x_dupR (o := a0) dX1_arrange_34 ?_
        obtain ⟨v7, hv7, hq9⟩ := xb hq9
        refine x_getI (o := a0) dX1_arrange_35 xf_X1_20 hv7 ?_
        refine r_iconst (v := (1 : Int32)) dX1_arrange_38 (by decide) ?_
        refine r_iadd dX1_arrange_39 ?_
        obtain ⟨s8, hs8, hq9⟩ := xb hq9
        refine x_putI (o := a0) dX1_arrange_40 (xp_X1_20 _) hs8 ?_
        obtain rfl := Option.some.inj hq9
        exact x_sub [0, 1] rfl Jq9
theorem R_X1_arrange_L59 (n : Nat) {r : Option Value} {st' : xS} : ∀ (k : Nat) (st : xS) (a0 : Option Nat) (a1 : Int32) (a2 : Int32) (q : (xS)), F_X1_arrange_L59 n k st a0 a1 a2 = some q → Rn mX1_arrange 80 [(0, va_rf a0), (1, .int a1)] [] q r st' 0 → Rn mX1_arrange 59 [(0, va_rf a0), (1, .int a1), (2, .int a2)] [] st r st' 0 := by
  intro k
  induction k with
  | zero => intro st a0 a1 a2 q h; cases h
  | succ k ih =>
    intro st a0 a1 a2 q h J
    unfold F_X1_arrange_L59 at h
    refine r_iload_n (x := a2) dX1_arrange_59 rfl ?_
    refine r_bipush (v := (6 : Int32)) dX1_arrange_60 (by decide) ?_
    refine r_icmp_gt (tgt := 80) dX1_arrange_62 (by decide) (fun c => ?_) (fun c => ?_)
    · replace h := (if_pos c).symm.trans h
      obtain rfl := Option.some.inj h
      exact x_sub [0, 1] rfl J
    · replace h := (if_neg c).symm.trans h
      refine x_aload_n (o := a0) dX1_arrange_65 rfl ?_
      obtain ⟨v12, hv12, h⟩ := xb h
      refine x_getR (o := a0) dX1_arrange_66 xf_X1_17 hv12 ?_
      refine r_iload_n (x := a1) dX1_arrange_69 rfl ?_
      obtain ⟨v13, hv13, h⟩ := xb h
      refine x_aaload (o := v12) dX1_arrange_70 hv13 ?_
      refine r_iload_n (x := a2) dX1_arrange_71 rfl ?_
      refine r_lconst (v := (0 : Int64)) dX1_arrange_72 (by decide) ?_
      obtain ⟨s14, hs14, h⟩ := xb h
      refine x_lastore (o := v13) dX1_arrange_73 hs14 ?_
      obtain ⟨v15, hv15, h⟩ := xb h
      refine x_iinc (c := (1 : Int32)) (lv' := [(2, .int v15), (0, va_rf a0), (1, .int a1)]) (x := a2) (v := v15) dX1_arrange_74 rfl (by decide) (Option.some.inj hv15) (by decide) rfl ?_
      refine r_goto (tgt := 59) dX1_arrange_77 (by decide) ?_
      exact x_sub [1, 2, 0] rfl (ih s14 a0 a1 v15 q h J)
theorem R_X1_arrange_L51 (n : Nat) {r : Option Value} {st' : xS} : ∀ (k : Nat) (st : xS) (a0 : Option Nat) (a1 : Int32) (q : (xS)), F_X1_arrange_L51 n k st a0 a1 = some q → Rn mX1_arrange 86 [(0, va_rf a0)] [] q r st' 0 → Rn mX1_arrange 51 [(0, va_rf a0), (1, .int a1)] [] st r st' 0 := by
  intro k
  induction k with
  | zero => intro st a0 a1 q h; cases h
  | succ k ih =>
    intro st a0 a1 q h J
    unfold F_X1_arrange_L51 at h
    refine r_iload_n (x := a1) dX1_arrange_51 rfl ?_
    refine r_bipush (v := (6 : Int32)) dX1_arrange_52 (by decide) ?_
    refine r_icmp_ge (tgt := 86) dX1_arrange_54 (by decide) (fun c => ?_) (fun c => ?_)
    · replace h := (if_pos c).symm.trans h
      obtain rfl := Option.some.inj h
      exact x_sub [0] rfl J
    · replace h := (if_neg c).symm.trans h
      refine r_iconst (v := (0 : Int32)) dX1_arrange_57 (by decide) ?_
      refine r_istore_n (lv' := [(2, .int (0 : Int32)), (0, va_rf a0), (1, .int a1)]) (x := (0 : Int32)) dX1_arrange_58 (by decide) rfl ?_
      obtain ⟨q16, hq16, h⟩ := xb h
      have Jq16 : Rn mX1_arrange 80 [(0, va_rf a0), (1, .int a1)] [] q16 r st' 0 := by
        obtain ⟨v17, hv17, h⟩ := xb h
        refine x_iinc (c := (1 : Int32)) (lv' := [(1, .int v17), (0, va_rf a0)]) (x := a1) (v := v17) dX1_arrange_80 rfl (by decide) (Option.some.inj hv17) (by decide) (congrArg (List.cons _) (xfY (xk1 0 1 _) (xfN rfl rfl))) ?_
        refine r_goto (tgt := 51) dX1_arrange_83 (by decide) ?_
        exact x_sub [1, 0] rfl (ih q16 a0 v17 q h J)
      exact x_sub [1, 2, 0] rfl (R_X1_arrange_L59 n n st a0 a1 (0 : Int32) q16 hq16 Jq16)
theorem R_X1_arrange (n : Nat) (st : xS) (a0 : Option Nat) (rv : Int32) (st' : xS) (h : F_X1_arrange n st a0 = some (rv, st')) : Rn mX1_arrange 0 [(0, va_rf a0)] [] st (some (.int rv)) st' 0 := by
  unfold F_X1_arrange at h
  refine x_aload_n (o := a0) dX1_arrange_0 rfl ?_
  refine r_iconst (v := (0 : Int32)) dX1_arrange_1 (by decide) ?_
  obtain ⟨s1, hs1, h⟩ := xb h
  refine x_putI (o := a0) dX1_arrange_2 (xp_X1_20 _) hs1 ?_
  refine r_iconst (v := (0 : Int32)) dX1_arrange_5 (by decide) ?_
  refine r_istore_n (lv' := [(1, .int (0 : Int32)), (0, va_rf a0)]) (x := (0 : Int32)) dX1_arrange_6 (by decide) (congrArg (List.cons _) (xfY (xk1 0 1 _) rfl)) ?_
  obtain ⟨q11, hq11, h⟩ := xb h
  have Jq11 : Rn mX1_arrange 49 [(0, va_rf a0)] [] q11 (some (.int rv)) st' 0 := by
    refine r_iconst (v := (0 : Int32)) dX1_arrange_49 (by decide) ?_
    refine r_istore_n (lv' := [(1, .int (0 : Int32)), (0, va_rf a0)]) (x := (0 : Int32)) dX1_arrange_50 (by decide) (congrArg (List.cons _) (xfY (xk1 0 1 _) rfl)) ?_
    obtain ⟨q18, hq18, h⟩ := xb h
    have Jq18 : Rn mX1_arrange 86 [(0, va_rf a0)] [] q18 (some (.int rv)) st' 0 := by
      refine x_aload_n (o := a0) dX1_arrange_86 rfl ?_
      obtain ⟨v19, hv19, h⟩ := xb h
      refine x_getI (o := a0) dX1_arrange_87 xf_X1_20 hv19 ?_
      obtain ⟨q21, hq21, h⟩ := xb h
      have Jq21 : Rn mX1_arrange 107 [] [.int q21] q18 (some (.int rv)) st' 0 := by
        obtain ⟨v22, hv22, h⟩ := xb h
        refine x_eqI (rz_inv2 hv22).1 ?_
        obtain ⟨rfl, rfl⟩ := Prod.mk.inj (Option.some.inj h)
        exact r_ireturn dX1_arrange_107 .boolean rfl (by rcases (rz_inv2 hv22).2 with e | e <;> rw [e] <;> rfl)
      refine r_if_le (tgt := 106) dX1_arrange_90 (by decide) (fun c => ?_) (fun c => ?_)
      · replace hq21 := (if_pos c).symm.trans hq21
        refine r_iconst (v := (0 : Int32)) dX1_arrange_106 (by decide) ?_
        obtain rfl := Option.some.inj hq21
        exact x_sub [] rfl Jq21
      · replace hq21 := (if_neg c).symm.trans hq21
        refine x_aload_n (o := a0) dX1_arrange_93 rfl ?_
        obtain ⟨v20, hv20, hq21⟩ := xb hq21
        refine x_getI (o := a0) dX1_arrange_94 xf_X1_20 hv20 ?_
        refine r_bipush (v := (6 : Int32)) dX1_arrange_97 (by decide) ?_
        refine r_icmp_gt (tgt := 106) dX1_arrange_99 (by decide) (fun c => ?_) (fun c => ?_)
        · replace hq21 := (if_pos c).symm.trans hq21
          refine r_iconst (v := (0 : Int32)) dX1_arrange_106 (by decide) ?_
          obtain rfl := Option.some.inj hq21
          exact x_sub [] rfl Jq21
        · replace hq21 := (if_neg c).symm.trans hq21
          refine r_iconst (v := (1 : Int32)) dX1_arrange_102 (by decide) ?_
          refine r_goto (tgt := 107) dX1_arrange_103 (by decide) ?_
          obtain rfl := Option.some.inj hq21
          exact x_sub [] rfl Jq21
    exact x_sub [1, 0] rfl (R_X1_arrange_L51 n n q11 a0 (0 : Int32) q18 hq18 Jq18)
  exact x_sub [1, 0] rfl (R_X1_arrange_L7 n n s1 a0 (0 : Int32) q11 hq11 Jq11)
theorem S_X1_arrange (n : Nat) (st : xS) (a0 : Option Nat) (rv : Int32) (st' : xS) (h : F_X1_arrange n st a0 = some (rv, st')) : Ct mX1_arrange [va_rf a0] st (some (.int rv)) st' 0 := by
  refine Ct.of (by decide) (by simp only [lgL_R, lgL_I, lgL_L, lgL_0]; decide) ?_
  try simp only [lvA_R]
  exact R_X1_arrange n st a0 rv st' h
theorem R_X10_valueAt (n : Nat) (st : xS) (a0 : Option Nat) (a1 : Int32) (rv : Int32) (h : F_X10_valueAt n st a0 a1 = some rv) : Rn mX10_valueAt 0 [(0, va_rf a0), (1, .int a1)] [] st (some (.int rv)) st 0 := by
  unfold F_X10_valueAt at h
  refine r_iload_n (x := a1) dX10_valueAt_0 rfl ?_
  obtain ⟨q3, hq3, h⟩ := xb h
  have Jq3 : Rn mX10_valueAt 17 [] [.int q3] st (some (.int rv)) st 0 := by
    obtain rfl := Option.some.inj h
    exact r_ireturn dX10_valueAt_17 .int rfl rfl
  refine r_if_lt (tgt := 16) dX10_valueAt_1 (by decide) (fun c => ?_) (fun c => ?_)
  · replace hq3 := (if_pos c).symm.trans hq3
    refine r_iconst (v := (0 : Int32)) dX10_valueAt_16 (by decide) ?_
    obtain rfl := Option.some.inj hq3
    exact x_sub [] rfl Jq3
  · replace hq3 := (if_neg c).symm.trans hq3
    refine r_iload_n (x := a1) dX10_valueAt_4 rfl ?_
    refine x_aload_n (o := a0) dX10_valueAt_5 rfl ?_
    obtain ⟨v1, hv1, hq3⟩ := xb hq3
    refine x_alen (o := a0) dX10_valueAt_6 hv1 ?_
    refine r_icmp_ge (tgt := 16) dX10_valueAt_7 (by decide) (fun c => ?_) (fun c => ?_)
    · replace hq3 := (if_pos c).symm.trans hq3
      refine r_iconst (v := (0 : Int32)) dX10_valueAt_16 (by decide) ?_
      obtain rfl := Option.some.inj hq3
      exact x_sub [] rfl Jq3
    · replace hq3 := (if_neg c).symm.trans hq3
      refine x_aload_n (o := a0) dX10_valueAt_10 rfl ?_
      refine r_iload_n (x := a1) dX10_valueAt_11 rfl ?_
      obtain ⟨v2, hv2, hq3⟩ := xb hq3
      refine x_iaload (o := a0) dX10_valueAt_12 hv2 ?_
      refine r_goto (tgt := 17) dX10_valueAt_13 (by decide) ?_
      obtain rfl := Option.some.inj hq3
      exact x_sub [] rfl Jq3
theorem S_X10_valueAt (n : Nat) (st : xS) (a0 : Option Nat) (a1 : Int32) (rv : Int32) (h : F_X10_valueAt n st a0 a1 = some rv) : Ct mX10_valueAt [va_rf a0, .int a1] st (some (.int rv)) st 0 := by
  refine Ct.of (by decide) (by simp only [lgL_R, lgL_I, lgL_L, lgL_0]; decide) ?_
  try simp only [lvA_R]
  exact R_X10_valueAt n st a0 a1 rv h
theorem R_X1_factor (n : Nat) (st : xS) (a0 : Option Nat) (a1 : Int32) (a2 : Int32) (a3 : Int32) (rv : Int32) (h : F_X1_factor n st a0 a1 a2 a3 = some rv) : Rn mX1_factor 0 [(0, va_rf a0), (1, .int a1), (2, .int a2), (3, .int a3)] [] st (some (.int rv)) st 1 := by
  unfold F_X1_factor at h
  refine r_iload_n (x := a1) dX1_factor_0 rfl ?_
  refine r_if_eq (tgt := 16) dX1_factor_1 (by decide) (fun c => ?_) (fun c => ?_)
  · replace h := (if_pos c).symm.trans h
    refine r_iconst (v := (1 : Int32)) dX1_factor_16 (by decide) ?_
    obtain rfl := Option.some.inj h
    exact r_ireturn dX1_factor_17 .int rfl rfl
  · replace h := (if_neg c).symm.trans h
    refine r_iload_n (x := a1) dX1_factor_4 rfl ?_
    refine x_aload_n (o := a0) dX1_factor_5 rfl ?_
    obtain ⟨v1, hv1, h⟩ := xb h
    refine x_getR (o := a0) dX1_factor_6 xf_X1_9 hv1 ?_
    refine r_iload_n (x := a2) dX1_factor_9 rfl ?_
    obtain ⟨v2, hv2, h⟩ := xb h
    refine z_callS (as := [va_rf v1, .int a2]) (r1 := (some (.int v2))) (stk := [.int a1]) (stk2 := [.int v2, .int a1]) (st1 := st) (d' := 0) dX1_factor_10 xl_X1_28 (by decide) (Nat.le_trans (xsI xs0) (by decide)) rfl rfl (S_X10_valueAt n st v1 a2 v2 hv2) ?_
    refine r_icmp_ne (tgt := 18) dX1_factor_13 (by decide) (fun c => ?_) (fun c => ?_)
    · replace h := (if_neg c).symm.trans h
      refine r_iload_n (x := a1) dX1_factor_18 rfl ?_
      refine x_aload_n (o := a0) dX1_factor_19 rfl ?_
      obtain ⟨v3, hv3, h⟩ := xb h
      refine x_getR (o := a0) dX1_factor_20 xf_X1_9 hv3 ?_
      refine r_iload_n (x := a3) dX1_factor_23 rfl ?_
      obtain ⟨v4, hv4, h⟩ := xb h
      refine z_callS (as := [va_rf v3, .int a3]) (r1 := (some (.int v4))) (stk := [.int a1]) (stk2 := [.int v4, .int a1]) (st1 := st) (d' := 0) dX1_factor_24 xl_X1_28 (by decide) (Nat.le_trans (xsI xs0) (by decide)) rfl rfl (S_X10_valueAt n st v3 a3 v4 hv4) ?_
      obtain ⟨q5, hq5, h⟩ := xb h
      have Jq5 : Rn mX1_factor 35 [] [.int q5] st (some (.int rv)) st 1 := by
        obtain rfl := Option.some.inj h
        exact r_ireturn dX1_factor_35 .int rfl rfl
      refine r_icmp_ne (tgt := 34) dX1_factor_27 (by decide) (fun c => ?_) (fun c => ?_)
      · replace hq5 := (if_neg c).symm.trans hq5
        refine r_iconst (v := (0 : Int32)) dX1_factor_34 (by decide) ?_
        obtain rfl := Option.some.inj hq5
        exact x_sub [] rfl Jq5
      · replace hq5 := (if_pos c).symm.trans hq5
        refine r_iconst (v := (-1 : Int32)) dX1_factor_30 (by decide) ?_
        refine r_goto (tgt := 35) dX1_factor_31 (by decide) ?_
        obtain rfl := Option.some.inj hq5
        exact x_sub [] rfl Jq5
    · replace h := (if_pos c).symm.trans h
      refine r_iconst (v := (1 : Int32)) dX1_factor_16 (by decide) ?_
      obtain rfl := Option.some.inj h
      exact r_ireturn dX1_factor_17 .int rfl rfl
theorem S_X1_factor (n : Nat) (st : xS) (a0 : Option Nat) (a1 : Int32) (a2 : Int32) (a3 : Int32) (rv : Int32) (h : F_X1_factor n st a0 a1 a2 a3 = some rv) : Ct mX1_factor [va_rf a0, .int a1, .int a2, .int a3] st (some (.int rv)) st 1 := by
  refine Ct.of (by decide) (by simp only [lgL_R, lgL_I, lgL_L, lgL_0]; decide) ?_
  try simp only [lvA_R]
  exact R_X1_factor n st a0 a1 a2 a3 rv h
theorem R_X1_add_L32 (n : Nat) {r : Option Value} {st' : xS} : ∀ (k : Nat) (st : xS) (a0 : Option Nat) (a1 : Int32) (a2 : Int32) (a3 : Int32) (a4 : Int32) (a5 : Int32) (a6 : Int32) (q : (xS)), F_X1_add_L32 n k st a0 a1 a2 a3 a4 a5 a6 = some q → Rn mX1_add 79 [(0, va_rf a0), (1, .int a1), (2, .int a2), (3, .int a3), (4, .int a4), (5, .int a5)] [] q r st' 2 → Rn mX1_add 32 [(0, va_rf a0), (1, .int a1), (2, .int a2), (3, .int a3), (4, .int a4), (5, .int a5), (6, .int a6)] [] st r st' 2 := by
  intro k
  induction k with
  | zero => intro st a0 a1 a2 a3 a4 a5 a6 q h; cases h
  | succ k ih =>
    intro st a0 a1 a2 a3 a4 a5 a6 q h J
    unfold F_X1_add_L32 at h
    refine r_iload (x := a6) dX1_add_32 rfl ?_
    refine x_aload_n (o := a0) dX1_add_34 rfl ?_
    obtain ⟨v4, hv4, h⟩ := xb h
    refine x_getI (o := a0) dX1_add_35 xf_X1_20 hv4 ?_
    refine r_icmp_ge (tgt := 79) dX1_add_38 (by decide) (fun c => ?_) (fun c => ?_)
    · replace h := (if_pos c).symm.trans h
      obtain rfl := Option.some.inj h
      exact x_sub [0, 1, 2, 3, 4, 5] rfl J
    · replace h := (if_neg c).symm.trans h
      refine r_iload (x := a6) dX1_add_41 rfl ?_
      refine r_bipush (v := (6 : Int32)) dX1_add_43 (by decide) ?_
      refine r_icmp_ge (tgt := 79) dX1_add_45 (by decide) (fun c => ?_) (fun c => ?_)
      · replace h := (if_pos c).symm.trans h
        obtain rfl := Option.some.inj h
        exact x_sub [0, 1, 2, 3, 4, 5] rfl J
      · replace h := (if_neg c).symm.trans h
        refine x_aload_n (o := a0) dX1_add_48 rfl ?_
        obtain ⟨v5, hv5, h⟩ := xb h
        refine x_getR (o := a0) dX1_add_49 xf_X1_17 hv5 ?_
        refine r_iload (x := a4) dX1_add_52 rfl ?_
        obtain ⟨v6, hv6, h⟩ := xb h
        refine x_aaload (o := v5) dX1_add_54 hv6 ?_
        refine r_iload (x := a6) dX1_add_55 rfl ?_
        refine r_dup2 dX1_add_57 rfl (xrf_cat _) ?_
        obtain ⟨v7, hv7, h⟩ := xb h
        refine x_laload (o := v6) dX1_add_58 hv7 ?_
        refine r_iload (x := a5) dX1_add_59 rfl ?_
        refine x_aload_n (o := a0) dX1_add_61 rfl ?_
        refine r_iload (x := a6) dX1_add_62 rfl ?_
        refine r_iload_n (x := a1) dX1_add_64 rfl ?_
        refine r_iload_n (x := a2) dX1_add_65 rfl ?_
        obtain ⟨q9, hq9, h⟩ := xb h
        obtain ⟨v8, hv8, h⟩ := xb h
        refine z_callV (as := [.int a6, .int a1, .int a2]) (o := a0) (r1 := (some (.int v8))) (stk := [.int a5, .long v7, .int a6, va_rf v6]) (stk2 := [.int v8, .int a5, .long v7, .int a6, va_rf v6]) (st1 := st) (d' := 1) dX1_add_66 xl_X1_32 hq9 (by decide) (Nat.le_trans (xsI (xsJ (xsI (xsA xs0)))) (by decide)) rfl rfl (S_X1_factor n st a0 a6 a1 a2 v8 hv8) ?_
        refine r_imul dX1_add_69 ?_
        refine r_i2l dX1_add_70 ?_
        refine r_ladd dX1_add_71 ?_
        obtain ⟨s10, hs10, h⟩ := xb h
        refine x_lastore (o := v6) dX1_add_72 hs10 ?_
        obtain ⟨v11, hv11, h⟩ := xb h
        refine x_iinc (c := (1 : Int32)) (lv' := [(6, .int v11), (0, va_rf a0), (1, .int a1), (2, .int a2), (3, .int a3), (4, .int a4), (5, .int a5)]) (x := a6) (v := v11) dX1_add_73 rfl (by decide) (Option.some.inj hv11) (by decide) rfl ?_
        refine r_goto (tgt := 32) dX1_add_76 (by decide) ?_
        exact x_sub [1, 2, 3, 4, 5, 6, 0] rfl (ih s10 a0 a1 a2 a3 a4 a5 v11 q h J)
theorem R_X1_add_L3 (n : Nat) {r : Option Value} {st' : xS} : ∀ (k : Nat) (st : xS) (a0 : Option Nat) (a1 : Int32) (a2 : Int32) (a3 : Int32) (a4 : Int32) (q : (xS)), F_X1_add_L3 n k st a0 a1 a2 a3 a4 = some q → Rn mX1_add 103 [] [] q r st' 2 → Rn mX1_add 3 [(0, va_rf a0), (1, .int a1), (2, .int a2), (3, .int a3), (4, .int a4)] [] st r st' 2 := by
  intro k
  induction k with
  | zero => intro st a0 a1 a2 a3 a4 q h; cases h
  | succ k ih =>
    intro st a0 a1 a2 a3 a4 q h J
    unfold F_X1_add_L3 at h
    refine r_iload (x := a4) dX1_add_3 rfl ?_
    refine x_aload_n (o := a0) dX1_add_5 rfl ?_
    obtain ⟨v1, hv1, h⟩ := xb h
    refine x_getI (o := a0) dX1_add_6 xf_X1_20 hv1 ?_
    refine r_icmp_ge (tgt := 103) dX1_add_9 (by decide) (fun c => ?_) (fun c => ?_)
    · replace h := (if_pos c).symm.trans h
      obtain rfl := Option.some.inj h
      exact x_sub [] rfl J
    · replace h := (if_neg c).symm.trans h
      refine r_iload (x := a4) dX1_add_12 rfl ?_
      refine r_bipush (v := (6 : Int32)) dX1_add_14 (by decide) ?_
      refine r_icmp_ge (tgt := 103) dX1_add_16 (by decide) (fun c => ?_) (fun c => ?_)
      · replace h := (if_pos c).symm.trans h
        obtain rfl := Option.some.inj h
        exact x_sub [] rfl J
      · replace h := (if_neg c).symm.trans h
        refine x_aload_n (o := a0) dX1_add_19 rfl ?_
        refine r_iload (x := a4) dX1_add_20 rfl ?_
        refine r_iload_n (x := a1) dX1_add_22 rfl ?_
        refine r_iload_n (x := a2) dX1_add_23 rfl ?_
        obtain ⟨q3, hq3, h⟩ := xb h
        obtain ⟨v2, hv2, h⟩ := xb h
        refine z_callV (as := [.int a4, .int a1, .int a2]) (o := a0) (r1 := (some (.int v2))) (stk := []) (stk2 := [.int v2]) (st1 := st) (d' := 1) dX1_add_24 xl_X1_32 hq3 (by decide) (Nat.le_trans xs0 (by decide)) rfl rfl (S_X1_factor n st a0 a4 a1 a2 v2 hv2) ?_
        refine r_istore (lv' := [(5, .int v2), (0, va_rf a0), (1, .int a1), (2, .int a2), (3, .int a3), (4, .int a4)]) (x := v2) dX1_add_27 (by decide) rfl ?_
        refine r_iconst (v := (0 : Int32)) dX1_add_29 (by decide) ?_
        refine r_istore (lv' := [(6, .int (0 : Int32)), (5, .int v2), (0, va_rf a0), (1, .int a1), (2, .int a2), (3, .int a3), (4, .int a4)]) (x := (0 : Int32)) dX1_add_30 (by decide) rfl ?_
        obtain ⟨q12, hq12, h⟩ := xb h
        have Jq12 : Rn mX1_add 79 [(0, va_rf a0), (1, .int a1), (2, .int a2), (3, .int a3), (4, .int a4), (5, .int v2)] [] q12 r st' 2 := by
          refine x_aload_n (o := a0) dX1_add_79 rfl ?_
          obtain ⟨v13, hv13, h⟩ := xb h
          refine x_getR (o := a0) dX1_add_80 xf_X1_17 hv13 ?_
          refine r_iload (x := a4) dX1_add_83 rfl ?_
          obtain ⟨v14, hv14, h⟩ := xb h
          refine x_aaload (o := v13) dX1_add_85 hv14 ?_
          refine r_bipush (v := (6 : Int32)) dX1_add_86 (by decide) ?_
          refine r_dup2 dX1_add_88 rfl (xrf_cat _) ?_
          obtain ⟨v15, hv15, h⟩ := xb h
          refine x_laload (o := v14) dX1_add_89 hv15 ?_
          refine r_iload (x := v2) dX1_add_90 rfl ?_
          refine r_iload_n (x := a3) dX1_add_92 rfl ?_
          refine r_imul dX1_add_93 ?_
          refine r_i2l dX1_add_94 ?_
          refine r_ladd dX1_add_95 ?_
          obtain ⟨s16, hs16, h⟩ := xb h
          refine x_lastore (o := v14) dX1_add_96 hs16 ?_
          obtain ⟨v17, hv17, h⟩ := xb h
          refine x_iinc (c := (1 : Int32)) (lv' := [(4, .int v17), (0, va_rf a0), (1, .int a1), (2, .int a2), (3, .int a3), (5, .int v2)]) (x := a4) (v := v17) dX1_add_97 rfl (by decide) (Option.some.inj hv17) (by decide) rfl ?_
          refine r_goto (tgt := 3) dX1_add_100 (by decide) ?_
          exact x_sub [1, 2, 3, 4, 0] rfl (ih s16 a0 a1 a2 a3 v17 q h J)
        exact x_sub [2, 3, 4, 5, 6, 1, 0] rfl (R_X1_add_L32 n n st a0 a1 a2 a3 a4 v2 (0 : Int32) q12 hq12 Jq12)
theorem R_X1_add (n : Nat) (st : xS) (a0 : Option Nat) (a1 : Int32) (a2 : Int32) (a3 : Int32) (st' : xS) (h : F_X1_add n st a0 a1 a2 a3 = some st') : Rn mX1_add 0 [(0, va_rf a0), (1, .int a1), (2, .int a2), (3, .int a3)] [] st none st' 2 := by
  unfold F_X1_add at h
  refine r_iconst (v := (0 : Int32)) dX1_add_0 (by decide) ?_
  refine r_istore (lv' := [(4, .int (0 : Int32)), (0, va_rf a0), (1, .int a1), (2, .int a2), (3, .int a3)]) (x := (0 : Int32)) dX1_add_1 (by decide) rfl ?_
  obtain ⟨q18, hq18, h⟩ := xb h
  have Jq18 : Rn mX1_add 103 [] [] q18 none st' 2 := by
    obtain rfl := Option.some.inj h
    exact r_return dX1_add_103 rfl
  exact x_sub [1, 2, 3, 4, 0] rfl (R_X1_add_L3 n n st a0 a1 a2 a3 (0 : Int32) q18 hq18 Jq18)
theorem S_X1_add (n : Nat) (st : xS) (a0 : Option Nat) (a1 : Int32) (a2 : Int32) (a3 : Int32) (st' : xS) (h : F_X1_add n st a0 a1 a2 a3 = some st') : Ct mX1_add [va_rf a0, .int a1, .int a2, .int a3] st none st' 2 := by
  refine Ct.of (by decide) (by simp only [lgL_R, lgL_I, lgL_L, lgL_0]; decide) ?_
  try simp only [lvA_R]
  exact R_X1_add n st a0 a1 a2 a3 st' h
theorem R_X1_takeOut_L21 (n : Nat) {r : Option Value} {st' : xS} : ∀ (k : Nat) (st : xS) (a0 : Option Nat) (a1 : Int32) (a2 : Int32) (a3 : Int64) (a5 : Int64) (a7 : Int64) (a9 : Int32) (q : (xS)), F_X1_takeOut_L21 n k st a0 a1 a2 a3 a5 a7 a9 = some q → Rn mX1_takeOut 70 [] [] q r st' 0 → Rn mX1_takeOut 21 [(0, va_rf a0), (1, .int a1), (2, .int a2), (3, .long a3), (5, .long a5), (7, .long a7), (9, .int a9)] [] st r st' 0 := by
  intro k
  induction k with
  | zero => intro st a0 a1 a2 a3 a5 a7 a9 q h; cases h
  | succ k ih =>
    intro st a0 a1 a2 a3 a5 a7 a9 q h J
    unfold F_X1_takeOut_L21 at h
    refine r_iload (x := a9) dX1_takeOut_21 rfl ?_
    refine r_bipush (v := (6 : Int32)) dX1_takeOut_23 (by decide) ?_
    refine r_icmp_gt (tgt := 70) dX1_takeOut_25 (by decide) (fun c => ?_) (fun c => ?_)
    · replace h := (if_pos c).symm.trans h
      obtain rfl := Option.some.inj h
      exact x_sub [] rfl J
    · replace h := (if_neg c).symm.trans h
      refine x_aload_n (o := a0) dX1_takeOut_28 rfl ?_
      obtain ⟨v4, hv4, h⟩ := xb h
      refine x_getR (o := a0) dX1_takeOut_29 xf_X1_17 hv4 ?_
      refine r_iload_n (x := a1) dX1_takeOut_32 rfl ?_
      obtain ⟨v5, hv5, h⟩ := xb h
      refine x_aaload (o := v4) dX1_takeOut_33 hv5 ?_
      refine r_iload (x := a9) dX1_takeOut_34 rfl ?_
      refine r_lload_n (x := a3) dX1_takeOut_36 rfl ?_
      refine x_aload_n (o := a0) dX1_takeOut_37 rfl ?_
      obtain ⟨v6, hv6, h⟩ := xb h
      refine x_getR (o := a0) dX1_takeOut_38 xf_X1_17 hv6 ?_
      refine r_iload_n (x := a1) dX1_takeOut_41 rfl ?_
      obtain ⟨v7, hv7, h⟩ := xb h
      refine x_aaload (o := v6) dX1_takeOut_42 hv7 ?_
      refine r_iload (x := a9) dX1_takeOut_43 rfl ?_
      obtain ⟨v8, hv8, h⟩ := xb h
      refine x_laload (o := v7) dX1_takeOut_45 hv8 ?_
      refine r_lmul dX1_takeOut_46 ?_
      refine r_lload (x := a7) dX1_takeOut_47 rfl ?_
      refine x_aload_n (o := a0) dX1_takeOut_49 rfl ?_
      obtain ⟨v9, hv9, h⟩ := xb h
      refine x_getR (o := a0) dX1_takeOut_50 xf_X1_17 hv9 ?_
      refine r_iload_n (x := a2) dX1_takeOut_53 rfl ?_
      obtain ⟨v10, hv10, h⟩ := xb h
      refine x_aaload (o := v9) dX1_takeOut_54 hv10 ?_
      refine r_iload (x := a9) dX1_takeOut_55 rfl ?_
      obtain ⟨v11, hv11, h⟩ := xb h
      refine x_laload (o := v10) dX1_takeOut_57 hv11 ?_
      refine r_lmul dX1_takeOut_58 ?_
      refine r_lsub dX1_takeOut_59 ?_
      refine r_lload (x := a5) dX1_takeOut_60 rfl ?_
      obtain ⟨v12, hv12, h⟩ := xb h
      refine x_ldiv dX1_takeOut_62 hv12 ?_
      obtain ⟨s13, hs13, h⟩ := xb h
      refine x_lastore (o := v5) dX1_takeOut_63 hs13 ?_
      obtain ⟨v14, hv14, h⟩ := xb h
      refine x_iinc (c := (1 : Int32)) (lv' := [(9, .int v14), (0, va_rf a0), (1, .int a1), (2, .int a2), (3, .long a3), (5, .long a5), (7, .long a7)]) (x := a9) (v := v14) dX1_takeOut_64 rfl (by decide) (Option.some.inj hv14) (by decide) rfl ?_
      refine r_goto (tgt := 21) dX1_takeOut_67 (by decide) ?_
      exact x_sub [1, 2, 3, 4, 5, 6, 0] rfl (ih s13 a0 a1 a2 a3 a5 a7 v14 q h J)
theorem R_X1_takeOut (n : Nat) (st : xS) (a0 : Option Nat) (a1 : Int32) (a2 : Int32) (a3 : Int64) (a5 : Int64) (st' : xS) (h : F_X1_takeOut n st a0 a1 a2 a3 a5 = some st') : Rn mX1_takeOut 0 [(0, va_rf a0), (1, .int a1), (2, .int a2), (3, .long a3), (5, .long a5)] [] st none st' 0 := by
  unfold F_X1_takeOut at h
  refine r_lload (x := a5) dX1_takeOut_0 rfl ?_
  refine r_lconst (v := (0 : Int64)) dX1_takeOut_2 (by decide) ?_
  refine r_lcmp dX1_takeOut_3 ?_
  refine r_if_ne (tgt := 8) dX1_takeOut_4 (by decide) (fun c => ?_) (fun c => ?_)
  · replace h := (if_neg c).symm.trans h
    refine x_aload_n (o := a0) dX1_takeOut_8 rfl ?_
    obtain ⟨v1, hv1, h⟩ := xb h
    refine x_getR (o := a0) dX1_takeOut_9 xf_X1_17 hv1 ?_
    refine r_iload_n (x := a1) dX1_takeOut_12 rfl ?_
    obtain ⟨v2, hv2, h⟩ := xb h
    refine x_aaload (o := v1) dX1_takeOut_13 hv2 ?_
    refine r_iload_n (x := a2) dX1_takeOut_14 rfl ?_
    obtain ⟨v3, hv3, h⟩ := xb h
    refine x_laload (o := v2) dX1_takeOut_15 hv3 ?_
    refine r_lstore (lv' := [(7, .long v3), (0, va_rf a0), (1, .int a1), (2, .int a2), (3, .long a3), (5, .long a5)]) (x := v3) dX1_takeOut_16 (by decide) rfl ?_
    refine r_iconst (v := (0 : Int32)) dX1_takeOut_18 (by decide) ?_
    refine r_istore (lv' := [(9, .int (0 : Int32)), (7, .long v3), (0, va_rf a0), (1, .int a1), (2, .int a2), (3, .long a3), (5, .long a5)]) (x := (0 : Int32)) dX1_takeOut_19 (by decide) rfl ?_
    obtain ⟨q15, hq15, h⟩ := xb h
    have Jq15 : Rn mX1_takeOut 70 [] [] q15 none st' 0 := by
      obtain rfl := Option.some.inj h
      exact r_return dX1_takeOut_70 rfl
    exact x_sub [2, 3, 4, 5, 6, 1, 0] rfl (R_X1_takeOut_L21 n n st a0 a1 a2 a3 a5 v3 (0 : Int32) q15 hq15 Jq15)
  · replace h := (if_pos c).symm.trans h
    obtain rfl := Option.some.inj h
    exact r_return dX1_takeOut_7 rfl
theorem S_X1_takeOut (n : Nat) (st : xS) (a0 : Option Nat) (a1 : Int32) (a2 : Int32) (a3 : Int64) (a5 : Int64) (st' : xS) (h : F_X1_takeOut n st a0 a1 a2 a3 a5 = some st') : Ct mX1_takeOut [va_rf a0, .int a1, .int a2, .long a3, .long a5] st none st' 0 := by
  refine Ct.of (by decide) (by simp only [lgL_R, lgL_I, lgL_L, lgL_0]; decide) ?_
  try simp only [lvA_R]
  exact R_X1_takeOut n st a0 a1 a2 a3 a5 st' h
theorem R_X1_solve_L40 (n : Nat) {r : Option Value} {st' : xS} : ∀ (k : Nat) (st : xS) (a0 : Option Nat) (a1 : Int64) (a3 : Int32) (a4 : Int64) (a6 : Int32) (q : (xS)), F_X1_solve_L40 n k st a0 a1 a3 a4 a6 = some q → Rn mX1_solve 78 [(0, va_rf a0), (3, .int a3), (4, .long a4)] [] q r st' 1 → Rn mX1_solve 40 [(0, va_rf a0), (1, .long a1), (3, .int a3), (4, .long a4), (6, .int a6)] [] st r st' 1 := by
  intro k
  induction k with
  | zero => intro st a0 a1 a3 a4 a6 q h; cases h
  | succ k ih =>
    intro st a0 a1 a3 a4 a6 q h J
    unfold F_X1_solve_L40 at h
    refine r_iload (x := a6) dX1_solve_40 rfl ?_
    refine x_aload_n (o := a0) dX1_solve_42 rfl ?_
    obtain ⟨v8, hv8, h⟩ := xb h
    refine x_getI (o := a0) dX1_solve_43 xf_X1_20 hv8 ?_
    refine r_icmp_ge (tgt := 78) dX1_solve_46 (by decide) (fun c => ?_) (fun c => ?_)
    · replace h := (if_pos c).symm.trans h
      obtain rfl := Option.some.inj h
      exact x_sub [0, 2, 3] rfl J
    · replace h := (if_neg c).symm.trans h
      refine r_iload (x := a6) dX1_solve_49 rfl ?_
      refine r_bipush (v := (6 : Int32)) dX1_solve_51 (by decide) ?_
      refine r_icmp_ge (tgt := 78) dX1_solve_53 (by decide) (fun c => ?_) (fun c => ?_)
      · replace h := (if_pos c).symm.trans h
        obtain rfl := Option.some.inj h
        exact x_sub [0, 2, 3] rfl J
      · replace h := (if_neg c).symm.trans h
        refine r_iload (x := a6) dX1_solve_56 rfl ?_
        refine r_iload_n (x := a3) dX1_solve_58 rfl ?_
        obtain ⟨q11, hq11, h⟩ := xb h
        have Jq11 : Rn mX1_solve 72 [(0, va_rf a0), (1, .long a1), (3, .int a3), (4, .long a4), (6, .int a6)] [] q11 r st' 1 := by
          obtain ⟨v12, hv12, h⟩ := xb h
          refine x_iinc (c := (1 : Int32)) (lv' := [(6, .int v12), (0, va_rf a0), (1, .long a1), (3, .int a3), (4, .long a4)]) (x := a6) (v := v12) dX1_solve_72 rfl (by decide) (Option.some.inj hv12) (by decide) rfl ?_
          refine r_goto (tgt := 40) dX1_solve_75 (by decide) ?_
          exact x_sub [1, 2, 3, 4, 0] rfl (ih q11 a0 a1 a3 a4 v12 q h J)
        refine r_icmp_eq (tgt := 72) dX1_solve_59 (by decide) (fun c => ?_) (fun c => ?_)
        · replace hq11 := (if_pos c).symm.trans hq11
          obtain rfl := Option.some.inj hq11
          exact x_sub [0, 1, 2, 3, 4] rfl Jq11
        · replace hq11 := (if_neg c).symm.trans hq11
          refine x_aload_n (o := a0) dX1_solve_62 rfl ?_
          refine r_iload (x := a6) dX1_solve_63 rfl ?_
          refine r_iload_n (x := a3) dX1_solve_65 rfl ?_
          refine r_lload (x := a4) dX1_solve_66 rfl ?_
          refine r_lload_n (x := a1) dX1_solve_68 rfl ?_
          obtain ⟨q10, hq10, hq11⟩ := xb hq11
          obtain ⟨s9, hs9, hq11⟩ := xb hq11
          refine z_callV (as := [.int a6, .int a3, .long a4, .long a1]) (o := a0) (r1 := none) (stk := []) (stk2 := []) (st1 := s9) (d' := 0) dX1_solve_69 xl_X1_36 hq10 (by decide) (Nat.le_trans xs0 (by decide)) rfl rfl (S_X1_takeOut n st a0 a6 a3 a4 a1 s9 hs9) ?_
          obtain rfl := Option.some.inj hq11
          exact x_sub [0, 1, 2, 3, 4] rfl Jq11
theorem R_X1_solve_L4 (n : Nat) (rv : Int32) (st' : xS) : ∀ (k : Nat) (st : xS) (a0 : Option Nat) (a1 : Int64) (a3 : Int32), F_X1_solve_L4 n k st a0 a1 a3 = some (rv, st') → Rn mX1_solve 4 [(0, va_rf a0), (1, .long a1), (3, .int a3)] [] st (some (.int rv)) st' 1 := by
  intro k
  induction k with
  | zero => intro st a0 a1 a3 h; cases h
  | succ k ih =>
    intro st a0 a1 a3 h
    unfold F_X1_solve_L4 at h
    refine r_iload_n (x := a3) dX1_solve_4 rfl ?_
    refine x_aload_n (o := a0) dX1_solve_5 rfl ?_
    obtain ⟨v1, hv1, h⟩ := xb h
    refine x_getI (o := a0) dX1_solve_6 xf_X1_20 hv1 ?_
    refine r_icmp_ge (tgt := 87) dX1_solve_9 (by decide) (fun c => ?_) (fun c => ?_)
    · replace h := (if_pos c).symm.trans h
      refine r_iconst (v := (1 : Int32)) dX1_solve_87 (by decide) ?_
      obtain ⟨v2, hv2, h⟩ := xb h
      refine x_eqI (rz_inv2 hv2).1 ?_
      obtain ⟨rfl, rfl⟩ := Prod.mk.inj (Option.some.inj h)
      exact r_ireturn dX1_solve_88 .boolean rfl (by rcases (rz_inv2 hv2).2 with e | e <;> rw [e] <;> rfl)
    · replace h := (if_neg c).symm.trans h
      refine r_iload_n (x := a3) dX1_solve_12 rfl ?_
      refine r_bipush (v := (6 : Int32)) dX1_solve_13 (by decide) ?_
      refine r_icmp_ge (tgt := 87) dX1_solve_15 (by decide) (fun c => ?_) (fun c => ?_)
      · replace h := (if_pos c).symm.trans h
        refine r_iconst (v := (1 : Int32)) dX1_solve_87 (by decide) ?_
        obtain ⟨v3, hv3, h⟩ := xb h
        refine x_eqI (rz_inv2 hv3).1 ?_
        obtain ⟨rfl, rfl⟩ := Prod.mk.inj (Option.some.inj h)
        exact r_ireturn dX1_solve_88 .boolean rfl (by rcases (rz_inv2 hv3).2 with e | e <;> rw [e] <;> rfl)
      · replace h := (if_neg c).symm.trans h
        refine x_aload_n (o := a0) dX1_solve_18 rfl ?_
        obtain ⟨v4, hv4, h⟩ := xb h
        refine x_getR (o := a0) dX1_solve_19 xf_X1_17 hv4 ?_
        refine r_iload_n (x := a3) dX1_solve_22 rfl ?_
        obtain ⟨v5, hv5, h⟩ := xb h
        refine x_aaload (o := v4) dX1_solve_23 hv5 ?_
        refine r_iload_n (x := a3) dX1_solve_24 rfl ?_
        obtain ⟨v6, hv6, h⟩ := xb h
        refine x_laload (o := v5) dX1_solve_25 hv6 ?_
        refine r_lstore (lv' := [(4, .long v6), (0, va_rf a0), (1, .long a1), (3, .int a3)]) (x := v6) dX1_solve_26 (by decide) rfl ?_
        refine r_lload (x := v6) dX1_solve_28 rfl ?_
        refine r_lconst (v := (0 : Int64)) dX1_solve_30 (by decide) ?_
        refine r_lcmp dX1_solve_31 ?_
        refine r_if_ne (tgt := 37) dX1_solve_32 (by decide) (fun c => ?_) (fun c => ?_)
        · replace h := (if_neg c).symm.trans h
          refine r_iconst (v := (0 : Int32)) dX1_solve_37 (by decide) ?_
          refine r_istore (lv' := [(6, .int (0 : Int32)), (4, .long v6), (0, va_rf a0), (1, .long a1), (3, .int a3)]) (x := (0 : Int32)) dX1_solve_38 (by decide) rfl ?_
          obtain ⟨q13, hq13, h⟩ := xb h
          have Jq13 : Rn mX1_solve 78 [(0, va_rf a0), (3, .int a3), (4, .long v6)] [] q13 (some (.int rv)) st' 1 := by
            refine r_lload (x := v6) dX1_solve_78 rfl ?_
            refine r_lstore_n (lv' := [(1, .long v6), (0, va_rf a0), (3, .int a3), (4, .long v6)]) (x := v6) dX1_solve_80 (by decide) (congrArg (List.cons _) (xfY (xk2 0 1 _) (xfY rfl (xfY rfl rfl)))) ?_
            obtain ⟨v14, hv14, h⟩ := xb h
            refine x_iinc (c := (1 : Int32)) (lv' := [(3, .int v14), (1, .long v6), (0, va_rf a0), (4, .long v6)]) (x := a3) (v := v14) dX1_solve_81 rfl (by decide) (Option.some.inj hv14) (by decide) rfl ?_
            refine r_goto (tgt := 4) dX1_solve_84 (by decide) ?_
            exact x_sub [2, 1, 0] rfl (ih q13 a0 v6 v14 h)
          exact x_sub [2, 3, 4, 1, 0] rfl (R_X1_solve_L40 n n st a0 a1 a3 v6 (0 : Int32) q13 hq13 Jq13)
        · replace h := (if_pos c).symm.trans h
          refine r_iconst (v := (0 : Int32)) dX1_solve_35 (by decide) ?_
          obtain ⟨v7, hv7, h⟩ := xb h
          refine x_eqI (rz_inv2 hv7).1 ?_
          obtain ⟨rfl, rfl⟩ := Prod.mk.inj (Option.some.inj h)
          exact r_ireturn dX1_solve_36 .boolean rfl (by rcases (rz_inv2 hv7).2 with e | e <;> rw [e] <;> rfl)
theorem R_X1_solve (n : Nat) (st : xS) (a0 : Option Nat) (rv : Int32) (st' : xS) (h : F_X1_solve n st a0 = some (rv, st')) : Rn mX1_solve 0 [(0, va_rf a0)] [] st (some (.int rv)) st' 1 := by
  unfold F_X1_solve at h
  refine r_lconst (v := (1 : Int64)) dX1_solve_0 (by decide) ?_
  refine r_lstore_n (lv' := [(1, .long (1 : Int64)), (0, va_rf a0)]) (x := (1 : Int64)) dX1_solve_1 (by decide) (congrArg (List.cons _) (xfY (xk2 0 1 _) rfl)) ?_
  refine r_iconst (v := (0 : Int32)) dX1_solve_2 (by decide) ?_
  refine r_istore_n (lv' := [(3, .int (0 : Int32)), (1, .long (1 : Int64)), (0, va_rf a0)]) (x := (0 : Int32)) dX1_solve_3 (by decide) rfl ?_
  exact x_sub [2, 1, 0] rfl (R_X1_solve_L4 n rv st' n st a0 (1 : Int64) (0 : Int32) h)
theorem S_X1_solve (n : Nat) (st : xS) (a0 : Option Nat) (rv : Int32) (st' : xS) (h : F_X1_solve n st a0 = some (rv, st')) : Ct mX1_solve [va_rf a0] st (some (.int rv)) st' 1 := by
  refine Ct.of (by decide) (by simp only [lgL_R, lgL_I, lgL_L, lgL_0]; decide) ?_
  try simp only [lvA_R]
  exact R_X1_solve n st a0 rv st' h
theorem R_X1_played (n : Nat) (st : xS) (a0 : Option Nat) (a1 : Int32) (rv : Int32) (h : F_X1_played n st a0 a1 = some rv) : Rn mX1_played 0 [(0, va_rf a0), (1, .int a1)] [] st (some (.int rv)) st 0 := by
  unfold F_X1_played at h
  refine r_iload_n (x := a1) dX1_played_0 rfl ?_
  obtain ⟨q3, hq3, h⟩ := xb h
  have Jq3 : Rn mX1_played 25 [] [.int q3] st (some (.int rv)) st 0 := by
    obtain ⟨v4, hv4, h⟩ := xb h
    refine x_eqI (rz_inv2 hv4).1 ?_
    obtain rfl := Option.some.inj h
    exact r_ireturn dX1_played_25 .boolean rfl (by rcases (rz_inv2 hv4).2 with e | e <;> rw [e] <;> rfl)
  refine r_if_lt (tgt := 24) dX1_played_1 (by decide) (fun c => ?_) (fun c => ?_)
  · replace hq3 := (if_pos c).symm.trans hq3
    refine r_iconst (v := (0 : Int32)) dX1_played_24 (by decide) ?_
    obtain rfl := Option.some.inj hq3
    exact x_sub [] rfl Jq3
  · replace hq3 := (if_neg c).symm.trans hq3
    refine r_iload_n (x := a1) dX1_played_4 rfl ?_
    refine r_bipush (v := (8 : Int32)) dX1_played_5 (by decide) ?_
    refine r_icmp_ge (tgt := 24) dX1_played_7 (by decide) (fun c => ?_) (fun c => ?_)
    · replace hq3 := (if_pos c).symm.trans hq3
      refine r_iconst (v := (0 : Int32)) dX1_played_24 (by decide) ?_
      obtain rfl := Option.some.inj hq3
      exact x_sub [] rfl Jq3
    · replace hq3 := (if_neg c).symm.trans hq3
      refine x_aload_n (o := a0) dX1_played_10 rfl ?_
      obtain ⟨v1, hv1, hq3⟩ := xb hq3
      refine x_getR (o := a0) dX1_played_11 xf_X1_9 hv1 ?_
      refine r_iload_n (x := a1) dX1_played_14 rfl ?_
      obtain ⟨v2, hv2, hq3⟩ := xb hq3
      refine x_iaload (o := v1) dX1_played_15 hv2 ?_
      refine r_iconst (v := (-1 : Int32)) dX1_played_16 (by decide) ?_
      refine r_icmp_eq (tgt := 24) dX1_played_17 (by decide) (fun c => ?_) (fun c => ?_)
      · replace hq3 := (if_pos c).symm.trans hq3
        refine r_iconst (v := (0 : Int32)) dX1_played_24 (by decide) ?_
        obtain rfl := Option.some.inj hq3
        exact x_sub [] rfl Jq3
      · replace hq3 := (if_neg c).symm.trans hq3
        refine r_iconst (v := (1 : Int32)) dX1_played_20 (by decide) ?_
        refine r_goto (tgt := 25) dX1_played_21 (by decide) ?_
        obtain rfl := Option.some.inj hq3
        exact x_sub [] rfl Jq3
theorem S_X1_played (n : Nat) (st : xS) (a0 : Option Nat) (a1 : Int32) (rv : Int32) (h : F_X1_played n st a0 a1 = some rv) : Ct mX1_played [va_rf a0, .int a1] st (some (.int rv)) st 0 := by
  refine Ct.of (by decide) (by simp only [lgL_R, lgL_I, lgL_L, lgL_0]; decide) ?_
  try simp only [lvA_R]
  exact R_X1_played n st a0 a1 rv h
theorem R_X1_under (n : Nat) (st : xS) (a0 : Option Nat) (rv : Int64) (h : F_X1_under n st a0 = some rv) : Rn mX1_under 0 [(0, va_rf a0)] [] st (some (.long rv)) st 0 := by
  unfold F_X1_under at h
  refine x_aload_n (o := a0) dX1_under_0 rfl ?_
  obtain ⟨v1, hv1, h⟩ := xb h
  refine x_getR (o := a0) dX1_under_1 xf_X1_17 hv1 ?_
  refine r_iconst (v := (0 : Int32)) dX1_under_4 (by decide) ?_
  obtain ⟨v2, hv2, h⟩ := xb h
  refine x_aaload (o := v1) dX1_under_5 hv2 ?_
  refine r_iconst (v := (0 : Int32)) dX1_under_6 (by decide) ?_
  obtain ⟨v3, hv3, h⟩ := xb h
  refine x_laload (o := v2) dX1_under_7 hv3 ?_
  obtain rfl := Option.some.inj h
  exact r_lreturn dX1_under_8 rfl
theorem S_X1_under (n : Nat) (st : xS) (a0 : Option Nat) (rv : Int64) (h : F_X1_under n st a0 = some rv) : Ct mX1_under [va_rf a0] st (some (.long rv)) st 0 := by
  refine Ct.of (by decide) (by simp only [lgL_R, lgL_I, lgL_L, lgL_0]; decide) ?_
  try simp only [lvA_R]
  exact R_X1_under n st a0 rv h
theorem R_X1_home (n : Nat) (st : xS) (a0 : Option Nat) (rv : Int64) (h : F_X1_home n st a0 = some rv) : Rn mX1_home 0 [(0, va_rf a0)] [] st (some (.long rv)) st 0 := by
  unfold F_X1_home at h
  refine x_aload_n (o := a0) dX1_home_0 rfl ?_
  obtain ⟨v1, hv1, h⟩ := xb h
  refine x_getR (o := a0) dX1_home_1 xf_X1_17 hv1 ?_
  refine r_iconst (v := (0 : Int32)) dX1_home_4 (by decide) ?_
  obtain ⟨v2, hv2, h⟩ := xb h
  refine x_aaload (o := v1) dX1_home_5 hv2 ?_
  refine r_bipush (v := (6 : Int32)) dX1_home_6 (by decide) ?_
  obtain ⟨v3, hv3, h⟩ := xb h
  refine x_laload (o := v2) dX1_home_8 hv3 ?_
  obtain rfl := Option.some.inj h
  exact r_lreturn dX1_home_9 rfl
theorem S_X1_home (n : Nat) (st : xS) (a0 : Option Nat) (rv : Int64) (h : F_X1_home n st a0 = some rv) : Ct mX1_home [va_rf a0] st (some (.long rv)) st 0 := by
  refine Ct.of (by decide) (by simp only [lgL_R, lgL_I, lgL_L, lgL_0]; decide) ?_
  try simp only [lvA_R]
  exact R_X1_home n st a0 rv h
theorem R_X1_strength (n : Nat) (st : xS) (a0 : Option Nat) (a1 : Int32) (rv : Int64) (h : F_X1_strength n st a0 a1 = some rv) : Rn mX1_strength 0 [(0, va_rf a0), (1, .int a1)] [] st (some (.long rv)) st 1 := by
  unfold F_X1_strength at h
  refine x_aload_n (o := a0) dX1_strength_0 rfl ?_
  obtain ⟨v1, hv1, h⟩ := xb h
  refine x_getR (o := a0) dX1_strength_1 xf_X1_9 hv1 ?_
  refine r_iload_n (x := a1) dX1_strength_4 rfl ?_
  obtain ⟨v2, hv2, h⟩ := xb h
  refine z_callS (as := [va_rf v1, .int a1]) (r1 := (some (.int v2))) (stk := []) (stk2 := [.int v2]) (st1 := st) (d' := 0) dX1_strength_5 xl_X1_28 (by decide) (Nat.le_trans xs0 (by decide)) rfl rfl (S_X10_valueAt n st v1 a1 v2 hv2) ?_
  refine r_istore_n (lv' := [(2, .int v2), (0, va_rf a0), (1, .int a1)]) (x := v2) dX1_strength_8 (by decide) rfl ?_
  refine r_iload_n (x := v2) dX1_strength_9 rfl ?_
  obtain ⟨q6, hq6, h⟩ := xb h
  have Jq6 : Rn mX1_strength 32 [] [.long q6] st (some (.long rv)) st 1 := by
    obtain rfl := Option.some.inj h
    exact r_lreturn dX1_strength_32 rfl
  refine r_if_le (tgt := 31) dX1_strength_10 (by decide) (fun c => ?_) (fun c => ?_)
  · replace hq6 := (if_pos c).symm.trans hq6
    refine r_lconst (v := (0 : Int64)) dX1_strength_31 (by decide) ?_
    obtain rfl := Option.some.inj hq6
    exact x_sub [] rfl Jq6
  · replace hq6 := (if_neg c).symm.trans hq6
    refine r_iload_n (x := v2) dX1_strength_13 rfl ?_
    refine r_bipush (v := (6 : Int32)) dX1_strength_14 (by decide) ?_
    refine r_icmp_ge (tgt := 31) dX1_strength_16 (by decide) (fun c => ?_) (fun c => ?_)
    · replace hq6 := (if_pos c).symm.trans hq6
      refine r_lconst (v := (0 : Int64)) dX1_strength_31 (by decide) ?_
      obtain rfl := Option.some.inj hq6
      exact x_sub [] rfl Jq6
    · replace hq6 := (if_neg c).symm.trans hq6
      refine x_aload_n (o := a0) dX1_strength_19 rfl ?_
      obtain ⟨v3, hv3, hq6⟩ := xb hq6
      refine x_getR (o := a0) dX1_strength_20 xf_X1_17 hv3 ?_
      refine r_iload_n (x := v2) dX1_strength_23 rfl ?_
      obtain ⟨v4, hv4, hq6⟩ := xb hq6
      refine x_aaload (o := v3) dX1_strength_24 hv4 ?_
      refine r_bipush (v := (6 : Int32)) dX1_strength_25 (by decide) ?_
      obtain ⟨v5, hv5, hq6⟩ := xb hq6
      refine x_laload (o := v4) dX1_strength_27 hv5 ?_
      refine r_goto (tgt := 32) dX1_strength_28 (by decide) ?_
      obtain rfl := Option.some.inj hq6
      exact x_sub [] rfl Jq6
theorem S_X1_strength (n : Nat) (st : xS) (a0 : Option Nat) (a1 : Int32) (rv : Int64) (h : F_X1_strength n st a0 a1 = some rv) : Ct mX1_strength [va_rf a0, .int a1] st (some (.long rv)) st 1 := by
  refine Ct.of (by decide) (by simp only [lgL_R, lgL_I, lgL_L, lgL_0]; decide) ?_
  try simp only [lvA_R]
  exact R_X1_strength n st a0 a1 rv h
theorem R_X2_init (n : Nat) (st : xS) (a0 : Option Nat) (rv : Unit) (h : F_X2_init n st a0 = some rv) : Rn mX2_init 0 [(0, va_rf a0)] [] st none st 1 := by
  unfold F_X2_init at h
  refine x_aload_n (o := a0) dX2_init_0 rfl ?_
  obtain ⟨b1, hb1, h⟩ := xb h
  refine x_objInit (o := a0) dX2_init_1 xo_X2_1 xo_2 xo_3 (by decide) (Nat.le_trans xs0 (by decide)) hb1 ?_
  exact r_return dX2_init_4 rfl
theorem S_X2_init (n : Nat) (st : xS) (a0 : Option Nat) (rv : Unit) (h : F_X2_init n st a0 = some rv) : Ct mX2_init [va_rf a0] st none st 1 := by
  refine Ct.of (by decide) (by simp only [lgL_R, lgL_I, lgL_L, lgL_0]; decide) ?_
  try simp only [lvA_R]
  exact R_X2_init n st a0 rv h
theorem R_X3_init_L22 (n : Nat) {r : Option Value} {st' : xS} : ∀ (k : Nat) (st : xS) (a0 : Option Nat) (a1 : Int32) (q : (xS)), F_X3_init_L22 n k st a0 a1 = some q → Rn mX3_init 44 [] [] q r st' 2 → Rn mX3_init 22 [(0, va_rf a0), (1, .int a1)] [] st r st' 2 := by
  intro k
  induction k with
  | zero => intro st a0 a1 q h; cases h
  | succ k ih =>
    intro st a0 a1 q h J
    unfold F_X3_init_L22 at h
    refine r_iload_n (x := a1) dX3_init_22 rfl ?_
    refine r_bipush (v := (6 : Int32)) dX3_init_23 (by decide) ?_
    refine r_icmp_ge (tgt := 44) dX3_init_25 (by decide) (fun c => ?_) (fun c => ?_)
    · replace h := (if_pos c).symm.trans h
      obtain rfl := Option.some.inj h
      exact x_sub [] rfl J
    · replace h := (if_neg c).symm.trans h
      refine x_aload_n (o := a0) dX3_init_28 rfl ?_
      obtain ⟨v8, hv8, h⟩ := xb h
      refine x_getR (o := a0) dX3_init_29 xf_X3_11 hv8 ?_
      refine r_bipush (v := (20 : Int32)) dX3_init_32 (by decide) ?_
      refine r_iload_n (x := a1) dX3_init_34 rfl ?_
      refine r_iadd dX3_init_35 ?_
      refine r_iconst (v := (1 : Int32)) dX3_init_36 (by decide) ?_
      obtain ⟨s9, hs9, h⟩ := xb h
      refine x_iastore (o := v8) dX3_init_37 hs9 ?_
      obtain ⟨v10, hv10, h⟩ := xb h
      refine x_iinc (c := (1 : Int32)) (lv' := [(1, .int v10), (0, va_rf a0)]) (x := a1) (v := v10) dX3_init_38 rfl (by decide) (Option.some.inj hv10) (by decide) (congrArg (List.cons _) (xfY (xk1 0 1 _) (xfN rfl rfl))) ?_
      refine r_goto (tgt := 22) dX3_init_41 (by decide) ?_
      exact x_sub [1, 0] rfl (ih s9 a0 v10 q h J)
theorem R_X3_init (n : Nat) (st : xS) (a0 : Option Nat) (st' : xS) (h : F_X3_init n st a0 = some st') : Rn mX3_init 0 [(0, va_rf a0)] [] st none st' 2 := by
  unfold F_X3_init at h
  refine x_aload_n (o := a0) dX3_init_0 rfl ?_
  obtain ⟨b1, hb1, h⟩ := xb h
  obtain ⟨u2, hu2, h⟩ := xb h
  refine x_callI (as := []) (o := a0) (stk := []) (st1 := st) (d' := 1) dX3_init_1 xl_X3_3 hb1 (by decide) (Nat.le_trans xs0 (by decide)) rfl (S_X2_init n st a0  u2 hu2) ?_
  refine x_aload_n (o := a0) dX3_init_4 rfl ?_
  refine r_bipush (v := (26 : Int32)) dX3_init_5 (by decide) ?_
  obtain ⟨s3, hs3, h⟩ := xb h
  obtain ⟨o4, ho4, h⟩ := xb h
  refine x_newarray (t := 0) (o := o4) dX3_init_7 (by decide) rfl xar_0 (by decide) (by decide) (by decide) (Option.some.inj hs3) (Option.some.inj ho4) ?_
  obtain ⟨s5, hs5, h⟩ := xb h
  refine x_putR (o := a0) (x := o4) dX3_init_9 xp_X3_11 (Or.inr ⟨_, rfl⟩) hs5 ?_
  refine x_aload_n (o := a0) dX3_init_12 rfl ?_
  obtain ⟨v6, hv6, h⟩ := xb h
  refine x_getR (o := a0) dX3_init_13 xf_X3_11 hv6 ?_
  refine r_iconst (v := (0 : Int32)) dX3_init_16 (by decide) ?_
  refine r_bipush (v := (30 : Int32)) dX3_init_17 (by decide) ?_
  obtain ⟨s7, hs7, h⟩ := xb h
  refine x_iastore (o := v6) dX3_init_19 hs7 ?_
  refine r_iconst (v := (1 : Int32)) dX3_init_20 (by decide) ?_
  refine r_istore_n (lv' := [(1, .int (1 : Int32)), (0, va_rf a0)]) (x := (1 : Int32)) dX3_init_21 (by decide) (congrArg (List.cons _) (xfY (xk1 0 1 _) rfl)) ?_
  obtain ⟨q11, hq11, h⟩ := xb h
  have Jq11 : Rn mX3_init 44 [] [] q11 none st' 2 := by
    obtain rfl := Option.some.inj h
    exact r_return dX3_init_44 rfl
  exact x_sub [1, 0] rfl (R_X3_init_L22 n n s7 a0 (1 : Int32) q11 hq11 Jq11)
theorem S_X3_init (n : Nat) (st : xS) (a0 : Option Nat) (st' : xS) (h : F_X3_init n st a0 = some st') : Ct mX3_init [va_rf a0] st none st' 2 := by
  refine Ct.of (by decide) (by simp only [lgL_R, lgL_I, lgL_L, lgL_0]; decide) ?_
  try simp only [lvA_R]
  exact R_X3_init n st a0 st' h
theorem R_X3_isFull (n : Nat) (st : xS) (a0 : Option Nat) (a1 : Int32) (rv : Int32) (h : F_X3_isFull n st a0 a1 = some rv) : Rn mX3_isFull 0 [(0, va_rf a0), (1, .int a1)] [] st (some (.int rv)) st 0 := by
  unfold F_X3_isFull at h
  refine r_iconst (v := (0 : Int32)) dX3_isFull_0 (by decide) ?_
  obtain ⟨v1, hv1, h⟩ := xb h
  refine x_eqI (rz_inv2 hv1).1 ?_
  obtain rfl := Option.some.inj h
  exact r_ireturn dX3_isFull_1 .boolean rfl (by rcases (rz_inv2 hv1).2 with e | e <;> rw [e] <;> rfl)
theorem S_X3_isFull (n : Nat) (st : xS) (a0 : Option Nat) (a1 : Int32) (rv : Int32) (h : F_X3_isFull n st a0 a1 = some rv) : Ct mX3_isFull [va_rf a0, .int a1] st (some (.int rv)) st 0 := by
  refine Ct.of (by decide) (by simp only [lgL_R, lgL_I, lgL_L, lgL_0]; decide) ?_
  try simp only [lvA_R]
  exact R_X3_isFull n st a0 a1 rv h
theorem R_X3_leastOf (n : Nat) (st : xS) (a0 : Option Nat) (a1 : Int32) (a2 : Int32) (rv : Int32) (h : F_X3_leastOf n st a0 a1 a2 = some rv) : Rn mX3_leastOf 0 [(0, va_rf a0), (1, .int a1), (2, .int a2)] [] st (some (.int rv)) st 0 := by
  unfold F_X3_leastOf at h
  refine r_iload_n (x := a2) dX3_leastOf_0 rfl ?_
  obtain ⟨q1, hq1, h⟩ := xb h
  have Jq1 : Rn mX3_leastOf 9 [] [.int q1] st (some (.int rv)) st 0 := by
    obtain rfl := Option.some.inj h
    exact r_ireturn dX3_leastOf_9 .int rfl rfl
  refine r_if_ne (tgt := 8) dX3_leastOf_1 (by decide) (fun c => ?_) (fun c => ?_)
  · replace hq1 := (if_neg c).symm.trans hq1
    refine r_iconst (v := (1 : Int32)) dX3_leastOf_8 (by decide) ?_
    obtain rfl := Option.some.inj hq1
    exact x_sub [] rfl Jq1
  · replace hq1 := (if_pos c).symm.trans hq1
    refine r_iconst (v := (0 : Int32)) dX3_leastOf_4 (by decide) ?_
    refine r_goto (tgt := 9) dX3_leastOf_5 (by decide) ?_
    obtain rfl := Option.some.inj hq1
    exact x_sub [] rfl Jq1
theorem S_X3_leastOf (n : Nat) (st : xS) (a0 : Option Nat) (a1 : Int32) (a2 : Int32) (rv : Int32) (h : F_X3_leastOf n st a0 a1 a2 = some rv) : Ct mX3_leastOf [va_rf a0, .int a1, .int a2] st (some (.int rv)) st 0 := by
  refine Ct.of (by decide) (by simp only [lgL_R, lgL_I, lgL_L, lgL_0]; decide) ?_
  try simp only [lvA_R]
  exact R_X3_leastOf n st a0 a1 a2 rv h
theorem R_X3_mostOf (n : Nat) (st : xS) (a0 : Option Nat) (a1 : Int32) (a2 : Int32) (rv : Int32) (h : F_X3_mostOf n st a0 a1 a2 = some rv) : Rn mX3_mostOf 0 [(0, va_rf a0), (1, .int a1), (2, .int a2)] [] st (some (.int rv)) st 0 := by
  unfold F_X3_mostOf at h
  refine r_iload_n (x := a2) dX3_mostOf_0 rfl ?_
  refine r_if_ne (tgt := 18) dX3_mostOf_1 (by decide) (fun c => ?_) (fun c => ?_)
  · replace h := (if_neg c).symm.trans h
    refine r_iload_n (x := a1) dX3_mostOf_18 rfl ?_
    refine r_bipush (v := (11 : Int32)) dX3_mostOf_19 (by decide) ?_
    refine r_isub dX3_mostOf_21 ?_
    by_cases c1 : (a1 - (11 : Int32)) = (1 : Int32)
    · replace h := (if_pos c1).symm.trans h
      refine r_tableIn (off := 30) (tgt := 52) dX3_mostOf_22 (by rw [c1]; decide) (by rw [c1]; decide) (by rw [c1]; rfl) (by decide) ?_
      refine r_sipush (v := (9999 : Int32)) dX3_mostOf_52 (by decide) ?_
      obtain rfl := Option.some.inj h
      exact r_ireturn dX3_mostOf_55 .int rfl rfl
    replace h := (if_neg c1).symm.trans h
    by_cases c2 : (a1 - (11 : Int32)) = (2 : Int32)
    · replace h := (if_pos c2).symm.trans h
      refine r_tableIn (off := 34) (tgt := 56) dX3_mostOf_22 (by rw [c2]; decide) (by rw [c2]; decide) (by rw [c2]; rfl) (by decide) ?_
      refine r_bipush (v := (30 : Int32)) dX3_mostOf_56 (by decide) ?_
      obtain rfl := Option.some.inj h
      exact r_ireturn dX3_mostOf_58 .int rfl rfl
    replace h := (if_neg c2).symm.trans h
    by_cases c3 : (a1 - (11 : Int32)) = (3 : Int32)
    · replace h := (if_pos c3).symm.trans h
      refine r_tableIn (off := 37) (tgt := 59) dX3_mostOf_22 (by rw [c3]; decide) (by rw [c3]; decide) (by rw [c3]; rfl) (by decide) ?_
      refine r_sipush (v := (999 : Int32)) dX3_mostOf_59 (by decide) ?_
      obtain rfl := Option.some.inj h
      exact r_ireturn dX3_mostOf_62 .int rfl rfl
    replace h := (if_neg c3).symm.trans h
    by_cases c4 : (a1 - (11 : Int32)) = (4 : Int32)
    · replace h := (if_pos c4).symm.trans h
      refine r_tableIn (off := 41) (tgt := 63) dX3_mostOf_22 (by rw [c4]; decide) (by rw [c4]; decide) (by rw [c4]; rfl) (by decide) ?_
      refine r_sipush (v := (999 : Int32)) dX3_mostOf_63 (by decide) ?_
      obtain rfl := Option.some.inj h
      exact r_ireturn dX3_mostOf_66 .int rfl rfl
    replace h := (if_neg c4).symm.trans h
    refine r_tableOut (tgt := 67) dX3_mostOf_22 (xswD (fun k hk1 hk2 => by
      have hk : k = 1 ∨ k = 2 ∨ k = 3 ∨ k = 4 := by omega
      rcases hk with rfl | rfl | rfl | rfl
      · exact c1
      · exact c2
      · exact c3
      · exact c4)) (by decide) ?_
    refine r_bipush (v := (99 : Int32)) dX3_mostOf_67 (by decide) ?_
    obtain rfl := Option.some.inj h
    exact r_ireturn dX3_mostOf_69 .int rfl rfl
  · replace h := (if_pos c).symm.trans h
    refine r_iload_n (x := a1) dX3_mostOf_4 rfl ?_
    refine r_bipush (v := (10 : Int32)) dX3_mostOf_5 (by decide) ?_
    obtain ⟨q1, hq1, h⟩ := xb h
    have Jq1 : Rn mX3_mostOf 17 [] [.int q1] st (some (.int rv)) st 0 := by
      obtain rfl := Option.some.inj h
      exact r_ireturn dX3_mostOf_17 .int rfl rfl
    refine r_icmp_ne (tgt := 15) dX3_mostOf_7 (by decide) (fun c => ?_) (fun c => ?_)
    · replace hq1 := (if_neg c).symm.trans hq1
      refine r_bipush (v := (50 : Int32)) dX3_mostOf_15 (by decide) ?_
      obtain rfl := Option.some.inj hq1
      exact x_sub [] rfl Jq1
    · replace hq1 := (if_pos c).symm.trans hq1
      refine r_bipush (v := (100 : Int32)) dX3_mostOf_10 (by decide) ?_
      refine r_goto (tgt := 17) dX3_mostOf_12 (by decide) ?_
      obtain rfl := Option.some.inj hq1
      exact x_sub [] rfl Jq1
theorem S_X3_mostOf (n : Nat) (st : xS) (a0 : Option Nat) (a1 : Int32) (a2 : Int32) (rv : Int32) (h : F_X3_mostOf n st a0 a1 a2 = some rv) : Ct mX3_mostOf [va_rf a0, .int a1, .int a2] st (some (.int rv)) st 0 := by
  refine Ct.of (by decide) (by simp only [lgL_R, lgL_I, lgL_L, lgL_0]; decide) ?_
  try simp only [lvA_R]
  exact R_X3_mostOf n st a0 a1 a2 rv h
theorem R_X3_take (n : Nat) (st : xS) (a0 : Option Nat) (a1 : Int32) (a2 : Int32) (a3 : Int32) (a4 : Int32) (st' : xS) (h : F_X3_take n st a0 a1 a2 a3 a4 = some st') : Rn mX3_take 0 [(0, va_rf a0), (1, .int a1), (2, .int a2), (3, .int a3), (4, .int a4)] [] st none st' 1 := by
  unfold F_X3_take at h
  refine r_iload_n (x := a1) dX3_take_0 rfl ?_
  refine r_bipush (v := (10 : Int32)) dX3_take_1 (by decide) ?_
  refine r_icmp_ne (tgt := 14) dX3_take_3 (by decide) (fun c => ?_) (fun c => ?_)
  · replace h := (if_neg c).symm.trans h
    refine r_iload_n (x := a1) dX3_take_14 rfl ?_
    refine r_bipush (v := (11 : Int32)) dX3_take_15 (by decide) ?_
    refine r_isub dX3_take_17 ?_
    obtain ⟨v3, hv3, h⟩ := xb h
    refine x_eqI (Option.some.inj hv3) ?_
    refine r_istore (lv' := [(5, .int v3), (0, va_rf a0), (1, .int a1), (2, .int a2), (3, .int a3), (4, .int a4)]) (x := v3) dX3_take_18 (by decide) rfl ?_
    refine x_aload_n (o := a0) dX3_take_20 rfl ?_
    obtain ⟨v4, hv4, h⟩ := xb h
    refine x_getR (o := a0) dX3_take_21 xf_X3_11 hv4 ?_
    refine r_bipush (v := (10 : Int32)) dX3_take_24 (by decide) ?_
    refine r_iload (x := v3) dX3_take_26 rfl ?_
    refine r_iadd dX3_take_28 ?_
    refine r_iload_n (x := a2) dX3_take_29 rfl ?_
    obtain ⟨s5, hs5, h⟩ := xb h
    refine z_callS (as := [va_rf v4, .int ((10 : Int32) + v3), .int a2]) (r1 := none) (stk := []) (stk2 := []) (st1 := s5) (d' := 0) dX3_take_30 xl_X3_15 (by decide) (Nat.le_trans xs0 (by decide)) rfl rfl (S_X10_setAt n st v4 ((10 : Int32) + v3) a2 s5 hs5) ?_
    refine r_iload (x := v3) dX3_take_33 rfl ?_
    obtain ⟨q8, hq8, h⟩ := xb h
    have Jq8 : Rn mX3_take 51 [] [] q8 none st' 1 := by
      obtain rfl := Option.some.inj h
      exact r_return dX3_take_51 rfl
    refine r_if_le (tgt := 51) dX3_take_35 (by decide) (fun c => ?_) (fun c => ?_)
    · replace hq8 := (if_pos c).symm.trans hq8
      obtain rfl := Option.some.inj hq8
      exact x_sub [] rfl Jq8
    · replace hq8 := (if_neg c).symm.trans hq8
      refine x_aload_n (o := a0) dX3_take_38 rfl ?_
      obtain ⟨v6, hv6, hq8⟩ := xb hq8
      refine x_getR (o := a0) dX3_take_39 xf_X3_11 hv6 ?_
      refine r_bipush (v := (20 : Int32)) dX3_take_42 (by decide) ?_
      refine r_iload (x := v3) dX3_take_44 rfl ?_
      refine r_iadd dX3_take_46 ?_
      refine r_iload_n (x := a3) dX3_take_47 rfl ?_
      obtain ⟨s7, hs7, hq8⟩ := xb hq8
      refine z_callS (as := [va_rf v6, .int ((20 : Int32) + v3), .int a3]) (r1 := none) (stk := []) (stk2 := []) (st1 := s7) (d' := 0) dX3_take_48 xl_X3_15 (by decide) (Nat.le_trans xs0 (by decide)) rfl rfl (S_X10_setAt n s5 v6 ((20 : Int32) + v3) a3 s7 hs7) ?_
      obtain rfl := Option.some.inj hq8
      exact x_sub [] rfl Jq8
  · replace h := (if_pos c).symm.trans h
    refine x_aload_n (o := a0) dX3_take_6 rfl ?_
    obtain ⟨v1, hv1, h⟩ := xb h
    refine x_getR (o := a0) dX3_take_7 xf_X3_11 hv1 ?_
    refine r_iconst (v := (0 : Int32)) dX3_take_10 (by decide) ?_
    refine r_iload_n (x := a2) dX3_take_11 rfl ?_
    obtain ⟨s2, hs2, h⟩ := xb h
    refine x_iastore (o := v1) dX3_take_12 hs2 ?_
    obtain rfl := Option.some.inj h
    exact r_return dX3_take_13 rfl
theorem S_X3_take (n : Nat) (st : xS) (a0 : Option Nat) (a1 : Int32) (a2 : Int32) (a3 : Int32) (a4 : Int32) (st' : xS) (h : F_X3_take n st a0 a1 a2 a3 a4 = some st') : Ct mX3_take [va_rf a0, .int a1, .int a2, .int a3, .int a4] st none st' 1 := by
  refine Ct.of (by decide) (by simp only [lgL_R, lgL_I, lgL_L, lgL_0]; decide) ?_
  try simp only [lvA_R]
  exact R_X3_take n st a0 a1 a2 a3 a4 st' h
theorem R_X3_number (n : Nat) (st : xS) (a0 : Option Nat) (a1 : Int32) (rv : Int32) (h : F_X3_number n st a0 a1 = some rv) : Rn mX3_number 0 [(0, va_rf a0), (1, .int a1)] [] st (some (.int rv)) st 1 := by
  unfold F_X3_number at h
  refine r_iload_n (x := a1) dX3_number_0 rfl ?_
  refine r_bipush (v := (10 : Int32)) dX3_number_1 (by decide) ?_
  obtain ⟨q1, hq1, h⟩ := xb h
  have Jq1 : Rn mX3_number 17 [(0, va_rf a0), (1, .int a1)] [.int q1] st (some (.int rv)) st 1 := by
    refine r_istore_n (lv' := [(2, .int q1), (0, va_rf a0), (1, .int a1)]) (x := q1) dX3_number_17 (by decide) rfl ?_
    refine r_iload_n (x := a1) dX3_number_18 rfl ?_
    refine r_bipush (v := (20 : Int32)) dX3_number_19 (by decide) ?_
    obtain ⟨q2, hq2, h⟩ := xb h
    have Jq2 : Rn mX3_number 35 [(0, va_rf a0), (1, .int a1), (2, .int q1)] [.int q2] st (some (.int rv)) st 1 := by
      refine r_istore_n (lv' := [(3, .int q2), (0, va_rf a0), (1, .int a1), (2, .int q1)]) (x := q2) dX3_number_35 (by decide) rfl ?_
      refine r_iload_n (x := a1) dX3_number_36 rfl ?_
      obtain ⟨q9, hq9, h⟩ := xb h
      have Jq9 : Rn mX3_number 60 [] [.int q9] st (some (.int rv)) st 1 := by
        obtain rfl := Option.some.inj h
        exact r_ireturn dX3_number_60 .int rfl rfl
      refine r_if_eq (tgt := 48) dX3_number_37 (by decide) (fun c => ?_) (fun c => ?_)
      · replace hq9 := (if_pos c).symm.trans hq9
        refine x_aload_n (o := a0) dX3_number_48 rfl ?_
        obtain ⟨v3, hv3, hq9⟩ := xb hq9
        refine x_getR (o := a0) dX3_number_49 xf_X3_11 hv3 ?_
        refine r_iload_n (x := a1) dX3_number_52 rfl ?_
        obtain ⟨v4, hv4, hq9⟩ := xb hq9
        refine z_callS (as := [va_rf v3, .int a1]) (r1 := (some (.int v4))) (stk := []) (stk2 := [.int v4]) (st1 := st) (d' := 0) dX3_number_53 xl_X3_19 (by decide) (Nat.le_trans xs0 (by decide)) rfl rfl (S_X10_valueAt n st v3 a1 v4 hv4) ?_
        refine r_goto (tgt := 60) dX3_number_56 (by decide) ?_
        obtain rfl := Option.some.inj hq9
        exact x_sub [] rfl Jq9
      · replace hq9 := (if_neg c).symm.trans hq9
        refine r_iload_n (x := q1) dX3_number_40 rfl ?_
        refine r_if_ne (tgt := 48) dX3_number_41 (by decide) (fun c => ?_) (fun c => ?_)
        · replace hq9 := (if_neg c).symm.trans hq9
          refine x_aload_n (o := a0) dX3_number_48 rfl ?_
          obtain ⟨v7, hv7, hq9⟩ := xb hq9
          refine x_getR (o := a0) dX3_number_49 xf_X3_11 hv7 ?_
          refine r_iload_n (x := a1) dX3_number_52 rfl ?_
          obtain ⟨v8, hv8, hq9⟩ := xb hq9
          refine z_callS (as := [va_rf v7, .int a1]) (r1 := (some (.int v8))) (stk := []) (stk2 := [.int v8]) (st1 := st) (d' := 0) dX3_number_53 xl_X3_19 (by decide) (Nat.le_trans xs0 (by decide)) rfl rfl (S_X10_valueAt n st v7 a1 v8 hv8) ?_
          refine r_goto (tgt := 60) dX3_number_56 (by decide) ?_
          obtain rfl := Option.some.inj hq9
          exact x_sub [] rfl Jq9
        · replace hq9 := (if_pos c).symm.trans hq9
          refine r_iload_n (x := q2) dX3_number_44 rfl ?_
          refine r_if_eq (tgt := 59) dX3_number_45 (by decide) (fun c => ?_) (fun c => ?_)
          · replace hq9 := (if_pos c).symm.trans hq9
            refine r_iconst (v := (-1 : Int32)) dX3_number_59 (by decide) ?_
            obtain rfl := Option.some.inj hq9
            exact x_sub [] rfl Jq9
          · replace hq9 := (if_neg c).symm.trans hq9
            refine x_aload_n (o := a0) dX3_number_48 rfl ?_
            obtain ⟨v5, hv5, hq9⟩ := xb hq9
            refine x_getR (o := a0) dX3_number_49 xf_X3_11 hv5 ?_
            refine r_iload_n (x := a1) dX3_number_52 rfl ?_
            obtain ⟨v6, hv6, hq9⟩ := xb hq9
            refine z_callS (as := [va_rf v5, .int a1]) (r1 := (some (.int v6))) (stk := []) (stk2 := [.int v6]) (st1 := st) (d' := 0) dX3_number_53 xl_X3_19 (by decide) (Nat.le_trans xs0 (by decide)) rfl rfl (S_X10_valueAt n st v5 a1 v6 hv6) ?_
            refine r_goto (tgt := 60) dX3_number_56 (by decide) ?_
            obtain rfl := Option.some.inj hq9
            exact x_sub [] rfl Jq9
    refine r_icmp_le (tgt := 34) dX3_number_21 (by decide) (fun c => ?_) (fun c => ?_)
    · replace hq2 := (if_pos c).symm.trans hq2
      refine r_iconst (v := (0 : Int32)) dX3_number_34 (by decide) ?_
      obtain rfl := Option.some.inj hq2
      exact x_sub [1, 2, 0] rfl Jq2
    · replace hq2 := (if_neg c).symm.trans hq2
      refine r_iload_n (x := a1) dX3_number_24 rfl ?_
      refine r_bipush (v := (26 : Int32)) dX3_number_25 (by decide) ?_
      refine r_icmp_ge (tgt := 34) dX3_number_27 (by decide) (fun c => ?_) (fun c => ?_)
      · replace hq2 := (if_pos c).symm.trans hq2
        refine r_iconst (v := (0 : Int32)) dX3_number_34 (by decide) ?_
        obtain rfl := Option.some.inj hq2
        exact x_sub [1, 2, 0] rfl Jq2
      · replace hq2 := (if_neg c).symm.trans hq2
        refine r_iconst (v := (1 : Int32)) dX3_number_30 (by decide) ?_
        refine r_goto (tgt := 35) dX3_number_31 (by decide) ?_
        obtain rfl := Option.some.inj hq2
        exact x_sub [1, 2, 0] rfl Jq2
  refine r_icmp_lt (tgt := 16) dX3_number_3 (by decide) (fun c => ?_) (fun c => ?_)
  · replace hq1 := (if_pos c).symm.trans hq1
    refine r_iconst (v := (0 : Int32)) dX3_number_16 (by decide) ?_
    obtain rfl := Option.some.inj hq1
    exact x_sub [0, 1] rfl Jq1
  · replace hq1 := (if_neg c).symm.trans hq1
    refine r_iload_n (x := a1) dX3_number_6 rfl ?_
    refine r_bipush (v := (16 : Int32)) dX3_number_7 (by decide) ?_
    refine r_icmp_ge (tgt := 16) dX3_number_9 (by decide) (fun c => ?_) (fun c => ?_)
    · replace hq1 := (if_pos c).symm.trans hq1
      refine r_iconst (v := (0 : Int32)) dX3_number_16 (by decide) ?_
      obtain rfl := Option.some.inj hq1
      exact x_sub [0, 1] rfl Jq1
    · replace hq1 := (if_neg c).symm.trans hq1
      refine r_iconst (v := (1 : Int32)) dX3_number_12 (by decide) ?_
      refine r_goto (tgt := 17) dX3_number_13 (by decide) ?_
      obtain rfl := Option.some.inj hq1
      exact x_sub [0, 1] rfl Jq1
theorem S_X3_number (n : Nat) (st : xS) (a0 : Option Nat) (a1 : Int32) (rv : Int32) (h : F_X3_number n st a0 a1 = some rv) : Ct mX3_number [va_rf a0, .int a1] st (some (.int rv)) st 1 := by
  refine Ct.of (by decide) (by simp only [lgL_R, lgL_I, lgL_L, lgL_0]; decide) ?_
  try simp only [lvA_R]
  exact R_X3_number n st a0 a1 rv h
theorem R_X3_base (n : Nat) (st : xS) (a0 : Option Nat) (rv : Int32) (h : F_X3_base n st a0 = some rv) : Rn mX3_base 0 [(0, va_rf a0)] [] st (some (.int rv)) st 0 := by
  unfold F_X3_base at h
  refine x_aload_n (o := a0) dX3_base_0 rfl ?_
  obtain ⟨v1, hv1, h⟩ := xb h
  refine x_getR (o := a0) dX3_base_1 xf_X3_11 hv1 ?_
  refine r_iconst (v := (0 : Int32)) dX3_base_4 (by decide) ?_
  obtain ⟨v2, hv2, h⟩ := xb h
  refine x_iaload (o := v1) dX3_base_5 hv2 ?_
  obtain rfl := Option.some.inj h
  exact r_ireturn dX3_base_6 .int rfl rfl
theorem S_X3_base (n : Nat) (st : xS) (a0 : Option Nat) (rv : Int32) (h : F_X3_base n st a0 = some rv) : Ct mX3_base [va_rf a0] st (some (.int rv)) st 0 := by
  refine Ct.of (by decide) (by simp only [lgL_R, lgL_I, lgL_L, lgL_0]; decide) ?_
  try simp only [lvA_R]
  exact R_X3_base n st a0 rv h
theorem R_X3_per (n : Nat) (st : xS) (a0 : Option Nat) (a1 : Int32) (rv : Int32) (h : F_X3_per n st a0 a1 = some rv) : Rn mX3_per 0 [(0, va_rf a0), (1, .int a1)] [] st (some (.int rv)) st 1 := by
  unfold F_X3_per at h
  refine x_aload_n (o := a0) dX3_per_0 rfl ?_
  obtain ⟨v1, hv1, h⟩ := xb h
  refine x_getR (o := a0) dX3_per_1 xf_X3_11 hv1 ?_
  refine r_bipush (v := (20 : Int32)) dX3_per_4 (by decide) ?_
  refine r_iload_n (x := a1) dX3_per_6 rfl ?_
  refine r_iadd dX3_per_7 ?_
  obtain ⟨v2, hv2, h⟩ := xb h
  refine z_callS (as := [va_rf v1, .int ((20 : Int32) + a1)]) (r1 := (some (.int v2))) (stk := []) (stk2 := [.int v2]) (st1 := st) (d' := 0) dX3_per_8 xl_X3_19 (by decide) (Nat.le_trans xs0 (by decide)) rfl rfl (S_X10_valueAt n st v1 ((20 : Int32) + a1) v2 hv2) ?_
  obtain rfl := Option.some.inj h
  exact r_ireturn dX3_per_11 .int rfl rfl
theorem S_X3_per (n : Nat) (st : xS) (a0 : Option Nat) (a1 : Int32) (rv : Int32) (h : F_X3_per n st a0 a1 = some rv) : Ct mX3_per [va_rf a0, .int a1] st (some (.int rv)) st 1 := by
  refine Ct.of (by decide) (by simp only [lgL_R, lgL_I, lgL_L, lgL_0]; decide) ?_
  try simp only [lvA_R]
  exact R_X3_per n st a0 a1 rv h
theorem R_X3_worthOf (n : Nat) (st : xS) (a0 : Option Nat) (a1 : Int32) (a2 : Int32) (rv : Int32) (h : F_X3_worthOf n st a0 a1 a2 = some rv) : Rn mX3_worthOf 0 [(0, va_rf a0), (1, .int a1), (2, .int a2)] [] st (some (.int rv)) st 1 := by
  unfold F_X3_worthOf at h
  refine r_bipush (v := (50 : Int32)) dX3_worthOf_0 (by decide) ?_
  refine x_aload_n (o := a0) dX3_worthOf_2 rfl ?_
  obtain ⟨v1, hv1, h⟩ := xb h
  refine x_getR (o := a0) dX3_worthOf_3 xf_X3_11 hv1 ?_
  refine r_bipush (v := (10 : Int32)) dX3_worthOf_6 (by decide) ?_
  refine r_iload_n (x := a1) dX3_worthOf_8 rfl ?_
  refine r_iadd dX3_worthOf_9 ?_
  obtain ⟨v2, hv2, h⟩ := xb h
  refine z_callS (as := [va_rf v1, .int ((10 : Int32) + a1)]) (r1 := (some (.int v2))) (stk := [.int (50 : Int32)]) (stk2 := [.int v2, .int (50 : Int32)]) (st1 := st) (d' := 0) dX3_worthOf_10 xl_X3_19 (by decide) (Nat.le_trans (xsI xs0) (by decide)) rfl rfl (S_X10_valueAt n st v1 ((10 : Int32) + a1) v2 hv2) ?_
  refine r_iload_n (x := a2) dX3_worthOf_13 rfl ?_
  refine r_imul dX3_worthOf_14 ?_
  refine r_mmin dX3_worthOf_15 xm_X3_23 xm1_min xm2 xm3_min (by decide) (Nat.le_trans xs0 (by decide)) ?_
  obtain rfl := Option.some.inj h
  exact r_ireturn dX3_worthOf_18 .int rfl rfl
theorem S_X3_worthOf (n : Nat) (st : xS) (a0 : Option Nat) (a1 : Int32) (a2 : Int32) (rv : Int32) (h : F_X3_worthOf n st a0 a1 a2 = some rv) : Ct mX3_worthOf [va_rf a0, .int a1, .int a2] st (some (.int rv)) st 1 := by
  refine Ct.of (by decide) (by simp only [lgL_R, lgL_I, lgL_L, lgL_0]; decide) ?_
  try simp only [lvA_R]
  exact R_X3_worthOf n st a0 a1 a2 rv h
theorem R_X4_init (n : Nat) (st : xS) (a0 : Option Nat) (st' : xS) (h : F_X4_init n st a0 = some st') : Rn mX4_init 0 [(0, va_rf a0)] [] st none st' 2 := by
  unfold F_X4_init at h
  refine x_aload_n (o := a0) dX4_init_0 rfl ?_
  obtain ⟨b1, hb1, h⟩ := xb h
  obtain ⟨u2, hu2, h⟩ := xb h
  refine x_callI (as := []) (o := a0) (stk := []) (st1 := st) (d' := 1) dX4_init_1 xl_X4_3 hb1 (by decide) (Nat.le_trans xs0 (by decide)) rfl (S_X2_init n st a0  u2 hu2) ?_
  refine x_aload_n (o := a0) dX4_init_4 rfl ?_
  refine r_bipush (v := (60 : Int32)) dX4_init_5 (by decide) ?_
  obtain ⟨s3, hs3, h⟩ := xb h
  obtain ⟨o4, ho4, h⟩ := xb h
  refine x_newarray (t := 0) (o := o4) dX4_init_7 (by decide) rfl xar_0 (by decide) (by decide) (by decide) (Option.some.inj hs3) (Option.some.inj ho4) ?_
  obtain ⟨s5, hs5, h⟩ := xb h
  refine x_putR (o := a0) (x := o4) dX4_init_9 xp_X4_9 (Or.inr ⟨_, rfl⟩) hs5 ?_
  refine x_aload_n (o := a0) dX4_init_12 rfl ?_
  refine r_bipush (v := (100 : Int32)) dX4_init_13 (by decide) ?_
  obtain ⟨s6, hs6, h⟩ := xb h
  obtain ⟨o7, ho7, h⟩ := xb h
  refine x_newarray (t := 0) (o := o7) dX4_init_15 (by decide) rfl xar_0 (by decide) (by decide) (by decide) (Option.some.inj hs6) (Option.some.inj ho7) ?_
  obtain ⟨s8, hs8, h⟩ := xb h
  refine x_putR (o := a0) (x := o7) dX4_init_17 xp_X4_15 (Or.inr ⟨_, rfl⟩) hs8 ?_
  refine x_aload_n (o := a0) dX4_init_20 rfl ?_
  refine r_iconst (v := (0 : Int32)) dX4_init_21 (by decide) ?_
  obtain ⟨s9, hs9, h⟩ := xb h
  refine x_putI (o := a0) dX4_init_22 (xp_X4_18 _) hs9 ?_
  refine x_aload_n (o := a0) dX4_init_25 rfl ?_
  refine r_iconst (v := (0 : Int32)) dX4_init_26 (by decide) ?_
  obtain ⟨s10, hs10, h⟩ := xb h
  refine x_putI (o := a0) dX4_init_27 (xp_X4_22 _) hs10 ?_
  obtain rfl := Option.some.inj h
  exact r_return dX4_init_30 rfl
theorem S_X4_init (n : Nat) (st : xS) (a0 : Option Nat) (st' : xS) (h : F_X4_init n st a0 = some st') : Ct mX4_init [va_rf a0] st none st' 2 := by
  refine Ct.of (by decide) (by simp only [lgL_R, lgL_I, lgL_L, lgL_0]; decide) ?_
  try simp only [lvA_R]
  exact R_X4_init n st a0 st' h
theorem R_X4_isFull (n : Nat) (st : xS) (a0 : Option Nat) (a1 : Int32) (rv : Int32) (h : F_X4_isFull n st a0 a1 = some rv) : Rn mX4_isFull 0 [(0, va_rf a0), (1, .int a1)] [] st (some (.int rv)) st 0 := by
  unfold F_X4_isFull at h
  refine r_iload_n (x := a1) dX4_isFull_0 rfl ?_
  refine r_if_ne (tgt := 19) dX4_isFull_1 (by decide) (fun c => ?_) (fun c => ?_)
  · replace h := (if_neg c).symm.trans h
    refine r_iload_n (x := a1) dX4_isFull_19 rfl ?_
    refine r_iconst (v := (1 : Int32)) dX4_isFull_20 (by decide) ?_
    obtain ⟨q5, hq5, h⟩ := xb h
    have Jq5 : Rn mX4_isFull 38 [] [.int q5] st (some (.int rv)) st 0 := by
      obtain ⟨v6, hv6, h⟩ := xb h
      refine x_eqI (rz_inv2 hv6).1 ?_
      obtain rfl := Option.some.inj h
      exact r_ireturn dX4_isFull_38 .boolean rfl (by rcases (rz_inv2 hv6).2 with e | e <;> rw [e] <;> rfl)
    refine r_icmp_ne (tgt := 37) dX4_isFull_21 (by decide) (fun c => ?_) (fun c => ?_)
    · replace hq5 := (if_neg c).symm.trans hq5
      refine r_iconst (v := (0 : Int32)) dX4_isFull_37 (by decide) ?_
      obtain rfl := Option.some.inj hq5
      exact x_sub [] rfl Jq5
    · replace hq5 := (if_pos c).symm.trans hq5
      refine x_aload_n (o := a0) dX4_isFull_24 rfl ?_
      obtain ⟨v4, hv4, hq5⟩ := xb hq5
      refine x_getI (o := a0) dX4_isFull_25 xf_X4_22 hv4 ?_
      refine r_bipush (v := (8 : Int32)) dX4_isFull_28 (by decide) ?_
      refine r_icmp_lt (tgt := 37) dX4_isFull_30 (by decide) (fun c => ?_) (fun c => ?_)
      · replace hq5 := (if_pos c).symm.trans hq5
        refine r_iconst (v := (0 : Int32)) dX4_isFull_37 (by decide) ?_
        obtain rfl := Option.some.inj hq5
        exact x_sub [] rfl Jq5
      · replace hq5 := (if_neg c).symm.trans hq5
        refine r_iconst (v := (1 : Int32)) dX4_isFull_33 (by decide) ?_
        refine r_goto (tgt := 38) dX4_isFull_34 (by decide) ?_
        obtain rfl := Option.some.inj hq5
        exact x_sub [] rfl Jq5
  · replace h := (if_pos c).symm.trans h
    refine x_aload_n (o := a0) dX4_isFull_4 rfl ?_
    obtain ⟨v1, hv1, h⟩ := xb h
    refine x_getI (o := a0) dX4_isFull_5 xf_X4_18 hv1 ?_
    refine r_bipush (v := (10 : Int32)) dX4_isFull_8 (by decide) ?_
    obtain ⟨q2, hq2, h⟩ := xb h
    have Jq2 : Rn mX4_isFull 18 [] [.int q2] st (some (.int rv)) st 0 := by
      obtain ⟨v3, hv3, h⟩ := xb h
      refine x_eqI (rz_inv2 hv3).1 ?_
      obtain rfl := Option.some.inj h
      exact r_ireturn dX4_isFull_18 .boolean rfl (by rcases (rz_inv2 hv3).2 with e | e <;> rw [e] <;> rfl)
    refine r_icmp_lt (tgt := 17) dX4_isFull_10 (by decide) (fun c => ?_) (fun c => ?_)
    · replace hq2 := (if_pos c).symm.trans hq2
      refine r_iconst (v := (0 : Int32)) dX4_isFull_17 (by decide) ?_
      obtain rfl := Option.some.inj hq2
      exact x_sub [] rfl Jq2
    · replace hq2 := (if_neg c).symm.trans hq2
      refine r_iconst (v := (1 : Int32)) dX4_isFull_13 (by decide) ?_
      refine r_goto (tgt := 18) dX4_isFull_14 (by decide) ?_
      obtain rfl := Option.some.inj hq2
      exact x_sub [] rfl Jq2
theorem S_X4_isFull (n : Nat) (st : xS) (a0 : Option Nat) (a1 : Int32) (rv : Int32) (h : F_X4_isFull n st a0 a1 = some rv) : Ct mX4_isFull [va_rf a0, .int a1] st (some (.int rv)) st 0 := by
  refine Ct.of (by decide) (by simp only [lgL_R, lgL_I, lgL_L, lgL_0]; decide) ?_
  try simp only [lvA_R]
  exact R_X4_isFull n st a0 a1 rv h
theorem R_X4_leastOf (n : Nat) (st : xS) (a0 : Option Nat) (a1 : Int32) (a2 : Int32) (rv : Int32) (h : F_X4_leastOf n st a0 a1 a2 = some rv) : Rn mX4_leastOf 0 [(0, va_rf a0), (1, .int a1), (2, .int a2)] [] st (some (.int rv)) st 0 := by
  unfold F_X4_leastOf at h
  refine r_iconst (v := (0 : Int32)) dX4_leastOf_0 (by decide) ?_
  obtain rfl := Option.some.inj h
  exact r_ireturn dX4_leastOf_1 .int rfl rfl
theorem S_X4_leastOf (n : Nat) (st : xS) (a0 : Option Nat) (a1 : Int32) (a2 : Int32) (rv : Int32) (h : F_X4_leastOf n st a0 a1 a2 = some rv) : Ct mX4_leastOf [va_rf a0, .int a1, .int a2] st (some (.int rv)) st 0 := by
  refine Ct.of (by decide) (by simp only [lgL_R, lgL_I, lgL_L, lgL_0]; decide) ?_
  try simp only [lvA_R]
  exact R_X4_leastOf n st a0 a1 a2 rv h
theorem R_X4_mostOf (n : Nat) (st : xS) (a0 : Option Nat) (a1 : Int32) (a2 : Int32) (rv : Int32) (h : F_X4_mostOf n st a0 a1 a2 = some rv) : Rn mX4_mostOf 0 [(0, va_rf a0), (1, .int a1), (2, .int a2)] [] st (some (.int rv)) st 0 := by
  unfold F_X4_mostOf at h
  refine r_iload_n (x := a1) dX4_mostOf_0 rfl ?_
  refine r_if_ne (tgt := 18) dX4_mostOf_1 (by decide) (fun c => ?_) (fun c => ?_)
  · replace h := (if_neg c).symm.trans h
    refine r_iload_n (x := a1) dX4_mostOf_18 rfl ?_
    refine r_iconst (v := (1 : Int32)) dX4_mostOf_19 (by decide) ?_
    refine r_icmp_ne (tgt := 39) dX4_mostOf_20 (by decide) (fun c => ?_) (fun c => ?_)
    · replace h := (if_neg c).symm.trans h
      refine r_iload_n (x := a2) dX4_mostOf_39 rfl ?_
      refine r_iconst (v := (2 : Int32)) dX4_mostOf_40 (by decide) ?_
      obtain ⟨q5, hq5, h⟩ := xb h
      have Jq5 : Rn mX4_mostOf 56 [] [.int q5] st (some (.int rv)) st 0 := by
        obtain rfl := Option.some.inj h
        exact r_ireturn dX4_mostOf_56 .int rfl rfl
      refine r_icmp_ne (tgt := 50) dX4_mostOf_41 (by decide) (fun c => ?_) (fun c => ?_)
      · replace hq5 := (if_neg c).symm.trans hq5
        refine x_aload_n (o := a0) dX4_mostOf_50 rfl ?_
        obtain ⟨v4, hv4, hq5⟩ := xb hq5
        refine x_getI (o := a0) dX4_mostOf_51 xf_X4_18 hv4 ?_
        refine r_iconst (v := (1 : Int32)) dX4_mostOf_54 (by decide) ?_
        refine r_isub dX4_mostOf_55 ?_
        obtain rfl := Option.some.inj hq5
        exact x_sub [] rfl Jq5
      · replace hq5 := (if_pos c).symm.trans hq5
        refine r_sipush (v := (9999 : Int32)) dX4_mostOf_44 (by decide) ?_
        refine r_goto (tgt := 56) dX4_mostOf_47 (by decide) ?_
        obtain rfl := Option.some.inj hq5
        exact x_sub [] rfl Jq5
    · replace h := (if_pos c).symm.trans h
      refine r_iload_n (x := a2) dX4_mostOf_23 rfl ?_
      obtain ⟨q3, hq3, h⟩ := xb h
      have Jq3 : Rn mX4_mostOf 38 [] [.int q3] st (some (.int rv)) st 0 := by
        obtain rfl := Option.some.inj h
        exact r_ireturn dX4_mostOf_38 .int rfl rfl
      refine r_if_ne (tgt := 36) dX4_mostOf_24 (by decide) (fun c => ?_) (fun c => ?_)
      · replace hq3 := (if_neg c).symm.trans hq3
        refine r_bipush (v := (50 : Int32)) dX4_mostOf_36 (by decide) ?_
        obtain rfl := Option.some.inj hq3
        exact x_sub [] rfl Jq3
      · replace hq3 := (if_pos c).symm.trans hq3
        refine x_aload_n (o := a0) dX4_mostOf_27 rfl ?_
        obtain ⟨v2, hv2, hq3⟩ := xb hq3
        refine x_getI (o := a0) dX4_mostOf_28 xf_X4_18 hv2 ?_
        refine r_iconst (v := (1 : Int32)) dX4_mostOf_31 (by decide) ?_
        refine r_isub dX4_mostOf_32 ?_
        refine r_goto (tgt := 38) dX4_mostOf_33 (by decide) ?_
        obtain rfl := Option.some.inj hq3
        exact x_sub [] rfl Jq3
  · replace h := (if_pos c).symm.trans h
    refine r_iload_n (x := a2) dX4_mostOf_4 rfl ?_
    refine r_iconst (v := (2 : Int32)) dX4_mostOf_5 (by decide) ?_
    obtain ⟨q1, hq1, h⟩ := xb h
    have Jq1 : Rn mX4_mostOf 17 [] [.int q1] st (some (.int rv)) st 0 := by
      obtain rfl := Option.some.inj h
      exact r_ireturn dX4_mostOf_17 .int rfl rfl
    refine r_icmp_ne (tgt := 15) dX4_mostOf_6 (by decide) (fun c => ?_) (fun c => ?_)
    · replace hq1 := (if_neg c).symm.trans hq1
      refine r_bipush (v := (99 : Int32)) dX4_mostOf_15 (by decide) ?_
      obtain rfl := Option.some.inj hq1
      exact x_sub [] rfl Jq1
    · replace hq1 := (if_pos c).symm.trans hq1
      refine r_sipush (v := (999 : Int32)) dX4_mostOf_9 (by decide) ?_
      refine r_goto (tgt := 17) dX4_mostOf_12 (by decide) ?_
      obtain rfl := Option.some.inj hq1
      exact x_sub [] rfl Jq1
theorem S_X4_mostOf (n : Nat) (st : xS) (a0 : Option Nat) (a1 : Int32) (a2 : Int32) (rv : Int32) (h : F_X4_mostOf n st a0 a1 a2 = some rv) : Ct mX4_mostOf [va_rf a0, .int a1, .int a2] st (some (.int rv)) st 0 := by
  refine Ct.of (by decide) (by simp only [lgL_R, lgL_I, lgL_L, lgL_0]; decide) ?_
  try simp only [lvA_R]
  exact R_X4_mostOf n st a0 a1 a2 rv h
theorem R_X4_take (n : Nat) (st : xS) (a0 : Option Nat) (a1 : Int32) (a2 : Int32) (a3 : Int32) (a4 : Int32) (st' : xS) (h : F_X4_take n st a0 a1 a2 a3 a4 = some st') : Rn mX4_take 0 [(0, va_rf a0), (1, .int a1), (2, .int a2), (3, .int a3), (4, .int a4)] [] st none st' 1 := by
  unfold F_X4_take at h
  refine r_iload_n (x := a1) dX4_take_0 rfl ?_
  obtain ⟨q24, hq24, h⟩ := xb h
  have Jq24 : Rn mX4_take 141 [] [] q24 none st' 1 := by
    obtain rfl := Option.some.inj h
    exact r_return dX4_take_141 rfl
  refine r_if_ne (tgt := 63) dX4_take_1 (by decide) (fun c => ?_) (fun c => ?_)
  · replace hq24 := (if_neg c).symm.trans hq24
    refine r_iload_n (x := a1) dX4_take_63 rfl ?_
    refine r_iconst (v := (1 : Int32)) dX4_take_64 (by decide) ?_
    refine r_icmp_ne (tgt := 111) dX4_take_65 (by decide) (fun c => ?_) (fun c => ?_)
    · replace hq24 := (if_neg c).symm.trans hq24
      refine x_aload_n (o := a0) dX4_take_111 rfl ?_
      obtain ⟨v20, hv20, hq24⟩ := xb hq24
      refine x_getR (o := a0) dX4_take_112 xf_X4_15 hv20 ?_
      refine r_bipush (v := (10 : Int32)) dX4_take_115 (by decide) ?_
      refine r_iload_n (x := a2) dX4_take_117 rfl ?_
      refine r_imul dX4_take_118 ?_
      refine r_iload_n (x := a3) dX4_take_119 rfl ?_
      refine r_iadd dX4_take_120 ?_
      refine r_iload (x := a4) dX4_take_121 rfl ?_
      obtain ⟨s21, hs21, hq24⟩ := xb hq24
      refine z_callS (as := [va_rf v20, .int (((10 : Int32) * a2) + a3), .int a4]) (r1 := none) (stk := []) (stk2 := []) (st1 := s21) (d' := 0) dX4_take_123 xl_X4_25 (by decide) (Nat.le_trans xs0 (by decide)) rfl rfl (S_X10_setAt n st v20 (((10 : Int32) * a2) + a3) a4 s21 hs21) ?_
      refine x_aload_n (o := a0) dX4_take_126 rfl ?_
      obtain ⟨v22, hv22, hq24⟩ := xb hq24
      refine x_getR (o := a0) dX4_take_127 xf_X4_15 hv22 ?_
      refine r_bipush (v := (10 : Int32)) dX4_take_130 (by decide) ?_
      refine r_iload_n (x := a3) dX4_take_132 rfl ?_
      refine r_imul dX4_take_133 ?_
      refine r_iload_n (x := a2) dX4_take_134 rfl ?_
      refine r_iadd dX4_take_135 ?_
      refine r_iload (x := a4) dX4_take_136 rfl ?_
      obtain ⟨s23, hs23, hq24⟩ := xb hq24
      refine z_callS (as := [va_rf v22, .int (((10 : Int32) * a3) + a2), .int a4]) (r1 := none) (stk := []) (stk2 := []) (st1 := s23) (d' := 0) dX4_take_138 xl_X4_25 (by decide) (Nat.le_trans xs0 (by decide)) rfl rfl (S_X10_setAt n s21 v22 (((10 : Int32) * a3) + a2) a4 s23 hs23) ?_
      obtain rfl := Option.some.inj hq24
      exact x_sub [] rfl Jq24
    · replace hq24 := (if_pos c).symm.trans hq24
      refine x_aload_n (o := a0) dX4_take_68 rfl ?_
      obtain ⟨v12, hv12, hq24⟩ := xb hq24
      refine x_getR (o := a0) dX4_take_69 xf_X4_9 hv12 ?_
      refine r_bipush (v := (40 : Int32)) dX4_take_72 (by decide) ?_
      refine x_aload_n (o := a0) dX4_take_74 rfl ?_
      obtain ⟨v13, hv13, hq24⟩ := xb hq24
      refine x_getI (o := a0) dX4_take_75 xf_X4_22 hv13 ?_
      refine r_iadd dX4_take_78 ?_
      refine r_iload_n (x := a2) dX4_take_79 rfl ?_
      obtain ⟨s14, hs14, hq24⟩ := xb hq24
      refine z_callS (as := [va_rf v12, .int ((40 : Int32) + v13), .int a2]) (r1 := none) (stk := []) (stk2 := []) (st1 := s14) (d' := 0) dX4_take_80 xl_X4_25 (by decide) (Nat.le_trans xs0 (by decide)) rfl rfl (S_X10_setAt n st v12 ((40 : Int32) + v13) a2 s14 hs14) ?_
      refine x_aload_n (o := a0) dX4_take_83 rfl ?_
      obtain ⟨v15, hv15, hq24⟩ := xb hq24
      refine x_getR (o := a0) dX4_take_84 xf_X4_9 hv15 ?_
      refine r_bipush (v := (50 : Int32)) dX4_take_87 (by decide) ?_
      refine x_aload_n (o := a0) dX4_take_89 rfl ?_
      obtain ⟨v16, hv16, hq24⟩ := xb hq24
      refine x_getI (o := a0) dX4_take_90 xf_X4_22 hv16 ?_
      refine r_iadd dX4_take_93 ?_
      refine r_iload_n (x := a3) dX4_take_94 rfl ?_
      obtain ⟨s17, hs17, hq24⟩ := xb hq24
      refine z_callS (as := [va_rf v15, .int ((50 : Int32) + v16), .int a3]) (r1 := none) (stk := []) (stk2 := []) (st1 := s17) (d' := 0) dX4_take_95 xl_X4_25 (by decide) (Nat.le_trans xs0 (by decide)) rfl rfl (S_X10_setAt n s14 v15 ((50 : Int32) + v16) a3 s17 hs17) ?_
      refine x_aload_n (o := a0) dX4_take_98 rfl ?_
      refine x_dupR (o := a0) dX4_take_99 ?_
      obtain ⟨v18, hv18, hq24⟩ := xb hq24
      refine x_getI (o := a0) dX4_take_100 xf_X4_22 hv18 ?_
      refine r_iconst (v := (1 : Int32)) dX4_take_103 (by decide) ?_
      refine r_iadd dX4_take_104 ?_
      obtain ⟨s19, hs19, hq24⟩ := xb hq24
      refine x_putI (o := a0) dX4_take_105 (xp_X4_22 _) hs19 ?_
      refine r_goto (tgt := 141) dX4_take_108 (by decide) ?_
      obtain rfl := Option.some.inj hq24
      exact x_sub [] rfl Jq24
  · replace hq24 := (if_pos c).symm.trans hq24
    refine x_aload_n (o := a0) dX4_take_4 rfl ?_
    obtain ⟨v1, hv1, hq24⟩ := xb hq24
    refine x_getR (o := a0) dX4_take_5 xf_X4_9 hv1 ?_
    refine r_bipush (v := (10 : Int32)) dX4_take_8 (by decide) ?_
    refine x_aload_n (o := a0) dX4_take_10 rfl ?_
    obtain ⟨v2, hv2, hq24⟩ := xb hq24
    refine x_getI (o := a0) dX4_take_11 xf_X4_18 hv2 ?_
    refine r_iadd dX4_take_14 ?_
    refine r_iload_n (x := a2) dX4_take_15 rfl ?_
    obtain ⟨s3, hs3, hq24⟩ := xb hq24
    refine z_callS (as := [va_rf v1, .int ((10 : Int32) + v2), .int a2]) (r1 := none) (stk := []) (stk2 := []) (st1 := s3) (d' := 0) dX4_take_16 xl_X4_25 (by decide) (Nat.le_trans xs0 (by decide)) rfl rfl (S_X10_setAt n st v1 ((10 : Int32) + v2) a2 s3 hs3) ?_
    refine x_aload_n (o := a0) dX4_take_19 rfl ?_
    obtain ⟨v4, hv4, hq24⟩ := xb hq24
    refine x_getR (o := a0) dX4_take_20 xf_X4_9 hv4 ?_
    refine r_bipush (v := (20 : Int32)) dX4_take_23 (by decide) ?_
    refine x_aload_n (o := a0) dX4_take_25 rfl ?_
    obtain ⟨v5, hv5, hq24⟩ := xb hq24
    refine x_getI (o := a0) dX4_take_26 xf_X4_18 hv5 ?_
    refine r_iadd dX4_take_29 ?_
    refine r_iload_n (x := a3) dX4_take_30 rfl ?_
    obtain ⟨s6, hs6, hq24⟩ := xb hq24
    refine z_callS (as := [va_rf v4, .int ((20 : Int32) + v5), .int a3]) (r1 := none) (stk := []) (stk2 := []) (st1 := s6) (d' := 0) dX4_take_31 xl_X4_25 (by decide) (Nat.le_trans xs0 (by decide)) rfl rfl (S_X10_setAt n s3 v4 ((20 : Int32) + v5) a3 s6 hs6) ?_
    refine x_aload_n (o := a0) dX4_take_34 rfl ?_
    obtain ⟨v7, hv7, hq24⟩ := xb hq24
    refine x_getR (o := a0) dX4_take_35 xf_X4_9 hv7 ?_
    refine r_bipush (v := (30 : Int32)) dX4_take_38 (by decide) ?_
    refine x_aload_n (o := a0) dX4_take_40 rfl ?_
    obtain ⟨v8, hv8, hq24⟩ := xb hq24
    refine x_getI (o := a0) dX4_take_41 xf_X4_18 hv8 ?_
    refine r_iadd dX4_take_44 ?_
    refine r_iload (x := a4) dX4_take_45 rfl ?_
    obtain ⟨s9, hs9, hq24⟩ := xb hq24
    refine z_callS (as := [va_rf v7, .int ((30 : Int32) + v8), .int a4]) (r1 := none) (stk := []) (stk2 := []) (st1 := s9) (d' := 0) dX4_take_47 xl_X4_25 (by decide) (Nat.le_trans xs0 (by decide)) rfl rfl (S_X10_setAt n s6 v7 ((30 : Int32) + v8) a4 s9 hs9) ?_
    refine x_aload_n (o := a0) dX4_take_50 rfl ?_
    refine x_dupR (o := a0) dX4_take_51 ?_
    obtain ⟨v10, hv10, hq24⟩ := xb hq24
    refine x_getI (o := a0) dX4_take_52 xf_X4_18 hv10 ?_
    refine r_iconst (v := (1 : Int32)) dX4_take_55 (by decide) ?_
    refine r_iadd dX4_take_56 ?_
    obtain ⟨s11, hs11, hq24⟩ := xb hq24
    refine x_putI (o := a0) dX4_take_57 (xp_X4_18 _) hs11 ?_
    refine r_goto (tgt := 141) dX4_take_60 (by decide) ?_
    obtain rfl := Option.some.inj hq24
    exact x_sub [] rfl Jq24
theorem S_X4_take (n : Nat) (st : xS) (a0 : Option Nat) (a1 : Int32) (a2 : Int32) (a3 : Int32) (a4 : Int32) (st' : xS) (h : F_X4_take n st a0 a1 a2 a3 a4 = some st') : Ct mX4_take [va_rf a0, .int a1, .int a2, .int a3, .int a4] st none st' 1 := by
  refine Ct.of (by decide) (by simp only [lgL_R, lgL_I, lgL_L, lgL_0]; decide) ?_
  try simp only [lvA_R]
  exact R_X4_take n st a0 a1 a2 a3 a4 st' h
theorem R_X4_hasGround (n : Nat) (st : xS) (a0 : Option Nat) (a1 : Int32) (rv : Int32) (h : F_X4_hasGround n st a0 a1 = some rv) : Rn mX4_hasGround 0 [(0, va_rf a0), (1, .int a1)] [] st (some (.int rv)) st 0 := by
  unfold F_X4_hasGround at h
  refine r_iload_n (x := a1) dX4_hasGround_0 rfl ?_
  obtain ⟨q2, hq2, h⟩ := xb h
  have Jq2 : Rn mX4_hasGround 17 [] [.int q2] st (some (.int rv)) st 0 := by
    obtain ⟨v3, hv3, h⟩ := xb h
    refine x_eqI (rz_inv2 hv3).1 ?_
    obtain rfl := Option.some.inj h
    exact r_ireturn dX4_hasGround_17 .boolean rfl (by rcases (rz_inv2 hv3).2 with e | e <;> rw [e] <;> rfl)
  refine r_if_lt (tgt := 16) dX4_hasGround_1 (by decide) (fun c => ?_) (fun c => ?_)
  · replace hq2 := (if_pos c).symm.trans hq2
    refine r_iconst (v := (0 : Int32)) dX4_hasGround_16 (by decide) ?_
    obtain rfl := Option.some.inj hq2
    exact x_sub [] rfl Jq2
  · replace hq2 := (if_neg c).symm.trans hq2
    refine r_iload_n (x := a1) dX4_hasGround_4 rfl ?_
    refine x_aload_n (o := a0) dX4_hasGround_5 rfl ?_
    obtain ⟨v1, hv1, hq2⟩ := xb hq2
    refine x_getI (o := a0) dX4_hasGround_6 xf_X4_18 hv1 ?_
    refine r_icmp_ge (tgt := 16) dX4_hasGround_9 (by decide) (fun c => ?_) (fun c => ?_)
    · replace hq2 := (if_pos c).symm.trans hq2
      refine r_iconst (v := (0 : Int32)) dX4_hasGround_16 (by decide) ?_
      obtain rfl := Option.some.inj hq2
      exact x_sub [] rfl Jq2
    · replace hq2 := (if_neg c).symm.trans hq2
      refine r_iconst (v := (1 : Int32)) dX4_hasGround_12 (by decide) ?_
      refine r_goto (tgt := 17) dX4_hasGround_13 (by decide) ?_
      obtain rfl := Option.some.inj hq2
      exact x_sub [] rfl Jq2
theorem S_X4_hasGround (n : Nat) (st : xS) (a0 : Option Nat) (a1 : Int32) (rv : Int32) (h : F_X4_hasGround n st a0 a1 = some rv) : Ct mX4_hasGround [va_rf a0, .int a1] st (some (.int rv)) st 0 := by
  refine Ct.of (by decide) (by simp only [lgL_R, lgL_I, lgL_L, lgL_0]; decide) ?_
  try simp only [lvA_R]
  exact R_X4_hasGround n st a0 a1 rv h
theorem R_X4_hasSide (n : Nat) (st : xS) (a0 : Option Nat) (a1 : Int32) (rv : Int32) (h : F_X4_hasSide n st a0 a1 = some rv) : Rn mX4_hasSide 0 [(0, va_rf a0), (1, .int a1)] [] st (some (.int rv)) st 0 := by
  unfold F_X4_hasSide at h
  refine r_iload_n (x := a1) dX4_hasSide_0 rfl ?_
  obtain ⟨q2, hq2, h⟩ := xb h
  have Jq2 : Rn mX4_hasSide 17 [] [.int q2] st (some (.int rv)) st 0 := by
    obtain ⟨v3, hv3, h⟩ := xb h
    refine x_eqI (rz_inv2 hv3).1 ?_
    obtain rfl := Option.some.inj h
    exact r_ireturn dX4_hasSide_17 .boolean rfl (by rcases (rz_inv2 hv3).2 with e | e <;> rw [e] <;> rfl)
  refine r_if_lt (tgt := 16) dX4_hasSide_1 (by decide) (fun c => ?_) (fun c => ?_)
  · replace hq2 := (if_pos c).symm.trans hq2
    refine r_iconst (v := (0 : Int32)) dX4_hasSide_16 (by decide) ?_
    obtain rfl := Option.some.inj hq2
    exact x_sub [] rfl Jq2
  · replace hq2 := (if_neg c).symm.trans hq2
    refine r_iload_n (x := a1) dX4_hasSide_4 rfl ?_
    refine x_aload_n (o := a0) dX4_hasSide_5 rfl ?_
    obtain ⟨v1, hv1, hq2⟩ := xb hq2
    refine x_getI (o := a0) dX4_hasSide_6 xf_X4_22 hv1 ?_
    refine r_icmp_ge (tgt := 16) dX4_hasSide_9 (by decide) (fun c => ?_) (fun c => ?_)
    · replace hq2 := (if_pos c).symm.trans hq2
      refine r_iconst (v := (0 : Int32)) dX4_hasSide_16 (by decide) ?_
      obtain rfl := Option.some.inj hq2
      exact x_sub [] rfl Jq2
    · replace hq2 := (if_neg c).symm.trans hq2
      refine r_iconst (v := (1 : Int32)) dX4_hasSide_12 (by decide) ?_
      refine r_goto (tgt := 17) dX4_hasSide_13 (by decide) ?_
      obtain rfl := Option.some.inj hq2
      exact x_sub [] rfl Jq2
theorem S_X4_hasSide (n : Nat) (st : xS) (a0 : Option Nat) (a1 : Int32) (rv : Int32) (h : F_X4_hasSide n st a0 a1 = some rv) : Ct mX4_hasSide [va_rf a0, .int a1] st (some (.int rv)) st 0 := by
  refine Ct.of (by decide) (by simp only [lgL_R, lgL_I, lgL_L, lgL_0]; decide) ?_
  try simp only [lvA_R]
  exact R_X4_hasSide n st a0 a1 rv h
theorem R_X4_number (n : Nat) (st : xS) (a0 : Option Nat) (a1 : Int32) (rv : Int32) (h : F_X4_number n st a0 a1 = some rv) : Rn mX4_number 0 [(0, va_rf a0), (1, .int a1)] [] st (some (.int rv)) st 1 := by
  unfold F_X4_number at h
  refine r_iload_n (x := a1) dX4_number_0 rfl ?_
  refine r_if_ne (tgt := 9) dX4_number_1 (by decide) (fun c => ?_) (fun c => ?_)
  · replace h := (if_neg c).symm.trans h
    refine r_iload_n (x := a1) dX4_number_9 rfl ?_
    refine r_iconst (v := (1 : Int32)) dX4_number_10 (by decide) ?_
    refine r_icmp_ne (tgt := 19) dX4_number_11 (by decide) (fun c => ?_) (fun c => ?_)
    · replace h := (if_neg c).symm.trans h
      refine r_iload_n (x := a1) dX4_number_19 rfl ?_
      refine r_bipush (v := (10 : Int32)) dX4_number_20 (by decide) ?_
      refine r_icmp_lt (tgt := 34) dX4_number_22 (by decide) (fun c => ?_) (fun c => ?_)
      · replace h := (if_pos c).symm.trans h
        refine r_iconst (v := (-1 : Int32)) dX4_number_34 (by decide) ?_
        obtain rfl := Option.some.inj h
        exact r_ireturn dX4_number_35 .int rfl rfl
      · replace h := (if_neg c).symm.trans h
        refine r_iload_n (x := a1) dX4_number_25 rfl ?_
        refine x_aload_n (o := a0) dX4_number_26 rfl ?_
        obtain ⟨v3, hv3, h⟩ := xb h
        refine x_getR (o := a0) dX4_number_27 xf_X4_9 hv3 ?_
        obtain ⟨v4, hv4, h⟩ := xb h
        refine x_alen (o := v3) dX4_number_30 hv4 ?_
        refine r_icmp_lt (tgt := 36) dX4_number_31 (by decide) (fun c => ?_) (fun c => ?_)
        · replace h := (if_pos c).symm.trans h
          refine r_iload_n (x := a1) dX4_number_36 rfl ?_
          refine r_bipush (v := (40 : Int32)) dX4_number_37 (by decide) ?_
          obtain ⟨q11, hq11, h⟩ := xb h
          have Jq11 : Rn mX4_number 61 [(0, va_rf a0), (1, .int a1)] [.int q11] st (some (.int rv)) st 1 := by
            refine r_istore_n (lv' := [(2, .int q11), (0, va_rf a0), (1, .int a1)]) (x := q11) dX4_number_61 (by decide) rfl ?_
            refine r_iload_n (x := q11) dX4_number_62 rfl ?_
            obtain ⟨q14, hq14, h⟩ := xb h
            have Jq14 : Rn mX4_number 76 [] [.int q14] st (some (.int rv)) st 1 := by
              obtain rfl := Option.some.inj h
              exact r_ireturn dX4_number_76 .int rfl rfl
            refine r_if_eq (tgt := 75) dX4_number_63 (by decide) (fun c => ?_) (fun c => ?_)
            · replace hq14 := (if_pos c).symm.trans hq14
              refine r_iconst (v := (-1 : Int32)) dX4_number_75 (by decide) ?_
              obtain rfl := Option.some.inj hq14
              exact x_sub [] rfl Jq14
            · replace hq14 := (if_neg c).symm.trans hq14
              refine x_aload_n (o := a0) dX4_number_66 rfl ?_
              obtain ⟨v12, hv12, hq14⟩ := xb hq14
              refine x_getR (o := a0) dX4_number_67 xf_X4_9 hv12 ?_
              refine r_iload_n (x := a1) dX4_number_70 rfl ?_
              obtain ⟨v13, hv13, hq14⟩ := xb hq14
              refine x_iaload (o := v12) dX4_number_71 hv13 ?_
              refine r_goto (tgt := 76) dX4_number_72 (by decide) ?_
              obtain rfl := Option.some.inj hq14
              exact x_sub [] rfl Jq14
          refine r_icmp_ge (tgt := 53) dX4_number_39 (by decide) (fun c => ?_) (fun c => ?_)
          · replace hq11 := (if_pos c).symm.trans hq11
            refine x_aload_n (o := a0) dX4_number_53 rfl ?_
            refine r_iload_n (x := a1) dX4_number_54 rfl ?_
            refine r_bipush (v := (10 : Int32)) dX4_number_55 (by decide) ?_
            obtain ⟨v5, hv5, hq11⟩ := xb hq11
            refine x_irem dX4_number_57 hv5 ?_
            obtain ⟨q7, hq7, hq11⟩ := xb hq11
            obtain ⟨v6, hv6, hq11⟩ := xb hq11
            refine z_callV (as := [.int v5]) (o := a0) (r1 := (some (.int v6))) (stk := []) (stk2 := [.int v6]) (st1 := st) (d' := 0) dX4_number_58 xl_X4_33 hq7 (by decide) (Nat.le_trans xs0 (by decide)) rfl rfl (S_X4_hasSide n st a0 v5 v6 hv6) ?_
            obtain rfl := Option.some.inj hq11
            exact x_sub [0, 1] rfl Jq11
          · replace hq11 := (if_neg c).symm.trans hq11
            refine x_aload_n (o := a0) dX4_number_42 rfl ?_
            refine r_iload_n (x := a1) dX4_number_43 rfl ?_
            refine r_bipush (v := (10 : Int32)) dX4_number_44 (by decide) ?_
            obtain ⟨v8, hv8, hq11⟩ := xb hq11
            refine x_irem dX4_number_46 hv8 ?_
            obtain ⟨q10, hq10, hq11⟩ := xb hq11
            obtain ⟨v9, hv9, hq11⟩ := xb hq11
            refine z_callV (as := [.int v8]) (o := a0) (r1 := (some (.int v9))) (stk := []) (stk2 := [.int v9]) (st1 := st) (d' := 0) dX4_number_47 xl_X4_29 hq10 (by decide) (Nat.le_trans xs0 (by decide)) rfl rfl (S_X4_hasGround n st a0 v8 v9 hv9) ?_
            refine r_goto (tgt := 61) dX4_number_50 (by decide) ?_
            obtain rfl := Option.some.inj hq11
            exact x_sub [0, 1] rfl Jq11
        · replace h := (if_neg c).symm.trans h
          refine r_iconst (v := (-1 : Int32)) dX4_number_34 (by decide) ?_
          obtain rfl := Option.some.inj h
          exact r_ireturn dX4_number_35 .int rfl rfl
    · replace h := (if_pos c).symm.trans h
      refine x_aload_n (o := a0) dX4_number_14 rfl ?_
      obtain ⟨v2, hv2, h⟩ := xb h
      refine x_getI (o := a0) dX4_number_15 xf_X4_22 hv2 ?_
      obtain rfl := Option.some.inj h
      exact r_ireturn dX4_number_18 .int rfl rfl
  · replace h := (if_pos c).symm.trans h
    refine x_aload_n (o := a0) dX4_number_4 rfl ?_
    obtain ⟨v1, hv1, h⟩ := xb h
    refine x_getI (o := a0) dX4_number_5 xf_X4_18 hv1 ?_
    obtain rfl := Option.some.inj h
    exact r_ireturn dX4_number_8 .int rfl rfl
theorem S_X4_number (n : Nat) (st : xS) (a0 : Option Nat) (a1 : Int32) (rv : Int32) (h : F_X4_number n st a0 a1 = some rv) : Ct mX4_number [va_rf a0, .int a1] st (some (.int rv)) st 1 := by
  refine Ct.of (by decide) (by simp only [lgL_R, lgL_I, lgL_L, lgL_0]; decide) ?_
  try simp only [lvA_R]
  exact R_X4_number n st a0 a1 rv h
theorem R_X4_height (n : Nat) (st : xS) (a0 : Option Nat) (a1 : Int32) (rv : Int32) (h : F_X4_height n st a0 a1 = some rv) : Rn mX4_height 0 [(0, va_rf a0), (1, .int a1)] [] st (some (.int rv)) st 1 := by
  unfold F_X4_height at h
  refine x_aload_n (o := a0) dX4_height_0 rfl ?_
  obtain ⟨v1, hv1, h⟩ := xb h
  refine x_getR (o := a0) dX4_height_1 xf_X4_9 hv1 ?_
  refine r_bipush (v := (10 : Int32)) dX4_height_4 (by decide) ?_
  refine r_iload_n (x := a1) dX4_height_6 rfl ?_
  refine r_iadd dX4_height_7 ?_
  obtain ⟨v2, hv2, h⟩ := xb h
  refine z_callS (as := [va_rf v1, .int ((10 : Int32) + a1)]) (r1 := (some (.int v2))) (stk := []) (stk2 := [.int v2]) (st1 := st) (d' := 0) dX4_height_8 xl_X4_36 (by decide) (Nat.le_trans xs0 (by decide)) rfl rfl (S_X10_valueAt n st v1 ((10 : Int32) + a1) v2 hv2) ?_
  obtain rfl := Option.some.inj h
  exact r_ireturn dX4_height_11 .int rfl rfl
theorem S_X4_height (n : Nat) (st : xS) (a0 : Option Nat) (a1 : Int32) (rv : Int32) (h : F_X4_height n st a0 a1 = some rv) : Ct mX4_height [va_rf a0, .int a1] st (some (.int rv)) st 1 := by
  refine Ct.of (by decide) (by simp only [lgL_R, lgL_I, lgL_L, lgL_0]; decide) ?_
  try simp only [lvA_R]
  exact R_X4_height n st a0 a1 rv h
theorem R_X10_cut (n : Nat) (st : xS) (a0 : Int32) (a1 : Int32) (rv : Int32) (h : F_X10_cut n st a0 a1 = some rv) : Rn mX10_cut 0 [(0, .int a0), (1, .int a1)] [] st (some (.int rv)) st 0 := by
  unfold F_X10_cut at h
  refine r_iload_n (x := a1) dX10_cut_0 rfl ?_
  obtain ⟨q2, hq2, h⟩ := xb h
  have Jq2 : Rn mX10_cut 11 [] [.int q2] st (some (.int rv)) st 0 := by
    obtain rfl := Option.some.inj h
    exact r_ireturn dX10_cut_11 .int rfl rfl
  refine r_if_le (tgt := 10) dX10_cut_1 (by decide) (fun c => ?_) (fun c => ?_)
  · replace hq2 := (if_pos c).symm.trans hq2
    refine r_iconst (v := (0 : Int32)) dX10_cut_10 (by decide) ?_
    obtain rfl := Option.some.inj hq2
    exact x_sub [] rfl Jq2
  · replace hq2 := (if_neg c).symm.trans hq2
    refine r_iload_n (x := a0) dX10_cut_4 rfl ?_
    refine r_iload_n (x := a1) dX10_cut_5 rfl ?_
    obtain ⟨v1, hv1, hq2⟩ := xb hq2
    refine x_idiv dX10_cut_6 hv1 ?_
    refine r_goto (tgt := 11) dX10_cut_7 (by decide) ?_
    obtain rfl := Option.some.inj hq2
    exact x_sub [] rfl Jq2
theorem S_X10_cut (n : Nat) (st : xS) (a0 : Int32) (a1 : Int32) (rv : Int32) (h : F_X10_cut n st a0 a1 = some rv) : Ct mX10_cut [.int a0, .int a1] st (some (.int rv)) st 0 := by
  refine Ct.of (by decide) (by simp only [lgL_R, lgL_I, lgL_L, lgL_0]; decide) ?_
  try simp only [lvA_R]
  exact R_X10_cut n st a0 a1 rv h
theorem R_X4_noise (n : Nat) (st : xS) (a0 : Option Nat) (a1 : Int32) (rv : Int32) (h : F_X4_noise n st a0 a1 = some rv) : Rn mX4_noise 0 [(0, va_rf a0), (1, .int a1)] [] st (some (.int rv)) st 1 := by
  unfold F_X4_noise at h
  refine x_aload_n (o := a0) dX4_noise_0 rfl ?_
  obtain ⟨v1, hv1, h⟩ := xb h
  refine x_getR (o := a0) dX4_noise_1 xf_X4_9 hv1 ?_
  refine r_bipush (v := (30 : Int32)) dX4_noise_4 (by decide) ?_
  refine r_iload_n (x := a1) dX4_noise_6 rfl ?_
  refine r_iadd dX4_noise_7 ?_
  obtain ⟨v2, hv2, h⟩ := xb h
  refine z_callS (as := [va_rf v1, .int ((30 : Int32) + a1)]) (r1 := (some (.int v2))) (stk := []) (stk2 := [.int v2]) (st1 := st) (d' := 0) dX4_noise_8 xl_X4_36 (by decide) (Nat.le_trans xs0 (by decide)) rfl rfl (S_X10_valueAt n st v1 ((30 : Int32) + a1) v2 hv2) ?_
  refine r_iconst (v := (1 : Int32)) dX4_noise_11 (by decide) ?_
  refine x_aload_n (o := a0) dX4_noise_12 rfl ?_
  obtain ⟨v3, hv3, h⟩ := xb h
  refine x_getR (o := a0) dX4_noise_13 xf_X4_9 hv3 ?_
  refine r_bipush (v := (20 : Int32)) dX4_noise_16 (by decide) ?_
  refine r_iload_n (x := a1) dX4_noise_18 rfl ?_
  refine r_iadd dX4_noise_19 ?_
  obtain ⟨v4, hv4, h⟩ := xb h
  refine z_callS (as := [va_rf v3, .int ((20 : Int32) + a1)]) (r1 := (some (.int v4))) (stk := [.int (1 : Int32), .int v2]) (stk2 := [.int v4, .int (1 : Int32), .int v2]) (st1 := st) (d' := 0) dX4_noise_20 xl_X4_36 (by decide) (Nat.le_trans (xsI (xsI xs0)) (by decide)) rfl rfl (S_X10_valueAt n st v3 ((20 : Int32) + a1) v4 hv4) ?_
  refine r_iadd dX4_noise_23 ?_
  obtain ⟨v5, hv5, h⟩ := xb h
  refine z_callS (as := [.int v2, .int ((1 : Int32) + v4)]) (r1 := (some (.int v5))) (stk := []) (stk2 := [.int v5]) (st1 := st) (d' := 0) dX4_noise_24 xl_X4_40 (by decide) (Nat.le_trans xs0 (by decide)) rfl rfl (S_X10_cut n st v2 ((1 : Int32) + v4) v5 hv5) ?_
  obtain rfl := Option.some.inj h
  exact r_ireturn dX4_noise_27 .int rfl rfl
theorem S_X4_noise (n : Nat) (st : xS) (a0 : Option Nat) (a1 : Int32) (rv : Int32) (h : F_X4_noise n st a0 a1 = some rv) : Ct mX4_noise [va_rf a0, .int a1] st (some (.int rv)) st 1 := by
  refine Ct.of (by decide) (by simp only [lgL_R, lgL_I, lgL_L, lgL_0]; decide) ?_
  try simp only [lvA_R]
  exact R_X4_noise n st a0 a1 rv h
theorem R_X4_own (n : Nat) (st : xS) (a0 : Option Nat) (a1 : Int32) (rv : Int32) (h : F_X4_own n st a0 a1 = some rv) : Rn mX4_own 0 [(0, va_rf a0), (1, .int a1)] [] st (some (.int rv)) st 1 := by
  unfold F_X4_own at h
  refine x_aload_n (o := a0) dX4_own_0 rfl ?_
  obtain ⟨v1, hv1, h⟩ := xb h
  refine x_getR (o := a0) dX4_own_1 xf_X4_9 hv1 ?_
  refine r_bipush (v := (40 : Int32)) dX4_own_4 (by decide) ?_
  refine r_iload_n (x := a1) dX4_own_6 rfl ?_
  refine r_iadd dX4_own_7 ?_
  obtain ⟨v2, hv2, h⟩ := xb h
  refine z_callS (as := [va_rf v1, .int ((40 : Int32) + a1)]) (r1 := (some (.int v2))) (stk := []) (stk2 := [.int v2]) (st1 := st) (d' := 0) dX4_own_8 xl_X4_36 (by decide) (Nat.le_trans xs0 (by decide)) rfl rfl (S_X10_valueAt n st v1 ((40 : Int32) + a1) v2 hv2) ?_
  obtain rfl := Option.some.inj h
  exact r_ireturn dX4_own_11 .int rfl rfl
theorem S_X4_own (n : Nat) (st : xS) (a0 : Option Nat) (a1 : Int32) (rv : Int32) (h : F_X4_own n st a0 a1 = some rv) : Ct mX4_own [va_rf a0, .int a1] st (some (.int rv)) st 1 := by
  refine Ct.of (by decide) (by simp only [lgL_R, lgL_I, lgL_L, lgL_0]; decide) ?_
  try simp only [lvA_R]
  exact R_X4_own n st a0 a1 rv h
theorem R_X4_strength (n : Nat) (st : xS) (a0 : Option Nat) (a1 : Int32) (rv : Int32) (h : F_X4_strength n st a0 a1 = some rv) : Rn mX4_strength 0 [(0, va_rf a0), (1, .int a1)] [] st (some (.int rv)) st 1 := by
  unfold F_X4_strength at h
  refine x_aload_n (o := a0) dX4_strength_0 rfl ?_
  obtain ⟨v1, hv1, h⟩ := xb h
  refine x_getR (o := a0) dX4_strength_1 xf_X4_9 hv1 ?_
  refine r_bipush (v := (50 : Int32)) dX4_strength_4 (by decide) ?_
  refine r_iload_n (x := a1) dX4_strength_6 rfl ?_
  refine r_iadd dX4_strength_7 ?_
  obtain ⟨v2, hv2, h⟩ := xb h
  refine z_callS (as := [va_rf v1, .int ((50 : Int32) + a1)]) (r1 := (some (.int v2))) (stk := []) (stk2 := [.int v2]) (st1 := st) (d' := 0) dX4_strength_8 xl_X4_36 (by decide) (Nat.le_trans xs0 (by decide)) rfl rfl (S_X10_valueAt n st v1 ((50 : Int32) + a1) v2 hv2) ?_
  obtain rfl := Option.some.inj h
  exact r_ireturn dX4_strength_11 .int rfl rfl
theorem S_X4_strength (n : Nat) (st : xS) (a0 : Option Nat) (a1 : Int32) (rv : Int32) (h : F_X4_strength n st a0 a1 = some rv) : Ct mX4_strength [va_rf a0, .int a1] st (some (.int rv)) st 1 := by
  refine Ct.of (by decide) (by simp only [lgL_R, lgL_I, lgL_L, lgL_0]; decide) ?_
  try simp only [lvA_R]
  exact R_X4_strength n st a0 a1 rv h
theorem R_X4_apart (n : Nat) (st : xS) (a0 : Option Nat) (a1 : Int32) (a2 : Int32) (rv : Int32) (h : F_X4_apart n st a0 a1 a2 = some rv) : Rn mX4_apart 0 [(0, va_rf a0), (1, .int a1), (2, .int a2)] [] st (some (.int rv)) st 1 := by
  unfold F_X4_apart at h
  refine x_aload_n (o := a0) dX4_apart_0 rfl ?_
  obtain ⟨v1, hv1, h⟩ := xb h
  refine x_getR (o := a0) dX4_apart_1 xf_X4_15 hv1 ?_
  refine r_bipush (v := (10 : Int32)) dX4_apart_4 (by decide) ?_
  refine r_iload_n (x := a1) dX4_apart_6 rfl ?_
  refine r_imul dX4_apart_7 ?_
  refine r_iload_n (x := a2) dX4_apart_8 rfl ?_
  refine r_iadd dX4_apart_9 ?_
  obtain ⟨v2, hv2, h⟩ := xb h
  refine z_callS (as := [va_rf v1, .int (((10 : Int32) * a1) + a2)]) (r1 := (some (.int v2))) (stk := []) (stk2 := [.int v2]) (st1 := st) (d' := 0) dX4_apart_10 xl_X4_36 (by decide) (Nat.le_trans xs0 (by decide)) rfl rfl (S_X10_valueAt n st v1 (((10 : Int32) * a1) + a2) v2 hv2) ?_
  obtain rfl := Option.some.inj h
  exact r_ireturn dX4_apart_13 .int rfl rfl
theorem S_X4_apart (n : Nat) (st : xS) (a0 : Option Nat) (a1 : Int32) (a2 : Int32) (rv : Int32) (h : F_X4_apart n st a0 a1 a2 = some rv) : Ct mX4_apart [va_rf a0, .int a1, .int a2] st (some (.int rv)) st 1 := by
  refine Ct.of (by decide) (by simp only [lgL_R, lgL_I, lgL_L, lgL_0]; decide) ?_
  try simp only [lvA_R]
  exact R_X4_apart n st a0 a1 a2 rv h
theorem R_X6_init (n : Nat) (st : xS) (a0 : Option Nat) (st' : xS) (h : F_X6_init n st a0 = some st') : Rn mX6_init 0 [(0, va_rf a0)] [] st none st' 2 := by
  unfold F_X6_init at h
  refine x_aload_n (o := a0) dX6_init_0 rfl ?_
  obtain ⟨b1, hb1, h⟩ := xb h
  obtain ⟨u2, hu2, h⟩ := xb h
  refine x_callI (as := []) (o := a0) (stk := []) (st1 := st) (d' := 1) dX6_init_1 xl_X6_3 hb1 (by decide) (Nat.le_trans xs0 (by decide)) rfl (S_X2_init n st a0  u2 hu2) ?_
  refine x_aload_n (o := a0) dX6_init_4 rfl ?_
  refine r_sipush (v := (240 : Int32)) dX6_init_5 (by decide) ?_
  obtain ⟨s3, hs3, h⟩ := xb h
  obtain ⟨o4, ho4, h⟩ := xb h
  refine x_newarray (t := 0) (o := o4) dX6_init_8 (by decide) rfl xar_0 (by decide) (by decide) (by decide) (Option.some.inj hs3) (Option.some.inj ho4) ?_
  obtain ⟨s5, hs5, h⟩ := xb h
  refine x_putR (o := a0) (x := o4) dX6_init_10 xp_X6_9 (Or.inr ⟨_, rfl⟩) hs5 ?_
  refine x_aload_n (o := a0) dX6_init_13 rfl ?_
  refine r_iconst (v := (0 : Int32)) dX6_init_14 (by decide) ?_
  obtain ⟨s6, hs6, h⟩ := xb h
  refine x_putI (o := a0) dX6_init_15 (xp_X6_15 _) hs6 ?_
  refine x_aload_n (o := a0) dX6_init_18 rfl ?_
  refine r_iconst (v := (-1 : Int32)) dX6_init_19 (by decide) ?_
  obtain ⟨s7, hs7, h⟩ := xb h
  refine x_putI (o := a0) dX6_init_20 (xp_X6_19 _) hs7 ?_
  refine x_aload_n (o := a0) dX6_init_23 rfl ?_
  refine r_iconst (v := (-1 : Int32)) dX6_init_24 (by decide) ?_
  obtain ⟨s8, hs8, h⟩ := xb h
  refine x_putI (o := a0) dX6_init_25 (xp_X6_22 _) hs8 ?_
  refine x_aload_n (o := a0) dX6_init_28 rfl ?_
  refine r_iconst (v := (0 : Int32)) dX6_init_29 (by decide) ?_
  obtain ⟨s9, hs9, h⟩ := xb h
  refine x_putI (o := a0) dX6_init_30 (xp_X6_25 _) hs9 ?_
  refine x_aload_n (o := a0) dX6_init_33 rfl ?_
  refine r_iconst (v := (1 : Int32)) dX6_init_34 (by decide) ?_
  obtain ⟨s10, hs10, h⟩ := xb h
  refine x_putI (o := a0) dX6_init_35 (xp_X6_28 _) hs10 ?_
  refine x_aload_n (o := a0) dX6_init_38 rfl ?_
  refine r_iconst (v := (0 : Int32)) dX6_init_39 (by decide) ?_
  obtain ⟨s11, hs11, h⟩ := xb h
  refine x_putI (o := a0) dX6_init_40 (xp_X6_31 _) hs11 ?_
  refine x_aload_n (o := a0) dX6_init_43 rfl ?_
  refine r_iconst (v := (-1 : Int32)) dX6_init_44 (by decide) ?_
  obtain ⟨s12, hs12, h⟩ := xb h
  refine x_putI (o := a0) dX6_init_45 (xp_X6_34 _) hs12 ?_
  obtain rfl := Option.some.inj h
  exact r_return dX6_init_48 rfl
theorem S_X6_init (n : Nat) (st : xS) (a0 : Option Nat) (st' : xS) (h : F_X6_init n st a0 = some st') : Ct mX6_init [va_rf a0] st none st' 2 := by
  refine Ct.of (by decide) (by simp only [lgL_R, lgL_I, lgL_L, lgL_0]; decide) ?_
  try simp only [lvA_R]
  exact R_X6_init n st a0 st' h
theorem R_X5_init (n : Nat) (st : xS) (a0 : Option Nat) (st' : xS) (h : F_X5_init n st a0 = some st') : Rn mX5_init 0 [(0, va_rf a0)] [] st none st' 3 := by
  unfold F_X5_init at h
  refine x_aload_n (o := a0) dX5_init_0 rfl ?_
  obtain ⟨b1, hb1, h⟩ := xb h
  refine x_objInit (o := a0) dX5_init_1 xo_X5_3 xo_2 xo_3 (by decide) (Nat.le_trans xs0 (by decide)) hb1 ?_
  refine x_aload_n (o := a0) dX5_init_4 rfl ?_
  obtain ⟨s2, hs2, h⟩ := xb h
  obtain ⟨o3, ho3, h⟩ := xb h
  refine x_new (o := o3) dX5_init_5 xc_X4 tyX4 tyX4_ok xw_X5_9 xi_X4 xj_X4 xh_X4 (Option.some.inj hs2) (Option.some.inj ho3) ?_
  refine x_dupR (o := o3) dX5_init_8 ?_
  obtain ⟨b4, hb4, h⟩ := xb h
  obtain ⟨s5, hs5, h⟩ := xb h
  refine x_callI (as := []) (o := o3) (stk := [va_rf o3, va_rf a0]) (st1 := s5) (d' := 2) dX5_init_9 xl_X5_11 hb4 (by decide) (Nat.le_trans (xsA (xsA xs0)) (by decide)) rfl (S_X4_init n s2 o3  s5 hs5) ?_
  obtain ⟨s6, hs6, h⟩ := xb h
  refine x_putR (o := a0) (x := o3) dX5_init_12 (xp_X5_12 _) (Or.inl ⟨_, rfl⟩) hs6 ?_
  refine x_aload_n (o := a0) dX5_init_15 rfl ?_
  obtain ⟨s7, hs7, h⟩ := xb h
  obtain ⟨o8, ho8, h⟩ := xb h
  refine x_new (o := o8) dX5_init_16 xc_X3 tyX3 tyX3_ok xw_X5_18 xi_X3 xj_X3 xh_X3 (Option.some.inj hs7) (Option.some.inj ho8) ?_
  refine x_dupR (o := o8) dX5_init_19 ?_
  obtain ⟨b9, hb9, h⟩ := xb h
  obtain ⟨s10, hs10, h⟩ := xb h
  refine x_callI (as := []) (o := o8) (stk := [va_rf o8, va_rf a0]) (st1 := s10) (d' := 2) dX5_init_20 xl_X5_20 hb9 (by decide) (Nat.le_trans (xsA (xsA xs0)) (by decide)) rfl (S_X3_init n s7 o8  s10 hs10) ?_
  obtain ⟨s11, hs11, h⟩ := xb h
  refine x_putR (o := a0) (x := o8) dX5_init_23 (xp_X5_21 _) (Or.inl ⟨_, rfl⟩) hs11 ?_
  refine x_aload_n (o := a0) dX5_init_26 rfl ?_
  obtain ⟨s12, hs12, h⟩ := xb h
  obtain ⟨o13, ho13, h⟩ := xb h
  refine x_new (o := o13) dX5_init_27 xc_X6 tyX6 tyX6_ok xw_X5_25 xi_X6 xj_X6 xh_X6 (Option.some.inj hs12) (Option.some.inj ho13) ?_
  refine x_dupR (o := o13) dX5_init_30 ?_
  obtain ⟨b14, hb14, h⟩ := xb h
  obtain ⟨s15, hs15, h⟩ := xb h
  refine x_callI (as := []) (o := o13) (stk := [va_rf o13, va_rf a0]) (st1 := s15) (d' := 2) dX5_init_31 xl_X5_27 hb14 (by decide) (Nat.le_trans (xsA (xsA xs0)) (by decide)) rfl (S_X6_init n s12 o13  s15 hs15) ?_
  obtain ⟨s16, hs16, h⟩ := xb h
  refine x_putR (o := a0) (x := o13) dX5_init_34 (xp_X5_28 _) (Or.inl ⟨_, rfl⟩) hs16 ?_
  refine x_aload_n (o := a0) dX5_init_37 rfl ?_
  refine r_bipush (v := (6 : Int32)) dX5_init_38 (by decide) ?_
  obtain ⟨s17, hs17, h⟩ := xb h
  obtain ⟨o18, ho18, h⟩ := xb h
  refine x_newarray (t := 0) (o := o18) dX5_init_40 (by decide) rfl xar_0 (by decide) (by decide) (by decide) (Option.some.inj hs17) (Option.some.inj ho18) ?_
  obtain ⟨s19, hs19, h⟩ := xb h
  refine x_putR (o := a0) (x := o18) dX5_init_42 xp_X5_32 (Or.inr ⟨_, rfl⟩) hs19 ?_
  refine x_aload_n (o := a0) dX5_init_45 rfl ?_
  refine r_iconst (v := (0 : Int32)) dX5_init_46 (by decide) ?_
  obtain ⟨s20, hs20, h⟩ := xb h
  refine x_putI (o := a0) dX5_init_47 (xp_X5_36 _) hs20 ?_
  refine x_aload_n (o := a0) dX5_init_50 rfl ?_
  refine r_iconst (v := (0 : Int32)) dX5_init_51 (by decide) ?_
  obtain ⟨s21, hs21, h⟩ := xb h
  refine x_putI (o := a0) dX5_init_52 (xp_X5_40 _) hs21 ?_
  refine x_aload_n (o := a0) dX5_init_55 rfl ?_
  refine r_iconst (v := (0 : Int32)) dX5_init_56 (by decide) ?_
  obtain ⟨s22, hs22, h⟩ := xb h
  refine x_putI (o := a0) dX5_init_57 (xp_X5_43 _) hs22 ?_
  refine x_aload_n (o := a0) dX5_init_60 rfl ?_
  refine r_iconst (v := (0 : Int32)) dX5_init_61 (by decide) ?_
  obtain ⟨s23, hs23, h⟩ := xb h
  refine x_putI (o := a0) dX5_init_62 (xp_X5_46 _) hs23 ?_
  refine x_aload_n (o := a0) dX5_init_65 rfl ?_
  refine r_bipush (v := (8 : Int32)) dX5_init_66 (by decide) ?_
  obtain ⟨s24, hs24, h⟩ := xb h
  obtain ⟨o25, ho25, h⟩ := xb h
  refine x_newarray (t := 0) (o := o25) dX5_init_68 (by decide) rfl xar_0 (by decide) (by decide) (by decide) (Option.some.inj hs24) (Option.some.inj ho25) ?_
  obtain ⟨s26, hs26, h⟩ := xb h
  refine x_putR (o := a0) (x := o25) dX5_init_70 xp_X5_49 (Or.inr ⟨_, rfl⟩) hs26 ?_
  refine x_aload_n (o := a0) dX5_init_73 rfl ?_
  refine r_bipush (v := (8 : Int32)) dX5_init_74 (by decide) ?_
  obtain ⟨s27, hs27, h⟩ := xb h
  obtain ⟨o28, ho28, h⟩ := xb h
  refine x_newarray (t := 0) (o := o28) dX5_init_76 (by decide) rfl xar_0 (by decide) (by decide) (by decide) (Option.some.inj hs27) (Option.some.inj ho28) ?_
  obtain ⟨s29, hs29, h⟩ := xb h
  refine x_putR (o := a0) (x := o28) dX5_init_78 xp_X5_52 (Or.inr ⟨_, rfl⟩) hs29 ?_
  obtain rfl := Option.some.inj h
  exact r_return dX5_init_81 rfl
theorem S_X5_init (n : Nat) (st : xS) (a0 : Option Nat) (st' : xS) (h : F_X5_init n st a0 = some st') : Ct mX5_init [va_rf a0] st none st' 3 := by
  refine Ct.of (by decide) (by simp only [lgL_R, lgL_I, lgL_L, lgL_0]; decide) ?_
  try simp only [lvA_R]
  exact R_X5_init n st a0 st' h
theorem R_X6_fits (n : Nat) (st : xS) (a0 : Option Nat) (a1 : Option Nat) (rv : Int32) (h : F_X6_fits n st a0 a1 = some rv) : Rn mX6_fits 0 [(0, va_rf a0), (1, va_rf a1)] [] st (some (.int rv)) st 0 := by
  unfold F_X6_fits at h
  refine x_aload_n (o := a0) dX6_fits_0 rfl ?_
  obtain ⟨v1, hv1, h⟩ := xb h
  refine x_getI (o := a0) dX6_fits_1 xf_X6_19 hv1 ?_
  refine x_aload_n (o := a1) dX6_fits_4 rfl ?_
  obtain ⟨v2, hv2, h⟩ := xb h
  refine x_getI (o := a1) dX6_fits_5 xf_X6_51 hv2 ?_
  obtain ⟨q5, hq5, h⟩ := xb h
  have Jq5 : Rn mX6_fits 27 [] [.int q5] st (some (.int rv)) st 0 := by
    obtain ⟨v6, hv6, h⟩ := xb h
    refine x_eqI (rz_inv2 hv6).1 ?_
    obtain rfl := Option.some.inj h
    exact r_ireturn dX6_fits_27 .boolean rfl (by rcases (rz_inv2 hv6).2 with e | e <;> rw [e] <;> rfl)
  refine r_icmp_ge (tgt := 26) dX6_fits_8 (by decide) (fun c => ?_) (fun c => ?_)
  · replace hq5 := (if_pos c).symm.trans hq5
    refine r_iconst (v := (0 : Int32)) dX6_fits_26 (by decide) ?_
    obtain rfl := Option.some.inj hq5
    exact x_sub [] rfl Jq5
  · replace hq5 := (if_neg c).symm.trans hq5
    refine x_aload_n (o := a0) dX6_fits_11 rfl ?_
    obtain ⟨v3, hv3, hq5⟩ := xb hq5
    refine x_getI (o := a0) dX6_fits_12 xf_X6_22 hv3 ?_
    refine x_aload_n (o := a1) dX6_fits_15 rfl ?_
    obtain ⟨v4, hv4, hq5⟩ := xb hq5
    refine x_getI (o := a1) dX6_fits_16 xf_X6_56 hv4 ?_
    refine r_icmp_ge (tgt := 26) dX6_fits_19 (by decide) (fun c => ?_) (fun c => ?_)
    · replace hq5 := (if_pos c).symm.trans hq5
      refine r_iconst (v := (0 : Int32)) dX6_fits_26 (by decide) ?_
      obtain rfl := Option.some.inj hq5
      exact x_sub [] rfl Jq5
    · replace hq5 := (if_neg c).symm.trans hq5
      refine r_iconst (v := (1 : Int32)) dX6_fits_22 (by decide) ?_
      refine r_goto (tgt := 27) dX6_fits_23 (by decide) ?_
      obtain rfl := Option.some.inj hq5
      exact x_sub [] rfl Jq5
theorem S_X6_fits (n : Nat) (st : xS) (a0 : Option Nat) (a1 : Option Nat) (rv : Int32) (h : F_X6_fits n st a0 a1 = some rv) : Ct mX6_fits [va_rf a0, va_rf a1] st (some (.int rv)) st 0 := by
  refine Ct.of (by decide) (by simp only [lgL_R, lgL_I, lgL_L, lgL_0]; decide) ?_
  try simp only [lvA_R]
  exact R_X6_fits n st a0 a1 rv h
theorem R_X9_leagueAt (n : Nat) (st : xS) (a0 : Option Nat) (a1 : Int32) (rv : Option Nat) (h : F_X9_leagueAt n st a0 a1 = some rv) : Rn mX9_leagueAt 0 [(0, va_rf a0), (1, .int a1)] [] st (some (va_rf rv)) st 0 := by
  unfold F_X9_leagueAt at h
  refine r_iload_n (x := a1) dX9_leagueAt_0 rfl ?_
  obtain ⟨q5, hq5, h⟩ := xb h
  have Jq5 : Rn mX9_leagueAt 23 [] [va_rf q5] st (some (va_rf rv)) st 0 := by
    obtain rfl := Option.some.inj h
    exact x_areturn (o := q5) dX9_leagueAt_23 _ rfl (Or.inl ⟨_, rfl⟩)
  refine r_if_lt (tgt := 22) dX9_leagueAt_1 (by decide) (fun c => ?_) (fun c => ?_)
  · replace hq5 := (if_pos c).symm.trans hq5
    refine r_null dX9_leagueAt_22 ?_
    obtain rfl := Option.some.inj hq5
    exact x_sub [] rfl Jq5
  · replace hq5 := (if_neg c).symm.trans hq5
    refine r_iload_n (x := a1) dX9_leagueAt_4 rfl ?_
    refine x_aload_n (o := a0) dX9_leagueAt_5 rfl ?_
    obtain ⟨v1, hv1, hq5⟩ := xb hq5
    refine x_getR (o := a0) dX9_leagueAt_6 xf_X9_11 hv1 ?_
    obtain ⟨v2, hv2, hq5⟩ := xb hq5
    refine x_alen (o := v1) dX9_leagueAt_9 hv2 ?_
    refine r_icmp_ge (tgt := 22) dX9_leagueAt_10 (by decide) (fun c => ?_) (fun c => ?_)
    · replace hq5 := (if_pos c).symm.trans hq5
      refine r_null dX9_leagueAt_22 ?_
      obtain rfl := Option.some.inj hq5
      exact x_sub [] rfl Jq5
    · replace hq5 := (if_neg c).symm.trans hq5
      refine x_aload_n (o := a0) dX9_leagueAt_13 rfl ?_
      obtain ⟨v3, hv3, hq5⟩ := xb hq5
      refine x_getR (o := a0) dX9_leagueAt_14 xf_X9_11 hv3 ?_
      refine r_iload_n (x := a1) dX9_leagueAt_17 rfl ?_
      obtain ⟨v4, hv4, hq5⟩ := xb hq5
      refine x_aaload (o := v3) dX9_leagueAt_18 hv4 ?_
      refine r_goto (tgt := 23) dX9_leagueAt_19 (by decide) ?_
      obtain rfl := Option.some.inj hq5
      exact x_sub [] rfl Jq5
theorem S_X9_leagueAt (n : Nat) (st : xS) (a0 : Option Nat) (a1 : Int32) (rv : Option Nat) (h : F_X9_leagueAt n st a0 a1 = some rv) : Ct mX9_leagueAt [va_rf a0, .int a1] st (some (va_rf rv)) st 0 := by
  refine Ct.of (by decide) (by simp only [lgL_R, lgL_I, lgL_L, lgL_0]; decide) ?_
  try simp only [lvA_R]
  exact R_X9_leagueAt n st a0 a1 rv h
theorem R_X9_planAt (n : Nat) (st : xS) (a0 : Option Nat) (a1 : Int32) (rv : Option Nat) (h : F_X9_planAt n st a0 a1 = some rv) : Rn mX9_planAt 0 [(0, va_rf a0), (1, .int a1)] [] st (some (va_rf rv)) st 0 := by
  unfold F_X9_planAt at h
  refine r_iload_n (x := a1) dX9_planAt_0 rfl ?_
  obtain ⟨q5, hq5, h⟩ := xb h
  have Jq5 : Rn mX9_planAt 23 [] [va_rf q5] st (some (va_rf rv)) st 0 := by
    obtain rfl := Option.some.inj h
    exact x_areturn (o := q5) dX9_planAt_23 _ rfl (Or.inl ⟨_, rfl⟩)
  refine r_if_lt (tgt := 22) dX9_planAt_1 (by decide) (fun c => ?_) (fun c => ?_)
  · replace hq5 := (if_pos c).symm.trans hq5
    refine r_null dX9_planAt_22 ?_
    obtain rfl := Option.some.inj hq5
    exact x_sub [] rfl Jq5
  · replace hq5 := (if_neg c).symm.trans hq5
    refine r_iload_n (x := a1) dX9_planAt_4 rfl ?_
    refine x_aload_n (o := a0) dX9_planAt_5 rfl ?_
    obtain ⟨v1, hv1, hq5⟩ := xb hq5
    refine x_getR (o := a0) dX9_planAt_6 xf_X9_25 hv1 ?_
    obtain ⟨v2, hv2, hq5⟩ := xb hq5
    refine x_alen (o := v1) dX9_planAt_9 hv2 ?_
    refine r_icmp_ge (tgt := 22) dX9_planAt_10 (by decide) (fun c => ?_) (fun c => ?_)
    · replace hq5 := (if_pos c).symm.trans hq5
      refine r_null dX9_planAt_22 ?_
      obtain rfl := Option.some.inj hq5
      exact x_sub [] rfl Jq5
    · replace hq5 := (if_neg c).symm.trans hq5
      refine x_aload_n (o := a0) dX9_planAt_13 rfl ?_
      obtain ⟨v3, hv3, hq5⟩ := xb hq5
      refine x_getR (o := a0) dX9_planAt_14 xf_X9_25 hv3 ?_
      refine r_iload_n (x := a1) dX9_planAt_17 rfl ?_
      obtain ⟨v4, hv4, hq5⟩ := xb hq5
      refine x_aaload (o := v3) dX9_planAt_18 hv4 ?_
      refine r_goto (tgt := 23) dX9_planAt_19 (by decide) ?_
      obtain rfl := Option.some.inj hq5
      exact x_sub [] rfl Jq5
theorem S_X9_planAt (n : Nat) (st : xS) (a0 : Option Nat) (a1 : Int32) (rv : Option Nat) (h : F_X9_planAt n st a0 a1 = some rv) : Ct mX9_planAt [va_rf a0, .int a1] st (some (va_rf rv)) st 0 := by
  refine Ct.of (by decide) (by simp only [lgL_R, lgL_I, lgL_L, lgL_0]; decide) ?_
  try simp only [lvA_R]
  exact R_X9_planAt n st a0 a1 rv h
theorem R_X5_bring (n : Nat) (st : xS) (a0 : Option Nat) (a1 : Option Nat) (a2 : Int32) (a3 : Int32) (rv : Int32) (st' : xS) (h : F_X5_bring n st a0 a1 a2 a3 = some (rv, st')) : Rn mX5_bring 0 [(0, va_rf a0), (1, va_rf a1), (2, .int a2), (3, .int a3)] [] st (some (.int rv)) st' 1 := by
  unfold F_X5_bring at h
  refine x_aload_n (o := a1) dX5_bring_0 rfl ?_
  refine r_iload_n (x := a2) dX5_bring_1 rfl ?_
  obtain ⟨q2, hq2, h⟩ := xb h
  obtain ⟨v1, hv1, h⟩ := xb h
  refine z_callV (as := [.int a2]) (o := a1) (r1 := (some (va_rf v1))) (stk := []) (stk2 := [va_rf v1]) (st1 := st) (d' := 0) dX5_bring_2 xl_X5_55 hq2 (by decide) (Nat.le_trans xs0 (by decide)) rfl rfl (S_X9_leagueAt n st a1 a2 v1 hv1) ?_
  refine x_astore (lv' := [(4, va_rf v1), (0, va_rf a0), (1, va_rf a1), (2, .int a2), (3, .int a3)]) (o := v1) dX5_bring_5 (by decide) rfl ?_
  refine x_aload_n (o := a1) dX5_bring_7 rfl ?_
  refine r_iload_n (x := a3) dX5_bring_8 rfl ?_
  obtain ⟨q4, hq4, h⟩ := xb h
  obtain ⟨v3, hv3, h⟩ := xb h
  refine z_callV (as := [.int a3]) (o := a1) (r1 := (some (va_rf v3))) (stk := []) (stk2 := [va_rf v3]) (st1 := st) (d' := 0) dX5_bring_9 xl_X5_61 hq4 (by decide) (Nat.le_trans xs0 (by decide)) rfl rfl (S_X9_planAt n st a1 a3 v3 hv3) ?_
  refine x_astore (lv' := [(5, va_rf v3), (4, va_rf v1), (0, va_rf a0), (1, va_rf a1), (2, .int a2), (3, .int a3)]) (o := v3) dX5_bring_12 (by decide) (congrArg (List.cons _) (xfY (xk1 4 5 _) (xfY rfl (xfY rfl (xfY rfl (xfY rfl rfl)))))) ?_
  refine x_aload (o := v1) dX5_bring_14 rfl ?_
  refine x_ifnull (o := v1) (tgt := 34) dX5_bring_16 (by decide) (fun c => ?_) (fun c => ?_)
  · replace h := (if_pos c).symm.trans h
    refine r_iconst (v := (0 : Int32)) dX5_bring_34 (by decide) ?_
    obtain ⟨v5, hv5, h⟩ := xb h
    refine x_eqI (rz_inv2 hv5).1 ?_
    obtain ⟨rfl, rfl⟩ := Prod.mk.inj (Option.some.inj h)
    exact r_ireturn dX5_bring_35 .boolean rfl (by rcases (rz_inv2 hv5).2 with e | e <;> rw [e] <;> rfl)
  · replace h := (if_neg c).symm.trans h
    refine x_aload (o := v3) dX5_bring_19 rfl ?_
    refine x_ifnull (o := v3) (tgt := 34) dX5_bring_21 (by decide) (fun c => ?_) (fun c => ?_)
    · replace h := (if_pos c).symm.trans h
      refine r_iconst (v := (0 : Int32)) dX5_bring_34 (by decide) ?_
      obtain ⟨v6, hv6, h⟩ := xb h
      refine x_eqI (rz_inv2 hv6).1 ?_
      obtain ⟨rfl, rfl⟩ := Prod.mk.inj (Option.some.inj h)
      exact r_ireturn dX5_bring_35 .boolean rfl (by rcases (rz_inv2 hv6).2 with e | e <;> rw [e] <;> rfl)
    · replace h := (if_neg c).symm.trans h
      refine x_aload (o := v3) dX5_bring_24 rfl ?_
      refine x_aload (o := v1) dX5_bring_26 rfl ?_
      obtain ⟨q8, hq8, h⟩ := xb h
      obtain ⟨v7, hv7, h⟩ := xb h
      refine z_callV (as := [va_rf v1]) (o := v3) (r1 := (some (.int v7))) (stk := []) (stk2 := [.int v7]) (st1 := st) (d' := 0) dX5_bring_28 xl_X5_65 hq8 (by decide) (Nat.le_trans xs0 (by decide)) rfl rfl (S_X6_fits n st v3 v1 v7 hv7) ?_
      refine r_if_ne (tgt := 36) dX5_bring_31 (by decide) (fun c => ?_) (fun c => ?_)
      · replace h := (if_neg c).symm.trans h
        refine x_aload_n (o := a0) dX5_bring_36 rfl ?_
        refine x_aload (o := v1) dX5_bring_37 rfl ?_
        obtain ⟨s10, hs10, h⟩ := xb h
        refine x_putR (o := a0) (x := v1) dX5_bring_39 (xp_X5_12 _) (Or.inl ⟨_, rfl⟩) hs10 ?_
        refine x_aload_n (o := a0) dX5_bring_42 rfl ?_
        refine x_aload (o := v3) dX5_bring_43 rfl ?_
        obtain ⟨s11, hs11, h⟩ := xb h
        refine x_putR (o := a0) (x := v3) dX5_bring_45 (xp_X5_28 _) (Or.inl ⟨_, rfl⟩) hs11 ?_
        refine r_iconst (v := (1 : Int32)) dX5_bring_48 (by decide) ?_
        obtain ⟨v12, hv12, h⟩ := xb h
        refine x_eqI (rz_inv2 hv12).1 ?_
        obtain ⟨rfl, rfl⟩ := Prod.mk.inj (Option.some.inj h)
        exact r_ireturn dX5_bring_49 .boolean rfl (by rcases (rz_inv2 hv12).2 with e | e <;> rw [e] <;> rfl)
      · replace h := (if_pos c).symm.trans h
        refine r_iconst (v := (0 : Int32)) dX5_bring_34 (by decide) ?_
        obtain ⟨v9, hv9, h⟩ := xb h
        refine x_eqI (rz_inv2 hv9).1 ?_
        obtain ⟨rfl, rfl⟩ := Prod.mk.inj (Option.some.inj h)
        exact r_ireturn dX5_bring_35 .boolean rfl (by rcases (rz_inv2 hv9).2 with e | e <;> rw [e] <;> rfl)
theorem S_X5_bring (n : Nat) (st : xS) (a0 : Option Nat) (a1 : Option Nat) (a2 : Int32) (a3 : Int32) (rv : Int32) (st' : xS) (h : F_X5_bring n st a0 a1 a2 a3 = some (rv, st')) : Ct mX5_bring [va_rf a0, va_rf a1, .int a2, .int a3] st (some (.int rv)) st' 1 := by
  refine Ct.of (by decide) (by simp only [lgL_R, lgL_I, lgL_L, lgL_0]; decide) ?_
  try simp only [lvA_R]
  exact R_X5_bring n st a0 a1 a2 a3 rv st' h
theorem R_X9_lawAt (n : Nat) (st : xS) (a0 : Option Nat) (a1 : Int32) (rv : Option Nat) (h : F_X9_lawAt n st a0 a1 = some rv) : Rn mX9_lawAt 0 [(0, va_rf a0), (1, .int a1)] [] st (some (va_rf rv)) st 0 := by
  unfold F_X9_lawAt at h
  refine r_iload_n (x := a1) dX9_lawAt_0 rfl ?_
  obtain ⟨q5, hq5, h⟩ := xb h
  have Jq5 : Rn mX9_lawAt 23 [] [va_rf q5] st (some (va_rf rv)) st 0 := by
    obtain rfl := Option.some.inj h
    exact x_areturn (o := q5) dX9_lawAt_23 _ rfl (Or.inl ⟨_, rfl⟩)
  refine r_if_lt (tgt := 22) dX9_lawAt_1 (by decide) (fun c => ?_) (fun c => ?_)
  · replace hq5 := (if_pos c).symm.trans hq5
    refine r_null dX9_lawAt_22 ?_
    obtain rfl := Option.some.inj hq5
    exact x_sub [] rfl Jq5
  · replace hq5 := (if_neg c).symm.trans hq5
    refine r_iload_n (x := a1) dX9_lawAt_4 rfl ?_
    refine x_aload_n (o := a0) dX9_lawAt_5 rfl ?_
    obtain ⟨v1, hv1, hq5⟩ := xb hq5
    refine x_getR (o := a0) dX9_lawAt_6 xf_X9_19 hv1 ?_
    obtain ⟨v2, hv2, hq5⟩ := xb hq5
    refine x_alen (o := v1) dX9_lawAt_9 hv2 ?_
    refine r_icmp_ge (tgt := 22) dX9_lawAt_10 (by decide) (fun c => ?_) (fun c => ?_)
    · replace hq5 := (if_pos c).symm.trans hq5
      refine r_null dX9_lawAt_22 ?_
      obtain rfl := Option.some.inj hq5
      exact x_sub [] rfl Jq5
    · replace hq5 := (if_neg c).symm.trans hq5
      refine x_aload_n (o := a0) dX9_lawAt_13 rfl ?_
      obtain ⟨v3, hv3, hq5⟩ := xb hq5
      refine x_getR (o := a0) dX9_lawAt_14 xf_X9_19 hv3 ?_
      refine r_iload_n (x := a1) dX9_lawAt_17 rfl ?_
      obtain ⟨v4, hv4, hq5⟩ := xb hq5
      refine x_aaload (o := v3) dX9_lawAt_18 hv4 ?_
      refine r_goto (tgt := 23) dX9_lawAt_19 (by decide) ?_
      obtain rfl := Option.some.inj hq5
      exact x_sub [] rfl Jq5
theorem S_X9_lawAt (n : Nat) (st : xS) (a0 : Option Nat) (a1 : Int32) (rv : Option Nat) (h : F_X9_lawAt n st a0 a1 = some rv) : Ct mX9_lawAt [va_rf a0, .int a1] st (some (va_rf rv)) st 0 := by
  refine Ct.of (by decide) (by simp only [lgL_R, lgL_I, lgL_L, lgL_0]; decide) ?_
  try simp only [lvA_R]
  exact R_X9_lawAt n st a0 a1 rv h
theorem R_X5_bring_ (n : Nat) (st : xS) (a0 : Option Nat) (a1 : Option Nat) (a2 : Int32) (a3 : Int32) (a4 : Int32) (rv : Int32) (st' : xS) (h : F_X5_bring_ n st a0 a1 a2 a3 a4 = some (rv, st')) : Rn mX5_bring_ 0 [(0, va_rf a0), (1, va_rf a1), (2, .int a2), (3, .int a3), (4, .int a4)] [] st (some (.int rv)) st' 2 := by
  unfold F_X5_bring_ at h
  refine x_aload_n (o := a1) dX5_bring__0 rfl ?_
  refine r_iload_n (x := a3) dX5_bring__1 rfl ?_
  obtain ⟨q2, hq2, h⟩ := xb h
  obtain ⟨v1, hv1, h⟩ := xb h
  refine z_callV (as := [.int a3]) (o := a1) (r1 := (some (va_rf v1))) (stk := []) (stk2 := [va_rf v1]) (st1 := st) (d' := 0) dX5_bring__2 xl_X5_69 hq2 (by decide) (Nat.le_trans xs0 (by decide)) rfl rfl (S_X9_lawAt n st a1 a3 v1 hv1) ?_
  refine x_astore (lv' := [(5, va_rf v1), (0, va_rf a0), (1, va_rf a1), (2, .int a2), (3, .int a3), (4, .int a4)]) (o := v1) dX5_bring__5 (by decide) rfl ?_
  refine x_aload (o := v1) dX5_bring__7 rfl ?_
  refine x_ifnull (o := v1) (tgt := 23) dX5_bring__9 (by decide) (fun c => ?_) (fun c => ?_)
  · replace h := (if_pos c).symm.trans h
    refine r_iconst (v := (0 : Int32)) dX5_bring__23 (by decide) ?_
    obtain ⟨v3, hv3, h⟩ := xb h
    refine x_eqI (rz_inv2 hv3).1 ?_
    obtain ⟨rfl, rfl⟩ := Prod.mk.inj (Option.some.inj h)
    exact r_ireturn dX5_bring__24 .boolean rfl (by rcases (rz_inv2 hv3).2 with e | e <;> rw [e] <;> rfl)
  · replace h := (if_neg c).symm.trans h
    refine x_aload_n (o := a0) dX5_bring__12 rfl ?_
    refine x_aload_n (o := a1) dX5_bring__13 rfl ?_
    refine r_iload_n (x := a2) dX5_bring__14 rfl ?_
    refine r_iload (x := a4) dX5_bring__15 rfl ?_
    obtain ⟨q5, hq5, h⟩ := xb h
    obtain ⟨p4, hp4, h⟩ := xb h
    refine z_callV (as := [va_rf a1, .int a2, .int a4]) (o := a0) (r1 := (some (.int p4.1))) (stk := []) (stk2 := [.int p4.1]) (st1 := p4.2) (d' := 1) dX5_bring__17 xl_X5_73 hq5 (by decide) (Nat.le_trans xs0 (by decide)) rfl rfl (S_X5_bring n st a0 a1 a2 a4 p4.1 p4.2 hp4) ?_
    refine r_if_ne (tgt := 25) dX5_bring__20 (by decide) (fun c => ?_) (fun c => ?_)
    · replace h := (if_neg c).symm.trans h
      refine x_aload_n (o := a0) dX5_bring__25 rfl ?_
      refine x_aload (o := v1) dX5_bring__26 rfl ?_
      obtain ⟨s7, hs7, h⟩ := xb h
      refine x_putR (o := a0) (x := v1) dX5_bring__28 (xp_X5_21 _) (Or.inl ⟨_, rfl⟩) hs7 ?_
      refine r_iconst (v := (1 : Int32)) dX5_bring__31 (by decide) ?_
      obtain ⟨v8, hv8, h⟩ := xb h
      refine x_eqI (rz_inv2 hv8).1 ?_
      obtain ⟨rfl, rfl⟩ := Prod.mk.inj (Option.some.inj h)
      exact r_ireturn dX5_bring__32 .boolean rfl (by rcases (rz_inv2 hv8).2 with e | e <;> rw [e] <;> rfl)
    · replace h := (if_pos c).symm.trans h
      refine r_iconst (v := (0 : Int32)) dX5_bring__23 (by decide) ?_
      obtain ⟨v6, hv6, h⟩ := xb h
      refine x_eqI (rz_inv2 hv6).1 ?_
      obtain ⟨rfl, rfl⟩ := Prod.mk.inj (Option.some.inj h)
      exact r_ireturn dX5_bring__24 .boolean rfl (by rcases (rz_inv2 hv6).2 with e | e <;> rw [e] <;> rfl)
theorem S_X5_bring_ (n : Nat) (st : xS) (a0 : Option Nat) (a1 : Option Nat) (a2 : Int32) (a3 : Int32) (a4 : Int32) (rv : Int32) (st' : xS) (h : F_X5_bring_ n st a0 a1 a2 a3 a4 = some (rv, st')) : Ct mX5_bring_ [va_rf a0, va_rf a1, .int a2, .int a3, .int a4] st (some (.int rv)) st' 2 := by
  refine Ct.of (by decide) (by simp only [lgL_R, lgL_I, lgL_L, lgL_0]; decide) ?_
  try simp only [lvA_R]
  exact R_X5_bring_ n st a0 a1 a2 a3 a4 rv st' h
theorem R_X5_worthOf (n : Nat) (st : xS) (a0 : Option Nat) (a1 : Int32) (rv : Int32) (h : F_X5_worthOf n st a0 a1 = some rv) : Rn mX5_worthOf 0 [(0, va_rf a0), (1, .int a1)] [] st (some (.int rv)) st 1 := by
  unfold F_X5_worthOf at h
  refine x_aload_n (o := a0) dX5_worthOf_0 rfl ?_
  obtain ⟨v1, hv1, h⟩ := xb h
  refine x_getR (o := a0) dX5_worthOf_1 xf_X5_32 hv1 ?_
  refine r_iload_n (x := a1) dX5_worthOf_4 rfl ?_
  obtain ⟨v2, hv2, h⟩ := xb h
  refine z_callS (as := [va_rf v1, .int a1]) (r1 := (some (.int v2))) (stk := []) (stk2 := [.int v2]) (st1 := st) (d' := 0) dX5_worthOf_5 xl_X5_77 (by decide) (Nat.le_trans xs0 (by decide)) rfl rfl (S_X10_valueAt n st v1 a1 v2 hv2) ?_
  obtain rfl := Option.some.inj h
  exact r_ireturn dX5_worthOf_8 .int rfl rfl
theorem S_X5_worthOf (n : Nat) (st : xS) (a0 : Option Nat) (a1 : Int32) (rv : Int32) (h : F_X5_worthOf n st a0 a1 = some rv) : Ct mX5_worthOf [va_rf a0, .int a1] st (some (.int rv)) st 1 := by
  refine Ct.of (by decide) (by simp only [lgL_R, lgL_I, lgL_L, lgL_0]; decide) ?_
  try simp only [lvA_R]
  exact R_X5_worthOf n st a0 a1 rv h
theorem R_X6_of (n : Nat) (st : xS) (a0 : Option Nat) (a1 : Int32) (a2 : Int32) (rv : Int32) (h : F_X6_of n st a0 a1 a2 = some rv) : Rn mX6_of 0 [(0, va_rf a0), (1, .int a1), (2, .int a2)] [] st (some (.int rv)) st 1 := by
  unfold F_X6_of at h
  refine x_aload_n (o := a0) dX6_of_0 rfl ?_
  obtain ⟨v1, hv1, h⟩ := xb h
  refine x_getR (o := a0) dX6_of_1 xf_X6_9 hv1 ?_
  refine r_bipush (v := (6 : Int32)) dX6_of_4 (by decide) ?_
  refine r_iload_n (x := a1) dX6_of_6 rfl ?_
  refine r_imul dX6_of_7 ?_
  refine r_iload_n (x := a2) dX6_of_8 rfl ?_
  refine r_iadd dX6_of_9 ?_
  obtain ⟨v2, hv2, h⟩ := xb h
  refine z_callS (as := [va_rf v1, .int (((6 : Int32) * a1) + a2)]) (r1 := (some (.int v2))) (stk := []) (stk2 := [.int v2]) (st1 := st) (d' := 0) dX6_of_10 xl_X6_59 (by decide) (Nat.le_trans xs0 (by decide)) rfl rfl (S_X10_valueAt n st v1 (((6 : Int32) * a1) + a2) v2 hv2) ?_
  obtain rfl := Option.some.inj h
  exact r_ireturn dX6_of_13 .int rfl rfl
theorem S_X6_of (n : Nat) (st : xS) (a0 : Option Nat) (a1 : Int32) (a2 : Int32) (rv : Int32) (h : F_X6_of n st a0 a1 a2 = some rv) : Ct mX6_of [va_rf a0, .int a1, .int a2] st (some (.int rv)) st 1 := by
  refine Ct.of (by decide) (by simp only [lgL_R, lgL_I, lgL_L, lgL_0]; decide) ?_
  try simp only [lvA_R]
  exact R_X6_of n st a0 a1 a2 rv h
theorem R_X5_lead (n : Nat) (st : xS) (a0 : Option Nat) (a1 : Int32) (rv : Int32) (h : F_X5_lead n st a0 a1 = some rv) : Rn mX5_lead 0 [(0, va_rf a0), (1, .int a1)] [] st (some (.int rv)) st 2 := by
  unfold F_X5_lead at h
  refine x_aload_n (o := a0) dX5_lead_0 rfl ?_
  obtain ⟨v1, hv1, h⟩ := xb h
  refine x_getR (o := a0) dX5_lead_1 xf_X5_12 hv1 ?_
  refine x_aload_n (o := a0) dX5_lead_4 rfl ?_
  obtain ⟨v2, hv2, h⟩ := xb h
  refine x_getR (o := a0) dX5_lead_5 xf_X5_28 hv2 ?_
  refine r_iload_n (x := a1) dX5_lead_8 rfl ?_
  refine r_iconst (v := (0 : Int32)) dX5_lead_9 (by decide) ?_
  obtain ⟨q4, hq4, h⟩ := xb h
  obtain ⟨v3, hv3, h⟩ := xb h
  refine z_callV (as := [.int a1, .int (0 : Int32)]) (o := v2) (r1 := (some (.int v3))) (stk := [va_rf v1]) (stk2 := [.int v3, va_rf v1]) (st1 := st) (d' := 1) dX5_lead_10 xl_X5_81 hq4 (by decide) (Nat.le_trans (xsA xs0) (by decide)) rfl rfl (S_X6_of n st v2 a1 (0 : Int32) v3 hv3) ?_
  obtain ⟨q6, hq6, h⟩ := xb h
  obtain ⟨v5, hv5, h⟩ := xb h
  refine z_callV (as := [.int v3]) (o := v1) (r1 := (some (.int v5))) (stk := []) (stk2 := [.int v5]) (st1 := st) (d' := 1) dX5_lead_13 xl_X5_85 hq6 (by decide) (Nat.le_trans xs0 (by decide)) rfl rfl (S_X4_strength n st v1 v3 v5 hv5) ?_
  refine x_aload_n (o := a0) dX5_lead_16 rfl ?_
  obtain ⟨v7, hv7, h⟩ := xb h
  refine x_getR (o := a0) dX5_lead_17 xf_X5_12 hv7 ?_
  refine x_aload_n (o := a0) dX5_lead_20 rfl ?_
  obtain ⟨v8, hv8, h⟩ := xb h
  refine x_getR (o := a0) dX5_lead_21 xf_X5_28 hv8 ?_
  refine r_iload_n (x := a1) dX5_lead_24 rfl ?_
  refine r_iconst (v := (1 : Int32)) dX5_lead_25 (by decide) ?_
  obtain ⟨q10, hq10, h⟩ := xb h
  obtain ⟨v9, hv9, h⟩ := xb h
  refine z_callV (as := [.int a1, .int (1 : Int32)]) (o := v8) (r1 := (some (.int v9))) (stk := [va_rf v7, .int v5]) (stk2 := [.int v9, va_rf v7, .int v5]) (st1 := st) (d' := 1) dX5_lead_26 xl_X5_81 hq10 (by decide) (Nat.le_trans (xsA (xsI xs0)) (by decide)) rfl rfl (S_X6_of n st v8 a1 (1 : Int32) v9 hv9) ?_
  obtain ⟨q12, hq12, h⟩ := xb h
  obtain ⟨v11, hv11, h⟩ := xb h
  refine z_callV (as := [.int v9]) (o := v7) (r1 := (some (.int v11))) (stk := [.int v5]) (stk2 := [.int v11, .int v5]) (st1 := st) (d' := 1) dX5_lead_29 xl_X5_85 hq12 (by decide) (Nat.le_trans (xsI xs0) (by decide)) rfl rfl (S_X4_strength n st v7 v9 v11 hv11) ?_
  refine r_isub dX5_lead_32 ?_
  obtain rfl := Option.some.inj h
  exact r_ireturn dX5_lead_33 .int rfl rfl
theorem S_X5_lead (n : Nat) (st : xS) (a0 : Option Nat) (a1 : Int32) (rv : Int32) (h : F_X5_lead n st a0 a1 = some rv) : Ct mX5_lead [va_rf a0, .int a1] st (some (.int rv)) st 2 := by
  refine Ct.of (by decide) (by simp only [lgL_R, lgL_I, lgL_L, lgL_0]; decide) ?_
  try simp only [lvA_R]
  exact R_X5_lead n st a0 a1 rv h
theorem R_X5_groundOf (n : Nat) (st : xS) (a0 : Option Nat) (a1 : Int32) (a2 : Int32) (rv : Int32) (h : F_X5_groundOf n st a0 a1 a2 = some rv) : Rn mX5_groundOf 0 [(0, va_rf a0), (1, .int a1), (2, .int a2)] [] st (some (.int rv)) st 2 := by
  unfold F_X5_groundOf at h
  refine x_aload_n (o := a0) dX5_groundOf_0 rfl ?_
  obtain ⟨v1, hv1, h⟩ := xb h
  refine x_getR (o := a0) dX5_groundOf_1 xf_X5_28 hv1 ?_
  refine r_iload_n (x := a1) dX5_groundOf_4 rfl ?_
  refine r_iconst (v := (5 : Int32)) dX5_groundOf_5 (by decide) ?_
  obtain ⟨q3, hq3, h⟩ := xb h
  obtain ⟨v2, hv2, h⟩ := xb h
  refine z_callV (as := [.int a1, .int (5 : Int32)]) (o := v1) (r1 := (some (.int v2))) (stk := []) (stk2 := [.int v2]) (st1 := st) (d' := 1) dX5_groundOf_6 xl_X5_81 hq3 (by decide) (Nat.le_trans xs0 (by decide)) rfl rfl (S_X6_of n st v1 a1 (5 : Int32) v2 hv2) ?_
  refine r_istore_n (lv' := [(3, .int v2), (0, va_rf a0), (1, .int a1), (2, .int a2)]) (x := v2) dX5_groundOf_9 (by decide) rfl ?_
  refine r_iload_n (x := v2) dX5_groundOf_10 rfl ?_
  refine r_iconst (v := (-1 : Int32)) dX5_groundOf_11 (by decide) ?_
  obtain ⟨q7, hq7, h⟩ := xb h
  have Jq7 : Rn mX5_groundOf 27 [] [.int q7] st (some (.int rv)) st 2 := by
    obtain rfl := Option.some.inj h
    exact r_ireturn dX5_groundOf_27 .int rfl rfl
  refine r_icmp_ne (tgt := 26) dX5_groundOf_12 (by decide) (fun c => ?_) (fun c => ?_)
  · replace hq7 := (if_neg c).symm.trans hq7
    refine r_iload_n (x := v2) dX5_groundOf_26 rfl ?_
    obtain rfl := Option.some.inj hq7
    exact x_sub [] rfl Jq7
  · replace hq7 := (if_pos c).symm.trans hq7
    refine x_aload_n (o := a0) dX5_groundOf_15 rfl ?_
    obtain ⟨v4, hv4, hq7⟩ := xb hq7
    refine x_getR (o := a0) dX5_groundOf_16 xf_X5_12 hv4 ?_
    refine r_iload_n (x := a2) dX5_groundOf_19 rfl ?_
    obtain ⟨q6, hq6, hq7⟩ := xb hq7
    obtain ⟨v5, hv5, hq7⟩ := xb hq7
    refine z_callV (as := [.int a2]) (o := v4) (r1 := (some (.int v5))) (stk := []) (stk2 := [.int v5]) (st1 := st) (d' := 1) dX5_groundOf_20 xl_X5_89 hq6 (by decide) (Nat.le_trans xs0 (by decide)) rfl rfl (S_X4_own n st v4 a2 v5 hv5) ?_
    refine r_goto (tgt := 27) dX5_groundOf_23 (by decide) ?_
    obtain rfl := Option.some.inj hq7
    exact x_sub [] rfl Jq7
theorem S_X5_groundOf (n : Nat) (st : xS) (a0 : Option Nat) (a1 : Int32) (a2 : Int32) (rv : Int32) (h : F_X5_groundOf n st a0 a1 a2 = some rv) : Ct mX5_groundOf [va_rf a0, .int a1, .int a2] st (some (.int rv)) st 2 := by
  refine Ct.of (by decide) (by simp only [lgL_R, lgL_I, lgL_L, lgL_0]; decide) ?_
  try simp only [lvA_R]
  exact R_X5_groundOf n st a0 a1 a2 rv h
theorem R_X5_percent (n : Nat) (st : xS) (a0 : Int32) (rv : Int32) (h : F_X5_percent n st a0 = some rv) : Rn mX5_percent 0 [(0, .int a0)] [] st (some (.int rv)) st 1 := by
  unfold F_X5_percent at h
  refine r_iconst (v := (0 : Int32)) dX5_percent_0 (by decide) ?_
  refine r_bipush (v := (100 : Int32)) dX5_percent_1 (by decide) ?_
  refine r_iload_n (x := a0) dX5_percent_3 rfl ?_
  refine r_mmin dX5_percent_4 xm_X5_139 xm1_min xm2 xm3_min (by decide) (Nat.le_trans (xsI xs0) (by decide)) ?_
  refine r_mmax dX5_percent_7 xm_X5_116 xm1_max xm2 xm3_max (by decide) (Nat.le_trans xs0 (by decide)) ?_
  obtain rfl := Option.some.inj h
  exact r_ireturn dX5_percent_10 .int rfl rfl
theorem S_X5_percent (n : Nat) (st : xS) (a0 : Int32) (rv : Int32) (h : F_X5_percent n st a0 = some rv) : Ct mX5_percent [.int a0] st (some (.int rv)) st 1 := by
  refine Ct.of (by decide) (by simp only [lgL_R, lgL_I, lgL_L, lgL_0]; decide) ?_
  try simp only [lvA_R]
  exact R_X5_percent n st a0 rv h
theorem R_X5_aim_L7 (n : Nat) {r : Option Value} {st' : xS} : ∀ (k : Nat) (st : xS) (a0 : Option Nat) (a1 : Int32) (a2 : Int32) (q : (xS)), F_X5_aim_L7 n k st a0 a1 a2 = some q → Rn mX5_aim 34 [(0, va_rf a0), (1, .int a1)] [] q r st' 3 → Rn mX5_aim 7 [(0, va_rf a0), (1, .int a1), (2, .int a2)] [] st r st' 3 := by
  intro k
  induction k with
  | zero => intro st a0 a1 a2 q h; cases h
  | succ k ih =>
    intro st a0 a1 a2 q h J
    unfold F_X5_aim_L7 at h
    refine r_iload_n (x := a2) dX5_aim_7 rfl ?_
    refine r_bipush (v := (6 : Int32)) dX5_aim_8 (by decide) ?_
    refine r_icmp_ge (tgt := 34) dX5_aim_10 (by decide) (fun c => ?_) (fun c => ?_)
    · replace h := (if_pos c).symm.trans h
      obtain rfl := Option.some.inj h
      exact x_sub [0, 1] rfl J
    · replace h := (if_neg c).symm.trans h
      refine x_aload_n (o := a0) dX5_aim_13 rfl ?_
      refine x_dupR (o := a0) dX5_aim_14 ?_
      obtain ⟨v2, hv2, h⟩ := xb h
      refine x_getI (o := a0) dX5_aim_15 xf_X5_36 hv2 ?_
      refine x_aload_n (o := a0) dX5_aim_18 rfl ?_
      obtain ⟨v3, hv3, h⟩ := xb h
      refine x_getR (o := a0) dX5_aim_19 xf_X5_32 hv3 ?_
      refine r_iload_n (x := a2) dX5_aim_22 rfl ?_
      obtain ⟨v4, hv4, h⟩ := xb h
      refine x_iaload (o := v3) dX5_aim_23 hv4 ?_
      refine r_iadd dX5_aim_24 ?_
      obtain ⟨s5, hs5, h⟩ := xb h
      refine x_putI (o := a0) dX5_aim_25 (xp_X5_36 _) hs5 ?_
      obtain ⟨v6, hv6, h⟩ := xb h
      refine x_iinc (c := (1 : Int32)) (lv' := [(2, .int v6), (0, va_rf a0), (1, .int a1)]) (x := a2) (v := v6) dX5_aim_28 rfl (by decide) (Option.some.inj hv6) (by decide) rfl ?_
      refine r_goto (tgt := 7) dX5_aim_31 (by decide) ?_
      exact x_sub [1, 2, 0] rfl (ih s5 a0 a1 v6 q h J)
theorem R_X5_aim (n : Nat) (st : xS) (a0 : Option Nat) (a1 : Int32) (st' : xS) (h : F_X5_aim n st a0 a1 = some st') : Rn mX5_aim 0 [(0, va_rf a0), (1, .int a1)] [] st none st' 3 := by
  unfold F_X5_aim at h
  refine x_aload_n (o := a0) dX5_aim_0 rfl ?_
  refine r_iconst (v := (0 : Int32)) dX5_aim_1 (by decide) ?_
  obtain ⟨s1, hs1, h⟩ := xb h
  refine x_putI (o := a0) dX5_aim_2 (xp_X5_36 _) hs1 ?_
  refine r_iconst (v := (0 : Int32)) dX5_aim_5 (by decide) ?_
  refine r_istore_n (lv' := [(2, .int (0 : Int32)), (0, va_rf a0), (1, .int a1)]) (x := (0 : Int32)) dX5_aim_6 (by decide) rfl ?_
  obtain ⟨q7, hq7, h⟩ := xb h
  have Jq7 : Rn mX5_aim 34 [(0, va_rf a0), (1, .int a1)] [] q7 none st' 3 := by
    refine x_aload_n (o := a0) dX5_aim_34 rfl ?_
    refine x_aload_n (o := a0) dX5_aim_35 rfl ?_
    obtain ⟨v8, hv8, h⟩ := xb h
    refine x_getR (o := a0) dX5_aim_36 xf_X5_21 hv8 ?_
    obtain ⟨q10, hq10, h⟩ := xb h
    obtain ⟨v9, hv9, h⟩ := xb h
    refine z_callV (as := []) (o := v8) (r1 := (some (.int v9))) (stk := [va_rf a0]) (stk2 := [.int v9, va_rf a0]) (st1 := q7) (d' := 0) dX5_aim_39 xl_X5_129 hq10 (by decide) (Nat.le_trans (xsA xs0) (by decide)) rfl rfl (S_X3_base n q7 v8  v9 hv9) ?_
    refine x_aload_n (o := a0) dX5_aim_42 rfl ?_
    refine r_iload_n (x := a1) dX5_aim_43 rfl ?_
    obtain ⟨q12, hq12, h⟩ := xb h
    obtain ⟨v11, hv11, h⟩ := xb h
    refine z_callV (as := [.int a1]) (o := a0) (r1 := (some (.int v11))) (stk := [.int v9, va_rf a0]) (stk2 := [.int v11, .int v9, va_rf a0]) (st1 := q7) (d' := 2) dX5_aim_44 xl_X5_133 hq12 (by decide) (Nat.le_trans (xsI (xsA xs0)) (by decide)) rfl rfl (S_X5_lead n q7 a0 a1 v11 hv11) ?_
    refine r_iadd dX5_aim_47 ?_
    refine x_aload_n (o := a0) dX5_aim_48 rfl ?_
    obtain ⟨v13, hv13, h⟩ := xb h
    refine x_getI (o := a0) dX5_aim_49 xf_X5_36 hv13 ?_
    refine r_iadd dX5_aim_52 ?_
    obtain ⟨v14, hv14, h⟩ := xb h
    refine z_callS (as := [.int ((v9 + v11) + v13)]) (r1 := (some (.int v14))) (stk := [va_rf a0]) (stk2 := [.int v14, va_rf a0]) (st1 := q7) (d' := 1) dX5_aim_53 xl_X5_136 (by decide) (Nat.le_trans (xsA xs0) (by decide)) rfl rfl (S_X5_percent n q7 ((v9 + v11) + v13) v14 hv14) ?_
    obtain ⟨s15, hs15, h⟩ := xb h
    refine x_putI (o := a0) dX5_aim_56 (xp_X5_43 _) hs15 ?_
    refine x_aload_n (o := a0) dX5_aim_59 rfl ?_
    refine x_aload_n (o := a0) dX5_aim_60 rfl ?_
    obtain ⟨v16, hv16, h⟩ := xb h
    refine x_getR (o := a0) dX5_aim_61 xf_X5_21 hv16 ?_
    obtain ⟨q18, hq18, h⟩ := xb h
    obtain ⟨v17, hv17, h⟩ := xb h
    refine z_callV (as := []) (o := v16) (r1 := (some (.int v17))) (stk := [va_rf a0]) (stk2 := [.int v17, va_rf a0]) (st1 := s15) (d' := 0) dX5_aim_64 xl_X5_129 hq18 (by decide) (Nat.le_trans (xsA xs0) (by decide)) rfl rfl (S_X3_base n s15 v16  v17 hv17) ?_
    refine x_aload_n (o := a0) dX5_aim_67 rfl ?_
    refine r_iload_n (x := a1) dX5_aim_68 rfl ?_
    obtain ⟨q20, hq20, h⟩ := xb h
    obtain ⟨v19, hv19, h⟩ := xb h
    refine z_callV (as := [.int a1]) (o := a0) (r1 := (some (.int v19))) (stk := [.int v17, va_rf a0]) (stk2 := [.int v19, .int v17, va_rf a0]) (st1 := s15) (d' := 2) dX5_aim_69 xl_X5_133 hq20 (by decide) (Nat.le_trans (xsI (xsA xs0)) (by decide)) rfl rfl (S_X5_lead n s15 a0 a1 v19 hv19) ?_
    refine r_isub dX5_aim_72 ?_
    obtain ⟨v21, hv21, h⟩ := xb h
    refine z_callS (as := [.int (v17 - v19)]) (r1 := (some (.int v21))) (stk := [va_rf a0]) (stk2 := [.int v21, va_rf a0]) (st1 := s15) (d' := 1) dX5_aim_73 xl_X5_136 (by decide) (Nat.le_trans (xsA xs0) (by decide)) rfl rfl (S_X5_percent n s15 (v17 - v19) v21 hv21) ?_
    obtain ⟨s22, hs22, h⟩ := xb h
    refine x_putI (o := a0) dX5_aim_76 (xp_X5_46 _) hs22 ?_
    obtain rfl := Option.some.inj h
    exact r_return dX5_aim_79 rfl
  exact x_sub [1, 2, 0] rfl (R_X5_aim_L7 n n s1 a0 a1 (0 : Int32) q7 hq7 Jq7)
theorem S_X5_aim (n : Nat) (st : xS) (a0 : Option Nat) (a1 : Int32) (st' : xS) (h : F_X5_aim n st a0 a1 = some st') : Ct mX5_aim [va_rf a0, .int a1] st none st' 3 := by
  refine Ct.of (by decide) (by simp only [lgL_R, lgL_I, lgL_L, lgL_0]; decide) ?_
  try simp only [lvA_R]
  exact R_X5_aim n st a0 a1 st' h
theorem R_X6_plays (n : Nat) (st : xS) (a0 : Option Nat) (a1 : Int32) (a2 : Int32) (rv : Int32) (h : F_X6_plays n st a0 a1 a2 = some rv) : Rn mX6_plays 0 [(0, va_rf a0), (1, .int a1), (2, .int a2)] [] st (some (.int rv)) st 2 := by
  unfold F_X6_plays at h
  refine x_aload_n (o := a0) dX6_plays_0 rfl ?_
  refine r_iload_n (x := a1) dX6_plays_1 rfl ?_
  refine r_iconst (v := (0 : Int32)) dX6_plays_2 (by decide) ?_
  obtain ⟨q2, hq2, h⟩ := xb h
  obtain ⟨v1, hv1, h⟩ := xb h
  refine z_callV (as := [.int a1, .int (0 : Int32)]) (o := a0) (r1 := (some (.int v1))) (stk := []) (stk2 := [.int v1]) (st1 := st) (d' := 1) dX6_plays_3 xl_X6_63 hq2 (by decide) (Nat.le_trans xs0 (by decide)) rfl rfl (S_X6_of n st a0 a1 (0 : Int32) v1 hv1) ?_
  refine r_iload_n (x := a2) dX6_plays_6 rfl ?_
  obtain ⟨q5, hq5, h⟩ := xb h
  have Jq5 : Rn mX6_plays 25 [] [.int q5] st (some (.int rv)) st 2 := by
    obtain ⟨v6, hv6, h⟩ := xb h
    refine x_eqI (rz_inv2 hv6).1 ?_
    obtain rfl := Option.some.inj h
    exact r_ireturn dX6_plays_25 .boolean rfl (by rcases (rz_inv2 hv6).2 with e | e <;> rw [e] <;> rfl)
  refine r_icmp_eq (tgt := 20) dX6_plays_7 (by decide) (fun c => ?_) (fun c => ?_)
  · replace hq5 := (if_pos c).symm.trans hq5
    refine r_iconst (v := (1 : Int32)) dX6_plays_20 (by decide) ?_
    refine r_goto (tgt := 25) dX6_plays_21 (by decide) ?_
    obtain rfl := Option.some.inj hq5
    exact x_sub [] rfl Jq5
  · replace hq5 := (if_neg c).symm.trans hq5
    refine x_aload_n (o := a0) dX6_plays_10 rfl ?_
    refine r_iload_n (x := a1) dX6_plays_11 rfl ?_
    refine r_iconst (v := (1 : Int32)) dX6_plays_12 (by decide) ?_
    obtain ⟨q4, hq4, hq5⟩ := xb hq5
    obtain ⟨v3, hv3, hq5⟩ := xb hq5
    refine z_callV (as := [.int a1, .int (1 : Int32)]) (o := a0) (r1 := (some (.int v3))) (stk := []) (stk2 := [.int v3]) (st1 := st) (d' := 1) dX6_plays_13 xl_X6_63 hq4 (by decide) (Nat.le_trans xs0 (by decide)) rfl rfl (S_X6_of n st a0 a1 (1 : Int32) v3 hv3) ?_
    refine r_iload_n (x := a2) dX6_plays_16 rfl ?_
    refine r_icmp_ne (tgt := 24) dX6_plays_17 (by decide) (fun c => ?_) (fun c => ?_)
    · replace hq5 := (if_neg c).symm.trans hq5
      refine r_iconst (v := (0 : Int32)) dX6_plays_24 (by decide) ?_
      obtain rfl := Option.some.inj hq5
      exact x_sub [] rfl Jq5
    · replace hq5 := (if_pos c).symm.trans hq5
      refine r_iconst (v := (1 : Int32)) dX6_plays_20 (by decide) ?_
      refine r_goto (tgt := 25) dX6_plays_21 (by decide) ?_
      obtain rfl := Option.some.inj hq5
      exact x_sub [] rfl Jq5
theorem S_X6_plays (n : Nat) (st : xS) (a0 : Option Nat) (a1 : Int32) (a2 : Int32) (rv : Int32) (h : F_X6_plays n st a0 a1 a2 = some rv) : Ct mX6_plays [va_rf a0, .int a1, .int a2] st (some (.int rv)) st 2 := by
  refine Ct.of (by decide) (by simp only [lgL_R, lgL_I, lgL_L, lgL_0]; decide) ?_
  try simp only [lvA_R]
  exact R_X6_plays n st a0 a1 a2 rv h
theorem R_X6_restOf_L4 (n : Nat) (rv : Int32) : ∀ (k : Nat) (st : xS) (a0 : Option Nat) (a1 : Int32) (a2 : Int32) (a3 : Int32), F_X6_restOf_L4 n k st a0 a1 a2 a3 = some rv → Rn mX6_restOf 4 [(0, va_rf a0), (1, .int a1), (2, .int a2), (3, .int a3)] [] st (some (.int rv)) st 3 := by
  intro k
  induction k with
  | zero => intro st a0 a1 a2 a3 h; cases h
  | succ k ih =>
    intro st a0 a1 a2 a3 h
    unfold F_X6_restOf_L4 at h
    refine r_iload_n (x := a3) dX6_restOf_4 rfl ?_
    refine r_if_lt (tgt := 37) dX6_restOf_5 (by decide) (fun c => ?_) (fun c => ?_)
    · replace h := (if_pos c).symm.trans h
      refine r_bipush (v := (30 : Int32)) dX6_restOf_37 (by decide) ?_
      obtain rfl := Option.some.inj h
      exact r_ireturn dX6_restOf_39 .int rfl rfl
    · replace h := (if_neg c).symm.trans h
      refine x_aload_n (o := a0) dX6_restOf_8 rfl ?_
      refine r_iload_n (x := a3) dX6_restOf_9 rfl ?_
      refine r_iload_n (x := a2) dX6_restOf_10 rfl ?_
      obtain ⟨q3, hq3, h⟩ := xb h
      obtain ⟨v2, hv2, h⟩ := xb h
      refine z_callV (as := [.int a3, .int a2]) (o := a0) (r1 := (some (.int v2))) (stk := []) (stk2 := [.int v2]) (st1 := st) (d' := 2) dX6_restOf_11 xl_X6_66 hq3 (by decide) (Nat.le_trans xs0 (by decide)) rfl rfl (S_X6_plays n st a0 a3 a2 v2 hv2) ?_
      refine r_if_eq (tgt := 31) dX6_restOf_14 (by decide) (fun c => ?_) (fun c => ?_)
      · replace h := (if_pos c).symm.trans h
        obtain ⟨v4, hv4, h⟩ := xb h
        refine x_iinc (c := (-1 : Int32)) (lv' := [(3, .int v4), (0, va_rf a0), (1, .int a1), (2, .int a2)]) (x := a3) (v := v4) dX6_restOf_31 rfl (by decide) (Option.some.inj hv4) (by decide) rfl ?_
        refine r_goto (tgt := 4) dX6_restOf_34 (by decide) ?_
        exact x_sub [1, 2, 3, 0] rfl (ih st a0 a1 a2 v4 h)
      · replace h := (if_neg c).symm.trans h
        refine x_aload_n (o := a0) dX6_restOf_17 rfl ?_
        refine r_iload_n (x := a1) dX6_restOf_18 rfl ?_
        refine r_iconst (v := (2 : Int32)) dX6_restOf_19 (by decide) ?_
        obtain ⟨q6, hq6, h⟩ := xb h
        obtain ⟨v5, hv5, h⟩ := xb h
        refine z_callV (as := [.int a1, .int (2 : Int32)]) (o := a0) (r1 := (some (.int v5))) (stk := []) (stk2 := [.int v5]) (st1 := st) (d' := 1) dX6_restOf_20 xl_X6_63 hq6 (by decide) (Nat.le_trans xs0 (by decide)) rfl rfl (S_X6_of n st a0 a1 (2 : Int32) v5 hv5) ?_
        refine x_aload_n (o := a0) dX6_restOf_23 rfl ?_
        refine r_iload_n (x := a3) dX6_restOf_24 rfl ?_
        refine r_iconst (v := (2 : Int32)) dX6_restOf_25 (by decide) ?_
        obtain ⟨q8, hq8, h⟩ := xb h
        obtain ⟨v7, hv7, h⟩ := xb h
        refine z_callV (as := [.int a3, .int (2 : Int32)]) (o := a0) (r1 := (some (.int v7))) (stk := [.int v5]) (stk2 := [.int v7, .int v5]) (st1 := st) (d' := 1) dX6_restOf_26 xl_X6_63 hq8 (by decide) (Nat.le_trans (xsI xs0) (by decide)) rfl rfl (S_X6_of n st a0 a3 (2 : Int32) v7 hv7) ?_
        refine r_isub dX6_restOf_29 ?_
        obtain rfl := Option.some.inj h
        exact r_ireturn dX6_restOf_30 .int rfl rfl
theorem R_X6_restOf (n : Nat) (st : xS) (a0 : Option Nat) (a1 : Int32) (a2 : Int32) (rv : Int32) (h : F_X6_restOf n st a0 a1 a2 = some rv) : Rn mX6_restOf 0 [(0, va_rf a0), (1, .int a1), (2, .int a2)] [] st (some (.int rv)) st 3 := by
  unfold F_X6_restOf at h
  refine r_iload_n (x := a1) dX6_restOf_0 rfl ?_
  refine r_iconst (v := (1 : Int32)) dX6_restOf_1 (by decide) ?_
  refine r_isub dX6_restOf_2 ?_
  obtain ⟨v1, hv1, h⟩ := xb h
  refine x_eqI (Option.some.inj hv1) ?_
  refine r_istore_n (lv' := [(3, .int v1), (0, va_rf a0), (1, .int a1), (2, .int a2)]) (x := v1) dX6_restOf_3 (by decide) rfl ?_
  exact x_sub [1, 2, 3, 0] rfl (R_X6_restOf_L4 n rv n st a0 a1 a2 v1 h)
theorem S_X6_restOf (n : Nat) (st : xS) (a0 : Option Nat) (a1 : Int32) (a2 : Int32) (rv : Int32) (h : F_X6_restOf n st a0 a1 a2 = some rv) : Ct mX6_restOf [va_rf a0, .int a1, .int a2] st (some (.int rv)) st 3 := by
  refine Ct.of (by decide) (by simp only [lgL_R, lgL_I, lgL_L, lgL_0]; decide) ?_
  try simp only [lvA_R]
  exact R_X6_restOf n st a0 a1 a2 rv h

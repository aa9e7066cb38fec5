/-! printed by a program: the methods run as their functions say -/
theorem R_X11_fair_L18 (n : Nat) (rv : Int32) : ∀ (k : Nat) (st : xS) (a0 : Option Nat) (a1 : Int32) (a2 : Int32) (a3 : Int32) (a4 : Int32) (a5 : Int32), F_X11_fair_L18 n k st a0 a1 a2 a3 a4 a5 = some rv → Rn mX11_fair 18 [(0, va_rf a0), (1, .int a1), (2, .int a2), (3, .int a3), (4, .int a4), (5, .int a5)] [] st (some (.int rv)) st 10 := by
  intro k
  induction k with
  | zero => intro st a0 a1 a2 a3 a4 a5 h; cases h
  | succ k ih =>
    intro st a0 a1 a2 a3 a4 a5 h
    unfold F_X11_fair_L18 at h
    refine r_iload (x := a5) dX11_fair_18 rfl ?_
    refine r_sipush (v := (1000 : Int32)) dX11_fair_20 (by decide) ?_
    refine r_icmp_ge (tgt := 59) dX11_fair_23 (by decide) (fun c => ?_) (fun c => ?_)
    · replace h := (if_pos c).symm.trans h
      refine r_iconst (v := (-1 : Int32)) dX11_fair_59 (by decide) ?_
      obtain rfl := Option.some.inj h
      exact r_ireturn dX11_fair_60 .int rfl rfl
    · replace h := (if_neg c).symm.trans h
      refine x_aload_n (o := a0) dX11_fair_26 rfl ?_
      refine r_iconst (v := (0 : Int32)) dX11_fair_27 (by decide) ?_
      refine r_iload_n (x := a1) dX11_fair_28 rfl ?_
      obtain ⟨v3, hv3, h⟩ := xb h
      refine z_callS (as := [.int (0 : Int32), .int a1]) (r1 := (some (.int v3))) (stk := [va_rf a0]) (stk2 := [.int v3, va_rf a0]) (st1 := st) (d' := 0) dX11_fair_29 xl_X11_150 (by decide) (Nat.le_trans (xsA xs0) (by decide)) rfl rfl (S_X11_placeOf n st (0 : Int32) a1 v3 hv3) ?_
      refine r_iconst (v := (1 : Int32)) dX11_fair_32 (by decide) ?_
      refine r_iload_n (x := a2) dX11_fair_33 rfl ?_
      obtain ⟨v4, hv4, h⟩ := xb h
      refine z_callS (as := [.int (1 : Int32), .int a2]) (r1 := (some (.int v4))) (stk := [.int v3, va_rf a0]) (stk2 := [.int v4, .int v3, va_rf a0]) (st1 := st) (d' := 0) dX11_fair_34 xl_X11_150 (by decide) (Nat.le_trans (xsI (xsA xs0)) (by decide)) rfl rfl (S_X11_placeOf n st (1 : Int32) a2 v4 hv4) ?_
      refine r_iload_n (x := a3) dX11_fair_37 rfl ?_
      refine r_iload (x := a4) dX11_fair_38 rfl ?_
      refine r_iload (x := a5) dX11_fair_40 rfl ?_
      obtain ⟨q6, hq6, h⟩ := xb h
      obtain ⟨v5, hv5, h⟩ := xb h
      refine z_callV (as := [.int v3, .int v4, .int a3, .int a4, .int a5]) (o := a0) (r1 := (some (.long v5))) (stk := []) (stk2 := [.long v5]) (st1 := st) (d' := 9) dX11_fair_42 xl_X11_362 hq6 (by decide) (Nat.le_trans xs0 (by decide)) rfl rfl (S_X11_betOf n st a0 v3 v4 a3 a4 a5 v5 hv5) ?_
      refine r_lconst (v := (0 : Int64)) dX11_fair_45 (by decide) ?_
      refine r_lcmp dX11_fair_46 ?_
      refine r_if_lt (tgt := 53) dX11_fair_47 (by decide) (fun c => ?_) (fun c => ?_)
      · replace h := (if_pos c).symm.trans h
        obtain ⟨v7, hv7, h⟩ := xb h
        refine x_iinc (c := (1 : Int32)) (lv' := [(5, .int v7), (0, va_rf a0), (1, .int a1), (2, .int a2), (3, .int a3), (4, .int a4)]) (x := a5) (v := v7) dX11_fair_53 rfl (by decide) (Option.some.inj hv7) (by decide) rfl ?_
        refine r_goto (tgt := 18) dX11_fair_56 (by decide) ?_
        exact x_sub [1, 2, 3, 4, 5, 0] rfl (ih st a0 a1 a2 a3 a4 v7 h)
      · replace h := (if_neg c).symm.trans h
        refine r_iload (x := a5) dX11_fair_50 rfl ?_
        obtain rfl := Option.some.inj h
        exact r_ireturn dX11_fair_52 .int rfl rfl
theorem R_X11_fair (n : Nat) (st : xS) (a0 : Option Nat) (a1 : Int32) (a2 : Int32) (a3 : Int32) (a4 : Int32) (rv : Int32) (h : F_X11_fair n st a0 a1 a2 a3 a4 = some rv) : Rn mX11_fair 0 [(0, va_rf a0), (1, .int a1), (2, .int a2), (3, .int a3), (4, .int a4)] [] st (some (.int rv)) st 10 := by
  unfold F_X11_fair at h
  refine x_aload_n (o := a0) dX11_fair_0 rfl ?_
  refine r_iload_n (x := a1) dX11_fair_1 rfl ?_
  refine r_iload_n (x := a2) dX11_fair_2 rfl ?_
  refine r_iload_n (x := a3) dX11_fair_3 rfl ?_
  refine r_iload (x := a4) dX11_fair_4 rfl ?_
  obtain ⟨q2, hq2, h⟩ := xb h
  obtain ⟨v1, hv1, h⟩ := xb h
  refine z_callV (as := [.int a1, .int a2, .int a3, .int a4]) (o := a0) (r1 := (some (.int v1))) (stk := []) (stk2 := [.int v1]) (st1 := st) (d' := 3) dX11_fair_6 xl_X11_202 hq2 (by decide) (Nat.le_trans xs0 (by decide)) rfl rfl (S_X11_isGame n st a0 a1 a2 a3 a4 v1 hv1) ?_
  refine r_if_ne (tgt := 14) dX11_fair_9 (by decide) (fun c => ?_) (fun c => ?_)
  · replace h := (if_neg c).symm.trans h
    refine r_bipush (v := (101 : Int32)) dX11_fair_14 (by decide) ?_
    refine r_istore (lv' := [(5, .int (101 : Int32)), (0, va_rf a0), (1, .int a1), (2, .int a2), (3, .int a3), (4, .int a4)]) (x := (101 : Int32)) dX11_fair_16 (by decide) rfl ?_
    exact x_sub [1, 2, 3, 4, 5, 0] rfl (R_X11_fair_L18 n rv n st a0 a1 a2 a3 a4 (101 : Int32) h)
  · replace h := (if_pos c).symm.trans h
    refine r_iconst (v := (-1 : Int32)) dX11_fair_12 (by decide) ?_
    obtain rfl := Option.some.inj h
    exact r_ireturn dX11_fair_13 .int rfl rfl
theorem S_X11_fair (n : Nat) (st : xS) (a0 : Option Nat) (a1 : Int32) (a2 : Int32) (a3 : Int32) (a4 : Int32) (rv : Int32) (h : F_X11_fair n st a0 a1 a2 a3 a4 = some rv) : Ct mX11_fair [va_rf a0, .int a1, .int a2, .int a3, .int a4] st (some (.int rv)) st 10 := by
  refine Ct.of (by decide) (by simp only [lgL_R, lgL_I, lgL_L, lgL_0]; decide) ?_
  try simp only [lvA_R]
  exact R_X11_fair n st a0 a1 a2 a3 a4 rv h
theorem R_X11_count (n : Nat) (st : xS) (a0 : Option Nat) (a1 : Int32) (rv : Int32) (h : F_X11_count n st a0 a1 = some rv) : Rn mX11_count 0 [(0, va_rf a0), (1, .int a1)] [] st (some (.int rv)) st 1 := by
  unfold F_X11_count at h
  refine r_iload_n (x := a1) dX11_count_0 rfl ?_
  refine r_iconst (v := (0 : Int32)) dX11_count_1 (by decide) ?_
  refine r_iconst (v := (3 : Int32)) dX11_count_2 (by decide) ?_
  obtain ⟨v1, hv1, h⟩ := xb h
  refine z_callS (as := [.int a1, .int (0 : Int32), .int (3 : Int32)]) (r1 := (some (.int v1))) (stk := []) (stk2 := [.int v1]) (st1 := st) (d' := 0) dX11_count_3 xl_X11_90 (by decide) (Nat.le_trans xs0 (by decide)) rfl rfl (S_X11_isIn n st a1 (0 : Int32) (3 : Int32) v1 hv1) ?_
  obtain ⟨q4, hq4, h⟩ := xb h
  have Jq4 : Rn mX11_count 20 [] [.int q4] st (some (.int rv)) st 1 := by
    obtain rfl := Option.some.inj h
    exact r_ireturn dX11_count_20 .int rfl rfl
  refine r_if_eq (tgt := 18) dX11_count_6 (by decide) (fun c => ?_) (fun c => ?_)
  · replace hq4 := (if_pos c).symm.trans hq4
    refine r_bipush (v := (-2 : Int32)) dX11_count_18 (by decide) ?_
    obtain rfl := Option.some.inj hq4
    exact x_sub [] rfl Jq4
  · replace hq4 := (if_neg c).symm.trans hq4
    refine x_aload_n (o := a0) dX11_count_9 rfl ?_
    obtain ⟨v2, hv2, hq4⟩ := xb hq4
    refine x_getR (o := a0) dX11_count_10 xf_X11_7 hv2 ?_
    refine r_iload_n (x := a1) dX11_count_13 rfl ?_
    obtain ⟨v3, hv3, hq4⟩ := xb hq4
    refine x_iaload (o := v2) dX11_count_14 hv3 ?_
    refine r_goto (tgt := 20) dX11_count_15 (by decide) ?_
    obtain rfl := Option.some.inj hq4
    exact x_sub [] rfl Jq4
theorem S_X11_count (n : Nat) (st : xS) (a0 : Option Nat) (a1 : Int32) (rv : Int32) (h : F_X11_count n st a0 a1 = some rv) : Ct mX11_count [va_rf a0, .int a1] st (some (.int rv)) st 1 := by
  refine Ct.of (by decide) (by simp only [lgL_R, lgL_I, lgL_L, lgL_0]; decide) ?_
  try simp only [lvA_R]
  exact R_X11_count n st a0 a1 rv h
theorem R_X11_image_L20 (n : Nat) {r : Option Value} {st' : xS} : ∀ (k : Nat) (st : xS) (a0 : Option Nat) (a1 : Int32) (a2 : Int32) (q : (xS)), F_X11_image_L20 n k st a0 a1 a2 = some q → Rn mX11_image 53 [] [] q r st' 1 → Rn mX11_image 20 [(0, va_rf a0), (1, .int a1), (2, .int a2)] [] st r st' 1 := by
  intro k
  induction k with
  | zero => intro st a0 a1 a2 q h; cases h
  | succ k ih =>
    intro st a0 a1 a2 q h J
    unfold F_X11_image_L20 at h
    refine r_iload_n (x := a2) dX11_image_20 rfl ?_
    refine r_sipush (v := (2562 : Int32)) dX11_image_21 (by decide) ?_
    refine r_icmp_ge (tgt := 53) dX11_image_24 (by decide) (fun c => ?_) (fun c => ?_)
    · replace h := (if_pos c).symm.trans h
      obtain rfl := Option.some.inj h
      exact x_sub [] rfl J
    · replace h := (if_neg c).symm.trans h
      refine x_aload_n (o := a0) dX11_image_27 rfl ?_
      obtain ⟨v5, hv5, h⟩ := xb h
      refine x_getR (o := a0) dX11_image_28 xf_X11_7 hv5 ?_
      refine r_sipush (v := (2562 : Int32)) dX11_image_31 (by decide) ?_
      refine r_iload_n (x := a1) dX11_image_34 rfl ?_
      refine r_iconst (v := (1 : Int32)) dX11_image_35 (by decide) ?_
      refine r_iadd dX11_image_36 ?_
      refine r_imul dX11_image_37 ?_
      refine r_iload_n (x := a2) dX11_image_38 rfl ?_
      refine r_iadd dX11_image_39 ?_
      refine x_aload_n (o := a0) dX11_image_40 rfl ?_
      obtain ⟨v6, hv6, h⟩ := xb h
      refine x_getR (o := a0) dX11_image_41 xf_X11_7 hv6 ?_
      refine r_iload_n (x := a2) dX11_image_44 rfl ?_
      obtain ⟨v7, hv7, h⟩ := xb h
      refine x_iaload (o := v6) dX11_image_45 hv7 ?_
      obtain ⟨s8, hs8, h⟩ := xb h
      refine x_iastore (o := v5) dX11_image_46 hs8 ?_
      obtain ⟨v9, hv9, h⟩ := xb h
      refine x_iinc (c := (1 : Int32)) (lv' := [(2, .int v9), (0, va_rf a0), (1, .int a1)]) (x := a2) (v := v9) dX11_image_47 rfl (by decide) (Option.some.inj hv9) (by decide) rfl ?_
      refine r_goto (tgt := 20) dX11_image_50 (by decide) ?_
      exact x_sub [1, 2, 0] rfl (ih s8 a0 a1 v9 q h J)
theorem R_X11_image (n : Nat) (st : xS) (a0 : Option Nat) (a1 : Int32) (rv : Int32) (st' : xS) (h : F_X11_image n st a0 a1 = some (rv, st')) : Rn mX11_image 0 [(0, va_rf a0), (1, .int a1)] [] st (some (.int rv)) st' 1 := by
  unfold F_X11_image at h
  refine r_iload_n (x := a1) dX11_image_0 rfl ?_
  refine r_iconst (v := (0 : Int32)) dX11_image_1 (by decide) ?_
  refine r_iconst (v := (2 : Int32)) dX11_image_2 (by decide) ?_
  obtain ⟨v1, hv1, h⟩ := xb h
  refine z_callS (as := [.int a1, .int (0 : Int32), .int (2 : Int32)]) (r1 := (some (.int v1))) (stk := []) (stk2 := [.int v1]) (st1 := st) (d' := 0) dX11_image_3 xl_X11_90 (by decide) (Nat.le_trans xs0 (by decide)) rfl rfl (S_X11_isIn n st a1 (0 : Int32) (2 : Int32) v1 hv1) ?_
  refine r_if_ne (tgt := 11) dX11_image_6 (by decide) (fun c => ?_) (fun c => ?_)
  · replace h := (if_neg c).symm.trans h
    refine x_aload_n (o := a0) dX11_image_11 rfl ?_
    obtain ⟨v3, hv3, h⟩ := xb h
    refine x_getR (o := a0) dX11_image_12 xf_X11_13 hv3 ?_
    refine r_iload_n (x := a1) dX11_image_15 rfl ?_
    refine r_iconst (v := (1 : Int32)) dX11_image_16 (by decide) ?_
    obtain ⟨s4, hs4, h⟩ := xb h
    refine x_zastore (o := v3) dX11_image_17 hs4 ?_
    refine r_iconst (v := (0 : Int32)) dX11_image_18 (by decide) ?_
    refine r_istore_n (lv' := [(2, .int (0 : Int32)), (0, va_rf a0), (1, .int a1)]) (x := (0 : Int32)) dX11_image_19 (by decide) rfl ?_
    obtain ⟨q10, hq10, h⟩ := xb h
    have Jq10 : Rn mX11_image 53 [] [] q10 (some (.int rv)) st' 1 := by
      refine r_iconst (v := (1 : Int32)) dX11_image_53 (by decide) ?_
      obtain ⟨v11, hv11, h⟩ := xb h
      refine x_eqI (rz_inv2 hv11).1 ?_
      obtain ⟨rfl, rfl⟩ := Prod.mk.inj (Option.some.inj h)
      exact r_ireturn dX11_image_54 .boolean rfl (by rcases (rz_inv2 hv11).2 with e | e <;> rw [e] <;> rfl)
    exact x_sub [1, 2, 0] rfl (R_X11_image_L20 n n s4 a0 a1 (0 : Int32) q10 hq10 Jq10)
  · replace h := (if_pos c).symm.trans h
    refine r_iconst (v := (0 : Int32)) dX11_image_9 (by decide) ?_
    obtain ⟨v2, hv2, h⟩ := xb h
    refine x_eqI (rz_inv2 hv2).1 ?_
    obtain ⟨rfl, rfl⟩ := Prod.mk.inj (Option.some.inj h)
    exact r_ireturn dX11_image_10 .boolean rfl (by rcases (rz_inv2 hv2).2 with e | e <;> rw [e] <;> rfl)
theorem S_X11_image (n : Nat) (st : xS) (a0 : Option Nat) (a1 : Int32) (rv : Int32) (st' : xS) (h : F_X11_image n st a0 a1 = some (rv, st')) : Ct mX11_image [va_rf a0, .int a1] st (some (.int rv)) st' 1 := by
  refine Ct.of (by decide) (by simp only [lgL_R, lgL_I, lgL_L, lgL_0]; decide) ?_
  try simp only [lvA_R]
  exact R_X11_image n st a0 a1 rv st' h
theorem R_X11_again_L22 (n : Nat) {r : Option Value} {st' : xS} : ∀ (k : Nat) (st : xS) (a0 : Option Nat) (a1 : Int32) (a2 : Int32) (q : (xS)), F_X11_again_L22 n k st a0 a1 a2 = some q → Rn mX11_again 55 [] [] q r st' 1 → Rn mX11_again 22 [(0, va_rf a0), (1, .int a1), (2, .int a2)] [] st r st' 1 := by
  intro k
  induction k with
  | zero => intro st a0 a1 a2 q h; cases h
  | succ k ih =>
    intro st a0 a1 a2 q h J
    unfold F_X11_again_L22 at h
    refine r_iload_n (x := a2) dX11_again_22 rfl ?_
    refine r_sipush (v := (2562 : Int32)) dX11_again_23 (by decide) ?_
    refine r_icmp_ge (tgt := 55) dX11_again_26 (by decide) (fun c => ?_) (fun c => ?_)
    · replace h := (if_pos c).symm.trans h
      obtain rfl := Option.some.inj h
      exact x_sub [] rfl J
    · replace h := (if_neg c).symm.trans h
      refine x_aload_n (o := a0) dX11_again_29 rfl ?_
      obtain ⟨v6, hv6, h⟩ := xb h
      refine x_getR (o := a0) dX11_again_30 xf_X11_7 hv6 ?_
      refine r_iload_n (x := a2) dX11_again_33 rfl ?_
      refine x_aload_n (o := a0) dX11_again_34 rfl ?_
      obtain ⟨v7, hv7, h⟩ := xb h
      refine x_getR (o := a0) dX11_again_35 xf_X11_7 hv7 ?_
      refine r_sipush (v := (2562 : Int32)) dX11_again_38 (by decide) ?_
      refine r_iload_n (x := a1) dX11_again_41 rfl ?_
      refine r_iconst (v := (1 : Int32)) dX11_again_42 (by decide) ?_
      refine r_iadd dX11_again_43 ?_
      refine r_imul dX11_again_44 ?_
      refine r_iload_n (x := a2) dX11_again_45 rfl ?_
      refine r_iadd dX11_again_46 ?_
      obtain ⟨v8, hv8, h⟩ := xb h
      refine x_iaload (o := v7) dX11_again_47 hv8 ?_
      obtain ⟨s9, hs9, h⟩ := xb h
      refine x_iastore (o := v6) dX11_again_48 hs9 ?_
      obtain ⟨v10, hv10, h⟩ := xb h
      refine x_iinc (c := (1 : Int32)) (lv' := [(2, .int v10), (0, va_rf a0), (1, .int a1)]) (x := a2) (v := v10) dX11_again_49 rfl (by decide) (Option.some.inj hv10) (by decide) rfl ?_
      refine r_goto (tgt := 22) dX11_again_52 (by decide) ?_
      exact x_sub [1, 2, 0] rfl (ih s9 a0 a1 v10 q h J)
theorem R_X11_again (n : Nat) (st : xS) (a0 : Option Nat) (a1 : Int32) (rv : Int32) (st' : xS) (h : F_X11_again n st a0 a1 = some (rv, st')) : Rn mX11_again 0 [(0, va_rf a0), (1, .int a1)] [] st (some (.int rv)) st' 1 := by
  unfold F_X11_again at h
  refine r_iload_n (x := a1) dX11_again_0 rfl ?_
  refine r_iconst (v := (0 : Int32)) dX11_again_1 (by decide) ?_
  refine r_iconst (v := (2 : Int32)) dX11_again_2 (by decide) ?_
  obtain ⟨v1, hv1, h⟩ := xb h
  refine z_callS (as := [.int a1, .int (0 : Int32), .int (2 : Int32)]) (r1 := (some (.int v1))) (stk := []) (stk2 := [.int v1]) (st1 := st) (d' := 0) dX11_again_3 xl_X11_90 (by decide) (Nat.le_trans xs0 (by decide)) rfl rfl (S_X11_isIn n st a1 (0 : Int32) (2 : Int32) v1 hv1) ?_
  refine r_if_eq (tgt := 18) dX11_again_6 (by decide) (fun c => ?_) (fun c => ?_)
  · replace h := (if_pos c).symm.trans h
    refine r_iconst (v := (0 : Int32)) dX11_again_18 (by decide) ?_
    obtain ⟨v2, hv2, h⟩ := xb h
    refine x_eqI (rz_inv2 hv2).1 ?_
    obtain ⟨rfl, rfl⟩ := Prod.mk.inj (Option.some.inj h)
    exact r_ireturn dX11_again_19 .boolean rfl (by rcases (rz_inv2 hv2).2 with e | e <;> rw [e] <;> rfl)
  · replace h := (if_neg c).symm.trans h
    refine x_aload_n (o := a0) dX11_again_9 rfl ?_
    obtain ⟨v3, hv3, h⟩ := xb h
    refine x_getR (o := a0) dX11_again_10 xf_X11_13 hv3 ?_
    refine r_iload_n (x := a1) dX11_again_13 rfl ?_
    obtain ⟨v4, hv4, h⟩ := xb h
    refine x_zaload (o := v3) dX11_again_14 hv4 ?_
    refine r_if_ne (tgt := 20) dX11_again_15 (by decide) (fun c => ?_) (fun c => ?_)
    · replace h := (if_neg c).symm.trans h
      refine r_iconst (v := (0 : Int32)) dX11_again_20 (by decide) ?_
      refine r_istore_n (lv' := [(2, .int (0 : Int32)), (0, va_rf a0), (1, .int a1)]) (x := (0 : Int32)) dX11_again_21 (by decide) rfl ?_
      obtain ⟨q11, hq11, h⟩ := xb h
      have Jq11 : Rn mX11_again 55 [] [] q11 (some (.int rv)) st' 1 := by
        refine r_iconst (v := (1 : Int32)) dX11_again_55 (by decide) ?_
        obtain ⟨v12, hv12, h⟩ := xb h
        refine x_eqI (rz_inv2 hv12).1 ?_
        obtain ⟨rfl, rfl⟩ := Prod.mk.inj (Option.some.inj h)
        exact r_ireturn dX11_again_56 .boolean rfl (by rcases (rz_inv2 hv12).2 with e | e <;> rw [e] <;> rfl)
      exact x_sub [1, 2, 0] rfl (R_X11_again_L22 n n st a0 a1 (0 : Int32) q11 hq11 Jq11)
    · replace h := (if_pos c).symm.trans h
      refine r_iconst (v := (0 : Int32)) dX11_again_18 (by decide) ?_
      obtain ⟨v5, hv5, h⟩ := xb h
      refine x_eqI (rz_inv2 hv5).1 ?_
      obtain ⟨rfl, rfl⟩ := Prod.mk.inj (Option.some.inj h)
      exact r_ireturn dX11_again_19 .boolean rfl (by rcases (rz_inv2 hv5).2 with e | e <;> rw [e] <;> rfl)
theorem S_X11_again (n : Nat) (st : xS) (a0 : Option Nat) (a1 : Int32) (rv : Int32) (st' : xS) (h : F_X11_again n st a0 a1 = some (rv, st')) : Ct mX11_again [va_rf a0, .int a1] st (some (.int rv)) st' 1 := by
  refine Ct.of (by decide) (by simp only [lgL_R, lgL_I, lgL_L, lgL_0]; decide) ?_
  try simp only [lvA_R]
  exact R_X11_again n st a0 a1 rv st' h

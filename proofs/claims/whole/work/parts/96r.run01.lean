/-! printed by a program: the methods run as their functions say -/
theorem R_X5_weigh (n : Nat) (st : xS) (a0 : Option Nat) (a1 : Int32) (st' : xS) (h : F_X5_weigh n st a0 a1 = some st') : Rn mX5_weigh 0 [(0, va_rf a0), (1, .int a1)] [] st none st' 4 := by
  unfold F_X5_weigh at h
  refine x_aload_n (o := a0) dX5_weigh_0 rfl ?_
  obtain ⟨v1, hv1, h⟩ := xb h
  refine x_getR (o := a0) dX5_weigh_1 xf_X5_28 hv1 ?_
  refine r_iload_n (x := a1) dX5_weigh_4 rfl ?_
  refine r_iconst (v := (0 : Int32)) dX5_weigh_5 (by decide) ?_
  obtain ⟨q3, hq3, h⟩ := xb h
  obtain ⟨v2, hv2, h⟩ := xb h
  refine z_callV (as := [.int a1, .int (0 : Int32)]) (o := v1) (r1 := (some (.int v2))) (stk := []) (stk2 := [.int v2]) (st1 := st) (d' := 1) dX5_weigh_6 xl_X5_81 hq3 (by decide) (Nat.le_trans xs0 (by decide)) rfl rfl (S_X6_of n st v1 a1 (0 : Int32) v2 hv2) ?_
  refine r_istore_n (lv' := [(2, .int v2), (0, va_rf a0), (1, .int a1)]) (x := v2) dX5_weigh_9 (by decide) rfl ?_
  refine x_aload_n (o := a0) dX5_weigh_10 rfl ?_
  obtain ⟨v4, hv4, h⟩ := xb h
  refine x_getR (o := a0) dX5_weigh_11 xf_X5_28 hv4 ?_
  refine r_iload_n (x := a1) dX5_weigh_14 rfl ?_
  refine r_iconst (v := (1 : Int32)) dX5_weigh_15 (by decide) ?_
  obtain ⟨q6, hq6, h⟩ := xb h
  obtain ⟨v5, hv5, h⟩ := xb h
  refine z_callV (as := [.int a1, .int (1 : Int32)]) (o := v4) (r1 := (some (.int v5))) (stk := []) (stk2 := [.int v5]) (st1 := st) (d' := 1) dX5_weigh_16 xl_X5_81 hq6 (by decide) (Nat.le_trans xs0 (by decide)) rfl rfl (S_X6_of n st v4 a1 (1 : Int32) v5 hv5) ?_
  refine r_istore_n (lv' := [(3, .int v5), (2, .int v2), (0, va_rf a0), (1, .int a1)]) (x := v5) dX5_weigh_19 (by decide) rfl ?_
  refine x_aload_n (o := a0) dX5_weigh_20 rfl ?_
  refine r_iload_n (x := a1) dX5_weigh_21 rfl ?_
  refine r_iload_n (x := v2) dX5_weigh_22 rfl ?_
  obtain ⟨q8, hq8, h⟩ := xb h
  obtain ⟨v7, hv7, h⟩ := xb h
  refine z_callV (as := [.int a1, .int v2]) (o := a0) (r1 := (some (.int v7))) (stk := []) (stk2 := [.int v7]) (st1 := st) (d' := 2) dX5_weigh_23 xl_X5_92 hq8 (by decide) (Nat.le_trans xs0 (by decide)) rfl rfl (S_X5_groundOf n st a0 a1 v2 v7 hv7) ?_
  refine r_istore (lv' := [(4, .int v7), (3, .int v5), (2, .int v2), (0, va_rf a0), (1, .int a1)]) (x := v7) dX5_weigh_26 (by decide) rfl ?_
  refine x_aload_n (o := a0) dX5_weigh_28 rfl ?_
  obtain ⟨v9, hv9, h⟩ := xb h
  refine x_getR (o := a0) dX5_weigh_29 xf_X5_12 hv9 ?_
  refine r_iload_n (x := v5) dX5_weigh_32 rfl ?_
  obtain ⟨q11, hq11, h⟩ := xb h
  obtain ⟨v10, hv10, h⟩ := xb h
  refine z_callV (as := [.int v5]) (o := v9) (r1 := (some (.int v10))) (stk := []) (stk2 := [.int v10]) (st1 := st) (d' := 1) dX5_weigh_33 xl_X5_89 hq11 (by decide) (Nat.le_trans xs0 (by decide)) rfl rfl (S_X4_own n st v9 v5 v10 hv10) ?_
  refine r_istore (lv' := [(5, .int v10), (4, .int v7), (3, .int v5), (2, .int v2), (0, va_rf a0), (1, .int a1)]) (x := v10) dX5_weigh_36 (by decide) rfl ?_
  refine x_aload_n (o := a0) dX5_weigh_38 rfl ?_
  refine x_aload_n (o := a0) dX5_weigh_39 rfl ?_
  obtain ⟨v12, hv12, h⟩ := xb h
  refine x_getR (o := a0) dX5_weigh_40 xf_X5_28 hv12 ?_
  refine r_iload_n (x := a1) dX5_weigh_43 rfl ?_
  refine r_iconst (v := (3 : Int32)) dX5_weigh_44 (by decide) ?_
  obtain ⟨q14, hq14, h⟩ := xb h
  obtain ⟨v13, hv13, h⟩ := xb h
  refine z_callV (as := [.int a1, .int (3 : Int32)]) (o := v12) (r1 := (some (.int v13))) (stk := [va_rf a0]) (stk2 := [.int v13, va_rf a0]) (st1 := st) (d' := 1) dX5_weigh_45 xl_X5_81 hq14 (by decide) (Nat.le_trans (xsA xs0) (by decide)) rfl rfl (S_X6_of n st v12 a1 (3 : Int32) v13 hv13) ?_
  refine r_iconst (v := (1 : Int32)) dX5_weigh_48 (by decide) ?_
  obtain ⟨q18, hq18, h⟩ := xb h
  have Jq18 : Rn mX5_weigh 65 [(0, va_rf a0), (1, .int a1), (2, .int v2), (3, .int v5), (4, .int v7), (5, .int v10)] [.int q18, va_rf a0] st none st' 4 := by
    obtain ⟨s19, hs19, h⟩ := xb h
    refine x_putI (o := a0) dX5_weigh_65 (xp_X5_40 _) hs19 ?_
    refine x_aload_n (o := a0) dX5_weigh_68 rfl ?_
    obtain ⟨v20, hv20, h⟩ := xb h
    refine x_getR (o := a0) dX5_weigh_69 xf_X5_32 hv20 ?_
    refine r_iconst (v := (0 : Int32)) dX5_weigh_72 (by decide) ?_
    refine x_aload_n (o := a0) dX5_weigh_73 rfl ?_
    obtain ⟨v21, hv21, h⟩ := xb h
    refine x_getR (o := a0) dX5_weigh_74 xf_X5_21 hv21 ?_
    refine r_iconst (v := (0 : Int32)) dX5_weigh_77 (by decide) ?_
    refine r_iload (x := v7) dX5_weigh_78 rfl ?_
    refine x_aload_n (o := a0) dX5_weigh_80 rfl ?_
    obtain ⟨v22, hv22, h⟩ := xb h
    refine x_getR (o := a0) dX5_weigh_81 xf_X5_12 hv22 ?_
    refine r_iload_n (x := v2) dX5_weigh_84 rfl ?_
    obtain ⟨q24, hq24, h⟩ := xb h
    obtain ⟨v23, hv23, h⟩ := xb h
    refine z_callV (as := [.int v2]) (o := v22) (r1 := (some (.int v23))) (stk := [.int v7, .int (0 : Int32), va_rf v21, .int (0 : Int32), va_rf v20]) (stk2 := [.int v23, .int v7, .int (0 : Int32), va_rf v21, .int (0 : Int32), va_rf v20]) (st1 := s19) (d' := 1) dX5_weigh_85 xl_X5_89 hq24 (by decide) (Nat.le_trans (xsI (xsI (xsA (xsI (xsA xs0))))) (by decide)) rfl rfl (S_X4_own n s19 v22 v2 v23 hv23) ?_
    obtain ⟨q25, hq25, h⟩ := xb h
    have Jq25 : Rn mX5_weigh 103 [(0, va_rf a0), (1, .int a1), (2, .int v2), (3, .int v5), (4, .int v7), (5, .int v10)] [.int q25, .int (0 : Int32), va_rf v21, .int (0 : Int32), va_rf v20] s19 none st' 4 := by
      obtain ⟨q27, hq27, h⟩ := xb h
      obtain ⟨v26, hv26, h⟩ := xb h
      refine z_callV (as := [.int (0 : Int32), .int q25]) (o := v21) (r1 := (some (.int v26))) (stk := [.int (0 : Int32), va_rf v20]) (stk2 := [.int v26, .int (0 : Int32), va_rf v20]) (st1 := s19) (d' := 1) dX5_weigh_103 xl_X5_98 hq27 (by decide) (Nat.le_trans (xsI (xsA xs0)) (by decide)) rfl rfl (S_X3_worthOf n s19 v21 (0 : Int32) q25 v26 hv26) ?_
      obtain ⟨s28, hs28, h⟩ := xb h
      refine x_iastore (o := v20) dX5_weigh_106 hs28 ?_
      refine x_aload_n (o := a0) dX5_weigh_107 rfl ?_
      obtain ⟨v29, hv29, h⟩ := xb h
      refine x_getR (o := a0) dX5_weigh_108 xf_X5_32 hv29 ?_
      refine r_iconst (v := (1 : Int32)) dX5_weigh_111 (by decide) ?_
      refine x_aload_n (o := a0) dX5_weigh_112 rfl ?_
      obtain ⟨v30, hv30, h⟩ := xb h
      refine x_getR (o := a0) dX5_weigh_113 xf_X5_21 hv30 ?_
      refine r_iconst (v := (1 : Int32)) dX5_weigh_116 (by decide) ?_
      refine x_aload_n (o := a0) dX5_weigh_117 rfl ?_
      obtain ⟨v31, hv31, h⟩ := xb h
      refine x_getR (o := a0) dX5_weigh_118 xf_X5_12 hv31 ?_
      refine r_iload (x := v10) dX5_weigh_121 rfl ?_
      refine r_iload (x := v7) dX5_weigh_123 rfl ?_
      obtain ⟨q33, hq33, h⟩ := xb h
      obtain ⟨v32, hv32, h⟩ := xb h
      refine z_callV (as := [.int v10, .int v7]) (o := v31) (r1 := (some (.int v32))) (stk := [.int (1 : Int32), va_rf v30, .int (1 : Int32), va_rf v29]) (stk2 := [.int v32, .int (1 : Int32), va_rf v30, .int (1 : Int32), va_rf v29]) (st1 := s28) (d' := 1) dX5_weigh_125 xl_X5_101 hq33 (by decide) (Nat.le_trans (xsI (xsA (xsI (xsA xs0)))) (by decide)) rfl rfl (S_X4_apart n s28 v31 v10 v7 v32 hv32) ?_
      refine x_aload_n (o := a0) dX5_weigh_128 rfl ?_
      obtain ⟨v34, hv34, h⟩ := xb h
      refine x_getR (o := a0) dX5_weigh_129 xf_X5_21 hv34 ?_
      refine r_iconst (v := (1 : Int32)) dX5_weigh_132 (by decide) ?_
      obtain ⟨q36, hq36, h⟩ := xb h
      obtain ⟨v35, hv35, h⟩ := xb h
      refine z_callV (as := [.int (1 : Int32)]) (o := v34) (r1 := (some (.int v35))) (stk := [.int v32, .int (1 : Int32), va_rf v30, .int (1 : Int32), va_rf v29]) (stk2 := [.int v35, .int v32, .int (1 : Int32), va_rf v30, .int (1 : Int32), va_rf v29]) (st1 := s28) (d' := 1) dX5_weigh_133 xl_X5_104 hq36 (by decide) (Nat.le_trans (xsI (xsI (xsA (xsI (xsA xs0))))) (by decide)) rfl rfl (S_X3_per n s28 v34 (1 : Int32) v35 hv35) ?_
      obtain ⟨v37, hv37, h⟩ := xb h
      refine z_callS (as := [.int v32, .int v35]) (r1 := (some (.int v37))) (stk := [.int (1 : Int32), va_rf v30, .int (1 : Int32), va_rf v29]) (stk2 := [.int v37, .int (1 : Int32), va_rf v30, .int (1 : Int32), va_rf v29]) (st1 := s28) (d' := 0) dX5_weigh_136 xl_X5_107 (by decide) (Nat.le_trans (xsI (xsA (xsI (xsA xs0)))) (by decide)) rfl rfl (S_X10_cut n s28 v32 v35 v37 hv37) ?_
      obtain ⟨q39, hq39, h⟩ := xb h
      obtain ⟨v38, hv38, h⟩ := xb h
      refine z_callV (as := [.int (1 : Int32), .int v37]) (o := v30) (r1 := (some (.int v38))) (stk := [.int (1 : Int32), va_rf v29]) (stk2 := [.int v38, .int (1 : Int32), va_rf v29]) (st1 := s28) (d' := 1) dX5_weigh_139 xl_X5_98 hq39 (by decide) (Nat.le_trans (xsI (xsA xs0)) (by decide)) rfl rfl (S_X3_worthOf n s28 v30 (1 : Int32) v37 v38 hv38) ?_
      obtain ⟨s40, hs40, h⟩ := xb h
      refine x_iastore (o := v29) dX5_weigh_142 hs40 ?_
      refine x_aload_n (o := a0) dX5_weigh_143 rfl ?_
      obtain ⟨v41, hv41, h⟩ := xb h
      refine x_getR (o := a0) dX5_weigh_144 xf_X5_28 hv41 ?_
      refine r_iload_n (x := a1) dX5_weigh_147 rfl ?_
      refine r_iload_n (x := v5) dX5_weigh_148 rfl ?_
      obtain ⟨q43, hq43, h⟩ := xb h
      obtain ⟨v42, hv42, h⟩ := xb h
      refine z_callV (as := [.int a1, .int v5]) (o := v41) (r1 := (some (.int v42))) (stk := []) (stk2 := [.int v42]) (st1 := s40) (d' := 3) dX5_weigh_149 xl_X5_110 hq43 (by decide) (Nat.le_trans xs0 (by decide)) rfl rfl (S_X6_restOf n s40 v41 a1 v5 v42 hv42) ?_
      refine x_aload_n (o := a0) dX5_weigh_152 rfl ?_
      obtain ⟨v44, hv44, h⟩ := xb h
      refine x_getR (o := a0) dX5_weigh_153 xf_X5_21 hv44 ?_
      refine r_iconst (v := (2 : Int32)) dX5_weigh_156 (by decide) ?_
      obtain ⟨q46, hq46, h⟩ := xb h
      obtain ⟨v45, hv45, h⟩ := xb h
      refine z_callV (as := [.int (2 : Int32)]) (o := v44) (r1 := (some (.int v45))) (stk := [.int v42]) (stk2 := [.int v45, .int v42]) (st1 := s40) (d' := 1) dX5_weigh_157 xl_X5_104 hq46 (by decide) (Nat.le_trans (xsI xs0) (by decide)) rfl rfl (S_X3_per n s40 v44 (2 : Int32) v45 hv45) ?_
      obtain ⟨q53, hq53, h⟩ := xb h
      have Jq53 : Rn mX5_weigh 188 [(0, va_rf a0), (1, .int a1), (4, .int v7), (5, .int v10)] [.int q53] s40 none st' 4 := by
        refine r_istore (lv' := [(6, .int q53), (0, va_rf a0), (1, .int a1), (4, .int v7), (5, .int v10)]) (x := q53) dX5_weigh_188 (by decide) rfl ?_
        refine x_aload_n (o := a0) dX5_weigh_190 rfl ?_
        obtain ⟨v54, hv54, h⟩ := xb h
        refine x_getR (o := a0) dX5_weigh_191 xf_X5_32 hv54 ?_
        refine r_iconst (v := (2 : Int32)) dX5_weigh_194 (by decide) ?_
        refine x_aload_n (o := a0) dX5_weigh_195 rfl ?_
        obtain ⟨v55, hv55, h⟩ := xb h
        refine x_getR (o := a0) dX5_weigh_196 xf_X5_21 hv55 ?_
        refine r_iconst (v := (2 : Int32)) dX5_weigh_199 (by decide) ?_
        refine r_iload (x := q53) dX5_weigh_200 rfl ?_
        obtain ⟨q56, hq56, h⟩ := xb h
        have Jq56 : Rn mX5_weigh 210 [(0, va_rf a0), (1, .int a1), (4, .int v7), (5, .int v10)] [.int q56, .int (2 : Int32), va_rf v55, .int (2 : Int32), va_rf v54] s40 none st' 4 := by
          obtain ⟨q58, hq58, h⟩ := xb h
          obtain ⟨v57, hv57, h⟩ := xb h
          refine z_callV (as := [.int (2 : Int32), .int q56]) (o := v55) (r1 := (some (.int v57))) (stk := [.int (2 : Int32), va_rf v54]) (stk2 := [.int v57, .int (2 : Int32), va_rf v54]) (st1 := s40) (d' := 1) dX5_weigh_210 xl_X5_98 hq58 (by decide) (Nat.le_trans (xsI (xsA xs0)) (by decide)) rfl rfl (S_X3_worthOf n s40 v55 (2 : Int32) q56 v57 hv57) ?_
          obtain ⟨s59, hs59, h⟩ := xb h
          refine x_iastore (o := v54) dX5_weigh_213 hs59 ?_
          refine x_aload_n (o := a0) dX5_weigh_214 rfl ?_
          obtain ⟨v60, hv60, h⟩ := xb h
          refine x_getR (o := a0) dX5_weigh_215 xf_X5_32 hv60 ?_
          refine r_iconst (v := (3 : Int32)) dX5_weigh_218 (by decide) ?_
          refine x_aload_n (o := a0) dX5_weigh_219 rfl ?_
          obtain ⟨v61, hv61, h⟩ := xb h
          refine x_getR (o := a0) dX5_weigh_220 xf_X5_21 hv61 ?_
          refine r_iconst (v := (3 : Int32)) dX5_weigh_223 (by decide) ?_
          refine x_aload_n (o := a0) dX5_weigh_224 rfl ?_
          obtain ⟨v62, hv62, h⟩ := xb h
          refine x_getI (o := a0) dX5_weigh_225 xf_X5_40 hv62 ?_
          refine x_aload_n (o := a0) dX5_weigh_228 rfl ?_
          obtain ⟨v63, hv63, h⟩ := xb h
          refine x_getR (o := a0) dX5_weigh_229 xf_X5_21 hv63 ?_
          refine r_iconst (v := (3 : Int32)) dX5_weigh_232 (by decide) ?_
          obtain ⟨q65, hq65, h⟩ := xb h
          obtain ⟨v64, hv64, h⟩ := xb h
          refine z_callV (as := [.int (3 : Int32)]) (o := v63) (r1 := (some (.int v64))) (stk := [.int v62, .int (3 : Int32), va_rf v61, .int (3 : Int32), va_rf v60]) (stk2 := [.int v64, .int v62, .int (3 : Int32), va_rf v61, .int (3 : Int32), va_rf v60]) (st1 := s59) (d' := 1) dX5_weigh_233 xl_X5_104 hq65 (by decide) (Nat.le_trans (xsI (xsI (xsA (xsI (xsA xs0))))) (by decide)) rfl rfl (S_X3_per n s59 v63 (3 : Int32) v64 hv64) ?_
          obtain ⟨v66, hv66, h⟩ := xb h
          refine z_callS (as := [.int v62, .int v64]) (r1 := (some (.int v66))) (stk := [.int (3 : Int32), va_rf v61, .int (3 : Int32), va_rf v60]) (stk2 := [.int v66, .int (3 : Int32), va_rf v61, .int (3 : Int32), va_rf v60]) (st1 := s59) (d' := 0) dX5_weigh_236 xl_X5_107 (by decide) (Nat.le_trans (xsI (xsA (xsI (xsA xs0)))) (by decide)) rfl rfl (S_X10_cut n s59 v62 v64 v66 hv66) ?_
          obtain ⟨q68, hq68, h⟩ := xb h
          obtain ⟨v67, hv67, h⟩ := xb h
          refine z_callV (as := [.int (3 : Int32), .int v66]) (o := v61) (r1 := (some (.int v67))) (stk := [.int (3 : Int32), va_rf v60]) (stk2 := [.int v67, .int (3 : Int32), va_rf v60]) (st1 := s59) (d' := 1) dX5_weigh_239 xl_X5_98 hq68 (by decide) (Nat.le_trans (xsI (xsA xs0)) (by decide)) rfl rfl (S_X3_worthOf n s59 v61 (3 : Int32) v66 v67 hv67) ?_
          obtain ⟨s69, hs69, h⟩ := xb h
          refine x_iastore (o := v60) dX5_weigh_242 hs69 ?_
          refine x_aload_n (o := a0) dX5_weigh_243 rfl ?_
          obtain ⟨v70, hv70, h⟩ := xb h
          refine x_getR (o := a0) dX5_weigh_244 xf_X5_32 hv70 ?_
          refine r_iconst (v := (4 : Int32)) dX5_weigh_247 (by decide) ?_
          refine x_aload_n (o := a0) dX5_weigh_248 rfl ?_
          obtain ⟨v71, hv71, h⟩ := xb h
          refine x_getR (o := a0) dX5_weigh_249 xf_X5_21 hv71 ?_
          refine r_iconst (v := (4 : Int32)) dX5_weigh_252 (by decide) ?_
          refine x_aload_n (o := a0) dX5_weigh_253 rfl ?_
          obtain ⟨v72, hv72, h⟩ := xb h
          refine x_getR (o := a0) dX5_weigh_254 xf_X5_28 hv72 ?_
          refine r_iload_n (x := a1) dX5_weigh_257 rfl ?_
          refine r_iconst (v := (4 : Int32)) dX5_weigh_258 (by decide) ?_
          obtain ⟨q74, hq74, h⟩ := xb h
          obtain ⟨v73, hv73, h⟩ := xb h
          refine z_callV (as := [.int a1, .int (4 : Int32)]) (o := v72) (r1 := (some (.int v73))) (stk := [.int (4 : Int32), va_rf v71, .int (4 : Int32), va_rf v70]) (stk2 := [.int v73, .int (4 : Int32), va_rf v71, .int (4 : Int32), va_rf v70]) (st1 := s69) (d' := 1) dX5_weigh_259 xl_X5_81 hq74 (by decide) (Nat.le_trans (xsI (xsA (xsI (xsA xs0)))) (by decide)) rfl rfl (S_X6_of n s69 v72 a1 (4 : Int32) v73 hv73) ?_
          refine r_iconst (v := (1 : Int32)) dX5_weigh_262 (by decide) ?_
          obtain ⟨q80, hq80, h⟩ := xb h
          have Jq80 : Rn mX5_weigh 285 [(0, va_rf a0), (1, .int a1), (4, .int v7), (5, .int v10)] [.int q80, .int (4 : Int32), va_rf v71, .int (4 : Int32), va_rf v70] s69 none st' 4 := by
            obtain ⟨q82, hq82, h⟩ := xb h
            obtain ⟨v81, hv81, h⟩ := xb h
            refine z_callV (as := [.int (4 : Int32), .int q80]) (o := v71) (r1 := (some (.int v81))) (stk := [.int (4 : Int32), va_rf v70]) (stk2 := [.int v81, .int (4 : Int32), va_rf v70]) (st1 := s69) (d' := 1) dX5_weigh_285 xl_X5_98 hq82 (by decide) (Nat.le_trans (xsI (xsA xs0)) (by decide)) rfl rfl (S_X3_worthOf n s69 v71 (4 : Int32) q80 v81 hv81) ?_
            obtain ⟨s83, hs83, h⟩ := xb h
            refine x_iastore (o := v70) dX5_weigh_288 hs83 ?_
            refine r_iconst (v := (0 : Int32)) dX5_weigh_289 (by decide) ?_
            refine x_aload_n (o := a0) dX5_weigh_290 rfl ?_
            obtain ⟨v84, hv84, h⟩ := xb h
            refine x_getR (o := a0) dX5_weigh_291 xf_X5_12 hv84 ?_
            refine r_iload (x := v7) dX5_weigh_294 rfl ?_
            obtain ⟨q86, hq86, h⟩ := xb h
            obtain ⟨v85, hv85, h⟩ := xb h
            refine z_callV (as := [.int v7]) (o := v84) (r1 := (some (.int v85))) (stk := [.int (0 : Int32)]) (stk2 := [.int v85, .int (0 : Int32)]) (st1 := s83) (d' := 1) dX5_weigh_296 xl_X5_113 hq86 (by decide) (Nat.le_trans (xsI xs0) (by decide)) rfl rfl (S_X4_height n s83 v84 v7 v85 hv85) ?_
            refine x_aload_n (o := a0) dX5_weigh_299 rfl ?_
            obtain ⟨v87, hv87, h⟩ := xb h
            refine x_getR (o := a0) dX5_weigh_300 xf_X5_12 hv87 ?_
            refine r_iload (x := v10) dX5_weigh_303 rfl ?_
            obtain ⟨q89, hq89, h⟩ := xb h
            obtain ⟨v88, hv88, h⟩ := xb h
            refine z_callV (as := [.int v10]) (o := v87) (r1 := (some (.int v88))) (stk := [.int v85, .int (0 : Int32)]) (stk2 := [.int v88, .int v85, .int (0 : Int32)]) (st1 := s83) (d' := 1) dX5_weigh_305 xl_X5_113 hq89 (by decide) (Nat.le_trans (xsI (xsI xs0)) (by decide)) rfl rfl (S_X4_height n s83 v87 v10 v88 hv88) ?_
            refine r_isub dX5_weigh_308 ?_
            refine r_mmax dX5_weigh_309 xm_X5_116 xm1_max xm2 xm3_max (by decide) (Nat.le_trans xs0 (by decide)) ?_
            obtain ⟨v90, hv90, h⟩ := xb h
            refine x_eqI (Option.some.inj hv90) ?_
            refine r_istore (lv' := [(7, .int v90), (0, va_rf a0), (1, .int a1), (4, .int v7), (5, .int v10)]) (x := v90) dX5_weigh_312 (by decide) rfl ?_
            refine x_aload_n (o := a0) dX5_weigh_314 rfl ?_
            obtain ⟨v91, hv91, h⟩ := xb h
            refine x_getR (o := a0) dX5_weigh_315 xf_X5_32 hv91 ?_
            refine r_iconst (v := (5 : Int32)) dX5_weigh_318 (by decide) ?_
            refine x_aload_n (o := a0) dX5_weigh_319 rfl ?_
            obtain ⟨v92, hv92, h⟩ := xb h
            refine x_getR (o := a0) dX5_weigh_320 xf_X5_21 hv92 ?_
            refine r_iconst (v := (5 : Int32)) dX5_weigh_323 (by decide) ?_
            refine r_iload (x := v90) dX5_weigh_324 rfl ?_
            refine x_aload_n (o := a0) dX5_weigh_326 rfl ?_
            obtain ⟨v93, hv93, h⟩ := xb h
            refine x_getR (o := a0) dX5_weigh_327 xf_X5_21 hv93 ?_
            refine r_iconst (v := (5 : Int32)) dX5_weigh_330 (by decide) ?_
            obtain ⟨q95, hq95, h⟩ := xb h
            obtain ⟨v94, hv94, h⟩ := xb h
            refine z_callV (as := [.int (5 : Int32)]) (o := v93) (r1 := (some (.int v94))) (stk := [.int v90, .int (5 : Int32), va_rf v92, .int (5 : Int32), va_rf v91]) (stk2 := [.int v94, .int v90, .int (5 : Int32), va_rf v92, .int (5 : Int32), va_rf v91]) (st1 := s83) (d' := 1) dX5_weigh_331 xl_X5_104 hq95 (by decide) (Nat.le_trans (xsI (xsI (xsA (xsI (xsA xs0))))) (by decide)) rfl rfl (S_X3_per n s83 v93 (5 : Int32) v94 hv94) ?_
            obtain ⟨v96, hv96, h⟩ := xb h
            refine z_callS (as := [.int v90, .int v94]) (r1 := (some (.int v96))) (stk := [.int (5 : Int32), va_rf v92, .int (5 : Int32), va_rf v91]) (stk2 := [.int v96, .int (5 : Int32), va_rf v92, .int (5 : Int32), va_rf v91]) (st1 := s83) (d' := 0) dX5_weigh_334 xl_X5_107 (by decide) (Nat.le_trans (xsI (xsA (xsI (xsA xs0)))) (by decide)) rfl rfl (S_X10_cut n s83 v90 v94 v96 hv96) ?_
            obtain ⟨q98, hq98, h⟩ := xb h
            obtain ⟨v97, hv97, h⟩ := xb h
            refine z_callV (as := [.int (5 : Int32), .int v96]) (o := v92) (r1 := (some (.int v97))) (stk := [.int (5 : Int32), va_rf v91]) (stk2 := [.int v97, .int (5 : Int32), va_rf v91]) (st1 := s83) (d' := 1) dX5_weigh_337 xl_X5_98 hq98 (by decide) (Nat.le_trans (xsI (xsA xs0)) (by decide)) rfl rfl (S_X3_worthOf n s83 v92 (5 : Int32) v96 v97 hv97) ?_
            obtain ⟨s99, hs99, h⟩ := xb h
            refine x_iastore (o := v91) dX5_weigh_340 hs99 ?_
            refine x_aload_n (o := a0) dX5_weigh_341 rfl ?_
            refine r_iload_n (x := a1) dX5_weigh_342 rfl ?_
            obtain ⟨q101, hq101, h⟩ := xb h
            obtain ⟨s100, hs100, h⟩ := xb h
            refine z_callV (as := [.int a1]) (o := a0) (r1 := none) (stk := []) (stk2 := []) (st1 := s100) (d' := 3) dX5_weigh_343 xl_X5_121 hq101 (by decide) (Nat.le_trans xs0 (by decide)) rfl rfl (S_X5_aim n s99 a0 a1 s100 hs100) ?_
            obtain rfl := Option.some.inj h
            exact r_return dX5_weigh_346 rfl
          refine r_icmp_ne (tgt := 284) dX5_weigh_263 (by decide) (fun c => ?_) (fun c => ?_)
          · replace hq80 := (if_neg c).symm.trans hq80
            refine r_iconst (v := (0 : Int32)) dX5_weigh_284 (by decide) ?_
            obtain rfl := Option.some.inj hq80
            exact x_sub [0, 1, 2, 3] rfl Jq80
          · replace hq80 := (if_pos c).symm.trans hq80
            refine x_aload_n (o := a0) dX5_weigh_266 rfl ?_
            obtain ⟨v75, hv75, hq80⟩ := xb hq80
            refine x_getI (o := a0) dX5_weigh_267 xf_X5_40 hv75 ?_
            refine x_aload_n (o := a0) dX5_weigh_270 rfl ?_
            obtain ⟨v76, hv76, hq80⟩ := xb hq80
            refine x_getR (o := a0) dX5_weigh_271 xf_X5_21 hv76 ?_
            refine r_iconst (v := (4 : Int32)) dX5_weigh_274 (by decide) ?_
            obtain ⟨q78, hq78, hq80⟩ := xb hq80
            obtain ⟨v77, hv77, hq80⟩ := xb hq80
            refine z_callV (as := [.int (4 : Int32)]) (o := v76) (r1 := (some (.int v77))) (stk := [.int v75, .int (4 : Int32), va_rf v71, .int (4 : Int32), va_rf v70]) (stk2 := [.int v77, .int v75, .int (4 : Int32), va_rf v71, .int (4 : Int32), va_rf v70]) (st1 := s69) (d' := 1) dX5_weigh_275 xl_X5_104 hq78 (by decide) (Nat.le_trans (xsI (xsI (xsA (xsI (xsA xs0))))) (by decide)) rfl rfl (S_X3_per n s69 v76 (4 : Int32) v77 hv77) ?_
            obtain ⟨v79, hv79, hq80⟩ := xb hq80
            refine z_callS (as := [.int v75, .int v77]) (r1 := (some (.int v79))) (stk := [.int (4 : Int32), va_rf v71, .int (4 : Int32), va_rf v70]) (stk2 := [.int v79, .int (4 : Int32), va_rf v71, .int (4 : Int32), va_rf v70]) (st1 := s69) (d' := 0) dX5_weigh_278 xl_X5_107 (by decide) (Nat.le_trans (xsI (xsA (xsI (xsA xs0)))) (by decide)) rfl rfl (S_X10_cut n s69 v75 v77 v79 hv79) ?_
            refine r_goto (tgt := 285) dX5_weigh_281 (by decide) ?_
            obtain rfl := Option.some.inj hq80
            exact x_sub [0, 1, 2, 3] rfl Jq80
        refine r_if_eq (tgt := 209) dX5_weigh_202 (by decide) (fun c => ?_) (fun c => ?_)
        · replace hq56 := (if_pos c).symm.trans hq56
          refine r_iconst (v := (0 : Int32)) dX5_weigh_209 (by decide) ?_
          obtain rfl := Option.some.inj hq56
          exact x_sub [1, 2, 3, 4] rfl Jq56
        · replace hq56 := (if_neg c).symm.trans hq56
          refine r_iconst (v := (1 : Int32)) dX5_weigh_205 (by decide) ?_
          refine r_goto (tgt := 210) dX5_weigh_206 (by decide) ?_
          obtain rfl := Option.some.inj hq56
          exact x_sub [1, 2, 3, 4] rfl Jq56
      refine r_icmp_ge (tgt := 187) dX5_weigh_160 (by decide) (fun c => ?_) (fun c => ?_)
      · replace hq53 := (if_pos c).symm.trans hq53
        refine r_iconst (v := (0 : Int32)) dX5_weigh_187 (by decide) ?_
        obtain rfl := Option.some.inj hq53
        exact x_sub [0, 1, 4, 5] rfl Jq53
      · replace hq53 := (if_neg c).symm.trans hq53
        refine x_aload_n (o := a0) dX5_weigh_163 rfl ?_
        obtain ⟨v47, hv47, hq53⟩ := xb hq53
        refine x_getR (o := a0) dX5_weigh_164 xf_X5_28 hv47 ?_
        refine r_iload_n (x := a1) dX5_weigh_167 rfl ?_
        refine r_iload_n (x := v2) dX5_weigh_168 rfl ?_
        obtain ⟨q49, hq49, hq53⟩ := xb hq53
        obtain ⟨v48, hv48, hq53⟩ := xb hq53
        refine z_callV (as := [.int a1, .int v2]) (o := v47) (r1 := (some (.int v48))) (stk := []) (stk2 := [.int v48]) (st1 := s40) (d' := 3) dX5_weigh_169 xl_X5_110 hq49 (by decide) (Nat.le_trans xs0 (by decide)) rfl rfl (S_X6_restOf n s40 v47 a1 v2 v48 hv48) ?_
        refine x_aload_n (o := a0) dX5_weigh_172 rfl ?_
        obtain ⟨v50, hv50, hq53⟩ := xb hq53
        refine x_getR (o := a0) dX5_weigh_173 xf_X5_21 hv50 ?_
        refine r_iconst (v := (2 : Int32)) dX5_weigh_176 (by decide) ?_
        obtain ⟨q52, hq52, hq53⟩ := xb hq53
        obtain ⟨v51, hv51, hq53⟩ := xb hq53
        refine z_callV (as := [.int (2 : Int32)]) (o := v50) (r1 := (some (.int v51))) (stk := [.int v48]) (stk2 := [.int v51, .int v48]) (st1 := s40) (d' := 1) dX5_weigh_177 xl_X5_104 hq52 (by decide) (Nat.le_trans (xsI xs0) (by decide)) rfl rfl (S_X3_per n s40 v50 (2 : Int32) v51 hv51) ?_
        refine r_icmp_lt (tgt := 187) dX5_weigh_180 (by decide) (fun c => ?_) (fun c => ?_)
        · replace hq53 := (if_pos c).symm.trans hq53
          refine r_iconst (v := (0 : Int32)) dX5_weigh_187 (by decide) ?_
          obtain rfl := Option.some.inj hq53
          exact x_sub [0, 1, 4, 5] rfl Jq53
        · replace hq53 := (if_neg c).symm.trans hq53
          refine r_iconst (v := (1 : Int32)) dX5_weigh_183 (by decide) ?_
          refine r_goto (tgt := 188) dX5_weigh_184 (by decide) ?_
          obtain rfl := Option.some.inj hq53
          exact x_sub [0, 1, 4, 5] rfl Jq53
    refine r_icmp_ne (tgt := 102) dX5_weigh_88 (by decide) (fun c => ?_) (fun c => ?_)
    · replace hq25 := (if_neg c).symm.trans hq25
      refine r_iconst (v := (0 : Int32)) dX5_weigh_102 (by decide) ?_
      obtain rfl := Option.some.inj hq25
      exact x_sub [0, 1, 2, 3, 4, 5] rfl Jq25
    · replace hq25 := (if_pos c).symm.trans hq25
      refine r_iload (x := v7) dX5_weigh_91 rfl ?_
      refine r_iload (x := v10) dX5_weigh_93 rfl ?_
      refine r_icmp_eq (tgt := 102) dX5_weigh_95 (by decide) (fun c => ?_) (fun c => ?_)
      · replace hq25 := (if_pos c).symm.trans hq25
        refine r_iconst (v := (0 : Int32)) dX5_weigh_102 (by decide) ?_
        obtain rfl := Option.some.inj hq25
        exact x_sub [0, 1, 2, 3, 4, 5] rfl Jq25
      · replace hq25 := (if_neg c).symm.trans hq25
        refine r_iconst (v := (1 : Int32)) dX5_weigh_98 (by decide) ?_
        refine r_goto (tgt := 103) dX5_weigh_99 (by decide) ?_
        obtain rfl := Option.some.inj hq25
        exact x_sub [0, 1, 2, 3, 4, 5] rfl Jq25
  refine r_icmp_ne (tgt := 64) dX5_weigh_49 (by decide) (fun c => ?_) (fun c => ?_)
  · replace hq18 := (if_neg c).symm.trans hq18
    refine r_iconst (v := (0 : Int32)) dX5_weigh_64 (by decide) ?_
    obtain rfl := Option.some.inj hq18
    exact x_sub [4, 5, 3, 2, 1, 0] rfl Jq18
  · replace hq18 := (if_pos c).symm.trans hq18
    refine x_aload_n (o := a0) dX5_weigh_52 rfl ?_
    obtain ⟨v15, hv15, hq18⟩ := xb hq18
    refine x_getR (o := a0) dX5_weigh_53 xf_X5_12 hv15 ?_
    refine r_iload (x := v7) dX5_weigh_56 rfl ?_
    obtain ⟨q17, hq17, hq18⟩ := xb hq18
    obtain ⟨v16, hv16, hq18⟩ := xb hq18
    refine z_callV (as := [.int v7]) (o := v15) (r1 := (some (.int v16))) (stk := [va_rf a0]) (stk2 := [.int v16, va_rf a0]) (st1 := st) (d' := 1) dX5_weigh_58 xl_X5_95 hq17 (by decide) (Nat.le_trans (xsA xs0) (by decide)) rfl rfl (S_X4_noise n st v15 v7 v16 hv16) ?_
    refine r_goto (tgt := 65) dX5_weigh_61 (by decide) ?_
    obtain rfl := Option.some.inj hq18
    exact x_sub [4, 5, 3, 2, 1, 0] rfl Jq18
theorem S_X5_weigh (n : Nat) (st : xS) (a0 : Option Nat) (a1 : Int32) (st' : xS) (h : F_X5_weigh n st a0 a1 = some st') : Ct mX5_weigh [va_rf a0, .int a1] st none st' 4 := by
  refine Ct.of (by decide) (by simp only [lgL_R, lgL_I, lgL_L, lgL_0]; decide) ?_
  try simp only [lvA_R]
  exact R_X5_weigh n st a0 a1 st' h
theorem R_X5_drop (n : Nat) (st : xS) (a0 : Option Nat) (a1 : Int32) (a2 : Int32) (st' : xS) (h : F_X5_drop n st a0 a1 a2 = some st') : Rn mX5_drop 0 [(0, va_rf a0), (1, .int a1), (2, .int a2)] [] st none st' 4 := by
  unfold F_X5_drop at h
  refine x_aload_n (o := a0) dX5_drop_0 rfl ?_
  obtain ⟨v1, hv1, h⟩ := xb h
  refine x_getR (o := a0) dX5_drop_1 xf_X5_32 hv1 ?_
  refine r_iload_n (x := a2) dX5_drop_4 rfl ?_
  refine r_iconst (v := (0 : Int32)) dX5_drop_5 (by decide) ?_
  obtain ⟨s2, hs2, h⟩ := xb h
  refine z_callS (as := [va_rf v1, .int a2, .int (0 : Int32)]) (r1 := none) (stk := []) (stk2 := []) (st1 := s2) (d' := 0) dX5_drop_6 xl_X5_125 (by decide) (Nat.le_trans xs0 (by decide)) rfl rfl (S_X10_setAt n st v1 a2 (0 : Int32) s2 hs2) ?_
  refine x_aload_n (o := a0) dX5_drop_9 rfl ?_
  refine r_iload_n (x := a1) dX5_drop_10 rfl ?_
  obtain ⟨q4, hq4, h⟩ := xb h
  obtain ⟨s3, hs3, h⟩ := xb h
  refine z_callV (as := [.int a1]) (o := a0) (r1 := none) (stk := []) (stk2 := []) (st1 := s3) (d' := 3) dX5_drop_11 xl_X5_121 hq4 (by decide) (Nat.le_trans xs0 (by decide)) rfl rfl (S_X5_aim n s2 a0 a1 s3 hs3) ?_
  obtain rfl := Option.some.inj h
  exact r_return dX5_drop_14 rfl
theorem S_X5_drop (n : Nat) (st : xS) (a0 : Option Nat) (a1 : Int32) (a2 : Int32) (st' : xS) (h : F_X5_drop n st a0 a1 a2 = some st') : Ct mX5_drop [va_rf a0, .int a1, .int a2] st none st' 4 := by
  refine Ct.of (by decide) (by simp only [lgL_R, lgL_I, lgL_L, lgL_0]; decide) ?_
  try simp only [lvA_R]
  exact R_X5_drop n st a0 a1 a2 st' h
theorem R_X5_shots_L21 (n : Nat) {r : Option Value} {st' : xS} : ∀ (k : Nat) (st : xS) (a0 : Int32) (a1 : Int32) (a2 : Int64) (a4 : Int32) (q : (Int64)), F_X5_shots_L21 n k st a0 a1 a2 a4 = some q → Rn mX5_shots 52 [(2, .long q)] [] st r st' 0 → Rn mX5_shots 21 [(0, .int a0), (1, .int a1), (2, .long a2), (4, .int a4)] [] st r st' 0 := by
  intro k
  induction k with
  | zero => intro st a0 a1 a2 a4 q h; cases h
  | succ k ih =>
    intro st a0 a1 a2 a4 q h J
    unfold F_X5_shots_L21 at h
    refine r_iload (x := a4) dX5_shots_21 rfl ?_
    refine r_iconst (v := (3 : Int32)) dX5_shots_23 (by decide) ?_
    refine r_icmp_ge (tgt := 52) dX5_shots_24 (by decide) (fun c => ?_) (fun c => ?_)
    · replace h := (if_pos c).symm.trans h
      obtain rfl := Option.some.inj h
      exact x_sub [2] rfl J
    · replace h := (if_neg c).symm.trans h
      refine r_lload_n (x := a2) dX5_shots_27 rfl ?_
      refine r_iload (x := a4) dX5_shots_28 rfl ?_
      refine r_iload_n (x := a1) dX5_shots_30 rfl ?_
      obtain ⟨q2, hq2, h⟩ := xb h
      have Jq2 : Rn mX5_shots 44 [(0, .int a0), (1, .int a1), (4, .int a4)] [.long q2, .long a2] st r st' 0 := by
        refine r_lmul dX5_shots_44 ?_
        obtain ⟨v3, hv3, h⟩ := xb h
        refine x_eqL (Option.some.inj hv3) ?_
        refine r_lstore_n (lv' := [(2, .long v3), (0, .int a0), (1, .int a1), (4, .int a4)]) (x := v3) dX5_shots_45 (by decide) rfl ?_
        obtain ⟨v4, hv4, h⟩ := xb h
        refine x_iinc (c := (1 : Int32)) (lv' := [(4, .int v4), (2, .long v3), (0, .int a0), (1, .int a1)]) (x := a4) (v := v4) dX5_shots_46 rfl (by decide) (Option.some.inj hv4) (by decide) rfl ?_
        refine r_goto (tgt := 21) dX5_shots_49 (by decide) ?_
        exact x_sub [2, 3, 1, 0] rfl (ih st a0 a1 v3 v4 q h J)
      refine r_icmp_ge (tgt := 39) dX5_shots_31 (by decide) (fun c => ?_) (fun c => ?_)
      · replace hq2 := (if_pos c).symm.trans hq2
        refine r_bipush (v := (100 : Int32)) dX5_shots_39 (by decide) ?_
        refine r_iload_n (x := a0) dX5_shots_41 rfl ?_
        refine r_isub dX5_shots_42 ?_
        refine r_i2l dX5_shots_43 ?_
        obtain rfl := Option.some.inj hq2
        exact x_sub [0, 1, 3] rfl Jq2
      · replace hq2 := (if_neg c).symm.trans hq2
        refine r_iload_n (x := a0) dX5_shots_34 rfl ?_
        refine r_i2l dX5_shots_35 ?_
        refine r_goto (tgt := 44) dX5_shots_36 (by decide) ?_
        obtain rfl := Option.some.inj hq2
        exact x_sub [0, 1, 3] rfl Jq2
theorem R_X5_shots (n : Nat) (st : xS) (a0 : Int32) (a1 : Int32) (rv : Int64) (h : F_X5_shots n st a0 a1 = some rv) : Rn mX5_shots 0 [(0, .int a0), (1, .int a1)] [] st (some (.long rv)) st 0 := by
  unfold F_X5_shots at h
  refine r_iload_n (x := a1) dX5_shots_0 rfl ?_
  refine r_iconst (v := (1 : Int32)) dX5_shots_1 (by decide) ?_
  obtain ⟨q1, hq1, h⟩ := xb h
  have Jq1 : Rn mX5_shots 17 [(0, .int a0), (1, .int a1)] [.long q1] st (some (.long rv)) st 0 := by
    refine r_lstore_n (lv' := [(2, .long q1), (0, .int a0), (1, .int a1)]) (x := q1) dX5_shots_17 (by decide) rfl ?_
    refine r_iconst (v := (0 : Int32)) dX5_shots_18 (by decide) ?_
    refine r_istore (lv' := [(4, .int (0 : Int32)), (2, .long q1), (0, .int a0), (1, .int a1)]) (x := (0 : Int32)) dX5_shots_19 (by decide) rfl ?_
    obtain ⟨q5, hq5, h⟩ := xb h
    have Jq5 : Rn mX5_shots 52 [(2, .long q5)] [] st (some (.long rv)) st 0 := by
      refine r_lload_n (x := q5) dX5_shots_52 rfl ?_
      obtain rfl := Option.some.inj h
      exact r_lreturn dX5_shots_53 rfl
    exact x_sub [2, 3, 1, 0] rfl (R_X5_shots_L21 n n st a0 a1 q1 (0 : Int32) q5 hq5 Jq5)
  refine r_icmp_eq (tgt := 10) dX5_shots_2 (by decide) (fun c => ?_) (fun c => ?_)
  · replace hq1 := (if_pos c).symm.trans hq1
    refine r_ldc2 (v := (3 : Int64)) dX5_shots_10 xk_X5_142 ?_
    refine r_goto (tgt := 17) dX5_shots_13 (by decide) ?_
    obtain rfl := Option.some.inj hq1
    exact x_sub [0, 1] rfl Jq1
  · replace hq1 := (if_neg c).symm.trans hq1
    refine r_iload_n (x := a1) dX5_shots_5 rfl ?_
    refine r_iconst (v := (2 : Int32)) dX5_shots_6 (by decide) ?_
    refine r_icmp_ne (tgt := 16) dX5_shots_7 (by decide) (fun c => ?_) (fun c => ?_)
    · replace hq1 := (if_neg c).symm.trans hq1
      refine r_lconst (v := (1 : Int64)) dX5_shots_16 (by decide) ?_
      obtain rfl := Option.some.inj hq1
      exact x_sub [0, 1] rfl Jq1
    · replace hq1 := (if_pos c).symm.trans hq1
      refine r_ldc2 (v := (3 : Int64)) dX5_shots_10 xk_X5_142 ?_
      refine r_goto (tgt := 17) dX5_shots_13 (by decide) ?_
      obtain rfl := Option.some.inj hq1
      exact x_sub [0, 1] rfl Jq1
theorem S_X5_shots (n : Nat) (st : xS) (a0 : Int32) (a1 : Int32) (rv : Int64) (h : F_X5_shots n st a0 a1 = some rv) : Ct mX5_shots [.int a0, .int a1] st (some (.long rv)) st 0 := by
  refine Ct.of (by decide) (by simp only [lgL_R, lgL_I, lgL_L, lgL_0]; decide) ?_
  try simp only [lvA_R]
  exact R_X5_shots n st a0 a1 rv h
theorem R_X5_outlook_L41 (n : Nat) {r : Option Value} {st' : xS} : ∀ (k : Nat) (st : xS) (a0 : Option Nat) (a1 : Int32) (a2 : Int64) (a4 : Int64) (a6 : Int32) (a7 : Int32) (q : (Int64)), F_X5_outlook_L41 n k st a0 a1 a2 a4 a6 a7 = some q → Rn mX5_outlook 76 [(0, va_rf a0), (1, .int a1), (2, .long q), (4, .long a4), (6, .int a6)] [] st r st' 1 → Rn mX5_outlook 41 [(0, va_rf a0), (1, .int a1), (2, .long a2), (4, .long a4), (6, .int a6), (7, .int a7)] [] st r st' 1 := by
  intro k
  induction k with
  | zero => intro st a0 a1 a2 a4 a6 a7 q h; cases h
  | succ k ih =>
    intro st a0 a1 a2 a4 a6 a7 q h J
    unfold F_X5_outlook_L41 at h
    refine r_iload (x := a7) dX5_outlook_41 rfl ?_
    refine r_iload (x := a6) dX5_outlook_43 rfl ?_
    refine r_icmp_ge (tgt := 76) dX5_outlook_45 (by decide) (fun c => ?_) (fun c => ?_)
    · replace h := (if_pos c).symm.trans h
      obtain rfl := Option.some.inj h
      exact x_sub [0, 1, 2, 3, 4] rfl J
    · replace h := (if_neg c).symm.trans h
      refine r_lload_n (x := a2) dX5_outlook_48 rfl ?_
      refine x_aload_n (o := a0) dX5_outlook_49 rfl ?_
      obtain ⟨v6, hv6, h⟩ := xb h
      refine x_getI (o := a0) dX5_outlook_50 xf_X5_43 hv6 ?_
      refine r_iload (x := a6) dX5_outlook_53 rfl ?_
      obtain ⟨v7, hv7, h⟩ := xb h
      refine z_callS (as := [.int v6, .int a6]) (r1 := (some (.long v7))) (stk := [.long a2]) (stk2 := [.long v7, .long a2]) (st1 := st) (d' := 0) dX5_outlook_55 xl_X5_144 (by decide) (Nat.le_trans (xsJ xs0) (by decide)) rfl rfl (S_X5_shots n st v6 a6 v7 hv7) ?_
      refine x_aload_n (o := a0) dX5_outlook_58 rfl ?_
      obtain ⟨v8, hv8, h⟩ := xb h
      refine x_getI (o := a0) dX5_outlook_59 xf_X5_46 hv8 ?_
      refine r_iload (x := a7) dX5_outlook_62 rfl ?_
      obtain ⟨v9, hv9, h⟩ := xb h
      refine z_callS (as := [.int v8, .int a7]) (r1 := (some (.long v9))) (stk := [.long v7, .long a2]) (stk2 := [.long v9, .long v7, .long a2]) (st1 := st) (d' := 0) dX5_outlook_64 xl_X5_144 (by decide) (Nat.le_trans (xsJ (xsJ xs0)) (by decide)) rfl rfl (S_X5_shots n st v8 a7 v9 hv9) ?_
      refine r_lmul dX5_outlook_67 ?_
      refine r_ladd dX5_outlook_68 ?_
      obtain ⟨v10, hv10, h⟩ := xb h
      refine x_eqL (Option.some.inj hv10) ?_
      refine r_lstore_n (lv' := [(2, .long v10), (0, va_rf a0), (1, .int a1), (4, .long a4), (6, .int a6), (7, .int a7)]) (x := v10) dX5_outlook_69 (by decide) rfl ?_
      obtain ⟨v11, hv11, h⟩ := xb h
      refine x_iinc (c := (1 : Int32)) (lv' := [(7, .int v11), (2, .long v10), (0, va_rf a0), (1, .int a1), (4, .long a4), (6, .int a6)]) (x := a7) (v := v11) dX5_outlook_70 rfl (by decide) (Option.some.inj hv11) (by decide) rfl ?_
      refine r_goto (tgt := 41) dX5_outlook_73 (by decide) ?_
      exact x_sub [2, 3, 1, 4, 5, 0] rfl (ih st a0 a1 v10 a4 a6 v11 q h J)
theorem R_X5_outlook_L8 (n : Nat) {r : Option Value} {st' : xS} : ∀ (k : Nat) (st : xS) (a0 : Option Nat) (a1 : Int32) (a2 : Int64) (a4 : Int64) (a6 : Int32) (q : (Int64 × Int64)), F_X5_outlook_L8 n k st a0 a1 a2 a4 a6 = some q → Rn mX5_outlook 82 [(1, .int a1), (2, .long q.1), (4, .long q.2)] [] st r st' 1 → Rn mX5_outlook 8 [(0, va_rf a0), (1, .int a1), (2, .long a2), (4, .long a4), (6, .int a6)] [] st r st' 1 := by
  intro k
  induction k with
  | zero => intro st a0 a1 a2 a4 a6 q h; cases h
  | succ k ih =>
    intro st a0 a1 a2 a4 a6 q h J
    unfold F_X5_outlook_L8 at h
    refine r_iload (x := a6) dX5_outlook_8 rfl ?_
    refine r_iconst (v := (3 : Int32)) dX5_outlook_10 (by decide) ?_
    refine r_icmp_gt (tgt := 82) dX5_outlook_11 (by decide) (fun c => ?_) (fun c => ?_)
    · replace h := (if_pos c).symm.trans h
      obtain rfl := Option.some.inj h
      exact x_sub [1, 2, 3] rfl J
    · replace h := (if_neg c).symm.trans h
      refine r_lload (x := a4) dX5_outlook_14 rfl ?_
      refine x_aload_n (o := a0) dX5_outlook_16 rfl ?_
      obtain ⟨v1, hv1, h⟩ := xb h
      refine x_getI (o := a0) dX5_outlook_17 xf_X5_43 hv1 ?_
      refine r_iload (x := a6) dX5_outlook_20 rfl ?_
      obtain ⟨v2, hv2, h⟩ := xb h
      refine z_callS (as := [.int v1, .int a6]) (r1 := (some (.long v2))) (stk := [.long a4]) (stk2 := [.long v2, .long a4]) (st1 := st) (d' := 0) dX5_outlook_22 xl_X5_144 (by decide) (Nat.le_trans (xsJ xs0) (by decide)) rfl rfl (S_X5_shots n st v1 a6 v2 hv2) ?_
      refine x_aload_n (o := a0) dX5_outlook_25 rfl ?_
      obtain ⟨v3, hv3, h⟩ := xb h
      refine x_getI (o := a0) dX5_outlook_26 xf_X5_46 hv3 ?_
      refine r_iload (x := a6) dX5_outlook_29 rfl ?_
      obtain ⟨v4, hv4, h⟩ := xb h
      refine z_callS (as := [.int v3, .int a6]) (r1 := (some (.long v4))) (stk := [.long v2, .long a4]) (stk2 := [.long v4, .long v2, .long a4]) (st1 := st) (d' := 0) dX5_outlook_31 xl_X5_144 (by decide) (Nat.le_trans (xsJ (xsJ xs0)) (by decide)) rfl rfl (S_X5_shots n st v3 a6 v4 hv4) ?_
      refine r_lmul dX5_outlook_34 ?_
      refine r_ladd dX5_outlook_35 ?_
      obtain ⟨v5, hv5, h⟩ := xb h
      refine x_eqL (Option.some.inj hv5) ?_
      refine r_lstore (lv' := [(4, .long v5), (0, va_rf a0), (1, .int a1), (2, .long a2), (6, .int a6)]) (x := v5) dX5_outlook_36 (by decide) rfl ?_
      refine r_iconst (v := (0 : Int32)) dX5_outlook_38 (by decide) ?_
      refine r_istore (lv' := [(7, .int (0 : Int32)), (4, .long v5), (0, va_rf a0), (1, .int a1), (2, .long a2), (6, .int a6)]) (x := (0 : Int32)) dX5_outlook_39 (by decide) rfl ?_
      obtain ⟨q12, hq12, h⟩ := xb h
      have Jq12 : Rn mX5_outlook 76 [(0, va_rf a0), (1, .int a1), (2, .long q12), (4, .long v5), (6, .int a6)] [] st r st' 1 := by
        obtain ⟨v13, hv13, h⟩ := xb h
        refine x_iinc (c := (1 : Int32)) (lv' := [(6, .int v13), (0, va_rf a0), (1, .int a1), (2, .long q12), (4, .long v5)]) (x := a6) (v := v13) dX5_outlook_76 rfl (by decide) (Option.some.inj hv13) (by decide) rfl ?_
        refine r_goto (tgt := 8) dX5_outlook_79 (by decide) ?_
        exact x_sub [1, 2, 3, 4, 0] rfl (ih st a0 a1 q12 v5 v13 q h J)
      exact x_sub [2, 3, 4, 1, 5, 0] rfl (R_X5_outlook_L41 n n st a0 a1 a2 v5 a6 (0 : Int32) q12 hq12 Jq12)
theorem R_X5_outlook (n : Nat) (st : xS) (a0 : Option Nat) (a1 : Int32) (rv : Int64) (h : F_X5_outlook n st a0 a1 = some rv) : Rn mX5_outlook 0 [(0, va_rf a0), (1, .int a1)] [] st (some (.long rv)) st 1 := by
  unfold F_X5_outlook at h
  refine r_lconst (v := (0 : Int64)) dX5_outlook_0 (by decide) ?_
  refine r_lstore_n (lv' := [(2, .long (0 : Int64)), (0, va_rf a0), (1, .int a1)]) (x := (0 : Int64)) dX5_outlook_1 (by decide) rfl ?_
  refine r_lconst (v := (0 : Int64)) dX5_outlook_2 (by decide) ?_
  refine r_lstore (lv' := [(4, .long (0 : Int64)), (2, .long (0 : Int64)), (0, va_rf a0), (1, .int a1)]) (x := (0 : Int64)) dX5_outlook_3 (by decide) rfl ?_
  refine r_iconst (v := (0 : Int32)) dX5_outlook_5 (by decide) ?_
  refine r_istore (lv' := [(6, .int (0 : Int32)), (4, .long (0 : Int64)), (2, .long (0 : Int64)), (0, va_rf a0), (1, .int a1)]) (x := (0 : Int32)) dX5_outlook_6 (by decide) rfl ?_
  obtain ⟨q14, hq14, h⟩ := xb h
  have Jq14 : Rn mX5_outlook 82 [(1, .int a1), (2, .long q14.1), (4, .long q14.2)] [] st (some (.long rv)) st 1 := by
    refine r_iload_n (x := a1) dX5_outlook_82 rfl ?_
    by_cases c0 : a1 = (0 : Int32)
    · replace h := (if_pos c0).symm.trans h
      refine r_tableIn (off := 25) (tgt := 108) dX5_outlook_83 (by rw [c0]; decide) (by rw [c0]; decide) (by rw [c0]; rfl) (by decide) ?_
      refine r_lload_n (x := q14.1) dX5_outlook_108 rfl ?_
      obtain rfl := Option.some.inj h
      exact r_lreturn dX5_outlook_109 rfl
    replace h := (if_neg c0).symm.trans h
    by_cases c1 : a1 = (1 : Int32)
    · replace h := (if_pos c1).symm.trans h
      refine r_tableIn (off := 27) (tgt := 110) dX5_outlook_83 (by rw [c1]; decide) (by rw [c1]; decide) (by rw [c1]; rfl) (by decide) ?_
      refine r_lload (x := q14.2) dX5_outlook_110 rfl ?_
      obtain rfl := Option.some.inj h
      exact r_lreturn dX5_outlook_112 rfl
    replace h := (if_neg c1).symm.trans h
    by_cases c2 : a1 = (2 : Int32)
    · replace h := (if_pos c2).symm.trans h
      refine r_tableIn (off := 30) (tgt := 113) dX5_outlook_83 (by rw [c2]; decide) (by rw [c2]; decide) (by rw [c2]; rfl) (by decide) ?_
      refine r_ldc2 (v := (1000000000000 : Int64)) dX5_outlook_113 xk_X5_148 ?_
      refine r_lload_n (x := q14.1) dX5_outlook_116 rfl ?_
      refine r_lsub dX5_outlook_117 ?_
      refine r_lload (x := q14.2) dX5_outlook_118 rfl ?_
      refine r_lsub dX5_outlook_120 ?_
      obtain rfl := Option.some.inj h
      exact r_lreturn dX5_outlook_121 rfl
    replace h := (if_neg c2).symm.trans h
    refine r_tableOut (tgt := 122) dX5_outlook_83 (xswD (fun k hk1 hk2 => by
      have hk : k = 0 ∨ k = 1 ∨ k = 2 := by omega
      rcases hk with rfl | rfl | rfl
      · exact c0
      · exact c1
      · exact c2)) (by decide) ?_
    refine r_ldc2 (v := (3 : Int64)) dX5_outlook_122 xk_X5_142 ?_
    refine r_lload_n (x := q14.1) dX5_outlook_125 rfl ?_
    refine r_lmul dX5_outlook_126 ?_
    refine r_lload (x := q14.2) dX5_outlook_127 rfl ?_
    refine r_ladd dX5_outlook_129 ?_
    obtain rfl := Option.some.inj h
    exact r_lreturn dX5_outlook_130 rfl
  exact x_sub [3, 4, 2, 1, 0] rfl (R_X5_outlook_L8 n n st a0 a1 (0 : Int64) (0 : Int64) (0 : Int32) q14 hq14 Jq14)
theorem S_X5_outlook (n : Nat) (st : xS) (a0 : Option Nat) (a1 : Int32) (rv : Int64) (h : F_X5_outlook n st a0 a1 = some rv) : Ct mX5_outlook [va_rf a0, .int a1] st (some (.long rv)) st 1 := by
  refine Ct.of (by decide) (by simp only [lgL_R, lgL_I, lgL_L, lgL_0]; decide) ?_
  try simp only [lvA_R]
  exact R_X5_outlook n st a0 a1 rv h
theorem R_X5_hopes_L4 (n : Nat) {r : Option Value} {st' : xS} : ∀ (k : Nat) (st : xS) (a0 : Option Nat) (a1 : Int64) (a3 : Int32) (q : (Int64 × xS)), F_X5_hopes_L4 n k st a0 a1 a3 = some q → Rn mX5_hopes 34 [(1, .long q.1)] [] q.2 r st' 5 → Rn mX5_hopes 4 [(0, va_rf a0), (1, .long a1), (3, .int a3)] [] st r st' 5 := by
  intro k
  induction k with
  | zero => intro st a0 a1 a3 q h; cases h
  | succ k ih =>
    intro st a0 a1 a3 q h J
    unfold F_X5_hopes_L4 at h
    refine r_iload_n (x := a3) dX5_hopes_4 rfl ?_
    refine x_aload_n (o := a0) dX5_hopes_5 rfl ?_
    obtain ⟨v1, hv1, h⟩ := xb h
    refine x_getR (o := a0) dX5_hopes_6 xf_X5_28 hv1 ?_
    obtain ⟨v2, hv2, h⟩ := xb h
    refine x_getI (o := v1) dX5_hopes_9 xf_X5_150 hv2 ?_
    refine r_icmp_ge (tgt := 34) dX5_hopes_12 (by decide) (fun c => ?_) (fun c => ?_)
    · replace h := (if_pos c).symm.trans h
      obtain rfl := Option.some.inj h
      exact x_sub [1] rfl J
    · replace h := (if_neg c).symm.trans h
      refine x_aload_n (o := a0) dX5_hopes_15 rfl ?_
      refine r_iload_n (x := a3) dX5_hopes_16 rfl ?_
      obtain ⟨q4, hq4, h⟩ := xb h
      obtain ⟨s3, hs3, h⟩ := xb h
      refine z_callV (as := [.int a3]) (o := a0) (r1 := none) (stk := []) (stk2 := []) (st1 := s3) (d' := 4) dX5_hopes_17 xl_X5_153 hq4 (by decide) (Nat.le_trans xs0 (by decide)) rfl rfl (S_X5_weigh n st a0 a3 s3 hs3) ?_
      refine r_lload_n (x := a1) dX5_hopes_20 rfl ?_
      refine x_aload_n (o := a0) dX5_hopes_21 rfl ?_
      refine r_iconst (v := (3 : Int32)) dX5_hopes_22 (by decide) ?_
      obtain ⟨q6, hq6, h⟩ := xb h
      obtain ⟨v5, hv5, h⟩ := xb h
      refine z_callV (as := [.int (3 : Int32)]) (o := a0) (r1 := (some (.long v5))) (stk := [.long a1]) (stk2 := [.long v5, .long a1]) (st1 := s3) (d' := 1) dX5_hopes_23 xl_X5_156 hq6 (by decide) (Nat.le_trans (xsJ xs0) (by decide)) rfl rfl (S_X5_outlook n s3 a0 (3 : Int32) v5 hv5) ?_
      refine r_ladd dX5_hopes_26 ?_
      obtain ⟨v7, hv7, h⟩ := xb h
      refine x_eqL (Option.some.inj hv7) ?_
      refine r_lstore_n (lv' := [(1, .long v7), (0, va_rf a0), (3, .int a3)]) (x := v7) dX5_hopes_27 (by decide) (congrArg (List.cons _) (xfY (xk2 0 1 _) (xfN rfl (xfY rfl rfl)))) ?_
      obtain ⟨v8, hv8, h⟩ := xb h
      refine x_iinc (c := (1 : Int32)) (lv' := [(3, .int v8), (1, .long v7), (0, va_rf a0)]) (x := a3) (v := v8) dX5_hopes_28 rfl (by decide) (Option.some.inj hv8) (by decide) rfl ?_
      refine r_goto (tgt := 4) dX5_hopes_31 (by decide) ?_
      exact x_sub [2, 1, 0] rfl (ih s3 a0 v7 v8 q h J)
theorem R_X5_hopes (n : Nat) (st : xS) (a0 : Option Nat) (rv : Int64) (st' : xS) (h : F_X5_hopes n st a0 = some (rv, st')) : Rn mX5_hopes 0 [(0, va_rf a0)] [] st (some (.long rv)) st' 5 := by
  unfold F_X5_hopes at h
  refine r_lconst (v := (0 : Int64)) dX5_hopes_0 (by decide) ?_
  refine r_lstore_n (lv' := [(1, .long (0 : Int64)), (0, va_rf a0)]) (x := (0 : Int64)) dX5_hopes_1 (by decide) (congrArg (List.cons _) (xfY (xk2 0 1 _) rfl)) ?_
  refine r_iconst (v := (0 : Int32)) dX5_hopes_2 (by decide) ?_
  refine r_istore_n (lv' := [(3, .int (0 : Int32)), (1, .long (0 : Int64)), (0, va_rf a0)]) (x := (0 : Int32)) dX5_hopes_3 (by decide) rfl ?_
  obtain ⟨q9, hq9, h⟩ := xb h
  have Jq9 : Rn mX5_hopes 34 [(1, .long q9.1)] [] q9.2 (some (.long rv)) st' 5 := by
    refine r_lload_n (x := q9.1) dX5_hopes_34 rfl ?_
    obtain ⟨rfl, rfl⟩ := Prod.mk.inj (Option.some.inj h)
    exact r_lreturn dX5_hopes_35 rfl
  exact x_sub [2, 1, 0] rfl (R_X5_hopes_L4 n n st a0 (0 : Int64) (0 : Int32) q9 hq9 Jq9)
theorem S_X5_hopes (n : Nat) (st : xS) (a0 : Option Nat) (rv : Int64) (st' : xS) (h : F_X5_hopes n st a0 = some (rv, st')) : Ct mX5_hopes [va_rf a0] st (some (.long rv)) st' 5 := by
  refine Ct.of (by decide) (by simp only [lgL_R, lgL_I, lgL_L, lgL_0]; decide) ?_
  try simp only [lvA_R]
  exact R_X5_hopes n st a0 rv st' h
theorem R_X5_go (n : Nat) (st : xS) (a0 : Option Nat) (a1 : Int32) (a2 : Int32) (st' : xS) (h : F_X5_go n st a0 a1 a2 = some st') : Rn mX5_go 0 [(0, va_rf a0), (1, .int a1), (2, .int a2)] [] st none st' 2 := by
  unfold F_X5_go at h
  refine r_iload_n (x := a1) dX5_go_0 rfl ?_
  obtain ⟨q11, hq11, h⟩ := xb h
  have Jq11 : Rn mX5_go 40 [] [] q11 none st' 2 := by
    obtain rfl := Option.some.inj h
    exact r_return dX5_go_40 rfl
  refine r_if_lt (tgt := 40) dX5_go_1 (by decide) (fun c => ?_) (fun c => ?_)
  · replace hq11 := (if_pos c).symm.trans hq11
    obtain rfl := Option.some.inj hq11
    exact x_sub [] rfl Jq11
  · replace hq11 := (if_neg c).symm.trans hq11
    refine r_iload_n (x := a1) dX5_go_4 rfl ?_
    refine r_bipush (v := (8 : Int32)) dX5_go_5 (by decide) ?_
    refine r_icmp_ge (tgt := 40) dX5_go_7 (by decide) (fun c => ?_) (fun c => ?_)
    · replace hq11 := (if_pos c).symm.trans hq11
      obtain rfl := Option.some.inj hq11
      exact x_sub [] rfl Jq11
    · replace hq11 := (if_neg c).symm.trans hq11
      refine x_aload_n (o := a0) dX5_go_10 rfl ?_
      obtain ⟨v1, hv1, hq11⟩ := xb hq11
      refine x_getR (o := a0) dX5_go_11 xf_X5_52 hv1 ?_
      refine r_iload_n (x := a1) dX5_go_14 rfl ?_
      refine r_dup2 dX5_go_15 rfl (xrf_cat _) ?_
      obtain ⟨v2, hv2, hq11⟩ := xb hq11
      refine x_iaload (o := v1) dX5_go_16 hv2 ?_
      refine x_aload_n (o := a0) dX5_go_17 rfl ?_
      obtain ⟨v3, hv3, hq11⟩ := xb hq11
      refine x_getR (o := a0) dX5_go_18 xf_X5_12 hv3 ?_
      refine x_aload_n (o := a0) dX5_go_21 rfl ?_
      obtain ⟨v4, hv4, hq11⟩ := xb hq11
      refine x_getR (o := a0) dX5_go_22 xf_X5_49 hv4 ?_
      refine r_iload_n (x := a1) dX5_go_25 rfl ?_
      obtain ⟨v5, hv5, hq11⟩ := xb hq11
      refine x_iaload (o := v4) dX5_go_26 hv5 ?_
      refine r_iload_n (x := a2) dX5_go_27 rfl ?_
      obtain ⟨q7, hq7, hq11⟩ := xb hq11
      obtain ⟨v6, hv6, hq11⟩ := xb hq11
      refine z_callV (as := [.int v5, .int a2]) (o := v3) (r1 := (some (.int v6))) (stk := [.int v2, .int a1, va_rf v1]) (stk2 := [.int v6, .int v2, .int a1, va_rf v1]) (st1 := st) (d' := 1) dX5_go_28 xl_X5_101 hq7 (by decide) (Nat.le_trans (xsI (xsI (xsA xs0))) (by decide)) rfl rfl (S_X4_apart n st v3 v5 a2 v6 hv6) ?_
      refine r_iadd dX5_go_31 ?_
      obtain ⟨s8, hs8, hq11⟩ := xb hq11
      refine x_iastore (o := v1) dX5_go_32 hs8 ?_
      refine x_aload_n (o := a0) dX5_go_33 rfl ?_
      obtain ⟨v9, hv9, hq11⟩ := xb hq11
      refine x_getR (o := a0) dX5_go_34 xf_X5_49 hv9 ?_
      refine r_iload_n (x := a1) dX5_go_37 rfl ?_
      refine r_iload_n (x := a2) dX5_go_38 rfl ?_
      obtain ⟨s10, hs10, hq11⟩ := xb hq11
      refine x_iastore (o := v9) dX5_go_39 hs10 ?_
      obtain rfl := Option.some.inj hq11
      exact x_sub [] rfl Jq11
theorem S_X5_go (n : Nat) (st : xS) (a0 : Option Nat) (a1 : Int32) (a2 : Int32) (st' : xS) (h : F_X5_go n st a0 a1 a2 = some st') : Ct mX5_go [va_rf a0, .int a1, .int a2] st none st' 2 := by
  refine Ct.of (by decide) (by simp only [lgL_R, lgL_I, lgL_L, lgL_0]; decide) ?_
  try simp only [lvA_R]
  exact R_X5_go n st a0 a1 a2 st' h
theorem R_X5_walk_L2 (n : Nat) {r : Option Value} {st' : xS} : ∀ (k : Nat) (st : xS) (a0 : Option Nat) (a1 : Int32) (a2 : Int32) (q : (xS)), F_X5_walk_L2 n k st a0 a1 a2 = some q → Rn mX5_walk 35 [(0, va_rf a0), (1, .int a1)] [] q r st' 3 → Rn mX5_walk 2 [(0, va_rf a0), (1, .int a1), (2, .int a2)] [] st r st' 3 := by
  intro k
  induction k with
  | zero => intro st a0 a1 a2 q h; cases h
  | succ k ih =>
    intro st a0 a1 a2 q h J
    unfold F_X5_walk_L2 at h
    refine r_iload_n (x := a2) dX5_walk_2 rfl ?_
    refine r_bipush (v := (8 : Int32)) dX5_walk_3 (by decide) ?_
    refine r_icmp_ge (tgt := 35) dX5_walk_5 (by decide) (fun c => ?_) (fun c => ?_)
    · replace h := (if_pos c).symm.trans h
      obtain rfl := Option.some.inj h
      exact x_sub [0, 1] rfl J
    · replace h := (if_neg c).symm.trans h
      refine x_aload_n (o := a0) dX5_walk_8 rfl ?_
      obtain ⟨v1, hv1, h⟩ := xb h
      refine x_getR (o := a0) dX5_walk_9 xf_X5_49 hv1 ?_
      refine r_iload_n (x := a2) dX5_walk_12 rfl ?_
      refine x_aload_n (o := a0) dX5_walk_13 rfl ?_
      obtain ⟨v2, hv2, h⟩ := xb h
      refine x_getR (o := a0) dX5_walk_14 xf_X5_12 hv2 ?_
      refine r_iload_n (x := a2) dX5_walk_17 rfl ?_
      obtain ⟨q4, hq4, h⟩ := xb h
      obtain ⟨v3, hv3, h⟩ := xb h
      refine z_callV (as := [.int a2]) (o := v2) (r1 := (some (.int v3))) (stk := [.int a2, va_rf v1]) (stk2 := [.int v3, .int a2, va_rf v1]) (st1 := st) (d' := 1) dX5_walk_18 xl_X5_89 hq4 (by decide) (Nat.le_trans (xsI (xsA xs0)) (by decide)) rfl rfl (S_X4_own n st v2 a2 v3 hv3) ?_
      obtain ⟨s5, hs5, h⟩ := xb h
      refine x_iastore (o := v1) dX5_walk_21 hs5 ?_
      refine x_aload_n (o := a0) dX5_walk_22 rfl ?_
      obtain ⟨v6, hv6, h⟩ := xb h
      refine x_getR (o := a0) dX5_walk_23 xf_X5_52 hv6 ?_
      refine r_iload_n (x := a2) dX5_walk_26 rfl ?_
      refine r_iconst (v := (0 : Int32)) dX5_walk_27 (by decide) ?_
      obtain ⟨s7, hs7, h⟩ := xb h
      refine x_iastore (o := v6) dX5_walk_28 hs7 ?_
      obtain ⟨v8, hv8, h⟩ := xb h
      refine x_iinc (c := (1 : Int32)) (lv' := [(2, .int v8), (0, va_rf a0), (1, .int a1)]) (x := a2) (v := v8) dX5_walk_29 rfl (by decide) (Option.some.inj hv8) (by decide) rfl ?_
      refine r_goto (tgt := 2) dX5_walk_32 (by decide) ?_
      exact x_sub [1, 2, 0] rfl (ih s7 a0 a1 v8 q h J)
theorem R_X5_walk_L37 (n : Nat) {r : Option Value} {st' : xS} : ∀ (k : Nat) (st : xS) (a0 : Option Nat) (a1 : Int32) (a2 : Int32) (q : (xS)), F_X5_walk_L37 n k st a0 a1 a2 = some q → Rn mX5_walk 116 [(0, va_rf a0)] [] q r st' 3 → Rn mX5_walk 37 [(0, va_rf a0), (1, .int a1), (2, .int a2)] [] st r st' 3 := by
  intro k
  induction k with
  | zero => intro st a0 a1 a2 q h; cases h
  | succ k ih =>
    intro st a0 a1 a2 q h J
    unfold F_X5_walk_L37 at h
    refine r_iload_n (x := a2) dX5_walk_37 rfl ?_
    refine x_aload_n (o := a0) dX5_walk_38 rfl ?_
    obtain ⟨v10, hv10, h⟩ := xb h
    refine x_getR (o := a0) dX5_walk_39 xf_X5_28 hv10 ?_
    obtain ⟨v11, hv11, h⟩ := xb h
    refine x_getI (o := v10) dX5_walk_42 xf_X5_150 hv11 ?_
    refine r_icmp_ge (tgt := 116) dX5_walk_45 (by decide) (fun c => ?_) (fun c => ?_)
    · replace h := (if_pos c).symm.trans h
      obtain rfl := Option.some.inj h
      exact x_sub [0] rfl J
    · replace h := (if_neg c).symm.trans h
      refine x_aload_n (o := a0) dX5_walk_48 rfl ?_
      obtain ⟨v12, hv12, h⟩ := xb h
      refine x_getR (o := a0) dX5_walk_49 xf_X5_28 hv12 ?_
      refine r_iload_n (x := a2) dX5_walk_52 rfl ?_
      refine r_iload_n (x := a2) dX5_walk_53 rfl ?_
      refine r_iload_n (x := a1) dX5_walk_54 rfl ?_
      obtain ⟨q13, hq13, h⟩ := xb h
      have Jq13 : Rn mX5_walk 63 [(0, va_rf a0), (1, .int a1), (2, .int a2)] [.int q13, .int a2, va_rf v12] st r st' 3 := by
        obtain ⟨q15, hq15, h⟩ := xb h
        obtain ⟨v14, hv14, h⟩ := xb h
        refine z_callV (as := [.int a2, .int q13]) (o := v12) (r1 := (some (.int v14))) (stk := []) (stk2 := [.int v14]) (st1 := st) (d' := 1) dX5_walk_63 xl_X5_81 hq15 (by decide) (Nat.le_trans xs0 (by decide)) rfl rfl (S_X6_of n st v12 a2 q13 v14 hv14) ?_
        refine r_istore_n (lv' := [(3, .int v14), (0, va_rf a0), (1, .int a1), (2, .int a2)]) (x := v14) dX5_walk_66 (by decide) rfl ?_
        refine x_aload_n (o := a0) dX5_walk_67 rfl ?_
        obtain ⟨v16, hv16, h⟩ := xb h
        refine x_getR (o := a0) dX5_walk_68 xf_X5_28 hv16 ?_
        refine r_iload_n (x := a2) dX5_walk_71 rfl ?_
        refine r_iload_n (x := a2) dX5_walk_72 rfl ?_
        refine r_iload_n (x := a1) dX5_walk_73 rfl ?_
        obtain ⟨q17, hq17, h⟩ := xb h
        have Jq17 : Rn mX5_walk 82 [(0, va_rf a0), (1, .int a1), (2, .int a2), (3, .int v14)] [.int q17, .int a2, va_rf v16] st r st' 3 := by
          obtain ⟨q19, hq19, h⟩ := xb h
          obtain ⟨v18, hv18, h⟩ := xb h
          refine z_callV (as := [.int a2, .int q17]) (o := v16) (r1 := (some (.int v18))) (stk := []) (stk2 := [.int v18]) (st1 := st) (d' := 1) dX5_walk_82 xl_X5_81 hq19 (by decide) (Nat.le_trans xs0 (by decide)) rfl rfl (S_X6_of n st v16 a2 q17 v18 hv18) ?_
          refine r_istore (lv' := [(4, .int v18), (0, va_rf a0), (1, .int a1), (2, .int a2), (3, .int v14)]) (x := v18) dX5_walk_85 (by decide) rfl ?_
          refine x_aload_n (o := a0) dX5_walk_87 rfl ?_
          refine r_iload_n (x := a2) dX5_walk_88 rfl ?_
          refine r_iload_n (x := v14) dX5_walk_89 rfl ?_
          obtain ⟨q21, hq21, h⟩ := xb h
          obtain ⟨v20, hv20, h⟩ := xb h
          refine z_callV (as := [.int a2, .int v14]) (o := a0) (r1 := (some (.int v20))) (stk := []) (stk2 := [.int v20]) (st1 := st) (d' := 2) dX5_walk_90 xl_X5_92 hq21 (by decide) (Nat.le_trans xs0 (by decide)) rfl rfl (S_X5_groundOf n st a0 a2 v14 v20 hv20) ?_
          refine r_istore (lv' := [(5, .int v20), (4, .int v18), (0, va_rf a0), (1, .int a1), (2, .int a2), (3, .int v14)]) (x := v20) dX5_walk_93 (by decide) rfl ?_
          refine x_aload_n (o := a0) dX5_walk_95 rfl ?_
          refine r_iload_n (x := v14) dX5_walk_96 rfl ?_
          refine r_iload (x := v20) dX5_walk_97 rfl ?_
          obtain ⟨q23, hq23, h⟩ := xb h
          obtain ⟨s22, hs22, h⟩ := xb h
          refine z_callV (as := [.int v14, .int v20]) (o := a0) (r1 := none) (stk := []) (stk2 := []) (st1 := s22) (d' := 2) dX5_walk_99 xl_X5_160 hq23 (by decide) (Nat.le_trans xs0 (by decide)) rfl rfl (S_X5_go n st a0 v14 v20 s22 hs22) ?_
          refine x_aload_n (o := a0) dX5_walk_102 rfl ?_
          refine r_iload (x := v18) dX5_walk_103 rfl ?_
          refine r_iload (x := v20) dX5_walk_105 rfl ?_
          obtain ⟨q25, hq25, h⟩ := xb h
          obtain ⟨s24, hs24, h⟩ := xb h
          refine z_callV (as := [.int v18, .int v20]) (o := a0) (r1 := none) (stk := []) (stk2 := []) (st1 := s24) (d' := 2) dX5_walk_107 xl_X5_160 hq25 (by decide) (Nat.le_trans xs0 (by decide)) rfl rfl (S_X5_go n s22 a0 v18 v20 s24 hs24) ?_
          obtain ⟨v26, hv26, h⟩ := xb h
          refine x_iinc (c := (1 : Int32)) (lv' := [(2, .int v26), (5, .int v20), (4, .int v18), (0, va_rf a0), (1, .int a1), (3, .int v14)]) (x := a2) (v := v26) dX5_walk_110 rfl (by decide) (Option.some.inj hv26) (by decide) rfl ?_
          refine r_goto (tgt := 37) dX5_walk_113 (by decide) ?_
          exact x_sub [3, 4, 0] rfl (ih s24 a0 a1 v26 q h J)
        refine r_icmp_ne (tgt := 81) dX5_walk_74 (by decide) (fun c => ?_) (fun c => ?_)
        · replace hq17 := (if_neg c).symm.trans hq17
          refine r_iconst (v := (1 : Int32)) dX5_walk_81 (by decide) ?_
          obtain rfl := Option.some.inj hq17
          exact x_sub [1, 2, 3, 0] rfl Jq17
        · replace hq17 := (if_pos c).symm.trans hq17
          refine r_iconst (v := (0 : Int32)) dX5_walk_77 (by decide) ?_
          refine r_goto (tgt := 82) dX5_walk_78 (by decide) ?_
          obtain rfl := Option.some.inj hq17
          exact x_sub [1, 2, 3, 0] rfl Jq17
      refine r_icmp_ne (tgt := 62) dX5_walk_55 (by decide) (fun c => ?_) (fun c => ?_)
      · replace hq13 := (if_neg c).symm.trans hq13
        refine r_iconst (v := (0 : Int32)) dX5_walk_62 (by decide) ?_
        obtain rfl := Option.some.inj hq13
        exact x_sub [0, 1, 2] rfl Jq13
      · replace hq13 := (if_pos c).symm.trans hq13
        refine r_iconst (v := (1 : Int32)) dX5_walk_58 (by decide) ?_
        refine r_goto (tgt := 63) dX5_walk_59 (by decide) ?_
        obtain rfl := Option.some.inj hq13
        exact x_sub [0, 1, 2] rfl Jq13
theorem R_X5_walk_L120 (n : Nat) {r : Option Value} {st' : xS} : ∀ (k : Nat) (st : xS) (a0 : Option Nat) (a2 : Int32) (a3 : Int32) (q : (Int32 × xS)), F_X5_walk_L120 n k st a0 a2 a3 = some q → Rn mX5_walk 154 [(2, .int q.1)] [] q.2 r st' 3 → Rn mX5_walk 120 [(0, va_rf a0), (2, .int a2), (3, .int a3)] [] st r st' 3 := by
  intro k
  induction k with
  | zero => intro st a0 a2 a3 q h; cases h
  | succ k ih =>
    intro st a0 a2 a3 q h J
    unfold F_X5_walk_L120 at h
    refine r_iload_n (x := a3) dX5_walk_120 rfl ?_
    refine r_bipush (v := (8 : Int32)) dX5_walk_121 (by decide) ?_
    refine r_icmp_ge (tgt := 154) dX5_walk_123 (by decide) (fun c => ?_) (fun c => ?_)
    · replace h := (if_pos c).symm.trans h
      obtain rfl := Option.some.inj h
      exact x_sub [1] rfl J
    · replace h := (if_neg c).symm.trans h
      refine x_aload_n (o := a0) dX5_walk_126 rfl ?_
      refine r_iload_n (x := a3) dX5_walk_127 rfl ?_
      refine x_aload_n (o := a0) dX5_walk_128 rfl ?_
      obtain ⟨v28, hv28, h⟩ := xb h
      refine x_getR (o := a0) dX5_walk_129 xf_X5_12 hv28 ?_
      refine r_iload_n (x := a3) dX5_walk_132 rfl ?_
      obtain ⟨q30, hq30, h⟩ := xb h
      obtain ⟨v29, hv29, h⟩ := xb h
      refine z_callV (as := [.int a3]) (o := v28) (r1 := (some (.int v29))) (stk := [.int a3, va_rf a0]) (stk2 := [.int v29, .int a3, va_rf a0]) (st1 := st) (d' := 1) dX5_walk_133 xl_X5_89 hq30 (by decide) (Nat.le_trans (xsI (xsA xs0)) (by decide)) rfl rfl (S_X4_own n st v28 a3 v29 hv29) ?_
      obtain ⟨q32, hq32, h⟩ := xb h
      obtain ⟨s31, hs31, h⟩ := xb h
      refine z_callV (as := [.int a3, .int v29]) (o := a0) (r1 := none) (stk := []) (stk2 := []) (st1 := s31) (d' := 2) dX5_walk_136 xl_X5_160 hq32 (by decide) (Nat.le_trans xs0 (by decide)) rfl rfl (S_X5_go n st a0 a3 v29 s31 hs31) ?_
      refine r_iload_n (x := a2) dX5_walk_139 rfl ?_
      refine x_aload_n (o := a0) dX5_walk_140 rfl ?_
      obtain ⟨v33, hv33, h⟩ := xb h
      refine x_getR (o := a0) dX5_walk_141 xf_X5_52 hv33 ?_
      refine r_iload_n (x := a3) dX5_walk_144 rfl ?_
      obtain ⟨v34, hv34, h⟩ := xb h
      refine x_iaload (o := v33) dX5_walk_145 hv34 ?_
      refine r_iadd dX5_walk_146 ?_
      obtain ⟨v35, hv35, h⟩ := xb h
      refine x_eqI (Option.some.inj hv35) ?_
      refine r_istore_n (lv' := [(2, .int v35), (0, va_rf a0), (3, .int a3)]) (x := v35) dX5_walk_147 (by decide) rfl ?_
      obtain ⟨v36, hv36, h⟩ := xb h
      refine x_iinc (c := (1 : Int32)) (lv' := [(3, .int v36), (2, .int v35), (0, va_rf a0)]) (x := a3) (v := v36) dX5_walk_148 rfl (by decide) (Option.some.inj hv36) (by decide) rfl ?_
      refine r_goto (tgt := 120) dX5_walk_151 (by decide) ?_
      exact x_sub [2, 1, 0] rfl (ih s31 a0 v35 v36 q h J)
theorem R_X5_walk (n : Nat) (st : xS) (a0 : Option Nat) (a1 : Int32) (rv : Int32) (st' : xS) (h : F_X5_walk n st a0 a1 = some (rv, st')) : Rn mX5_walk 0 [(0, va_rf a0), (1, .int a1)] [] st (some (.int rv)) st' 3 := by
  unfold F_X5_walk at h
  refine r_iconst (v := (0 : Int32)) dX5_walk_0 (by decide) ?_
  refine r_istore_n (lv' := [(2, .int (0 : Int32)), (0, va_rf a0), (1, .int a1)]) (x := (0 : Int32)) dX5_walk_1 (by decide) rfl ?_
  obtain ⟨q9, hq9, h⟩ := xb h
  have Jq9 : Rn mX5_walk 35 [(0, va_rf a0), (1, .int a1)] [] q9 (some (.int rv)) st' 3 := by
    refine r_iconst (v := (0 : Int32)) dX5_walk_35 (by decide) ?_
    refine r_istore_n (lv' := [(2, .int (0 : Int32)), (0, va_rf a0), (1, .int a1)]) (x := (0 : Int32)) dX5_walk_36 (by decide) rfl ?_
    obtain ⟨q27, hq27, h⟩ := xb h
    have Jq27 : Rn mX5_walk 116 [(0, va_rf a0)] [] q27 (some (.int rv)) st' 3 := by
      refine r_iconst (v := (0 : Int32)) dX5_walk_116 (by decide) ?_
      refine r_istore_n (lv' := [(2, .int (0 : Int32)), (0, va_rf a0)]) (x := (0 : Int32)) dX5_walk_117 (by decide) rfl ?_
      refine r_iconst (v := (0 : Int32)) dX5_walk_118 (by decide) ?_
      refine r_istore_n (lv' := [(3, .int (0 : Int32)), (2, .int (0 : Int32)), (0, va_rf a0)]) (x := (0 : Int32)) dX5_walk_119 (by decide) rfl ?_
      obtain ⟨q37, hq37, h⟩ := xb h
      have Jq37 : Rn mX5_walk 154 [(2, .int q37.1)] [] q37.2 (some (.int rv)) st' 3 := by
        refine r_iload_n (x := q37.1) dX5_walk_154 rfl ?_
        obtain ⟨rfl, rfl⟩ := Prod.mk.inj (Option.some.inj h)
        exact r_ireturn dX5_walk_155 .int rfl rfl
      exact x_sub [2, 1, 0] rfl (R_X5_walk_L120 n n q27 a0 (0 : Int32) (0 : Int32) q37 hq37 Jq37)
    exact x_sub [1, 2, 0] rfl (R_X5_walk_L37 n n q9 a0 a1 (0 : Int32) q27 hq27 Jq27)
  exact x_sub [1, 2, 0] rfl (R_X5_walk_L2 n n st a0 a1 (0 : Int32) q9 hq9 Jq9)
theorem S_X5_walk (n : Nat) (st : xS) (a0 : Option Nat) (a1 : Int32) (rv : Int32) (st' : xS) (h : F_X5_walk n st a0 a1 = some (rv, st')) : Ct mX5_walk [va_rf a0, .int a1] st (some (.int rv)) st' 3 := by
  refine Ct.of (by decide) (by simp only [lgL_R, lgL_I, lgL_L, lgL_0]; decide) ?_
  try simp only [lvA_R]
  exact R_X5_walk n st a0 a1 rv st' h
theorem R_X5_walkedBy (n : Nat) (st : xS) (a0 : Option Nat) (a1 : Int32) (rv : Int32) (h : F_X5_walkedBy n st a0 a1 = some rv) : Rn mX5_walkedBy 0 [(0, va_rf a0), (1, .int a1)] [] st (some (.int rv)) st 1 := by
  unfold F_X5_walkedBy at h
  refine x_aload_n (o := a0) dX5_walkedBy_0 rfl ?_
  obtain ⟨v1, hv1, h⟩ := xb h
  refine x_getR (o := a0) dX5_walkedBy_1 xf_X5_52 hv1 ?_
  refine r_iload_n (x := a1) dX5_walkedBy_4 rfl ?_
  obtain ⟨v2, hv2, h⟩ := xb h
  refine z_callS (as := [va_rf v1, .int a1]) (r1 := (some (.int v2))) (stk := []) (stk2 := [.int v2]) (st1 := st) (d' := 0) dX5_walkedBy_5 xl_X5_77 (by decide) (Nat.le_trans xs0 (by decide)) rfl rfl (S_X10_valueAt n st v1 a1 v2 hv2) ?_
  obtain rfl := Option.some.inj h
  exact r_ireturn dX5_walkedBy_8 .int rfl rfl
theorem S_X5_walkedBy (n : Nat) (st : xS) (a0 : Option Nat) (a1 : Int32) (rv : Int32) (h : F_X5_walkedBy n st a0 a1 = some rv) : Ct mX5_walkedBy [va_rf a0, .int a1] st (some (.int rv)) st 1 := by
  refine Ct.of (by decide) (by simp only [lgL_R, lgL_I, lgL_L, lgL_0]; decide) ?_
  try simp only [lvA_R]
  exact R_X5_walkedBy n st a0 a1 rv h
theorem R_X6_isFull (n : Nat) (st : xS) (a0 : Option Nat) (a1 : Int32) (rv : Int32) (h : F_X6_isFull n st a0 a1 = some rv) : Rn mX6_isFull 0 [(0, va_rf a0), (1, .int a1)] [] st (some (.int rv)) st 0 := by
  unfold F_X6_isFull at h
  refine r_iload_n (x := a1) dX6_isFull_0 rfl ?_
  refine r_bipush (v := (26 : Int32)) dX6_isFull_1 (by decide) ?_
  obtain ⟨q2, hq2, h⟩ := xb h
  have Jq2 : Rn mX6_isFull 20 [] [.int q2] st (some (.int rv)) st 0 := by
    obtain ⟨v3, hv3, h⟩ := xb h
    refine x_eqI (rz_inv2 hv3).1 ?_
    obtain rfl := Option.some.inj h
    exact r_ireturn dX6_isFull_20 .boolean rfl (by rcases (rz_inv2 hv3).2 with e | e <;> rw [e] <;> rfl)
  refine r_icmp_ne (tgt := 19) dX6_isFull_3 (by decide) (fun c => ?_) (fun c => ?_)
  · replace hq2 := (if_neg c).symm.trans hq2
    refine r_iconst (v := (0 : Int32)) dX6_isFull_19 (by decide) ?_
    obtain rfl := Option.some.inj hq2
    exact x_sub [] rfl Jq2
  · replace hq2 := (if_pos c).symm.trans hq2
    refine x_aload_n (o := a0) dX6_isFull_6 rfl ?_
    obtain ⟨v1, hv1, hq2⟩ := xb hq2
    refine x_getI (o := a0) dX6_isFull_7 xf_X6_15 hv1 ?_
    refine r_bipush (v := (40 : Int32)) dX6_isFull_10 (by decide) ?_
    refine r_icmp_lt (tgt := 19) dX6_isFull_12 (by decide) (fun c => ?_) (fun c => ?_)
    · replace hq2 := (if_pos c).symm.trans hq2
      refine r_iconst (v := (0 : Int32)) dX6_isFull_19 (by decide) ?_
      obtain rfl := Option.some.inj hq2
      exact x_sub [] rfl Jq2
    · replace hq2 := (if_neg c).symm.trans hq2
      refine r_iconst (v := (1 : Int32)) dX6_isFull_15 (by decide) ?_
      refine r_goto (tgt := 20) dX6_isFull_16 (by decide) ?_
      obtain rfl := Option.some.inj hq2
      exact x_sub [] rfl Jq2
theorem S_X6_isFull (n : Nat) (st : xS) (a0 : Option Nat) (a1 : Int32) (rv : Int32) (h : F_X6_isFull n st a0 a1 = some rv) : Ct mX6_isFull [va_rf a0, .int a1] st (some (.int rv)) st 0 := by
  refine Ct.of (by decide) (by simp only [lgL_R, lgL_I, lgL_L, lgL_0]; decide) ?_
  try simp only [lvA_R]
  exact R_X6_isFull n st a0 a1 rv h
theorem R_X6_leastOf (n : Nat) (st : xS) (a0 : Option Nat) (a1 : Int32) (a2 : Int32) (rv : Int32) (h : F_X6_leastOf n st a0 a1 a2 = some rv) : Rn mX6_leastOf 0 [(0, va_rf a0), (1, .int a1), (2, .int a2)] [] st (some (.int rv)) st 0 := by
  unfold F_X6_leastOf at h
  refine r_iload_n (x := a1) dX6_leastOf_0 rfl ?_
  refine r_bipush (v := (20 : Int32)) dX6_leastOf_1 (by decide) ?_
  obtain ⟨q2, hq2, h⟩ := xb h
  have Jq2 : Rn mX6_leastOf 14 [] [.int q2] st (some (.int rv)) st 0 := by
    obtain rfl := Option.some.inj h
    exact r_ireturn dX6_leastOf_14 .int rfl rfl
  refine r_icmp_ne (tgt := 13) dX6_leastOf_3 (by decide) (fun c => ?_) (fun c => ?_)
  · replace hq2 := (if_neg c).symm.trans hq2
    refine r_iconst (v := (0 : Int32)) dX6_leastOf_13 (by decide) ?_
    obtain rfl := Option.some.inj hq2
    exact x_sub [] rfl Jq2
  · replace hq2 := (if_pos c).symm.trans hq2
    refine x_aload_n (o := a0) dX6_leastOf_6 rfl ?_
    obtain ⟨v1, hv1, hq2⟩ := xb hq2
    refine x_getI (o := a0) dX6_leastOf_7 xf_X6_25 hv1 ?_
    refine r_goto (tgt := 14) dX6_leastOf_10 (by decide) ?_
    obtain rfl := Option.some.inj hq2
    exact x_sub [] rfl Jq2
theorem S_X6_leastOf (n : Nat) (st : xS) (a0 : Option Nat) (a1 : Int32) (a2 : Int32) (rv : Int32) (h : F_X6_leastOf n st a0 a1 a2 = some rv) : Ct mX6_leastOf [va_rf a0, .int a1, .int a2] st (some (.int rv)) st 0 := by
  refine Ct.of (by decide) (by simp only [lgL_R, lgL_I, lgL_L, lgL_0]; decide) ?_
  try simp only [lvA_R]
  exact R_X6_leastOf n st a0 a1 a2 rv h
theorem R_X6_mostOf (n : Nat) (st : xS) (a0 : Option Nat) (a1 : Int32) (a2 : Int32) (rv : Int32) (h : F_X6_mostOf n st a0 a1 a2 = some rv) : Rn mX6_mostOf 0 [(0, va_rf a0), (1, .int a1), (2, .int a2)] [] st (some (.int rv)) st 0 := by
  unfold F_X6_mostOf at h
  refine r_iload_n (x := a1) dX6_mostOf_0 rfl ?_
  by_cases c20 : a1 = (20 : Int32)
  · replace h := (if_pos c20).symm.trans h
    refine r_lookup (off := 27) (tgt := 28) dX6_mostOf_1 (by decide) (by rw [c20]; decide) (by decide) ?_
    refine r_sipush (v := (999 : Int32)) dX6_mostOf_28 (by decide) ?_
    obtain rfl := Option.some.inj h
    exact r_ireturn dX6_mostOf_31 .int rfl rfl
  replace h := (if_neg c20).symm.trans h
  by_cases c25 : a1 = (25 : Int32)
  · replace h := (if_pos c25).symm.trans h
    refine r_lookup (off := 31) (tgt := 32) dX6_mostOf_1 (by decide) (by rw [c25]; decide) (by decide) ?_
    refine r_bipush (v := (9 : Int32)) dX6_mostOf_32 (by decide) ?_
    obtain rfl := Option.some.inj h
    exact r_ireturn dX6_mostOf_34 .int rfl rfl
  replace h := (if_neg c25).symm.trans h
  refine r_lookup (off := 34) (tgt := 35) dX6_mostOf_1 (by decide) (xlkD2 c20 c25) (by decide) ?_
  refine r_bipush (v := (7 : Int32)) dX6_mostOf_35 (by decide) ?_
  obtain rfl := Option.some.inj h
  exact r_ireturn dX6_mostOf_37 .int rfl rfl
theorem S_X6_mostOf (n : Nat) (st : xS) (a0 : Option Nat) (a1 : Int32) (a2 : Int32) (rv : Int32) (h : F_X6_mostOf n st a0 a1 a2 = some rv) : Ct mX6_mostOf [va_rf a0, .int a1, .int a2] st (some (.int rv)) st 0 := by
  refine Ct.of (by decide) (by simp only [lgL_R, lgL_I, lgL_L, lgL_0]; decide) ?_
  try simp only [lvA_R]
  exact R_X6_mostOf n st a0 a1 a2 rv h
theorem R_X6_addGame (n : Nat) (st : xS) (a0 : Option Nat) (a1 : Int32) (a2 : Int32) (st' : xS) (h : F_X6_addGame n st a0 a1 a2 = some st') : Rn mX6_addGame 0 [(0, va_rf a0), (1, .int a1), (2, .int a2)] [] st none st' 1 := by
  unfold F_X6_addGame at h
  refine r_bipush (v := (6 : Int32)) dX6_addGame_0 (by decide) ?_
  refine x_aload_n (o := a0) dX6_addGame_2 rfl ?_
  obtain ⟨v1, hv1, h⟩ := xb h
  refine x_getI (o := a0) dX6_addGame_3 xf_X6_15 hv1 ?_
  refine r_imul dX6_addGame_6 ?_
  obtain ⟨v2, hv2, h⟩ := xb h
  refine x_eqI (Option.some.inj hv2) ?_
  refine r_istore_n (lv' := [(3, .int v2), (0, va_rf a0), (1, .int a1), (2, .int a2)]) (x := v2) dX6_addGame_7 (by decide) rfl ?_
  refine x_aload_n (o := a0) dX6_addGame_8 rfl ?_
  obtain ⟨v3, hv3, h⟩ := xb h
  refine x_getR (o := a0) dX6_addGame_9 xf_X6_9 hv3 ?_
  refine r_iload_n (x := v2) dX6_addGame_12 rfl ?_
  refine r_iconst (v := (0 : Int32)) dX6_addGame_13 (by decide) ?_
  refine r_iadd dX6_addGame_14 ?_
  refine r_iload_n (x := a1) dX6_addGame_15 rfl ?_
  obtain ⟨s4, hs4, h⟩ := xb h
  refine z_callS (as := [va_rf v3, .int (v2 + (0 : Int32)), .int a1]) (r1 := none) (stk := []) (stk2 := []) (st1 := s4) (d' := 0) dX6_addGame_16 xl_X6_41 (by decide) (Nat.le_trans xs0 (by decide)) rfl rfl (S_X10_setAt n st v3 (v2 + (0 : Int32)) a1 s4 hs4) ?_
  refine x_aload_n (o := a0) dX6_addGame_19 rfl ?_
  obtain ⟨v5, hv5, h⟩ := xb h
  refine x_getR (o := a0) dX6_addGame_20 xf_X6_9 hv5 ?_
  refine r_iload_n (x := v2) dX6_addGame_23 rfl ?_
  refine r_iconst (v := (1 : Int32)) dX6_addGame_24 (by decide) ?_
  refine r_iadd dX6_addGame_25 ?_
  refine r_iload_n (x := a2) dX6_addGame_26 rfl ?_
  obtain ⟨s6, hs6, h⟩ := xb h
  refine z_callS (as := [va_rf v5, .int (v2 + (1 : Int32)), .int a2]) (r1 := none) (stk := []) (stk2 := []) (st1 := s6) (d' := 0) dX6_addGame_27 xl_X6_41 (by decide) (Nat.le_trans xs0 (by decide)) rfl rfl (S_X10_setAt n s4 v5 (v2 + (1 : Int32)) a2 s6 hs6) ?_
  refine x_aload_n (o := a0) dX6_addGame_30 rfl ?_
  obtain ⟨v7, hv7, h⟩ := xb h
  refine x_getR (o := a0) dX6_addGame_31 xf_X6_9 hv7 ?_
  refine r_iload_n (x := v2) dX6_addGame_34 rfl ?_
  refine r_iconst (v := (2 : Int32)) dX6_addGame_35 (by decide) ?_
  refine r_iadd dX6_addGame_36 ?_
  refine x_aload_n (o := a0) dX6_addGame_37 rfl ?_
  obtain ⟨v8, hv8, h⟩ := xb h
  refine x_getI (o := a0) dX6_addGame_38 xf_X6_25 hv8 ?_
  obtain ⟨s9, hs9, h⟩ := xb h
  refine z_callS (as := [va_rf v7, .int (v2 + (2 : Int32)), .int v8]) (r1 := none) (stk := []) (stk2 := []) (st1 := s9) (d' := 0) dX6_addGame_41 xl_X6_41 (by decide) (Nat.le_trans xs0 (by decide)) rfl rfl (S_X10_setAt n s6 v7 (v2 + (2 : Int32)) v8 s9 hs9) ?_
  refine x_aload_n (o := a0) dX6_addGame_44 rfl ?_
  obtain ⟨v10, hv10, h⟩ := xb h
  refine x_getR (o := a0) dX6_addGame_45 xf_X6_9 hv10 ?_
  refine r_iload_n (x := v2) dX6_addGame_48 rfl ?_
  refine r_iconst (v := (3 : Int32)) dX6_addGame_49 (by decide) ?_
  refine r_iadd dX6_addGame_50 ?_
  refine x_aload_n (o := a0) dX6_addGame_51 rfl ?_
  obtain ⟨v11, hv11, h⟩ := xb h
  refine x_getI (o := a0) dX6_addGame_52 xf_X6_28 hv11 ?_
  obtain ⟨s12, hs12, h⟩ := xb h
  refine z_callS (as := [va_rf v10, .int (v2 + (3 : Int32)), .int v11]) (r1 := none) (stk := []) (stk2 := []) (st1 := s12) (d' := 0) dX6_addGame_55 xl_X6_41 (by decide) (Nat.le_trans xs0 (by decide)) rfl rfl (S_X10_setAt n s9 v10 (v2 + (3 : Int32)) v11 s12 hs12) ?_
  refine x_aload_n (o := a0) dX6_addGame_58 rfl ?_
  obtain ⟨v13, hv13, h⟩ := xb h
  refine x_getR (o := a0) dX6_addGame_59 xf_X6_9 hv13 ?_
  refine r_iload_n (x := v2) dX6_addGame_62 rfl ?_
  refine r_iconst (v := (4 : Int32)) dX6_addGame_63 (by decide) ?_
  refine r_iadd dX6_addGame_64 ?_
  refine x_aload_n (o := a0) dX6_addGame_65 rfl ?_
  obtain ⟨v14, hv14, h⟩ := xb h
  refine x_getI (o := a0) dX6_addGame_66 xf_X6_31 hv14 ?_
  obtain ⟨s15, hs15, h⟩ := xb h
  refine z_callS (as := [va_rf v13, .int (v2 + (4 : Int32)), .int v14]) (r1 := none) (stk := []) (stk2 := []) (st1 := s15) (d' := 0) dX6_addGame_69 xl_X6_41 (by decide) (Nat.le_trans xs0 (by decide)) rfl rfl (S_X10_setAt n s12 v13 (v2 + (4 : Int32)) v14 s15 hs15) ?_
  refine x_aload_n (o := a0) dX6_addGame_72 rfl ?_
  obtain ⟨v16, hv16, h⟩ := xb h
  refine x_getR (o := a0) dX6_addGame_73 xf_X6_9 hv16 ?_
  refine r_iload_n (x := v2) dX6_addGame_76 rfl ?_
  refine r_iconst (v := (5 : Int32)) dX6_addGame_77 (by decide) ?_
  refine r_iadd dX6_addGame_78 ?_
  refine x_aload_n (o := a0) dX6_addGame_79 rfl ?_
  obtain ⟨v17, hv17, h⟩ := xb h
  refine x_getI (o := a0) dX6_addGame_80 xf_X6_34 hv17 ?_
  obtain ⟨s18, hs18, h⟩ := xb h
  refine z_callS (as := [va_rf v16, .int (v2 + (5 : Int32)), .int v17]) (r1 := none) (stk := []) (stk2 := []) (st1 := s18) (d' := 0) dX6_addGame_83 xl_X6_41 (by decide) (Nat.le_trans xs0 (by decide)) rfl rfl (S_X10_setAt n s15 v16 (v2 + (5 : Int32)) v17 s18 hs18) ?_
  refine x_aload_n (o := a0) dX6_addGame_86 rfl ?_
  refine x_dupR (o := a0) dX6_addGame_87 ?_
  obtain ⟨v19, hv19, h⟩ := xb h
  refine x_getI (o := a0) dX6_addGame_88 xf_X6_15 hv19 ?_
  refine r_iconst (v := (1 : Int32)) dX6_addGame_91 (by decide) ?_
  refine r_iadd dX6_addGame_92 ?_
  obtain ⟨s20, hs20, h⟩ := xb h
  refine x_putI (o := a0) dX6_addGame_93 (xp_X6_15 _) hs20 ?_
  refine x_aload_n (o := a0) dX6_addGame_96 rfl ?_
  refine x_aload_n (o := a0) dX6_addGame_97 rfl ?_
  obtain ⟨v21, hv21, h⟩ := xb h
  refine x_getI (o := a0) dX6_addGame_98 xf_X6_19 hv21 ?_
  refine r_iload_n (x := a1) dX6_addGame_101 rfl ?_
  refine r_iload_n (x := a2) dX6_addGame_102 rfl ?_
  refine r_mmax dX6_addGame_103 xm_X6_45 xm1_max xm2 xm3_max (by decide) (Nat.le_trans (xsI (xsA xs0)) (by decide)) ?_
  refine r_mmax dX6_addGame_106 xm_X6_45 xm1_max xm2 xm3_max (by decide) (Nat.le_trans (xsA xs0) (by decide)) ?_
  obtain ⟨s22, hs22, h⟩ := xb h
  refine x_putI (o := a0) dX6_addGame_109 (xp_X6_19 _) hs22 ?_
  refine x_aload_n (o := a0) dX6_addGame_112 rfl ?_
  refine x_aload_n (o := a0) dX6_addGame_113 rfl ?_
  obtain ⟨v23, hv23, h⟩ := xb h
  refine x_getI (o := a0) dX6_addGame_114 xf_X6_22 hv23 ?_
  refine x_aload_n (o := a0) dX6_addGame_117 rfl ?_
  obtain ⟨v24, hv24, h⟩ := xb h
  refine x_getI (o := a0) dX6_addGame_118 xf_X6_34 hv24 ?_
  refine r_mmax dX6_addGame_121 xm_X6_45 xm1_max xm2 xm3_max (by decide) (Nat.le_trans (xsA xs0) (by decide)) ?_
  obtain ⟨s25, hs25, h⟩ := xb h
  refine x_putI (o := a0) dX6_addGame_124 (xp_X6_22 _) hs25 ?_
  refine x_aload_n (o := a0) dX6_addGame_127 rfl ?_
  refine r_iconst (v := (-1 : Int32)) dX6_addGame_128 (by decide) ?_
  obtain ⟨s26, hs26, h⟩ := xb h
  refine x_putI (o := a0) dX6_addGame_129 (xp_X6_34 _) hs26 ?_
  obtain rfl := Option.some.inj h
  exact r_return dX6_addGame_132 rfl
theorem S_X6_addGame (n : Nat) (st : xS) (a0 : Option Nat) (a1 : Int32) (a2 : Int32) (st' : xS) (h : F_X6_addGame n st a0 a1 a2 = some st') : Ct mX6_addGame [va_rf a0, .int a1, .int a2] st none st' 1 := by
  refine Ct.of (by decide) (by simp only [lgL_R, lgL_I, lgL_L, lgL_0]; decide) ?_
  try simp only [lvA_R]
  exact R_X6_addGame n st a0 a1 a2 st' h
theorem R_X6_take (n : Nat) (st : xS) (a0 : Option Nat) (a1 : Int32) (a2 : Int32) (a3 : Int32) (a4 : Int32) (st' : xS) (h : F_X6_take n st a0 a1 a2 a3 a4 = some st') : Rn mX6_take 0 [(0, va_rf a0), (1, .int a1), (2, .int a2), (3, .int a3), (4, .int a4)] [] st none st' 2 := by
  unfold F_X6_take at h
  refine r_iload_n (x := a1) dX6_take_0 rfl ?_
  obtain ⟨q9, hq9, h⟩ := xb h
  have Jq9 : Rn mX6_take 94 [] [] q9 none st' 2 := by
    obtain rfl := Option.some.inj h
    exact r_return dX6_take_94 rfl
  by_cases c20 : a1 = (20 : Int32)
  · replace hq9 := (if_pos c20).symm.trans hq9
    refine r_tableIn (off := 39) (tgt := 40) dX6_take_1 (by rw [c20]; decide) (by rw [c20]; decide) (by rw [c20]; rfl) (by decide) ?_
    refine x_aload_n (o := a0) dX6_take_40 rfl ?_
    refine r_iload_n (x := a2) dX6_take_41 rfl ?_
    obtain ⟨s1, hs1, hq9⟩ := xb hq9
    refine x_putI (o := a0) dX6_take_42 (xp_X6_25 _) hs1 ?_
    refine r_goto (tgt := 94) dX6_take_45 (by decide) ?_
    obtain rfl := Option.some.inj hq9
    exact x_sub [] rfl Jq9
  replace hq9 := (if_neg c20).symm.trans hq9
  by_cases c21 : a1 = (21 : Int32)
  · replace hq9 := (if_pos c21).symm.trans hq9
    refine r_tableIn (off := 47) (tgt := 48) dX6_take_1 (by rw [c21]; decide) (by rw [c21]; decide) (by rw [c21]; rfl) (by decide) ?_
    refine x_aload_n (o := a0) dX6_take_48 rfl ?_
    refine r_iconst (v := (1 : Int32)) dX6_take_49 (by decide) ?_
    obtain ⟨s2, hs2, hq9⟩ := xb hq9
    refine x_putI (o := a0) dX6_take_50 (xp_X6_28 _) hs2 ?_
    refine r_goto (tgt := 94) dX6_take_53 (by decide) ?_
    obtain rfl := Option.some.inj hq9
    exact x_sub [] rfl Jq9
  replace hq9 := (if_neg c21).symm.trans hq9
  by_cases c22 : a1 = (22 : Int32)
  · replace hq9 := (if_pos c22).symm.trans hq9
    refine r_tableIn (off := 55) (tgt := 56) dX6_take_1 (by rw [c22]; decide) (by rw [c22]; decide) (by rw [c22]; rfl) (by decide) ?_
    refine x_aload_n (o := a0) dX6_take_56 rfl ?_
    refine r_iconst (v := (0 : Int32)) dX6_take_57 (by decide) ?_
    obtain ⟨s3, hs3, hq9⟩ := xb hq9
    refine x_putI (o := a0) dX6_take_58 (xp_X6_28 _) hs3 ?_
    refine r_goto (tgt := 94) dX6_take_61 (by decide) ?_
    obtain rfl := Option.some.inj hq9
    exact x_sub [] rfl Jq9
  replace hq9 := (if_neg c22).symm.trans hq9
  by_cases c23 : a1 = (23 : Int32)
  · replace hq9 := (if_pos c23).symm.trans hq9
    refine r_tableIn (off := 63) (tgt := 64) dX6_take_1 (by rw [c23]; decide) (by rw [c23]; decide) (by rw [c23]; rfl) (by decide) ?_
    refine x_aload_n (o := a0) dX6_take_64 rfl ?_
    refine r_iconst (v := (1 : Int32)) dX6_take_65 (by decide) ?_
    obtain ⟨s4, hs4, hq9⟩ := xb hq9
    refine x_putI (o := a0) dX6_take_66 (xp_X6_31 _) hs4 ?_
    refine r_goto (tgt := 94) dX6_take_69 (by decide) ?_
    obtain rfl := Option.some.inj hq9
    exact x_sub [] rfl Jq9
  replace hq9 := (if_neg c23).symm.trans hq9
  by_cases c24 : a1 = (24 : Int32)
  · replace hq9 := (if_pos c24).symm.trans hq9
    refine r_tableIn (off := 71) (tgt := 72) dX6_take_1 (by rw [c24]; decide) (by rw [c24]; decide) (by rw [c24]; rfl) (by decide) ?_
    refine x_aload_n (o := a0) dX6_take_72 rfl ?_
    refine r_iconst (v := (0 : Int32)) dX6_take_73 (by decide) ?_
    obtain ⟨s5, hs5, hq9⟩ := xb hq9
    refine x_putI (o := a0) dX6_take_74 (xp_X6_31 _) hs5 ?_
    refine r_goto (tgt := 94) dX6_take_77 (by decide) ?_
    obtain rfl := Option.some.inj hq9
    exact x_sub [] rfl Jq9
  replace hq9 := (if_neg c24).symm.trans hq9
  by_cases c25 : a1 = (25 : Int32)
  · replace hq9 := (if_pos c25).symm.trans hq9
    refine r_tableIn (off := 79) (tgt := 80) dX6_take_1 (by rw [c25]; decide) (by rw [c25]; decide) (by rw [c25]; rfl) (by decide) ?_
    refine x_aload_n (o := a0) dX6_take_80 rfl ?_
    refine r_iload_n (x := a2) dX6_take_81 rfl ?_
    obtain ⟨s6, hs6, hq9⟩ := xb hq9
    refine x_putI (o := a0) dX6_take_82 (xp_X6_34 _) hs6 ?_
    refine r_goto (tgt := 94) dX6_take_85 (by decide) ?_
    obtain rfl := Option.some.inj hq9
    exact x_sub [] rfl Jq9
  replace hq9 := (if_neg c25).symm.trans hq9
  refine r_tableOut (tgt := 88) dX6_take_1 (xswD (fun k hk1 hk2 => by
    have hk : k = 20 ∨ k = 21 ∨ k = 22 ∨ k = 23 ∨ k = 24 ∨ k = 25 := by omega
    rcases hk with rfl | rfl | rfl | rfl | rfl | rfl
    · exact c20
    · exact c21
    · exact c22
    · exact c23
    · exact c24
    · exact c25)) (by decide) ?_
  refine x_aload_n (o := a0) dX6_take_88 rfl ?_
  refine r_iload_n (x := a2) dX6_take_89 rfl ?_
  refine r_iload_n (x := a3) dX6_take_90 rfl ?_
  obtain ⟨q8, hq8, hq9⟩ := xb hq9
  obtain ⟨s7, hs7, hq9⟩ := xb hq9
  refine z_callV (as := [.int a2, .int a3]) (o := a0) (r1 := none) (stk := []) (stk2 := []) (st1 := s7) (d' := 1) dX6_take_91 xl_X6_37 hq8 (by decide) (Nat.le_trans xs0 (by decide)) rfl rfl (S_X6_addGame n st a0 a2 a3 s7 hs7) ?_
  obtain rfl := Option.some.inj hq9
  exact x_sub [] rfl Jq9
theorem S_X6_take (n : Nat) (st : xS) (a0 : Option Nat) (a1 : Int32) (a2 : Int32) (a3 : Int32) (a4 : Int32) (st' : xS) (h : F_X6_take n st a0 a1 a2 a3 a4 = some st') : Ct mX6_take [va_rf a0, .int a1, .int a2, .int a3, .int a4] st none st' 2 := by
  refine Ct.of (by decide) (by simp only [lgL_R, lgL_I, lgL_L, lgL_0]; decide) ?_
  try simp only [lvA_R]
  exact R_X6_take n st a0 a1 a2 a3 a4 st' h
theorem R_X6_hasGame (n : Nat) (st : xS) (a0 : Option Nat) (a1 : Int32) (rv : Int32) (h : F_X6_hasGame n st a0 a1 = some rv) : Rn mX6_hasGame 0 [(0, va_rf a0), (1, .int a1)] [] st (some (.int rv)) st 0 := by
  unfold F_X6_hasGame at h
  refine r_iload_n (x := a1) dX6_hasGame_0 rfl ?_
  obtain ⟨q2, hq2, h⟩ := xb h
  have Jq2 : Rn mX6_hasGame 17 [] [.int q2] st (some (.int rv)) st 0 := by
    obtain ⟨v3, hv3, h⟩ := xb h
    refine x_eqI (rz_inv2 hv3).1 ?_
    obtain rfl := Option.some.inj h
    exact r_ireturn dX6_hasGame_17 .boolean rfl (by rcases (rz_inv2 hv3).2 with e | e <;> rw [e] <;> rfl)
  refine r_if_lt (tgt := 16) dX6_hasGame_1 (by decide) (fun c => ?_) (fun c => ?_)
  · replace hq2 := (if_pos c).symm.trans hq2
    refine r_iconst (v := (0 : Int32)) dX6_hasGame_16 (by decide) ?_
    obtain rfl := Option.some.inj hq2
    exact x_sub [] rfl Jq2
  · replace hq2 := (if_neg c).symm.trans hq2
    refine r_iload_n (x := a1) dX6_hasGame_4 rfl ?_
    refine x_aload_n (o := a0) dX6_hasGame_5 rfl ?_
    obtain ⟨v1, hv1, hq2⟩ := xb hq2
    refine x_getI (o := a0) dX6_hasGame_6 xf_X6_15 hv1 ?_
    refine r_icmp_ge (tgt := 16) dX6_hasGame_9 (by decide) (fun c => ?_) (fun c => ?_)
    · replace hq2 := (if_pos c).symm.trans hq2
      refine r_iconst (v := (0 : Int32)) dX6_hasGame_16 (by decide) ?_
      obtain rfl := Option.some.inj hq2
      exact x_sub [] rfl Jq2
    · replace hq2 := (if_neg c).symm.trans hq2
      refine r_iconst (v := (1 : Int32)) dX6_hasGame_12 (by decide) ?_
      refine r_goto (tgt := 17) dX6_hasGame_13 (by decide) ?_
      obtain rfl := Option.some.inj hq2
      exact x_sub [] rfl Jq2
theorem S_X6_hasGame (n : Nat) (st : xS) (a0 : Option Nat) (a1 : Int32) (rv : Int32) (h : F_X6_hasGame n st a0 a1 = some rv) : Ct mX6_hasGame [va_rf a0, .int a1] st (some (.int rv)) st 0 := by
  refine Ct.of (by decide) (by simp only [lgL_R, lgL_I, lgL_L, lgL_0]; decide) ?_
  try simp only [lvA_R]
  exact R_X6_hasGame n st a0 a1 rv h
theorem R_X6_hosted_L5 (n : Nat) {r : Option Value} {st' : xS} : ∀ (k : Nat) (st : xS) (a0 : Option Nat) (a1 : Int32) (a2 : Int32) (a3 : Int32) (a4 : Int32) (q : (Int32)), F_X6_hosted_L5 n k st a0 a1 a2 a3 a4 = some q → Rn mX6_hosted 45 [(3, .int q)] [] st r st' 2 → Rn mX6_hosted 5 [(0, va_rf a0), (1, .int a1), (2, .int a2), (3, .int a3), (4, .int a4)] [] st r st' 2 := by
  intro k
  induction k with
  | zero => intro st a0 a1 a2 a3 a4 q h; cases h
  | succ k ih =>
    intro st a0 a1 a2 a3 a4 q h J
    unfold F_X6_hosted_L5 at h
    refine r_iload (x := a4) dX6_hosted_5 rfl ?_
    refine x_aload_n (o := a0) dX6_hosted_7 rfl ?_
    obtain ⟨v1, hv1, h⟩ := xb h
    refine x_getI (o := a0) dX6_hosted_8 xf_X6_15 hv1 ?_
    refine r_icmp_ge (tgt := 45) dX6_hosted_11 (by decide) (fun c => ?_) (fun c => ?_)
    · replace h := (if_pos c).symm.trans h
      obtain rfl := Option.some.inj h
      exact x_sub [3] rfl J
    · replace h := (if_neg c).symm.trans h
      refine x_aload_n (o := a0) dX6_hosted_14 rfl ?_
      refine r_iload (x := a4) dX6_hosted_15 rfl ?_
      refine r_iconst (v := (0 : Int32)) dX6_hosted_17 (by decide) ?_
      obtain ⟨q3, hq3, h⟩ := xb h
      obtain ⟨v2, hv2, h⟩ := xb h
      refine z_callV (as := [.int a4, .int (0 : Int32)]) (o := a0) (r1 := (some (.int v2))) (stk := []) (stk2 := [.int v2]) (st1 := st) (d' := 1) dX6_hosted_18 xl_X6_63 hq3 (by decide) (Nat.le_trans xs0 (by decide)) rfl rfl (S_X6_of n st a0 a4 (0 : Int32) v2 hv2) ?_
      refine r_iload_n (x := a1) dX6_hosted_21 rfl ?_
      obtain ⟨q7, hq7, h⟩ := xb h
      have Jq7 : Rn mX6_hosted 39 [(0, va_rf a0), (1, .int a1), (2, .int a2), (3, .int q7), (4, .int a4)] [] st r st' 2 := by
        obtain ⟨v8, hv8, h⟩ := xb h
        refine x_iinc (c := (1 : Int32)) (lv' := [(4, .int v8), (0, va_rf a0), (1, .int a1), (2, .int a2), (3, .int q7)]) (x := a4) (v := v8) dX6_hosted_39 rfl (by decide) (Option.some.inj hv8) (by decide) rfl ?_
        refine r_goto (tgt := 5) dX6_hosted_42 (by decide) ?_
        exact x_sub [1, 2, 3, 4, 0] rfl (ih st a0 a1 a2 q7 v8 q h J)
      refine r_icmp_ne (tgt := 39) dX6_hosted_22 (by decide) (fun c => ?_) (fun c => ?_)
      · replace hq7 := (if_neg c).symm.trans hq7
        obtain rfl := Option.some.inj hq7
        exact x_sub [0, 1, 2, 3, 4] rfl Jq7
      · replace hq7 := (if_pos c).symm.trans hq7
        refine x_aload_n (o := a0) dX6_hosted_25 rfl ?_
        refine r_iload (x := a4) dX6_hosted_26 rfl ?_
        refine r_iconst (v := (1 : Int32)) dX6_hosted_28 (by decide) ?_
        obtain ⟨q5, hq5, hq7⟩ := xb hq7
        obtain ⟨v4, hv4, hq7⟩ := xb hq7
        refine z_callV (as := [.int a4, .int (1 : Int32)]) (o := a0) (r1 := (some (.int v4))) (stk := []) (stk2 := [.int v4]) (st1 := st) (d' := 1) dX6_hosted_29 xl_X6_63 hq5 (by decide) (Nat.le_trans xs0 (by decide)) rfl rfl (S_X6_of n st a0 a4 (1 : Int32) v4 hv4) ?_
        refine r_iload_n (x := a2) dX6_hosted_32 rfl ?_
        refine r_icmp_ne (tgt := 39) dX6_hosted_33 (by decide) (fun c => ?_) (fun c => ?_)
        · replace hq7 := (if_neg c).symm.trans hq7
          obtain rfl := Option.some.inj hq7
          exact x_sub [0, 1, 2, 3, 4] rfl Jq7
        · replace hq7 := (if_pos c).symm.trans hq7
          obtain ⟨v6, hv6, hq7⟩ := xb hq7
          refine x_iinc (c := (1 : Int32)) (lv' := [(3, .int v6), (0, va_rf a0), (1, .int a1), (2, .int a2), (4, .int a4)]) (x := a3) (v := v6) dX6_hosted_36 rfl (by decide) (Option.some.inj hv6) (by decide) rfl ?_
          obtain rfl := Option.some.inj hq7
          exact x_sub [1, 2, 3, 0, 4] rfl Jq7
theorem R_X6_hosted (n : Nat) (st : xS) (a0 : Option Nat) (a1 : Int32) (a2 : Int32) (rv : Int32) (h : F_X6_hosted n st a0 a1 a2 = some rv) : Rn mX6_hosted 0 [(0, va_rf a0), (1, .int a1), (2, .int a2)] [] st (some (.int rv)) st 2 := by
  unfold F_X6_hosted at h
  refine r_iconst (v := (0 : Int32)) dX6_hosted_0 (by decide) ?_
  refine r_istore_n (lv' := [(3, .int (0 : Int32)), (0, va_rf a0), (1, .int a1), (2, .int a2)]) (x := (0 : Int32)) dX6_hosted_1 (by decide) rfl ?_
  refine r_iconst (v := (0 : Int32)) dX6_hosted_2 (by decide) ?_
  refine r_istore (lv' := [(4, .int (0 : Int32)), (3, .int (0 : Int32)), (0, va_rf a0), (1, .int a1), (2, .int a2)]) (x := (0 : Int32)) dX6_hosted_3 (by decide) rfl ?_
  obtain ⟨q9, hq9, h⟩ := xb h
  have Jq9 : Rn mX6_hosted 45 [(3, .int q9)] [] st (some (.int rv)) st 2 := by
    refine r_iload_n (x := q9) dX6_hosted_45 rfl ?_
    obtain rfl := Option.some.inj h
    exact r_ireturn dX6_hosted_46 .int rfl rfl
  exact x_sub [2, 3, 4, 1, 0] rfl (R_X6_hosted_L5 n n st a0 a1 a2 (0 : Int32) (0 : Int32) q9 hq9 Jq9)
theorem S_X6_hosted (n : Nat) (st : xS) (a0 : Option Nat) (a1 : Int32) (a2 : Int32) (rv : Int32) (h : F_X6_hosted n st a0 a1 a2 = some rv) : Ct mX6_hosted [va_rf a0, .int a1, .int a2] st (some (.int rv)) st 2 := by
  refine Ct.of (by decide) (by simp only [lgL_R, lgL_I, lgL_L, lgL_0]; decide) ?_
  try simp only [lvA_R]
  exact R_X6_hosted n st a0 a1 a2 rv h
theorem R_X7_init (n : Nat) (st : xS) (a0 : Option Nat) (st' : xS) (h : F_X7_init n st a0 = some st') : Rn mX7_init 0 [(0, va_rf a0)] [] st none st' 1 := by
  unfold F_X7_init at h
  refine x_aload_n (o := a0) dX7_init_0 rfl ?_
  obtain ⟨b1, hb1, h⟩ := xb h
  refine x_objInit (o := a0) dX7_init_1 xo_X7_3 xo_2 xo_3 (by decide) (Nat.le_trans xs0 (by decide)) hb1 ?_
  refine x_aload_n (o := a0) dX7_init_4 rfl ?_
  refine r_iconst (v := (0 : Int32)) dX7_init_5 (by decide) ?_
  obtain ⟨s2, hs2, h⟩ := xb h
  obtain ⟨o3, ho3, h⟩ := xb h
  refine x_newarray (t := 2) (o := o3) dX7_init_6 (by decide) rfl xar_2 (by decide) (by decide) (by decide) (Option.some.inj hs2) (Option.some.inj ho3) ?_
  obtain ⟨s4, hs4, h⟩ := xb h
  refine x_putR (o := a0) (x := o3) dX7_init_8 (xp_X7_9 _) (Or.inr ⟨_, rfl⟩) hs4 ?_
  refine x_aload_n (o := a0) dX7_init_11 rfl ?_
  refine r_iconst (v := (0 : Int32)) dX7_init_12 (by decide) ?_
  obtain ⟨s5, hs5, h⟩ := xb h
  refine x_putI (o := a0) dX7_init_13 (xp_X7_15 _) hs5 ?_
  refine x_aload_n (o := a0) dX7_init_16 rfl ?_
  refine r_iconst (v := (0 : Int32)) dX7_init_17 (by decide) ?_
  obtain ⟨s6, hs6, h⟩ := xb h
  refine x_putI (o := a0) dX7_init_18 (xp_X7_19 _) hs6 ?_
  refine x_aload_n (o := a0) dX7_init_21 rfl ?_
  refine r_iconst (v := (0 : Int32)) dX7_init_22 (by decide) ?_
  obtain ⟨s7, hs7, h⟩ := xb h
  refine x_putI (o := a0) dX7_init_23 (xp_X7_22 _) hs7 ?_
  refine x_aload_n (o := a0) dX7_init_26 rfl ?_
  refine r_iconst (v := (0 : Int32)) dX7_init_27 (by decide) ?_
  obtain ⟨s8, hs8, h⟩ := xb h
  refine x_putI (o := a0) dX7_init_28 (xp_X7_25 _) hs8 ?_
  refine x_aload_n (o := a0) dX7_init_31 rfl ?_
  refine r_iconst (v := (0 : Int32)) dX7_init_32 (by decide) ?_
  obtain ⟨s9, hs9, h⟩ := xb h
  refine x_putI (o := a0) dX7_init_33 (xp_X7_28 _) hs9 ?_
  refine x_aload_n (o := a0) dX7_init_36 rfl ?_
  refine r_iconst (v := (3 : Int32)) dX7_init_37 (by decide) ?_
  obtain ⟨s10, hs10, h⟩ := xb h
  obtain ⟨o11, ho11, h⟩ := xb h
  refine x_newarray (t := 0) (o := o11) dX7_init_38 (by decide) rfl xar_0 (by decide) (by decide) (by decide) (Option.some.inj hs10) (Option.some.inj ho11) ?_
  obtain ⟨s12, hs12, h⟩ := xb h
  refine x_putR (o := a0) (x := o11) dX7_init_40 xp_X7_31 (Or.inr ⟨_, rfl⟩) hs12 ?_
  refine x_aload_n (o := a0) dX7_init_43 rfl ?_
  refine r_iconst (v := (3 : Int32)) dX7_init_44 (by decide) ?_
  obtain ⟨s13, hs13, h⟩ := xb h
  obtain ⟨o14, ho14, h⟩ := xb h
  refine x_newarray (t := 0) (o := o14) dX7_init_45 (by decide) rfl xar_0 (by decide) (by decide) (by decide) (Option.some.inj hs13) (Option.some.inj ho14) ?_
  obtain ⟨s15, hs15, h⟩ := xb h
  refine x_putR (o := a0) (x := o14) dX7_init_47 xp_X7_35 (Or.inr ⟨_, rfl⟩) hs15 ?_
  refine x_aload_n (o := a0) dX7_init_50 rfl ?_
  refine r_iconst (v := (0 : Int32)) dX7_init_51 (by decide) ?_
  obtain ⟨s16, hs16, h⟩ := xb h
  refine x_putI (o := a0) dX7_init_52 (xp_X7_38 _) hs16 ?_
  refine x_aload_n (o := a0) dX7_init_55 rfl ?_
  refine r_iconst (v := (-1 : Int32)) dX7_init_56 (by decide) ?_
  obtain ⟨s17, hs17, h⟩ := xb h
  refine x_putI (o := a0) dX7_init_57 (xp_X7_41 _) hs17 ?_
  obtain rfl := Option.some.inj h
  exact r_return dX7_init_60 rfl
theorem S_X7_init (n : Nat) (st : xS) (a0 : Option Nat) (st' : xS) (h : F_X7_init n st a0 = some st') : Ct mX7_init [va_rf a0] st none st' 1 := by
  refine Ct.of (by decide) (by simp only [lgL_R, lgL_I, lgL_L, lgL_0]; decide) ?_
  try simp only [lvA_R]
  exact R_X7_init n st a0 st' h
theorem R_X7_fail (n : Nat) (st : xS) (a0 : Option Nat) (a1 : Int32) (a2 : Int32) (st' : xS) (h : F_X7_fail n st a0 a1 a2 = some st') : Rn mX7_fail 0 [(0, va_rf a0), (1, .int a1), (2, .int a2)] [] st none st' 0 := by
  unfold F_X7_fail at h
  refine x_aload_n (o := a0) dX7_fail_0 rfl ?_
  refine r_iload_n (x := a1) dX7_fail_1 rfl ?_
  obtain ⟨s1, hs1, h⟩ := xb h
  refine x_putI (o := a0) dX7_fail_2 (xp_X7_38 _) hs1 ?_
  refine x_aload_n (o := a0) dX7_fail_5 rfl ?_
  refine r_iload_n (x := a2) dX7_fail_6 rfl ?_
  obtain ⟨s2, hs2, h⟩ := xb h
  refine x_putI (o := a0) dX7_fail_7 (xp_X7_41 _) hs2 ?_
  obtain rfl := Option.some.inj h
  exact r_return dX7_fail_10 rfl
theorem S_X7_fail (n : Nat) (st : xS) (a0 : Option Nat) (a1 : Int32) (a2 : Int32) (st' : xS) (h : F_X7_fail n st a0 a1 a2 = some st') : Ct mX7_fail [va_rf a0, .int a1, .int a2] st none st' 0 := by
  refine Ct.of (by decide) (by simp only [lgL_R, lgL_I, lgL_L, lgL_0]; decide) ?_
  try simp only [lvA_R]
  exact R_X7_fail n st a0 a1 a2 st' h
theorem R_X7_isCouple (n : Nat) (st : xS) (a0 : Int32) (rv : Int32) (h : F_X7_isCouple n st a0 = some rv) : Rn mX7_isCouple 0 [(0, .int a0)] [] st (some (.int rv)) st 0 := by
  unfold F_X7_isCouple at h
  refine r_iload_n (x := a0) dX7_isCouple_0 rfl ?_
  refine r_iconst (v := (2 : Int32)) dX7_isCouple_1 (by decide) ?_
  obtain ⟨q1, hq1, h⟩ := xb h
  have Jq1 : Rn mX7_isCouple 16 [] [.int q1] st (some (.int rv)) st 0 := by
    obtain ⟨v2, hv2, h⟩ := xb h
    refine x_eqI (rz_inv2 hv2).1 ?_
    obtain rfl := Option.some.inj h
    exact r_ireturn dX7_isCouple_16 .boolean rfl (by rcases (rz_inv2 hv2).2 with e | e <;> rw [e] <;> rfl)
  refine r_icmp_eq (tgt := 11) dX7_isCouple_2 (by decide) (fun c => ?_) (fun c => ?_)
  · replace hq1 := (if_pos c).symm.trans hq1
    refine r_iconst (v := (1 : Int32)) dX7_isCouple_11 (by decide) ?_
    refine r_goto (tgt := 16) dX7_isCouple_12 (by decide) ?_
    obtain rfl := Option.some.inj hq1
    exact x_sub [] rfl Jq1
  · replace hq1 := (if_neg c).symm.trans hq1
    refine r_iload_n (x := a0) dX7_isCouple_5 rfl ?_
    refine r_bipush (v := (26 : Int32)) dX7_isCouple_6 (by decide) ?_
    refine r_icmp_ne (tgt := 15) dX7_isCouple_8 (by decide) (fun c => ?_) (fun c => ?_)
    · replace hq1 := (if_neg c).symm.trans hq1
      refine r_iconst (v := (0 : Int32)) dX7_isCouple_15 (by decide) ?_
      obtain rfl := Option.some.inj hq1
      exact x_sub [] rfl Jq1
    · replace hq1 := (if_pos c).symm.trans hq1
      refine r_iconst (v := (1 : Int32)) dX7_isCouple_11 (by decide) ?_
      refine r_goto (tgt := 16) dX7_isCouple_12 (by decide) ?_
      obtain rfl := Option.some.inj hq1
      exact x_sub [] rfl Jq1
theorem S_X7_isCouple (n : Nat) (st : xS) (a0 : Int32) (rv : Int32) (h : F_X7_isCouple n st a0 = some rv) : Ct mX7_isCouple [.int a0] st (some (.int rv)) st 0 := by
  refine Ct.of (by decide) (by simp only [lgL_R, lgL_I, lgL_L, lgL_0]; decide) ?_
  try simp only [lvA_R]
  exact R_X7_isCouple n st a0 rv h
theorem R_X7_check_L19 (n : Nat) (st' : xS) : ∀ (k : Nat) (st : xS) (a0 : Option Nat) (a1 : Int32) (a2 : Int32) (a4 : Option Nat) (a5 : Int32), F_X7_check_L19 n k st a0 a1 a2 a4 a5 = some st' → Rn mX7_check 19 [(0, va_rf a0), (1, .int a1), (2, .int a2), (4, va_rf a4), (5, .int a5)] [] st none st' 3 := by
  intro k
  induction k with
  | zero => intro st a0 a1 a2 a4 a5 h; cases h
  | succ k ih =>
    intro st a0 a1 a2 a4 a5 h
    unfold F_X7_check_L19 at h
    refine r_iload (x := a5) dX7_check_19 rfl ?_
    refine r_iload_n (x := a2) dX7_check_21 rfl ?_
    refine r_icmp_ge (tgt := 126) dX7_check_22 (by decide) (fun c => ?_) (fun c => ?_)
    · replace h := (if_pos c).symm.trans h
      refine x_aload (o := a4) dX7_check_126 rfl ?_
      refine r_iload_n (x := a1) dX7_check_128 rfl ?_
      refine x_aload_n (o := a0) dX7_check_129 rfl ?_
      obtain ⟨v2, hv2, h⟩ := xb h
      refine x_getR (o := a0) dX7_check_130 xf_X7_31 hv2 ?_
      refine r_iconst (v := (0 : Int32)) dX7_check_133 (by decide) ?_
      obtain ⟨v3, hv3, h⟩ := xb h
      refine x_iaload (o := v2) dX7_check_134 hv3 ?_
      refine x_aload_n (o := a0) dX7_check_135 rfl ?_
      obtain ⟨v4, hv4, h⟩ := xb h
      refine x_getR (o := a0) dX7_check_136 xf_X7_31 hv4 ?_
      refine r_iconst (v := (1 : Int32)) dX7_check_139 (by decide) ?_
      obtain ⟨v5, hv5, h⟩ := xb h
      refine x_iaload (o := v4) dX7_check_140 hv5 ?_
      refine x_aload_n (o := a0) dX7_check_141 rfl ?_
      obtain ⟨v6, hv6, h⟩ := xb h
      refine x_getR (o := a0) dX7_check_142 xf_X7_31 hv6 ?_
      refine r_iconst (v := (2 : Int32)) dX7_check_145 (by decide) ?_
      obtain ⟨v7, hv7, h⟩ := xb h
      refine x_iaload (o := v6) dX7_check_146 hv7 ?_
      obtain ⟨s8, hs8, h⟩ := xb h
      have J : Rn mX7_check 150 [(0, va_rf a0), (1, .int a1), (2, .int a2), (4, va_rf a4), (5, .int a5)] [] s8 none st' 3 := by
        obtain rfl := Option.some.inj h
        exact r_return dX7_check_150 rfl
      obtain ⟨c, hc, hq⟩ := xb hs8
      by_cases c3 : c = 3
      · replace hq := (if_pos c3).symm.trans hq
        subst c3
        exact z_callU (x := ⟨"HomeGround$Kind", "take", "(IIII)V"⟩) (as := [.int a1, .int v3, .int v5, .int v7]) (o := a4) (r1 := none) (stk := []) (stk2 := []) (st1 := s8) (d' := 1) dX7_check_147 xl_X7_87_X3 hc (Nat.le_of_ble_eq_true rfl) (Nat.le_trans xs0 (by decide)) rfl rfl (S_X3_take n st a4 a1 v3 v5 v7 s8 hq) J
      replace hq := (if_neg c3).symm.trans hq
      by_cases c4 : c = 4
      · replace hq := (if_pos c4).symm.trans hq
        subst c4
        exact z_callU (x := ⟨"HomeGround$Kind", "take", "(IIII)V"⟩) (as := [.int a1, .int v3, .int v5, .int v7]) (o := a4) (r1 := none) (stk := []) (stk2 := []) (st1 := s8) (d' := 1) dX7_check_147 xl_X7_87_X4 hc (Nat.le_of_ble_eq_true rfl) (Nat.le_trans xs0 (by decide)) rfl rfl (S_X4_take n st a4 a1 v3 v5 v7 s8 hq) J
      replace hq := (if_neg c4).symm.trans hq
      by_cases c6 : c = 6
      · replace hq := (if_pos c6).symm.trans hq
        subst c6
        exact z_callU (x := ⟨"HomeGround$Kind", "take", "(IIII)V"⟩) (as := [.int a1, .int v3, .int v5, .int v7]) (o := a4) (r1 := none) (stk := []) (stk2 := []) (st1 := s8) (d' := 2) dX7_check_147 xl_X7_87_X6 hc (Nat.le_of_ble_eq_true rfl) (Nat.le_trans xs0 (by decide)) rfl rfl (S_X6_take n st a4 a1 v3 v5 v7 s8 hq) J
      replace hq := (if_neg c6).symm.trans hq
      cases hq
    · replace h := (if_neg c).symm.trans h
      refine r_iload (x := a5) dX7_check_25 rfl ?_
      refine r_iconst (v := (3 : Int32)) dX7_check_27 (by decide) ?_
      refine r_icmp_ge (tgt := 126) dX7_check_28 (by decide) (fun c => ?_) (fun c => ?_)
      · replace h := (if_pos c).symm.trans h
        refine x_aload (o := a4) dX7_check_126 rfl ?_
        refine r_iload_n (x := a1) dX7_check_128 rfl ?_
        refine x_aload_n (o := a0) dX7_check_129 rfl ?_
        obtain ⟨v9, hv9, h⟩ := xb h
        refine x_getR (o := a0) dX7_check_130 xf_X7_31 hv9 ?_
        refine r_iconst (v := (0 : Int32)) dX7_check_133 (by decide) ?_
        obtain ⟨v10, hv10, h⟩ := xb h
        refine x_iaload (o := v9) dX7_check_134 hv10 ?_
        refine x_aload_n (o := a0) dX7_check_135 rfl ?_
        obtain ⟨v11, hv11, h⟩ := xb h
        refine x_getR (o := a0) dX7_check_136 xf_X7_31 hv11 ?_
        refine r_iconst (v := (1 : Int32)) dX7_check_139 (by decide) ?_
        obtain ⟨v12, hv12, h⟩ := xb h
        refine x_iaload (o := v11) dX7_check_140 hv12 ?_
        refine x_aload_n (o := a0) dX7_check_141 rfl ?_
        obtain ⟨v13, hv13, h⟩ := xb h
        refine x_getR (o := a0) dX7_check_142 xf_X7_31 hv13 ?_
        refine r_iconst (v := (2 : Int32)) dX7_check_145 (by decide) ?_
        obtain ⟨v14, hv14, h⟩ := xb h
        refine x_iaload (o := v13) dX7_check_146 hv14 ?_
        obtain ⟨s15, hs15, h⟩ := xb h
        have J : Rn mX7_check 150 [(0, va_rf a0), (1, .int a1), (2, .int a2), (4, va_rf a4), (5, .int a5)] [] s15 none st' 3 := by
          obtain rfl := Option.some.inj h
          exact r_return dX7_check_150 rfl
        obtain ⟨c, hc, hq⟩ := xb hs15
        by_cases c3 : c = 3
        · replace hq := (if_pos c3).symm.trans hq
          subst c3
          exact z_callU (x := ⟨"HomeGround$Kind", "take", "(IIII)V"⟩) (as := [.int a1, .int v10, .int v12, .int v14]) (o := a4) (r1 := none) (stk := []) (stk2 := []) (st1 := s15) (d' := 1) dX7_check_147 xl_X7_87_X3 hc (Nat.le_of_ble_eq_true rfl) (Nat.le_trans xs0 (by decide)) rfl rfl (S_X3_take n st a4 a1 v10 v12 v14 s15 hq) J
        replace hq := (if_neg c3).symm.trans hq
        by_cases c4 : c = 4
        · replace hq := (if_pos c4).symm.trans hq
          subst c4
          exact z_callU (x := ⟨"HomeGround$Kind", "take", "(IIII)V"⟩) (as := [.int a1, .int v10, .int v12, .int v14]) (o := a4) (r1 := none) (stk := []) (stk2 := []) (st1 := s15) (d' := 1) dX7_check_147 xl_X7_87_X4 hc (Nat.le_of_ble_eq_true rfl) (Nat.le_trans xs0 (by decide)) rfl rfl (S_X4_take n st a4 a1 v10 v12 v14 s15 hq) J
        replace hq := (if_neg c4).symm.trans hq
        by_cases c6 : c = 6
        · replace hq := (if_pos c6).symm.trans hq
          subst c6
          exact z_callU (x := ⟨"HomeGround$Kind", "take", "(IIII)V"⟩) (as := [.int a1, .int v10, .int v12, .int v14]) (o := a4) (r1 := none) (stk := []) (stk2 := []) (st1 := s15) (d' := 2) dX7_check_147 xl_X7_87_X6 hc (Nat.le_of_ble_eq_true rfl) (Nat.le_trans xs0 (by decide)) rfl rfl (S_X6_take n st a4 a1 v10 v12 v14 s15 hq) J
        replace hq := (if_neg c6).symm.trans hq
        cases hq
      · replace h := (if_neg c).symm.trans h
        refine r_iload (x := a5) dX7_check_31 rfl ?_
        refine r_iconst (v := (1 : Int32)) dX7_check_33 (by decide) ?_
        obtain ⟨q21, hq21, h⟩ := xb h
        have Jq21 : Rn mX7_check 64 [(0, va_rf a0), (1, .int a1), (2, .int a2), (4, va_rf a4), (5, .int a5)] [.int q21] st none st' 3 := by
          refine r_istore (lv' := [(6, .int q21), (0, va_rf a0), (1, .int a1), (2, .int a2), (4, va_rf a4), (5, .int a5)]) (x := q21) dX7_check_64 (by decide) rfl ?_
          refine r_iload (x := q21) dX7_check_66 rfl ?_
          refine r_if_ne (tgt := 107) dX7_check_68 (by decide) (fun c => ?_) (fun c => ?_)
          · replace h := (if_neg c).symm.trans h
            refine x_aload_n (o := a0) dX7_check_107 rfl ?_
            refine r_iconst (v := (2 : Int32)) dX7_check_108 (by decide) ?_
            refine x_aload_n (o := a0) dX7_check_109 rfl ?_
            obtain ⟨v37, hv37, h⟩ := xb h
            refine x_getR (o := a0) dX7_check_110 xf_X7_35 hv37 ?_
            refine r_iload (x := a5) dX7_check_113 rfl ?_
            obtain ⟨v38, hv38, h⟩ := xb h
            refine x_iaload (o := v37) dX7_check_115 hv38 ?_
            obtain ⟨q40, hq40, h⟩ := xb h
            obtain ⟨s39, hs39, h⟩ := xb h
            refine z_callV (as := [.int (2 : Int32), .int v38]) (o := a0) (r1 := none) (stk := []) (stk2 := []) (st1 := s39) (d' := 0) dX7_check_116 xl_X7_57 hq40 (by decide) (Nat.le_trans xs0 (by decide)) rfl rfl (S_X7_fail n st a0 (2 : Int32) v38 s39 hs39) ?_
            obtain rfl := Option.some.inj h
            exact r_return dX7_check_119 rfl
          · replace h := (if_pos c).symm.trans h
            refine x_aload_n (o := a0) dX7_check_71 rfl ?_
            obtain ⟨v22, hv22, h⟩ := xb h
            refine x_getR (o := a0) dX7_check_72 xf_X7_31 hv22 ?_
            refine r_iload (x := a5) dX7_check_75 rfl ?_
            obtain ⟨v23, hv23, h⟩ := xb h
            refine x_iaload (o := v22) dX7_check_77 hv23 ?_
            refine x_aload (o := a4) dX7_check_78 rfl ?_
            refine r_iload_n (x := a1) dX7_check_80 rfl ?_
            refine r_iload (x := a5) dX7_check_81 rfl ?_
            obtain ⟨v24, hv24, h⟩ := xb h
            have J : Rn mX7_check 86 [(6, .int q21), (0, va_rf a0), (1, .int a1), (2, .int a2), (4, va_rf a4), (5, .int a5)] [.int v24, .int v23] st none st' 3 := by
              refine r_icmp_lt (tgt := 107) dX7_check_86 (by decide) (fun c => ?_) (fun c => ?_)
              · replace h := (if_pos c).symm.trans h
                refine x_aload_n (o := a0) dX7_check_107 rfl ?_
                refine r_iconst (v := (2 : Int32)) dX7_check_108 (by decide) ?_
                refine x_aload_n (o := a0) dX7_check_109 rfl ?_
                obtain ⟨v25, hv25, h⟩ := xb h
                refine x_getR (o := a0) dX7_check_110 xf_X7_35 hv25 ?_
                refine r_iload (x := a5) dX7_check_113 rfl ?_
                obtain ⟨v26, hv26, h⟩ := xb h
                refine x_iaload (o := v25) dX7_check_115 hv26 ?_
                obtain ⟨q28, hq28, h⟩ := xb h
                obtain ⟨s27, hs27, h⟩ := xb h
                refine z_callV (as := [.int (2 : Int32), .int v26]) (o := a0) (r1 := none) (stk := []) (stk2 := []) (st1 := s27) (d' := 0) dX7_check_116 xl_X7_57 hq28 (by decide) (Nat.le_trans xs0 (by decide)) rfl rfl (S_X7_fail n st a0 (2 : Int32) v26 s27 hs27) ?_
                obtain rfl := Option.some.inj h
                exact r_return dX7_check_119 rfl
              · replace h := (if_neg c).symm.trans h
                refine x_aload_n (o := a0) dX7_check_89 rfl ?_
                obtain ⟨v29, hv29, h⟩ := xb h
                refine x_getR (o := a0) dX7_check_90 xf_X7_31 hv29 ?_
                refine r_iload (x := a5) dX7_check_93 rfl ?_
                obtain ⟨v30, hv30, h⟩ := xb h
                refine x_iaload (o := v29) dX7_check_95 hv30 ?_
                refine x_aload (o := a4) dX7_check_96 rfl ?_
                refine r_iload_n (x := a1) dX7_check_98 rfl ?_
                refine r_iload (x := a5) dX7_check_99 rfl ?_
                obtain ⟨v31, hv31, h⟩ := xb h
                have J : Rn mX7_check 104 [(6, .int q21), (0, va_rf a0), (1, .int a1), (2, .int a2), (4, va_rf a4), (5, .int a5)] [.int v31, .int v30] st none st' 3 := by
                  refine r_icmp_le (tgt := 120) dX7_check_104 (by decide) (fun c => ?_) (fun c => ?_)
                  · replace h := (if_pos c).symm.trans h
                    obtain ⟨v32, hv32, h⟩ := xb h
                    refine x_iinc (c := (1 : Int32)) (lv' := [(5, .int v32), (6, .int q21), (0, va_rf a0), (1, .int a1), (2, .int a2), (4, va_rf a4)]) (x := a5) (v := v32) dX7_check_120 rfl (by decide) (Option.some.inj hv32) (by decide) (congrArg (List.cons _) (xfY rfl (xfY rfl (xfY rfl (xfY rfl (xfY (xk1 4 5 _) (xfN rfl rfl))))))) ?_
                    refine r_goto (tgt := 19) dX7_check_123 (by decide) ?_
                    exact x_sub [2, 3, 4, 5, 0] rfl (ih st a0 a1 a2 a4 v32 h)
                  · replace h := (if_neg c).symm.trans h
                    refine x_aload_n (o := a0) dX7_check_107 rfl ?_
                    refine r_iconst (v := (2 : Int32)) dX7_check_108 (by decide) ?_
                    refine x_aload_n (o := a0) dX7_check_109 rfl ?_
                    obtain ⟨v33, hv33, h⟩ := xb h
                    refine x_getR (o := a0) dX7_check_110 xf_X7_35 hv33 ?_
                    refine r_iload (x := a5) dX7_check_113 rfl ?_
                    obtain ⟨v34, hv34, h⟩ := xb h
                    refine x_iaload (o := v33) dX7_check_115 hv34 ?_
                    obtain ⟨q36, hq36, h⟩ := xb h
                    obtain ⟨s35, hs35, h⟩ := xb h
                    refine z_callV (as := [.int (2 : Int32), .int v34]) (o := a0) (r1 := none) (stk := []) (stk2 := []) (st1 := s35) (d' := 0) dX7_check_116 xl_X7_57 hq36 (by decide) (Nat.le_trans xs0 (by decide)) rfl rfl (S_X7_fail n st a0 (2 : Int32) v34 s35 hs35) ?_
                    obtain rfl := Option.some.inj h
                    exact r_return dX7_check_119 rfl
                obtain ⟨c, hc, hq⟩ := xb hv31
                by_cases c3 : c = 3
                · replace hq := (if_pos c3).symm.trans hq
                  subst c3
                  exact z_callU (x := ⟨"HomeGround$Kind", "mostOf", "(II)I"⟩) (as := [.int a1, .int a5]) (o := a4) (r1 := (some (.int v31))) (stk := [.int v30]) (stk2 := [.int v31, .int v30]) (st1 := st) (d' := 0) dX7_check_101 xl_X7_84_X3 hc (Nat.le_of_ble_eq_true rfl) (Nat.le_trans (xsI xs0) (by decide)) rfl rfl (S_X3_mostOf n st a4 a1 a5 v31 hq) J
                replace hq := (if_neg c3).symm.trans hq
                by_cases c4 : c = 4
                · replace hq := (if_pos c4).symm.trans hq
                  subst c4
                  exact z_callU (x := ⟨"HomeGround$Kind", "mostOf", "(II)I"⟩) (as := [.int a1, .int a5]) (o := a4) (r1 := (some (.int v31))) (stk := [.int v30]) (stk2 := [.int v31, .int v30]) (st1 := st) (d' := 0) dX7_check_101 xl_X7_84_X4 hc (Nat.le_of_ble_eq_true rfl) (Nat.le_trans (xsI xs0) (by decide)) rfl rfl (S_X4_mostOf n st a4 a1 a5 v31 hq) J
                replace hq := (if_neg c4).symm.trans hq
                by_cases c6 : c = 6
                · replace hq := (if_pos c6).symm.trans hq
                  subst c6
                  exact z_callU (x := ⟨"HomeGround$Kind", "mostOf", "(II)I"⟩) (as := [.int a1, .int a5]) (o := a4) (r1 := (some (.int v31))) (stk := [.int v30]) (stk2 := [.int v31, .int v30]) (st1 := st) (d' := 0) dX7_check_101 xl_X7_84_X6 hc (Nat.le_of_ble_eq_true rfl) (Nat.le_trans (xsI xs0) (by decide)) rfl rfl (S_X6_mostOf n st a4 a1 a5 v31 hq) J
                replace hq := (if_neg c6).symm.trans hq
                cases hq
            obtain ⟨c, hc, hq⟩ := xb hv24
            by_cases c3 : c = 3
            · replace hq := (if_pos c3).symm.trans hq
              subst c3
              exact z_callU (x := ⟨"HomeGround$Kind", "leastOf", "(II)I"⟩) (as := [.int a1, .int a5]) (o := a4) (r1 := (some (.int v24))) (stk := [.int v23]) (stk2 := [.int v24, .int v23]) (st1 := st) (d' := 0) dX7_check_83 xl_X7_81_X3 hc (Nat.le_of_ble_eq_true rfl) (Nat.le_trans (xsI xs0) (by decide)) rfl rfl (S_X3_leastOf n st a4 a1 a5 v24 hq) J
            replace hq := (if_neg c3).symm.trans hq
            by_cases c4 : c = 4
            · replace hq := (if_pos c4).symm.trans hq
              subst c4
              exact z_callU (x := ⟨"HomeGround$Kind", "leastOf", "(II)I"⟩) (as := [.int a1, .int a5]) (o := a4) (r1 := (some (.int v24))) (stk := [.int v23]) (stk2 := [.int v24, .int v23]) (st1 := st) (d' := 0) dX7_check_83 xl_X7_81_X4 hc (Nat.le_of_ble_eq_true rfl) (Nat.le_trans (xsI xs0) (by decide)) rfl rfl (S_X4_leastOf n st a4 a1 a5 v24 hq) J
            replace hq := (if_neg c4).symm.trans hq
            by_cases c6 : c = 6
            · replace hq := (if_pos c6).symm.trans hq
              subst c6
              exact z_callU (x := ⟨"HomeGround$Kind", "leastOf", "(II)I"⟩) (as := [.int a1, .int a5]) (o := a4) (r1 := (some (.int v24))) (stk := [.int v23]) (stk2 := [.int v24, .int v23]) (st1 := st) (d' := 0) dX7_check_83 xl_X7_81_X6 hc (Nat.le_of_ble_eq_true rfl) (Nat.le_trans (xsI xs0) (by decide)) rfl rfl (S_X6_leastOf n st a4 a1 a5 v24 hq) J
            replace hq := (if_neg c6).symm.trans hq
            cases hq
        refine r_icmp_ne (tgt := 63) dX7_check_34 (by decide) (fun c => ?_) (fun c => ?_)
        · replace hq21 := (if_neg c).symm.trans hq21
          refine r_iconst (v := (0 : Int32)) dX7_check_63 (by decide) ?_
          obtain rfl := Option.some.inj hq21
          exact x_sub [0, 1, 2, 3, 4] rfl Jq21
        · replace hq21 := (if_pos c).symm.trans hq21
          refine r_iload_n (x := a1) dX7_check_37 rfl ?_
          obtain ⟨v16, hv16, hq21⟩ := xb hq21
          refine z_callS (as := [.int a1]) (r1 := (some (.int v16))) (stk := []) (stk2 := [.int v16]) (st1 := st) (d' := 0) dX7_check_38 xl_X7_78 (by decide) (Nat.le_trans xs0 (by decide)) rfl rfl (S_X7_isCouple n st a1 v16 hv16) ?_
          refine r_if_eq (tgt := 63) dX7_check_41 (by decide) (fun c => ?_) (fun c => ?_)
          · replace hq21 := (if_pos c).symm.trans hq21
            refine r_iconst (v := (0 : Int32)) dX7_check_63 (by decide) ?_
            obtain rfl := Option.some.inj hq21
            exact x_sub [0, 1, 2, 3, 4] rfl Jq21
          · replace hq21 := (if_neg c).symm.trans hq21
            refine x_aload_n (o := a0) dX7_check_44 rfl ?_
            obtain ⟨v17, hv17, hq21⟩ := xb hq21
            refine x_getR (o := a0) dX7_check_45 xf_X7_31 hv17 ?_
            refine r_iconst (v := (1 : Int32)) dX7_check_48 (by decide) ?_
            obtain ⟨v18, hv18, hq21⟩ := xb hq21
            refine x_iaload (o := v17) dX7_check_49 hv18 ?_
            refine x_aload_n (o := a0) dX7_check_50 rfl ?_
            obtain ⟨v19, hv19, hq21⟩ := xb hq21
            refine x_getR (o := a0) dX7_check_51 xf_X7_31 hv19 ?_
            refine r_iconst (v := (0 : Int32)) dX7_check_54 (by decide) ?_
            obtain ⟨v20, hv20, hq21⟩ := xb hq21
            refine x_iaload (o := v19) dX7_check_55 hv20 ?_
            refine r_icmp_ne (tgt := 63) dX7_check_56 (by decide) (fun c => ?_) (fun c => ?_)
            · replace hq21 := (if_neg c).symm.trans hq21
              refine r_iconst (v := (0 : Int32)) dX7_check_63 (by decide) ?_
              obtain rfl := Option.some.inj hq21
              exact x_sub [0, 1, 2, 3, 4] rfl Jq21
            · replace hq21 := (if_pos c).symm.trans hq21
              refine r_iconst (v := (1 : Int32)) dX7_check_59 (by decide) ?_
              refine r_goto (tgt := 64) dX7_check_60 (by decide) ?_
              obtain rfl := Option.some.inj hq21
              exact x_sub [0, 1, 2, 3, 4] rfl Jq21
theorem R_X7_check (n : Nat) (st : xS) (a0 : Option Nat) (a1 : Int32) (a2 : Int32) (a3 : Int32) (a4 : Option Nat) (st' : xS) (h : F_X7_check n st a0 a1 a2 a3 a4 = some st') : Rn mX7_check 0 [(0, va_rf a0), (1, .int a1), (2, .int a2), (3, .int a3), (4, va_rf a4)] [] st none st' 3 := by
  unfold F_X7_check at h
  refine x_aload (o := a4) dX7_check_0 rfl ?_
  refine r_iload_n (x := a1) dX7_check_2 rfl ?_
  obtain ⟨v1, hv1, h⟩ := xb h
  have J : Rn mX7_check 6 [(0, va_rf a0), (1, .int a1), (2, .int a2), (3, .int a3), (4, va_rf a4)] [.int v1] st none st' 3 := by
    refine r_if_eq (tgt := 16) dX7_check_6 (by decide) (fun c => ?_) (fun c => ?_)
    · replace h := (if_pos c).symm.trans h
      refine r_iconst (v := (0 : Int32)) dX7_check_16 (by decide) ?_
      refine r_istore (lv' := [(5, .int (0 : Int32)), (0, va_rf a0), (1, .int a1), (2, .int a2), (3, .int a3), (4, va_rf a4)]) (x := (0 : Int32)) dX7_check_17 (by decide) (congrArg (List.cons _) (xfY rfl (xfY rfl (xfY rfl (xfY rfl (xfY (xk1 4 5 _) rfl)))))) ?_
      exact x_sub [1, 2, 3, 5, 0] rfl (R_X7_check_L19 n st' n st a0 a1 a2 a4 (0 : Int32) h)
    · replace h := (if_neg c).symm.trans h
      refine x_aload_n (o := a0) dX7_check_9 rfl ?_
      refine r_iconst (v := (3 : Int32)) dX7_check_10 (by decide) ?_
      refine r_iload_n (x := a3) dX7_check_11 rfl ?_
      obtain ⟨q42, hq42, h⟩ := xb h
      obtain ⟨s41, hs41, h⟩ := xb h
      refine z_callV (as := [.int (3 : Int32), .int a3]) (o := a0) (r1 := none) (stk := []) (stk2 := []) (st1 := s41) (d' := 0) dX7_check_12 xl_X7_57 hq42 (by decide) (Nat.le_trans xs0 (by decide)) rfl rfl (S_X7_fail n st a0 (3 : Int32) a3 s41 hs41) ?_
      obtain rfl := Option.some.inj h
      exact r_return dX7_check_15 rfl
  obtain ⟨c, hc, hq⟩ := xb hv1
  by_cases c3 : c = 3
  · replace hq := (if_pos c3).symm.trans hq
    subst c3
    exact z_callU (x := ⟨"HomeGround$Kind", "isFull", "(I)Z"⟩) (as := [.int a1]) (o := a4) (r1 := (some (.int v1))) (stk := []) (stk2 := [.int v1]) (st1 := st) (d' := 0) dX7_check_3 xl_X7_72_X3 hc (Nat.le_of_ble_eq_true rfl) (Nat.le_trans xs0 (by decide)) rfl rfl (S_X3_isFull n st a4 a1 v1 hq) J
  replace hq := (if_neg c3).symm.trans hq
  by_cases c4 : c = 4
  · replace hq := (if_pos c4).symm.trans hq
    subst c4
    exact z_callU (x := ⟨"HomeGround$Kind", "isFull", "(I)Z"⟩) (as := [.int a1]) (o := a4) (r1 := (some (.int v1))) (stk := []) (stk2 := [.int v1]) (st1 := st) (d' := 0) dX7_check_3 xl_X7_72_X4 hc (Nat.le_of_ble_eq_true rfl) (Nat.le_trans xs0 (by decide)) rfl rfl (S_X4_isFull n st a4 a1 v1 hq) J
  replace hq := (if_neg c4).symm.trans hq
  by_cases c6 : c = 6
  · replace hq := (if_pos c6).symm.trans hq
    subst c6
    exact z_callU (x := ⟨"HomeGround$Kind", "isFull", "(I)Z"⟩) (as := [.int a1]) (o := a4) (r1 := (some (.int v1))) (stk := []) (stk2 := [.int v1]) (st1 := st) (d' := 0) dX7_check_3 xl_X7_72_X6 hc (Nat.le_of_ble_eq_true rfl) (Nat.le_trans xs0 (by decide)) rfl rfl (S_X6_isFull n st a4 a1 v1 hq) J
  replace hq := (if_neg c6).symm.trans hq
  cases hq
theorem S_X7_check (n : Nat) (st : xS) (a0 : Option Nat) (a1 : Int32) (a2 : Int32) (a3 : Int32) (a4 : Option Nat) (st' : xS) (h : F_X7_check n st a0 a1 a2 a3 a4 = some st') : Ct mX7_check [va_rf a0, .int a1, .int a2, .int a3, va_rf a4] st none st' 3 := by
  refine Ct.of (by decide) (by simp only [lgL_R, lgL_I, lgL_L, lgL_0]; decide) ?_
  try simp only [lvA_R]
  exact R_X7_check n st a0 a1 a2 a3 a4 st' h
theorem R_X7_numbersOf (n : Nat) (st : xS) (a0 : Int32) (rv : Int32) (h : F_X7_numbersOf n st a0 = some rv) : Rn mX7_numbersOf 0 [(0, .int a0)] [] st (some (.int rv)) st 0 := by
  unfold F_X7_numbersOf at h
  refine r_iload_n (x := a0) dX7_numbersOf_0 rfl ?_
  by_cases c0 : a0 = (0 : Int32)
  · replace h := (if_pos c0).symm.trans h
    refine r_tableIn (off := 119) (tgt := 120) dX7_numbersOf_1 (by rw [c0]; decide) (by rw [c0]; decide) (by rw [c0]; rfl) (by decide) ?_
    refine r_iconst (v := (3 : Int32)) dX7_numbersOf_120 (by decide) ?_
    obtain rfl := Option.some.inj h
    exact r_ireturn dX7_numbersOf_121 .int rfl rfl
  replace h := (if_neg c0).symm.trans h
  by_cases c1 : a0 = (1 : Int32)
  · replace h := (if_pos c1).symm.trans h
    refine r_tableIn (off := 125) (tgt := 126) dX7_numbersOf_1 (by rw [c1]; decide) (by rw [c1]; decide) (by rw [c1]; rfl) (by decide) ?_
    refine r_iconst (v := (2 : Int32)) dX7_numbersOf_126 (by decide) ?_
    obtain rfl := Option.some.inj h
    exact r_ireturn dX7_numbersOf_127 .int rfl rfl
  replace h := (if_neg c1).symm.trans h
  by_cases c2 : a0 = (2 : Int32)
  · replace h := (if_pos c2).symm.trans h
    refine r_tableIn (off := 119) (tgt := 120) dX7_numbersOf_1 (by rw [c2]; decide) (by rw [c2]; decide) (by rw [c2]; rfl) (by decide) ?_
    refine r_iconst (v := (3 : Int32)) dX7_numbersOf_120 (by decide) ?_
    obtain rfl := Option.some.inj h
    exact r_ireturn dX7_numbersOf_121 .int rfl rfl
  replace h := (if_neg c2).symm.trans h
  by_cases c3 : a0 = (3 : Int32)
  · replace h := (if_pos c3).symm.trans h
    refine r_tableIn (off := 125) (tgt := 126) dX7_numbersOf_1 (by rw [c3]; decide) (by rw [c3]; decide) (by rw [c3]; rfl) (by decide) ?_
    refine r_iconst (v := (2 : Int32)) dX7_numbersOf_126 (by decide) ?_
    obtain rfl := Option.some.inj h
    exact r_ireturn dX7_numbersOf_127 .int rfl rfl
  replace h := (if_neg c3).symm.trans h
  by_cases c4 : a0 = (4 : Int32)
  · replace h := (if_pos c4).symm.trans h
    refine r_tableIn (off := 125) (tgt := 126) dX7_numbersOf_1 (by rw [c4]; decide) (by rw [c4]; decide) (by rw [c4]; rfl) (by decide) ?_
    refine r_iconst (v := (2 : Int32)) dX7_numbersOf_126 (by decide) ?_
    obtain rfl := Option.some.inj h
    exact r_ireturn dX7_numbersOf_127 .int rfl rfl
  replace h := (if_neg c4).symm.trans h
  by_cases c5 : a0 = (5 : Int32)
  · replace h := (if_pos c5).symm.trans h
    refine r_tableIn (off := 125) (tgt := 126) dX7_numbersOf_1 (by rw [c5]; decide) (by rw [c5]; decide) (by rw [c5]; rfl) (by decide) ?_
    refine r_iconst (v := (2 : Int32)) dX7_numbersOf_126 (by decide) ?_
    obtain rfl := Option.some.inj h
    exact r_ireturn dX7_numbersOf_127 .int rfl rfl
  replace h := (if_neg c5).symm.trans h
  by_cases c6 : a0 = (6 : Int32)
  · replace h := (if_pos c6).symm.trans h
    refine r_tableIn (off := 125) (tgt := 126) dX7_numbersOf_1 (by rw [c6]; decide) (by rw [c6]; decide) (by rw [c6]; rfl) (by decide) ?_
    refine r_iconst (v := (2 : Int32)) dX7_numbersOf_126 (by decide) ?_
    obtain rfl := Option.some.inj h
    exact r_ireturn dX7_numbersOf_127 .int rfl rfl
  replace h := (if_neg c6).symm.trans h
  by_cases c7 : a0 = (7 : Int32)
  · replace h := (if_pos c7).symm.trans h
    refine r_tableIn (off := 125) (tgt := 126) dX7_numbersOf_1 (by rw [c7]; decide) (by rw [c7]; decide) (by rw [c7]; rfl) (by decide) ?_
    refine r_iconst (v := (2 : Int32)) dX7_numbersOf_126 (by decide) ?_
    obtain rfl := Option.some.inj h
    exact r_ireturn dX7_numbersOf_127 .int rfl rfl
  replace h := (if_neg c7).symm.trans h
  by_cases c8 : a0 = (8 : Int32)
  · replace h := (if_pos c8).symm.trans h
    refine r_tableIn (off := 125) (tgt := 126) dX7_numbersOf_1 (by rw [c8]; decide) (by rw [c8]; decide) (by rw [c8]; rfl) (by decide) ?_
    refine r_iconst (v := (2 : Int32)) dX7_numbersOf_126 (by decide) ?_
    obtain rfl := Option.some.inj h
    exact r_ireturn dX7_numbersOf_127 .int rfl rfl
  replace h := (if_neg c8).symm.trans h
  by_cases c9 : a0 = (9 : Int32)
  · replace h := (if_pos c9).symm.trans h
    refine r_tableIn (off := 125) (tgt := 126) dX7_numbersOf_1 (by rw [c9]; decide) (by rw [c9]; decide) (by rw [c9]; rfl) (by decide) ?_
    refine r_iconst (v := (2 : Int32)) dX7_numbersOf_126 (by decide) ?_
    obtain rfl := Option.some.inj h
    exact r_ireturn dX7_numbersOf_127 .int rfl rfl
  replace h := (if_neg c9).symm.trans h
  by_cases c10 : a0 = (10 : Int32)
  · replace h := (if_pos c10).symm.trans h
    refine r_tableIn (off := 121) (tgt := 122) dX7_numbersOf_1 (by rw [c10]; decide) (by rw [c10]; decide) (by rw [c10]; rfl) (by decide) ?_
    refine r_iconst (v := (1 : Int32)) dX7_numbersOf_122 (by decide) ?_
    obtain rfl := Option.some.inj h
    exact r_ireturn dX7_numbersOf_123 .int rfl rfl
  replace h := (if_neg c10).symm.trans h
  by_cases c11 : a0 = (11 : Int32)
  · replace h := (if_pos c11).symm.trans h
    refine r_tableIn (off := 121) (tgt := 122) dX7_numbersOf_1 (by rw [c11]; decide) (by rw [c11]; decide) (by rw [c11]; rfl) (by decide) ?_
    refine r_iconst (v := (1 : Int32)) dX7_numbersOf_122 (by decide) ?_
    obtain rfl := Option.some.inj h
    exact r_ireturn dX7_numbersOf_123 .int rfl rfl
  replace h := (if_neg c11).symm.trans h
  by_cases c12 : a0 = (12 : Int32)
  · replace h := (if_pos c12).symm.trans h
    refine r_tableIn (off := 125) (tgt := 126) dX7_numbersOf_1 (by rw [c12]; decide) (by rw [c12]; decide) (by rw [c12]; rfl) (by decide) ?_
    refine r_iconst (v := (2 : Int32)) dX7_numbersOf_126 (by decide) ?_
    obtain rfl := Option.some.inj h
    exact r_ireturn dX7_numbersOf_127 .int rfl rfl
  replace h := (if_neg c12).symm.trans h
  by_cases c13 : a0 = (13 : Int32)
  · replace h := (if_pos c13).symm.trans h
    refine r_tableIn (off := 125) (tgt := 126) dX7_numbersOf_1 (by rw [c13]; decide) (by rw [c13]; decide) (by rw [c13]; rfl) (by decide) ?_
    refine r_iconst (v := (2 : Int32)) dX7_numbersOf_126 (by decide) ?_
    obtain rfl := Option.some.inj h
    exact r_ireturn dX7_numbersOf_127 .int rfl rfl
  replace h := (if_neg c13).symm.trans h
  by_cases c14 : a0 = (14 : Int32)
  · replace h := (if_pos c14).symm.trans h
    refine r_tableIn (off := 125) (tgt := 126) dX7_numbersOf_1 (by rw [c14]; decide) (by rw [c14]; decide) (by rw [c14]; rfl) (by decide) ?_
    refine r_iconst (v := (2 : Int32)) dX7_numbersOf_126 (by decide) ?_
    obtain rfl := Option.some.inj h
    exact r_ireturn dX7_numbersOf_127 .int rfl rfl
  replace h := (if_neg c14).symm.trans h
  by_cases c15 : a0 = (15 : Int32)
  · replace h := (if_pos c15).symm.trans h
    refine r_tableIn (off := 125) (tgt := 126) dX7_numbersOf_1 (by rw [c15]; decide) (by rw [c15]; decide) (by rw [c15]; rfl) (by decide) ?_
    refine r_iconst (v := (2 : Int32)) dX7_numbersOf_126 (by decide) ?_
    obtain rfl := Option.some.inj h
    exact r_ireturn dX7_numbersOf_127 .int rfl rfl
  replace h := (if_neg c15).symm.trans h
  by_cases c16 : a0 = (16 : Int32)
  · replace h := (if_pos c16).symm.trans h
    refine r_tableIn (off := 125) (tgt := 126) dX7_numbersOf_1 (by rw [c16]; decide) (by rw [c16]; decide) (by rw [c16]; rfl) (by decide) ?_
    refine r_iconst (v := (2 : Int32)) dX7_numbersOf_126 (by decide) ?_
    obtain rfl := Option.some.inj h
    exact r_ireturn dX7_numbersOf_127 .int rfl rfl
  replace h := (if_neg c16).symm.trans h
  by_cases c17 : a0 = (17 : Int32)
  · replace h := (if_pos c17).symm.trans h
    refine r_tableIn (off := 125) (tgt := 126) dX7_numbersOf_1 (by rw [c17]; decide) (by rw [c17]; decide) (by rw [c17]; rfl) (by decide) ?_
    refine r_iconst (v := (2 : Int32)) dX7_numbersOf_126 (by decide) ?_
    obtain rfl := Option.some.inj h
    exact r_ireturn dX7_numbersOf_127 .int rfl rfl
  replace h := (if_neg c17).symm.trans h
  by_cases c18 : a0 = (18 : Int32)
  · replace h := (if_pos c18).symm.trans h
    refine r_tableIn (off := 125) (tgt := 126) dX7_numbersOf_1 (by rw [c18]; decide) (by rw [c18]; decide) (by rw [c18]; rfl) (by decide) ?_
    refine r_iconst (v := (2 : Int32)) dX7_numbersOf_126 (by decide) ?_
    obtain rfl := Option.some.inj h
    exact r_ireturn dX7_numbersOf_127 .int rfl rfl
  replace h := (if_neg c18).symm.trans h
  by_cases c19 : a0 = (19 : Int32)
  · replace h := (if_pos c19).symm.trans h
    refine r_tableIn (off := 125) (tgt := 126) dX7_numbersOf_1 (by rw [c19]; decide) (by rw [c19]; decide) (by rw [c19]; rfl) (by decide) ?_
    refine r_iconst (v := (2 : Int32)) dX7_numbersOf_126 (by decide) ?_
    obtain rfl := Option.some.inj h
    exact r_ireturn dX7_numbersOf_127 .int rfl rfl
  replace h := (if_neg c19).symm.trans h
  by_cases c20 : a0 = (20 : Int32)
  · replace h := (if_pos c20).symm.trans h
    refine r_tableIn (off := 121) (tgt := 122) dX7_numbersOf_1 (by rw [c20]; decide) (by rw [c20]; decide) (by rw [c20]; rfl) (by decide) ?_
    refine r_iconst (v := (1 : Int32)) dX7_numbersOf_122 (by decide) ?_
    obtain rfl := Option.some.inj h
    exact r_ireturn dX7_numbersOf_123 .int rfl rfl
  replace h := (if_neg c20).symm.trans h
  by_cases c21 : a0 = (21 : Int32)
  · replace h := (if_pos c21).symm.trans h
    refine r_tableIn (off := 123) (tgt := 124) dX7_numbersOf_1 (by rw [c21]; decide) (by rw [c21]; decide) (by rw [c21]; rfl) (by decide) ?_
    refine r_iconst (v := (0 : Int32)) dX7_numbersOf_124 (by decide) ?_
    obtain rfl := Option.some.inj h
    exact r_ireturn dX7_numbersOf_125 .int rfl rfl
  replace h := (if_neg c21).symm.trans h
  by_cases c22 : a0 = (22 : Int32)
  · replace h := (if_pos c22).symm.trans h
    refine r_tableIn (off := 123) (tgt := 124) dX7_numbersOf_1 (by rw [c22]; decide) (by rw [c22]; decide) (by rw [c22]; rfl) (by decide) ?_
    refine r_iconst (v := (0 : Int32)) dX7_numbersOf_124 (by decide) ?_
    obtain rfl := Option.some.inj h
    exact r_ireturn dX7_numbersOf_125 .int rfl rfl
  replace h := (if_neg c22).symm.trans h
  by_cases c23 : a0 = (23 : Int32)
  · replace h := (if_pos c23).symm.trans h
    refine r_tableIn (off := 123) (tgt := 124) dX7_numbersOf_1 (by rw [c23]; decide) (by rw [c23]; decide) (by rw [c23]; rfl) (by decide) ?_
    refine r_iconst (v := (0 : Int32)) dX7_numbersOf_124 (by decide) ?_
    obtain rfl := Option.some.inj h
    exact r_ireturn dX7_numbersOf_125 .int rfl rfl
  replace h := (if_neg c23).symm.trans h
  by_cases c24 : a0 = (24 : Int32)
  · replace h := (if_pos c24).symm.trans h
    refine r_tableIn (off := 123) (tgt := 124) dX7_numbersOf_1 (by rw [c24]; decide) (by rw [c24]; decide) (by rw [c24]; rfl) (by decide) ?_
    refine r_iconst (v := (0 : Int32)) dX7_numbersOf_124 (by decide) ?_
    obtain rfl := Option.some.inj h
    exact r_ireturn dX7_numbersOf_125 .int rfl rfl
  replace h := (if_neg c24).symm.trans h
  by_cases c25 : a0 = (25 : Int32)
  · replace h := (if_pos c25).symm.trans h
    refine r_tableIn (off := 121) (tgt := 122) dX7_numbersOf_1 (by rw [c25]; decide) (by rw [c25]; decide) (by rw [c25]; rfl) (by decide) ?_
    refine r_iconst (v := (1 : Int32)) dX7_numbersOf_122 (by decide) ?_
    obtain rfl := Option.some.inj h
    exact r_ireturn dX7_numbersOf_123 .int rfl rfl
  replace h := (if_neg c25).symm.trans h
  refine r_tableOut (tgt := 126) dX7_numbersOf_1 (xswD (fun k hk1 hk2 => by
    have hk : k = 0 ∨ k = 1 ∨ k = 2 ∨ k = 3 ∨ k = 4 ∨ k = 5 ∨ k = 6 ∨ k = 7 ∨ k = 8 ∨ k = 9 ∨ k = 10 ∨ k = 11 ∨ k = 12 ∨ k = 13 ∨ k = 14 ∨ k = 15 ∨ k = 16 ∨ k = 17 ∨ k = 18 ∨ k = 19 ∨ k = 20 ∨ k = 21 ∨ k = 22 ∨ k = 23 ∨ k = 24 ∨ k = 25 := by omega
    rcases hk with rfl | rfl | rfl | rfl | rfl | rfl | rfl | rfl | rfl | rfl | rfl | rfl | rfl | rfl | rfl | rfl | rfl | rfl | rfl | rfl | rfl | rfl | rfl | rfl | rfl | rfl
    · exact c0
    · exact c1
    · exact c2
    · exact c3
    · exact c4
    · exact c5
    · exact c6
    · exact c7
    · exact c8
    · exact c9
    · exact c10
    · exact c11
    · exact c12
    · exact c13
    · exact c14
    · exact c15
    · exact c16
    · exact c17
    · exact c18
    · exact c19
    · exact c20
    · exact c21
    · exact c22
    · exact c23
    · exact c24
    · exact c25)) (by decide) ?_
  refine r_iconst (v := (2 : Int32)) dX7_numbersOf_126 (by decide) ?_
  obtain rfl := Option.some.inj h
  exact r_ireturn dX7_numbersOf_127 .int rfl rfl
theorem S_X7_numbersOf (n : Nat) (st : xS) (a0 : Int32) (rv : Int32) (h : F_X7_numbersOf n st a0 = some rv) : Ct mX7_numbersOf [.int a0] st (some (.int rv)) st 0 := by
  refine Ct.of (by decide) (by simp only [lgL_R, lgL_I, lgL_L, lgL_0]; decide) ?_
  try simp only [lvA_R]
  exact R_X7_numbersOf n st a0 rv h
theorem R_X7_wordOf (n : Nat) (st : xS) (a0 : Int32) (rv : Option Nat) (h : F_X7_wordOf n st a0 = some rv) : Rn mX7_wordOf 0 [(0, .int a0)] [] st (some (va_rf rv)) st 0 := by
  unfold F_X7_wordOf at h
  refine r_iload_n (x := a0) dX7_wordOf_0 rfl ?_
  by_cases c0 : a0 = (0 : Int32)
  · replace h := (if_pos c0).symm.trans h
    refine r_tableIn (off := 123) (tgt := 124) dX7_wordOf_1 (by rw [c0]; decide) (by rw [c0]; decide) (by rw [c0]; rfl) (by decide) ?_
    refine x_ldcS (i := 0) dX7_wordOf_124 rfl rfl ?_
    obtain rfl := Option.some.inj h
    exact x_areturn (o := (some 0)) dX7_wordOf_126 _ rfl (Or.inl ⟨_, rfl⟩)
  replace h := (if_neg c0).symm.trans h
  by_cases c1 : a0 = (1 : Int32)
  · replace h := (if_pos c1).symm.trans h
    refine r_tableIn (off := 126) (tgt := 127) dX7_wordOf_1 (by rw [c1]; decide) (by rw [c1]; decide) (by rw [c1]; rfl) (by decide) ?_
    refine x_ldcS (i := 1) dX7_wordOf_127 rfl rfl ?_
    obtain rfl := Option.some.inj h
    exact x_areturn (o := (some 1)) dX7_wordOf_129 _ rfl (Or.inl ⟨_, rfl⟩)
  replace h := (if_neg c1).symm.trans h
  by_cases c2 : a0 = (2 : Int32)
  · replace h := (if_pos c2).symm.trans h
    refine r_tableIn (off := 129) (tgt := 130) dX7_wordOf_1 (by rw [c2]; decide) (by rw [c2]; decide) (by rw [c2]; rfl) (by decide) ?_
    refine x_ldcS (i := 2) dX7_wordOf_130 rfl rfl ?_
    obtain rfl := Option.some.inj h
    exact x_areturn (o := (some 2)) dX7_wordOf_132 _ rfl (Or.inl ⟨_, rfl⟩)
  replace h := (if_neg c2).symm.trans h
  by_cases c3 : a0 = (3 : Int32)
  · replace h := (if_pos c3).symm.trans h
    refine r_tableIn (off := 174) (tgt := 175) dX7_wordOf_1 (by rw [c3]; decide) (by rw [c3]; decide) (by rw [c3]; rfl) (by decide) ?_
    refine x_ldcS (i := 16) dX7_wordOf_175 rfl rfl ?_
    obtain rfl := Option.some.inj h
    exact x_areturn (o := (some 16)) dX7_wordOf_177 _ rfl (Or.inl ⟨_, rfl⟩)
  replace h := (if_neg c3).symm.trans h
  by_cases c4 : a0 = (4 : Int32)
  · replace h := (if_pos c4).symm.trans h
    refine r_tableIn (off := 174) (tgt := 175) dX7_wordOf_1 (by rw [c4]; decide) (by rw [c4]; decide) (by rw [c4]; rfl) (by decide) ?_
    refine x_ldcS (i := 16) dX7_wordOf_175 rfl rfl ?_
    obtain rfl := Option.some.inj h
    exact x_areturn (o := (some 16)) dX7_wordOf_177 _ rfl (Or.inl ⟨_, rfl⟩)
  replace h := (if_neg c4).symm.trans h
  by_cases c5 : a0 = (5 : Int32)
  · replace h := (if_pos c5).symm.trans h
    refine r_tableIn (off := 174) (tgt := 175) dX7_wordOf_1 (by rw [c5]; decide) (by rw [c5]; decide) (by rw [c5]; rfl) (by decide) ?_
    refine x_ldcS (i := 16) dX7_wordOf_175 rfl rfl ?_
    obtain rfl := Option.some.inj h
    exact x_areturn (o := (some 16)) dX7_wordOf_177 _ rfl (Or.inl ⟨_, rfl⟩)
  replace h := (if_neg c5).symm.trans h
  by_cases c6 : a0 = (6 : Int32)
  · replace h := (if_pos c6).symm.trans h
    refine r_tableIn (off := 174) (tgt := 175) dX7_wordOf_1 (by rw [c6]; decide) (by rw [c6]; decide) (by rw [c6]; rfl) (by decide) ?_
    refine x_ldcS (i := 16) dX7_wordOf_175 rfl rfl ?_
    obtain rfl := Option.some.inj h
    exact x_areturn (o := (some 16)) dX7_wordOf_177 _ rfl (Or.inl ⟨_, rfl⟩)
  replace h := (if_neg c6).symm.trans h
  by_cases c7 : a0 = (7 : Int32)
  · replace h := (if_pos c7).symm.trans h
    refine r_tableIn (off := 174) (tgt := 175) dX7_wordOf_1 (by rw [c7]; decide) (by rw [c7]; decide) (by rw [c7]; rfl) (by decide) ?_
    refine x_ldcS (i := 16) dX7_wordOf_175 rfl rfl ?_
    obtain rfl := Option.some.inj h
    exact x_areturn (o := (some 16)) dX7_wordOf_177 _ rfl (Or.inl ⟨_, rfl⟩)
  replace h := (if_neg c7).symm.trans h
  by_cases c8 : a0 = (8 : Int32)
  · replace h := (if_pos c8).symm.trans h
    refine r_tableIn (off := 174) (tgt := 175) dX7_wordOf_1 (by rw [c8]; decide) (by rw [c8]; decide) (by rw [c8]; rfl) (by decide) ?_
    refine x_ldcS (i := 16) dX7_wordOf_175 rfl rfl ?_
    obtain rfl := Option.some.inj h
    exact x_areturn (o := (some 16)) dX7_wordOf_177 _ rfl (Or.inl ⟨_, rfl⟩)
  replace h := (if_neg c8).symm.trans h
  by_cases c9 : a0 = (9 : Int32)
  · replace h := (if_pos c9).symm.trans h
    refine r_tableIn (off := 174) (tgt := 175) dX7_wordOf_1 (by rw [c9]; decide) (by rw [c9]; decide) (by rw [c9]; rfl) (by decide) ?_
    refine x_ldcS (i := 16) dX7_wordOf_175 rfl rfl ?_
    obtain rfl := Option.some.inj h
    exact x_areturn (o := (some 16)) dX7_wordOf_177 _ rfl (Or.inl ⟨_, rfl⟩)
  replace h := (if_neg c9).symm.trans h
  by_cases c10 : a0 = (10 : Int32)
  · replace h := (if_pos c10).symm.trans h
    refine r_tableIn (off := 132) (tgt := 133) dX7_wordOf_1 (by rw [c10]; decide) (by rw [c10]; decide) (by rw [c10]; rfl) (by decide) ?_
    refine x_ldcS (i := 3) dX7_wordOf_133 rfl rfl ?_
    obtain rfl := Option.some.inj h
    exact x_areturn (o := (some 3)) dX7_wordOf_135 _ rfl (Or.inl ⟨_, rfl⟩)
  replace h := (if_neg c10).symm.trans h
  by_cases c11 : a0 = (11 : Int32)
  · replace h := (if_pos c11).symm.trans h
    refine r_tableIn (off := 135) (tgt := 136) dX7_wordOf_1 (by rw [c11]; decide) (by rw [c11]; decide) (by rw [c11]; rfl) (by decide) ?_
    refine x_ldcS (i := 4) dX7_wordOf_136 rfl rfl ?_
    obtain rfl := Option.some.inj h
    exact x_areturn (o := (some 4)) dX7_wordOf_138 _ rfl (Or.inl ⟨_, rfl⟩)
  replace h := (if_neg c11).symm.trans h
  by_cases c12 : a0 = (12 : Int32)
  · replace h := (if_pos c12).symm.trans h
    refine r_tableIn (off := 138) (tgt := 139) dX7_wordOf_1 (by rw [c12]; decide) (by rw [c12]; decide) (by rw [c12]; rfl) (by decide) ?_
    refine x_ldcS (i := 2) dX7_wordOf_139 rfl rfl ?_
    obtain rfl := Option.some.inj h
    exact x_areturn (o := (some 2)) dX7_wordOf_141 _ rfl (Or.inl ⟨_, rfl⟩)
  replace h := (if_neg c12).symm.trans h
  by_cases c13 : a0 = (13 : Int32)
  · replace h := (if_pos c13).symm.trans h
    refine r_tableIn (off := 141) (tgt := 142) dX7_wordOf_1 (by rw [c13]; decide) (by rw [c13]; decide) (by rw [c13]; rfl) (by decide) ?_
    refine x_ldcS (i := 5) dX7_wordOf_142 rfl rfl ?_
    obtain rfl := Option.some.inj h
    exact x_areturn (o := (some 5)) dX7_wordOf_144 _ rfl (Or.inl ⟨_, rfl⟩)
  replace h := (if_neg c13).symm.trans h
  by_cases c14 : a0 = (14 : Int32)
  · replace h := (if_pos c14).symm.trans h
    refine r_tableIn (off := 144) (tgt := 145) dX7_wordOf_1 (by rw [c14]; decide) (by rw [c14]; decide) (by rw [c14]; rfl) (by decide) ?_
    refine x_ldcS (i := 6) dX7_wordOf_145 rfl rfl ?_
    obtain rfl := Option.some.inj h
    exact x_areturn (o := (some 6)) dX7_wordOf_147 _ rfl (Or.inl ⟨_, rfl⟩)
  replace h := (if_neg c14).symm.trans h
  by_cases c15 : a0 = (15 : Int32)
  · replace h := (if_pos c15).symm.trans h
    refine r_tableIn (off := 147) (tgt := 148) dX7_wordOf_1 (by rw [c15]; decide) (by rw [c15]; decide) (by rw [c15]; rfl) (by decide) ?_
    refine x_ldcS (i := 7) dX7_wordOf_148 rfl rfl ?_
    obtain rfl := Option.some.inj h
    exact x_areturn (o := (some 7)) dX7_wordOf_150 _ rfl (Or.inl ⟨_, rfl⟩)
  replace h := (if_neg c15).symm.trans h
  by_cases c16 : a0 = (16 : Int32)
  · replace h := (if_pos c16).symm.trans h
    refine r_tableIn (off := 150) (tgt := 151) dX7_wordOf_1 (by rw [c16]; decide) (by rw [c16]; decide) (by rw [c16]; rfl) (by decide) ?_
    refine x_ldcS (i := 8) dX7_wordOf_151 rfl rfl ?_
    obtain rfl := Option.some.inj h
    exact x_areturn (o := (some 8)) dX7_wordOf_153 _ rfl (Or.inl ⟨_, rfl⟩)
  replace h := (if_neg c16).symm.trans h
  by_cases c17 : a0 = (17 : Int32)
  · replace h := (if_pos c17).symm.trans h
    refine r_tableIn (off := 174) (tgt := 175) dX7_wordOf_1 (by rw [c17]; decide) (by rw [c17]; decide) (by rw [c17]; rfl) (by decide) ?_
    refine x_ldcS (i := 16) dX7_wordOf_175 rfl rfl ?_
    obtain rfl := Option.some.inj h
    exact x_areturn (o := (some 16)) dX7_wordOf_177 _ rfl (Or.inl ⟨_, rfl⟩)
  replace h := (if_neg c17).symm.trans h
  by_cases c18 : a0 = (18 : Int32)
  · replace h := (if_pos c18).symm.trans h
    refine r_tableIn (off := 174) (tgt := 175) dX7_wordOf_1 (by rw [c18]; decide) (by rw [c18]; decide) (by rw [c18]; rfl) (by decide) ?_
    refine x_ldcS (i := 16) dX7_wordOf_175 rfl rfl ?_
    obtain rfl := Option.some.inj h
    exact x_areturn (o := (some 16)) dX7_wordOf_177 _ rfl (Or.inl ⟨_, rfl⟩)
  replace h := (if_neg c18).symm.trans h
  by_cases c19 : a0 = (19 : Int32)
  · replace h := (if_pos c19).symm.trans h
    refine r_tableIn (off := 174) (tgt := 175) dX7_wordOf_1 (by rw [c19]; decide) (by rw [c19]; decide) (by rw [c19]; rfl) (by decide) ?_
    refine x_ldcS (i := 16) dX7_wordOf_175 rfl rfl ?_
    obtain rfl := Option.some.inj h
    exact x_areturn (o := (some 16)) dX7_wordOf_177 _ rfl (Or.inl ⟨_, rfl⟩)
  replace h := (if_neg c19).symm.trans h
  by_cases c20 : a0 = (20 : Int32)
  · replace h := (if_pos c20).symm.trans h
    refine r_tableIn (off := 153) (tgt := 154) dX7_wordOf_1 (by rw [c20]; decide) (by rw [c20]; decide) (by rw [c20]; rfl) (by decide) ?_
    refine x_ldcS (i := 9) dX7_wordOf_154 rfl rfl ?_
    obtain rfl := Option.some.inj h
    exact x_areturn (o := (some 9)) dX7_wordOf_156 _ rfl (Or.inl ⟨_, rfl⟩)
  replace h := (if_neg c20).symm.trans h
  by_cases c21 : a0 = (21 : Int32)
  · replace h := (if_pos c21).symm.trans h
    refine r_tableIn (off := 156) (tgt := 157) dX7_wordOf_1 (by rw [c21]; decide) (by rw [c21]; decide) (by rw [c21]; rfl) (by decide) ?_
    refine x_ldcS (i := 10) dX7_wordOf_157 rfl rfl ?_
    obtain rfl := Option.some.inj h
    exact x_areturn (o := (some 10)) dX7_wordOf_159 _ rfl (Or.inl ⟨_, rfl⟩)
  replace h := (if_neg c21).symm.trans h
  by_cases c22 : a0 = (22 : Int32)
  · replace h := (if_pos c22).symm.trans h
    refine r_tableIn (off := 159) (tgt := 160) dX7_wordOf_1 (by rw [c22]; decide) (by rw [c22]; decide) (by rw [c22]; rfl) (by decide) ?_
    refine x_ldcS (i := 11) dX7_wordOf_160 rfl rfl ?_
    obtain rfl := Option.some.inj h
    exact x_areturn (o := (some 11)) dX7_wordOf_162 _ rfl (Or.inl ⟨_, rfl⟩)
  replace h := (if_neg c22).symm.trans h
  by_cases c23 : a0 = (23 : Int32)
  · replace h := (if_pos c23).symm.trans h
    refine r_tableIn (off := 162) (tgt := 163) dX7_wordOf_1 (by rw [c23]; decide) (by rw [c23]; decide) (by rw [c23]; rfl) (by decide) ?_
    refine x_ldcS (i := 12) dX7_wordOf_163 rfl rfl ?_
    obtain rfl := Option.some.inj h
    exact x_areturn (o := (some 12)) dX7_wordOf_165 _ rfl (Or.inl ⟨_, rfl⟩)
  replace h := (if_neg c23).symm.trans h
  by_cases c24 : a0 = (24 : Int32)
  · replace h := (if_pos c24).symm.trans h
    refine r_tableIn (off := 165) (tgt := 166) dX7_wordOf_1 (by rw [c24]; decide) (by rw [c24]; decide) (by rw [c24]; rfl) (by decide) ?_
    refine x_ldcS (i := 13) dX7_wordOf_166 rfl rfl ?_
    obtain rfl := Option.some.inj h
    exact x_areturn (o := (some 13)) dX7_wordOf_168 _ rfl (Or.inl ⟨_, rfl⟩)
  replace h := (if_neg c24).symm.trans h
  by_cases c25 : a0 = (25 : Int32)
  · replace h := (if_pos c25).symm.trans h
    refine r_tableIn (off := 168) (tgt := 169) dX7_wordOf_1 (by rw [c25]; decide) (by rw [c25]; decide) (by rw [c25]; rfl) (by decide) ?_
    refine x_ldcS (i := 14) dX7_wordOf_169 rfl rfl ?_
    obtain rfl := Option.some.inj h
    exact x_areturn (o := (some 14)) dX7_wordOf_171 _ rfl (Or.inl ⟨_, rfl⟩)
  replace h := (if_neg c25).symm.trans h
  by_cases c26 : a0 = (26 : Int32)
  · replace h := (if_pos c26).symm.trans h
    refine r_tableIn (off := 171) (tgt := 172) dX7_wordOf_1 (by rw [c26]; decide) (by rw [c26]; decide) (by rw [c26]; rfl) (by decide) ?_
    refine x_ldcS (i := 15) dX7_wordOf_172 rfl rfl ?_
    obtain rfl := Option.some.inj h
    exact x_areturn (o := (some 15)) dX7_wordOf_174 _ rfl (Or.inl ⟨_, rfl⟩)
  replace h := (if_neg c26).symm.trans h
  refine r_tableOut (tgt := 175) dX7_wordOf_1 (xswD (fun k hk1 hk2 => by
    have hk : k = 0 ∨ k = 1 ∨ k = 2 ∨ k = 3 ∨ k = 4 ∨ k = 5 ∨ k = 6 ∨ k = 7 ∨ k = 8 ∨ k = 9 ∨ k = 10 ∨ k = 11 ∨ k = 12 ∨ k = 13 ∨ k = 14 ∨ k = 15 ∨ k = 16 ∨ k = 17 ∨ k = 18 ∨ k = 19 ∨ k = 20 ∨ k = 21 ∨ k = 22 ∨ k = 23 ∨ k = 24 ∨ k = 25 ∨ k = 26 := by omega
    rcases hk with rfl | rfl | rfl | rfl | rfl | rfl | rfl | rfl | rfl | rfl | rfl | rfl | rfl | rfl | rfl | rfl | rfl | rfl | rfl | rfl | rfl | rfl | rfl | rfl | rfl | rfl | rfl
    · exact c0
    · exact c1
    · exact c2
    · exact c3
    · exact c4
    · exact c5
    · exact c6
    · exact c7
    · exact c8
    · exact c9
    · exact c10
    · exact c11
    · exact c12
    · exact c13
    · exact c14
    · exact c15
    · exact c16
    · exact c17
    · exact c18
    · exact c19
    · exact c20
    · exact c21
    · exact c22
    · exact c23
    · exact c24
    · exact c25
    · exact c26)) (by decide) ?_
  refine x_ldcS (i := 16) dX7_wordOf_175 rfl rfl ?_
  obtain rfl := Option.some.inj h
  exact x_areturn (o := (some 16)) dX7_wordOf_177 _ rfl (Or.inl ⟨_, rfl⟩)
theorem S_X7_wordOf (n : Nat) (st : xS) (a0 : Int32) (rv : Option Nat) (h : F_X7_wordOf n st a0 = some rv) : Ct mX7_wordOf [.int a0] st (some (va_rf rv)) st 0 := by
  refine Ct.of (by decide) (by simp only [lgL_R, lgL_I, lgL_L, lgL_0]; decide) ?_
  try simp only [lvA_R]
  exact R_X7_wordOf n st a0 rv h
theorem R_X7_signAt (n : Nat) (st : xS) (a0 : Option Nat) (a1 : Int32) (rv : Int32) (h : F_X7_signAt n st a0 a1 = some rv) : Rn mX7_signAt 0 [(0, va_rf a0), (1, .int a1)] [] st (some (.int rv)) st 0 := by
  unfold F_X7_signAt at h
  refine r_iload_n (x := a1) dX7_signAt_0 rfl ?_
  obtain ⟨q6, hq6, h⟩ := xb h
  have Jq6 : Rn mX7_signAt 35 [] [.int q6] st (some (.int rv)) st 0 := by
    obtain rfl := Option.some.inj h
    exact r_ireturn dX7_signAt_35 .int rfl rfl
  refine r_if_lt (tgt := 34) dX7_signAt_1 (by decide) (fun c => ?_) (fun c => ?_)
  · replace hq6 := (if_pos c).symm.trans hq6
    refine r_iconst (v := (-1 : Int32)) dX7_signAt_34 (by decide) ?_
    obtain rfl := Option.some.inj hq6
    exact x_sub [] rfl Jq6
  · replace hq6 := (if_neg c).symm.trans hq6
    refine r_iload_n (x := a1) dX7_signAt_4 rfl ?_
    refine x_aload_n (o := a0) dX7_signAt_5 rfl ?_
    obtain ⟨v1, hv1, hq6⟩ := xb hq6
    refine x_getI (o := a0) dX7_signAt_6 xf_X7_15 hv1 ?_
    refine r_icmp_ge (tgt := 34) dX7_signAt_9 (by decide) (fun c => ?_) (fun c => ?_)
    · replace hq6 := (if_pos c).symm.trans hq6
      refine r_iconst (v := (-1 : Int32)) dX7_signAt_34 (by decide) ?_
      obtain rfl := Option.some.inj hq6
      exact x_sub [] rfl Jq6
    · replace hq6 := (if_neg c).symm.trans hq6
      refine r_iload_n (x := a1) dX7_signAt_12 rfl ?_
      refine x_aload_n (o := a0) dX7_signAt_13 rfl ?_
      obtain ⟨v2, hv2, hq6⟩ := xb hq6
      refine x_getR (o := a0) dX7_signAt_14 xf_X7_9 hv2 ?_
      obtain ⟨v3, hv3, hq6⟩ := xb hq6
      refine x_alen (o := v2) dX7_signAt_17 hv3 ?_
      refine r_icmp_ge (tgt := 34) dX7_signAt_18 (by decide) (fun c => ?_) (fun c => ?_)
      · replace hq6 := (if_pos c).symm.trans hq6
        refine r_iconst (v := (-1 : Int32)) dX7_signAt_34 (by decide) ?_
        obtain rfl := Option.some.inj hq6
        exact x_sub [] rfl Jq6
      · replace hq6 := (if_neg c).symm.trans hq6
        refine x_aload_n (o := a0) dX7_signAt_21 rfl ?_
        obtain ⟨v4, hv4, hq6⟩ := xb hq6
        refine x_getR (o := a0) dX7_signAt_22 xf_X7_9 hv4 ?_
        refine r_iload_n (x := a1) dX7_signAt_25 rfl ?_
        obtain ⟨v5, hv5, hq6⟩ := xb hq6
        refine x_baload (o := v4) dX7_signAt_26 hv5 ?_
        refine r_sipush (v := (255 : Int32)) dX7_signAt_27 (by decide) ?_
        refine r_iand dX7_signAt_30 ?_
        refine r_goto (tgt := 35) dX7_signAt_31 (by decide) ?_
        obtain rfl := Option.some.inj hq6
        exact x_sub [] rfl Jq6
theorem S_X7_signAt (n : Nat) (st : xS) (a0 : Option Nat) (a1 : Int32) (rv : Int32) (h : F_X7_signAt n st a0 a1 = some rv) : Ct mX7_signAt [va_rf a0, .int a1] st (some (.int rv)) st 0 := by
  refine Ct.of (by decide) (by simp only [lgL_R, lgL_I, lgL_L, lgL_0]; decide) ?_
  try simp only [lvA_R]
  exact R_X7_signAt n st a0 a1 rv h
theorem R_X7_spells_L20 (n : Nat) (rv : Int32) : ∀ (k : Nat) (st : xS) (a0 : Option Nat) (a1 : Option Nat) (a2 : Int32), F_X7_spells_L20 n k st a0 a1 a2 = some rv → Rn mX7_spells 20 [(0, va_rf a0), (1, va_rf a1), (2, .int a2)] [] st (some (.int rv)) st 7 := by
  intro k
  induction k with
  | zero => intro st a0 a1 a2 h; cases h
  | succ k ih =>
    intro st a0 a1 a2 h
    unfold F_X7_spells_L20 at h
    refine r_iload_n (x := a2) dX7_spells_20 rfl ?_
    refine x_aload_n (o := a1) dX7_spells_21 rfl ?_
    obtain ⟨v4, hv4, h⟩ := xb h
    refine x_strlen (o := a1) dX7_spells_22 xl_str_length (by decide) (Nat.le_trans (xsI xs0) (by decide)) hv4 ?_
    refine r_icmp_ge (tgt := 54) dX7_spells_25 (by decide) (fun c => ?_) (fun c => ?_)
    · replace h := (if_pos c).symm.trans h
      refine r_iconst (v := (1 : Int32)) dX7_spells_54 (by decide) ?_
      obtain ⟨v5, hv5, h⟩ := xb h
      refine x_eqI (rz_inv2 hv5).1 ?_
      obtain rfl := Option.some.inj h
      exact r_ireturn dX7_spells_55 .boolean rfl (by rcases (rz_inv2 hv5).2 with e | e <;> rw [e] <;> rfl)
    · replace h := (if_neg c).symm.trans h
      refine x_aload_n (o := a1) dX7_spells_28 rfl ?_
      refine r_iload_n (x := a2) dX7_spells_29 rfl ?_
      obtain ⟨v6, hv6, h⟩ := xb h
      refine x_strch (o := a1) dX7_spells_30 xl_str_charAt (by decide) (Nat.le_trans xs0 (by decide)) hv6 ?_
      refine x_aload_n (o := a0) dX7_spells_33 rfl ?_
      refine x_aload_n (o := a0) dX7_spells_34 rfl ?_
      obtain ⟨v7, hv7, h⟩ := xb h
      refine x_getI (o := a0) dX7_spells_35 xf_X7_25 hv7 ?_
      refine r_iload_n (x := a2) dX7_spells_38 rfl ?_
      refine r_iadd dX7_spells_39 ?_
      obtain ⟨q9, hq9, h⟩ := xb h
      obtain ⟨v8, hv8, h⟩ := xb h
      refine z_callV (as := [.int (v7 + a2)]) (o := a0) (r1 := (some (.int v8))) (stk := [.int v6]) (stk2 := [.int v8, .int v6]) (st1 := st) (d' := 0) dX7_spells_40 xl_X7_142 hq9 (by decide) (Nat.le_trans (xsI xs0) (by decide)) rfl rfl (S_X7_signAt n st a0 (v7 + a2) v8 hv8) ?_
      refine r_icmp_eq (tgt := 48) dX7_spells_43 (by decide) (fun c => ?_) (fun c => ?_)
      · replace h := (if_pos c).symm.trans h
        obtain ⟨v10, hv10, h⟩ := xb h
        refine x_iinc (c := (1 : Int32)) (lv' := [(2, .int v10), (0, va_rf a0), (1, va_rf a1)]) (x := a2) (v := v10) dX7_spells_48 rfl (by decide) (Option.some.inj hv10) (by decide) (congrArg (List.cons _) (xfY rfl (xfY (xk1 1 2 _) (xfN rfl rfl)))) ?_
        refine r_goto (tgt := 20) dX7_spells_51 (by decide) ?_
        exact x_sub [1, 2, 0] rfl (ih st a0 a1 v10 h)
      · replace h := (if_neg c).symm.trans h
        refine r_iconst (v := (0 : Int32)) dX7_spells_46 (by decide) ?_
        obtain ⟨v11, hv11, h⟩ := xb h
        refine x_eqI (rz_inv2 hv11).1 ?_
        obtain rfl := Option.some.inj h
        exact r_ireturn dX7_spells_47 .boolean rfl (by rcases (rz_inv2 hv11).2 with e | e <;> rw [e] <;> rfl)
theorem R_X7_spells (n : Nat) (st : xS) (a0 : Option Nat) (a1 : Option Nat) (rv : Int32) (h : F_X7_spells n st a0 a1 = some rv) : Rn mX7_spells 0 [(0, va_rf a0), (1, va_rf a1)] [] st (some (.int rv)) st 7 := by
  unfold F_X7_spells at h
  refine x_aload_n (o := a1) dX7_spells_0 rfl ?_
  obtain ⟨v1, hv1, h⟩ := xb h
  refine x_strlen (o := a1) dX7_spells_1 xl_str_length (by decide) (Nat.le_trans xs0 (by decide)) hv1 ?_
  refine x_aload_n (o := a0) dX7_spells_4 rfl ?_
  obtain ⟨v2, hv2, h⟩ := xb h
  refine x_getI (o := a0) dX7_spells_5 xf_X7_19 hv2 ?_
  refine x_aload_n (o := a0) dX7_spells_8 rfl ?_
  obtain ⟨v3, hv3, h⟩ := xb h
  refine x_getI (o := a0) dX7_spells_9 xf_X7_25 hv3 ?_
  refine r_isub dX7_spells_12 ?_
  refine r_icmp_eq (tgt := 18) dX7_spells_13 (by decide) (fun c => ?_) (fun c => ?_)
  · replace h := (if_pos c).symm.trans h
    refine r_iconst (v := (0 : Int32)) dX7_spells_18 (by decide) ?_
    refine r_istore_n (lv' := [(2, .int (0 : Int32)), (0, va_rf a0), (1, va_rf a1)]) (x := (0 : Int32)) dX7_spells_19 (by decide) (congrArg (List.cons _) (xfY rfl (xfY (xk1 1 2 _) rfl))) ?_
    exact x_sub [1, 2, 0] rfl (R_X7_spells_L20 n rv n st a0 a1 (0 : Int32) h)
  · replace h := (if_neg c).symm.trans h
    refine r_iconst (v := (0 : Int32)) dX7_spells_16 (by decide) ?_
    obtain ⟨v12, hv12, h⟩ := xb h
    refine x_eqI (rz_inv2 hv12).1 ?_
    obtain rfl := Option.some.inj h
    exact r_ireturn dX7_spells_17 .boolean rfl (by rcases (rz_inv2 hv12).2 with e | e <;> rw [e] <;> rfl)
theorem S_X7_spells (n : Nat) (st : xS) (a0 : Option Nat) (a1 : Option Nat) (rv : Int32) (h : F_X7_spells n st a0 a1 = some rv) : Ct mX7_spells [va_rf a0, va_rf a1] st (some (.int rv)) st 7 := by
  refine Ct.of (by decide) (by simp only [lgL_R, lgL_I, lgL_L, lgL_0]; decide) ?_
  try simp only [lvA_R]
  exact R_X7_spells n st a0 a1 rv h
theorem R_X7_formOf_L2 (n : Nat) (rv : Int32) : ∀ (k : Nat) (st : xS) (a0 : Option Nat) (a1 : Int32) (a2 : Int32), F_X7_formOf_L2 n k st a0 a1 a2 = some rv → Rn mX7_formOf 2 [(0, va_rf a0), (1, .int a1), (2, .int a2)] [] st (some (.int rv)) st 8 := by
  intro k
  induction k with
  | zero => intro st a0 a1 a2 h; cases h
  | succ k ih =>
    intro st a0 a1 a2 h
    unfold F_X7_formOf_L2 at h
    refine r_iload_n (x := a2) dX7_formOf_2 rfl ?_
    refine r_bipush (v := (10 : Int32)) dX7_formOf_3 (by decide) ?_
    refine r_icmp_ge (tgt := 37) dX7_formOf_5 (by decide) (fun c => ?_) (fun c => ?_)
    · replace h := (if_pos c).symm.trans h
      refine r_iconst (v := (-1 : Int32)) dX7_formOf_37 (by decide) ?_
      obtain rfl := Option.some.inj h
      exact r_ireturn dX7_formOf_38 .int rfl rfl
    · replace h := (if_neg c).symm.trans h
      refine x_aload_n (o := a0) dX7_formOf_8 rfl ?_
      refine r_bipush (v := (10 : Int32)) dX7_formOf_9 (by decide) ?_
      refine r_iload_n (x := a1) dX7_formOf_11 rfl ?_
      refine r_imul dX7_formOf_12 ?_
      refine r_iload_n (x := a2) dX7_formOf_13 rfl ?_
      refine r_iadd dX7_formOf_14 ?_
      obtain ⟨v1, hv1, h⟩ := xb h
      refine z_callS (as := [.int (((10 : Int32) * a1) + a2)]) (r1 := (some (va_rf v1))) (stk := [va_rf a0]) (stk2 := [va_rf v1, va_rf a0]) (st1 := st) (d' := 0) dX7_formOf_15 xl_X7_125 (by decide) (Nat.le_trans (xsA xs0) (by decide)) rfl rfl (S_X7_wordOf n st (((10 : Int32) * a1) + a2) v1 hv1) ?_
      obtain ⟨q3, hq3, h⟩ := xb h
      obtain ⟨v2, hv2, h⟩ := xb h
      refine z_callV (as := [va_rf v1]) (o := a0) (r1 := (some (.int v2))) (stk := []) (stk2 := [.int v2]) (st1 := st) (d' := 7) dX7_formOf_18 xl_X7_129 hq3 (by decide) (Nat.le_trans xs0 (by decide)) rfl rfl (S_X7_spells n st a0 v1 v2 hv2) ?_
      refine r_if_eq (tgt := 31) dX7_formOf_21 (by decide) (fun c => ?_) (fun c => ?_)
      · replace h := (if_pos c).symm.trans h
        obtain ⟨v4, hv4, h⟩ := xb h
        refine x_iinc (c := (1 : Int32)) (lv' := [(2, .int v4), (0, va_rf a0), (1, .int a1)]) (x := a2) (v := v4) dX7_formOf_31 rfl (by decide) (Option.some.inj hv4) (by decide) rfl ?_
        refine r_goto (tgt := 2) dX7_formOf_34 (by decide) ?_
        exact x_sub [1, 2, 0] rfl (ih st a0 a1 v4 h)
      · replace h := (if_neg c).symm.trans h
        refine r_bipush (v := (10 : Int32)) dX7_formOf_24 (by decide) ?_
        refine r_iload_n (x := a1) dX7_formOf_26 rfl ?_
        refine r_imul dX7_formOf_27 ?_
        refine r_iload_n (x := a2) dX7_formOf_28 rfl ?_
        refine r_iadd dX7_formOf_29 ?_
        obtain rfl := Option.some.inj h
        exact r_ireturn dX7_formOf_30 .int rfl rfl
theorem R_X7_formOf (n : Nat) (st : xS) (a0 : Option Nat) (a1 : Int32) (rv : Int32) (h : F_X7_formOf n st a0 a1 = some rv) : Rn mX7_formOf 0 [(0, va_rf a0), (1, .int a1)] [] st (some (.int rv)) st 8 := by
  unfold F_X7_formOf at h
  refine r_iconst (v := (0 : Int32)) dX7_formOf_0 (by decide) ?_
  refine r_istore_n (lv' := [(2, .int (0 : Int32)), (0, va_rf a0), (1, .int a1)]) (x := (0 : Int32)) dX7_formOf_1 (by decide) rfl ?_
  exact x_sub [1, 2, 0] rfl (R_X7_formOf_L2 n rv n st a0 a1 (0 : Int32) h)
theorem S_X7_formOf (n : Nat) (st : xS) (a0 : Option Nat) (a1 : Int32) (rv : Int32) (h : F_X7_formOf n st a0 a1 = some rv) : Ct mX7_formOf [va_rf a0, .int a1] st (some (.int rv)) st 8 := by
  refine Ct.of (by decide) (by simp only [lgL_R, lgL_I, lgL_L, lgL_0]; decide) ?_
  try simp only [lvA_R]
  exact R_X7_formOf n st a0 a1 rv h
theorem R_X7_isBlank (n : Nat) (st : xS) (a0 : Int32) (rv : Int32) (h : F_X7_isBlank n st a0 = some rv) : Rn mX7_isBlank 0 [(0, .int a0)] [] st (some (.int rv)) st 0 := by
  unfold F_X7_isBlank at h
  refine r_iload_n (x := a0) dX7_isBlank_0 rfl ?_
  refine r_bipush (v := (10 : Int32)) dX7_isBlank_1 (by decide) ?_
  obtain ⟨q1, hq1, h⟩ := xb h
  have Jq1 : Rn mX7_isBlank 17 [] [.int q1] st (some (.int rv)) st 0 := by
    obtain ⟨v2, hv2, h⟩ := xb h
    refine x_eqI (rz_inv2 hv2).1 ?_
    obtain rfl := Option.some.inj h
    exact r_ireturn dX7_isBlank_17 .boolean rfl (by rcases (rz_inv2 hv2).2 with e | e <;> rw [e] <;> rfl)
  refine r_icmp_eq (tgt := 12) dX7_isBlank_3 (by decide) (fun c => ?_) (fun c => ?_)
  · replace hq1 := (if_pos c).symm.trans hq1
    refine r_iconst (v := (1 : Int32)) dX7_isBlank_12 (by decide) ?_
    refine r_goto (tgt := 17) dX7_isBlank_13 (by decide) ?_
    obtain rfl := Option.some.inj hq1
    exact x_sub [] rfl Jq1
  · replace hq1 := (if_neg c).symm.trans hq1
    refine r_iload_n (x := a0) dX7_isBlank_6 rfl ?_
    refine r_bipush (v := (32 : Int32)) dX7_isBlank_7 (by decide) ?_
    refine r_icmp_ne (tgt := 16) dX7_isBlank_9 (by decide) (fun c => ?_) (fun c => ?_)
    · replace hq1 := (if_neg c).symm.trans hq1
      refine r_iconst (v := (0 : Int32)) dX7_isBlank_16 (by decide) ?_
      obtain rfl := Option.some.inj hq1
      exact x_sub [] rfl Jq1
    · replace hq1 := (if_pos c).symm.trans hq1
      refine r_iconst (v := (1 : Int32)) dX7_isBlank_12 (by decide) ?_
      refine r_goto (tgt := 17) dX7_isBlank_13 (by decide) ?_
      obtain rfl := Option.some.inj hq1
      exact x_sub [] rfl Jq1
theorem S_X7_isBlank (n : Nat) (st : xS) (a0 : Int32) (rv : Int32) (h : F_X7_isBlank n st a0 = some rv) : Ct mX7_isBlank [.int a0] st (some (.int rv)) st 0 := by
  refine Ct.of (by decide) (by simp only [lgL_R, lgL_I, lgL_L, lgL_0]; decide) ?_
  try simp only [lvA_R]
  exact R_X7_isBlank n st a0 rv h
theorem R_X7_isLetter (n : Nat) (st : xS) (a0 : Int32) (rv : Int32) (h : F_X7_isLetter n st a0 = some rv) : Rn mX7_isLetter 0 [(0, .int a0)] [] st (some (.int rv)) st 0 := by
  unfold F_X7_isLetter at h
  refine r_iload_n (x := a0) dX7_isLetter_0 rfl ?_
  refine r_bipush (v := (97 : Int32)) dX7_isLetter_1 (by decide) ?_
  obtain ⟨q1, hq1, h⟩ := xb h
  have Jq1 : Rn mX7_isLetter 17 [] [.int q1] st (some (.int rv)) st 0 := by
    obtain ⟨v2, hv2, h⟩ := xb h
    refine x_eqI (rz_inv2 hv2).1 ?_
    obtain rfl := Option.some.inj h
    exact r_ireturn dX7_isLetter_17 .boolean rfl (by rcases (rz_inv2 hv2).2 with e | e <;> rw [e] <;> rfl)
  refine r_icmp_lt (tgt := 16) dX7_isLetter_3 (by decide) (fun c => ?_) (fun c => ?_)
  · replace hq1 := (if_pos c).symm.trans hq1
    refine r_iconst (v := (0 : Int32)) dX7_isLetter_16 (by decide) ?_
    obtain rfl := Option.some.inj hq1
    exact x_sub [] rfl Jq1
  · replace hq1 := (if_neg c).symm.trans hq1
    refine r_iload_n (x := a0) dX7_isLetter_6 rfl ?_
    refine r_bipush (v := (122 : Int32)) dX7_isLetter_7 (by decide) ?_
    refine r_icmp_gt (tgt := 16) dX7_isLetter_9 (by decide) (fun c => ?_) (fun c => ?_)
    · replace hq1 := (if_pos c).symm.trans hq1
      refine r_iconst (v := (0 : Int32)) dX7_isLetter_16 (by decide) ?_
      obtain rfl := Option.some.inj hq1
      exact x_sub [] rfl Jq1
    · replace hq1 := (if_neg c).symm.trans hq1
      refine r_iconst (v := (1 : Int32)) dX7_isLetter_12 (by decide) ?_
      refine r_goto (tgt := 17) dX7_isLetter_13 (by decide) ?_
      obtain rfl := Option.some.inj hq1
      exact x_sub [] rfl Jq1
theorem S_X7_isLetter (n : Nat) (st : xS) (a0 : Int32) (rv : Int32) (h : F_X7_isLetter n st a0 = some rv) : Ct mX7_isLetter [.int a0] st (some (.int rv)) st 0 := by
  refine Ct.of (by decide) (by simp only [lgL_R, lgL_I, lgL_L, lgL_0]; decide) ?_
  try simp only [lvA_R]
  exact R_X7_isLetter n st a0 rv h
theorem R_X7_isDigit (n : Nat) (st : xS) (a0 : Int32) (rv : Int32) (h : F_X7_isDigit n st a0 = some rv) : Rn mX7_isDigit 0 [(0, .int a0)] [] st (some (.int rv)) st 0 := by
  unfold F_X7_isDigit at h
  refine r_iload_n (x := a0) dX7_isDigit_0 rfl ?_
  refine r_bipush (v := (48 : Int32)) dX7_isDigit_1 (by decide) ?_
  obtain ⟨q1, hq1, h⟩ := xb h
  have Jq1 : Rn mX7_isDigit 17 [] [.int q1] st (some (.int rv)) st 0 := by
    obtain ⟨v2, hv2, h⟩ := xb h
    refine x_eqI (rz_inv2 hv2).1 ?_
    obtain rfl := Option.some.inj h
    exact r_ireturn dX7_isDigit_17 .boolean rfl (by rcases (rz_inv2 hv2).2 with e | e <;> rw [e] <;> rfl)
  refine r_icmp_lt (tgt := 16) dX7_isDigit_3 (by decide) (fun c => ?_) (fun c => ?_)
  · replace hq1 := (if_pos c).symm.trans hq1
    refine r_iconst (v := (0 : Int32)) dX7_isDigit_16 (by decide) ?_
    obtain rfl := Option.some.inj hq1
    exact x_sub [] rfl Jq1
  · replace hq1 := (if_neg c).symm.trans hq1
    refine r_iload_n (x := a0) dX7_isDigit_6 rfl ?_
    refine r_bipush (v := (57 : Int32)) dX7_isDigit_7 (by decide) ?_
    refine r_icmp_gt (tgt := 16) dX7_isDigit_9 (by decide) (fun c => ?_) (fun c => ?_)
    · replace hq1 := (if_pos c).symm.trans hq1
      refine r_iconst (v := (0 : Int32)) dX7_isDigit_16 (by decide) ?_
      obtain rfl := Option.some.inj hq1
      exact x_sub [] rfl Jq1
    · replace hq1 := (if_neg c).symm.trans hq1
      refine r_iconst (v := (1 : Int32)) dX7_isDigit_12 (by decide) ?_
      refine r_goto (tgt := 17) dX7_isDigit_13 (by decide) ?_
      obtain rfl := Option.some.inj hq1
      exact x_sub [] rfl Jq1
theorem S_X7_isDigit (n : Nat) (st : xS) (a0 : Int32) (rv : Int32) (h : F_X7_isDigit n st a0 = some rv) : Ct mX7_isDigit [.int a0] st (some (.int rv)) st 0 := by
  refine Ct.of (by decide) (by simp only [lgL_R, lgL_I, lgL_L, lgL_0]; decide) ?_
  try simp only [lvA_R]
  exact R_X7_isDigit n st a0 rv h
theorem R_X7_stepNumber_L5 (n : Nat) {r : Option Value} {st' : xS} : ∀ (k : Nat) (st : xS) (a0 : Option Nat) (q : (xS)), F_X7_stepNumber_L5 n k st a0 = some q → Rn mX7_stepNumber 79 [(0, va_rf a0)] [] q r st' 1 → Rn mX7_stepNumber 5 [(0, va_rf a0)] [] st r st' 1 := by
  intro k
  induction k with
  | zero => intro st a0 q h; cases h
  | succ k ih =>
    intro st a0 q h J
    unfold F_X7_stepNumber_L5 at h
    refine x_aload_n (o := a0) dX7_stepNumber_5 rfl ?_
    obtain ⟨v2, hv2, h⟩ := xb h
    refine x_getI (o := a0) dX7_stepNumber_6 xf_X7_19 hv2 ?_
    refine x_aload_n (o := a0) dX7_stepNumber_9 rfl ?_
    obtain ⟨v3, hv3, h⟩ := xb h
    refine x_getI (o := a0) dX7_stepNumber_10 xf_X7_15 hv3 ?_
    refine r_icmp_ge (tgt := 79) dX7_stepNumber_13 (by decide) (fun c => ?_) (fun c => ?_)
    · replace h := (if_pos c).symm.trans h
      obtain rfl := Option.some.inj h
      exact x_sub [0] rfl J
    · replace h := (if_neg c).symm.trans h
      refine x_aload_n (o := a0) dX7_stepNumber_16 rfl ?_
      refine x_aload_n (o := a0) dX7_stepNumber_17 rfl ?_
      obtain ⟨v4, hv4, h⟩ := xb h
      refine x_getI (o := a0) dX7_stepNumber_18 xf_X7_19 hv4 ?_
      obtain ⟨q6, hq6, h⟩ := xb h
      obtain ⟨v5, hv5, h⟩ := xb h
      refine z_callV (as := [.int v4]) (o := a0) (r1 := (some (.int v5))) (stk := []) (stk2 := [.int v5]) (st1 := st) (d' := 0) dX7_stepNumber_21 xl_X7_142 hq6 (by decide) (Nat.le_trans xs0 (by decide)) rfl rfl (S_X7_signAt n st a0 v4 v5 hv5) ?_
      obtain ⟨v7, hv7, h⟩ := xb h
      refine z_callS (as := [.int v5]) (r1 := (some (.int v7))) (stk := []) (stk2 := [.int v7]) (st1 := st) (d' := 0) dX7_stepNumber_24 xl_X7_151 (by decide) (Nat.le_trans xs0 (by decide)) rfl rfl (S_X7_isDigit n st v5 v7 hv7) ?_
      refine r_if_eq (tgt := 79) dX7_stepNumber_27 (by decide) (fun c => ?_) (fun c => ?_)
      · replace h := (if_pos c).symm.trans h
        obtain rfl := Option.some.inj h
        exact x_sub [0] rfl J
      · replace h := (if_neg c).symm.trans h
        refine x_aload_n (o := a0) dX7_stepNumber_30 rfl ?_
        obtain ⟨v8, hv8, h⟩ := xb h
        refine x_getI (o := a0) dX7_stepNumber_31 xf_X7_19 hv8 ?_
        refine x_aload_n (o := a0) dX7_stepNumber_34 rfl ?_
        obtain ⟨v9, hv9, h⟩ := xb h
        refine x_getI (o := a0) dX7_stepNumber_35 xf_X7_25 hv9 ?_
        refine r_isub dX7_stepNumber_38 ?_
        refine r_iconst (v := (4 : Int32)) dX7_stepNumber_39 (by decide) ?_
        obtain ⟨q15, hq15, h⟩ := xb h
        have Jq15 : Rn mX7_stepNumber 66 [(0, va_rf a0)] [] q15 r st' 1 := by
          refine x_aload_n (o := a0) dX7_stepNumber_66 rfl ?_
          refine x_dupR (o := a0) dX7_stepNumber_67 ?_
          obtain ⟨v16, hv16, h⟩ := xb h
          refine x_getI (o := a0) dX7_stepNumber_68 xf_X7_19 hv16 ?_
          refine r_iconst (v := (1 : Int32)) dX7_stepNumber_71 (by decide) ?_
          refine r_iadd dX7_stepNumber_72 ?_
          obtain ⟨s17, hs17, h⟩ := xb h
          refine x_putI (o := a0) dX7_stepNumber_73 (xp_X7_19 _) hs17 ?_
          refine r_goto (tgt := 5) dX7_stepNumber_76 (by decide) ?_
          exact x_sub [0] rfl (ih s17 a0 q h J)
        refine r_icmp_ge (tgt := 66) dX7_stepNumber_40 (by decide) (fun c => ?_) (fun c => ?_)
        · replace hq15 := (if_pos c).symm.trans hq15
          obtain rfl := Option.some.inj hq15
          exact x_sub [0] rfl Jq15
        · replace hq15 := (if_neg c).symm.trans hq15
          refine x_aload_n (o := a0) dX7_stepNumber_43 rfl ?_
          refine r_bipush (v := (10 : Int32)) dX7_stepNumber_44 (by decide) ?_
          refine x_aload_n (o := a0) dX7_stepNumber_46 rfl ?_
          obtain ⟨v10, hv10, hq15⟩ := xb hq15
          refine x_getI (o := a0) dX7_stepNumber_47 xf_X7_28 hv10 ?_
          refine r_imul dX7_stepNumber_50 ?_
          refine x_aload_n (o := a0) dX7_stepNumber_51 rfl ?_
          refine x_aload_n (o := a0) dX7_stepNumber_52 rfl ?_
          obtain ⟨v11, hv11, hq15⟩ := xb hq15
          refine x_getI (o := a0) dX7_stepNumber_53 xf_X7_19 hv11 ?_
          obtain ⟨q13, hq13, hq15⟩ := xb hq15
          obtain ⟨v12, hv12, hq15⟩ := xb hq15
          refine z_callV (as := [.int v11]) (o := a0) (r1 := (some (.int v12))) (stk := [.int ((10 : Int32) * v10), va_rf a0]) (stk2 := [.int v12, .int ((10 : Int32) * v10), va_rf a0]) (st1 := st) (d' := 0) dX7_stepNumber_56 xl_X7_142 hq13 (by decide) (Nat.le_trans (xsI (xsA xs0)) (by decide)) rfl rfl (S_X7_signAt n st a0 v11 v12 hv12) ?_
          refine r_iadd dX7_stepNumber_59 ?_
          refine r_bipush (v := (48 : Int32)) dX7_stepNumber_60 (by decide) ?_
          refine r_isub dX7_stepNumber_62 ?_
          obtain ⟨s14, hs14, hq15⟩ := xb hq15
          refine x_putI (o := a0) dX7_stepNumber_63 (xp_X7_28 _) hs14 ?_
          obtain rfl := Option.some.inj hq15
          exact x_sub [0] rfl Jq15
theorem R_X7_stepNumber (n : Nat) (st : xS) (a0 : Option Nat) (st' : xS) (h : F_X7_stepNumber n st a0 = some st') : Rn mX7_stepNumber 0 [(0, va_rf a0)] [] st none st' 1 := by
  unfold F_X7_stepNumber at h
  refine x_aload_n (o := a0) dX7_stepNumber_0 rfl ?_
  refine r_iconst (v := (0 : Int32)) dX7_stepNumber_1 (by decide) ?_
  obtain ⟨s1, hs1, h⟩ := xb h
  refine x_putI (o := a0) dX7_stepNumber_2 (xp_X7_28 _) hs1 ?_
  obtain ⟨q18, hq18, h⟩ := xb h
  have Jq18 : Rn mX7_stepNumber 79 [(0, va_rf a0)] [] q18 none st' 1 := by
    refine x_aload_n (o := a0) dX7_stepNumber_79 rfl ?_
    refine x_aload_n (o := a0) dX7_stepNumber_80 rfl ?_
    obtain ⟨v19, hv19, h⟩ := xb h
    refine x_getI (o := a0) dX7_stepNumber_81 xf_X7_19 hv19 ?_
    refine x_aload_n (o := a0) dX7_stepNumber_84 rfl ?_
    obtain ⟨v20, hv20, h⟩ := xb h
    refine x_getI (o := a0) dX7_stepNumber_85 xf_X7_25 hv20 ?_
    refine r_isub dX7_stepNumber_88 ?_
    refine r_iconst (v := (4 : Int32)) dX7_stepNumber_89 (by decide) ?_
    obtain ⟨q21, hq21, h⟩ := xb h
    have Jq21 : Rn mX7_stepNumber 98 [] [.int q21, va_rf a0] q18 none st' 1 := by
      obtain ⟨s22, hs22, h⟩ := xb h
      refine x_putI (o := a0) dX7_stepNumber_98 (xp_X7_22 _) hs22 ?_
      obtain rfl := Option.some.inj h
      exact r_return dX7_stepNumber_101 rfl
    refine r_icmp_gt (tgt := 97) dX7_stepNumber_90 (by decide) (fun c => ?_) (fun c => ?_)
    · replace hq21 := (if_pos c).symm.trans hq21
      refine r_iconst (v := (4 : Int32)) dX7_stepNumber_97 (by decide) ?_
      obtain rfl := Option.some.inj hq21
      exact x_sub [] rfl Jq21
    · replace hq21 := (if_neg c).symm.trans hq21
      refine r_iconst (v := (2 : Int32)) dX7_stepNumber_93 (by decide) ?_
      refine r_goto (tgt := 98) dX7_stepNumber_94 (by decide) ?_
      obtain rfl := Option.some.inj hq21
      exact x_sub [] rfl Jq21
  exact x_sub [0] rfl (R_X7_stepNumber_L5 n n s1 a0 q18 hq18 Jq18)
theorem S_X7_stepNumber (n : Nat) (st : xS) (a0 : Option Nat) (st' : xS) (h : F_X7_stepNumber n st a0 = some st') : Ct mX7_stepNumber [va_rf a0] st none st' 1 := by
  refine Ct.of (by decide) (by simp only [lgL_R, lgL_I, lgL_L, lgL_0]; decide) ?_
  try simp only [lvA_R]
  exact R_X7_stepNumber n st a0 st' h

/-! printed by a program: the methods run as their functions say -/
theorem R_X10_playOne (n : Nat) (st : xS) (a0 : Option Nat) (a1 : Int32) (a2 : Int32) (a3 : Option Nat) (st' : xS) (h : F_X10_playOne n st a0 a1 a2 a3 = some st') : Rn mX10_playOne 0 [(0, va_rf a0), (1, .int a1), (2, .int a2), (3, va_rf a3)] [] st none st' 3 := by
  unfold F_X10_playOne at h
  refine x_aload_n (o := a3) dX10_playOne_0 rfl ?_
  refine x_aload_n (o := a0) dX10_playOne_1 rfl ?_
  obtain ⟨v1, hv1, h⟩ := xb h
  refine x_getR (o := a0) dX10_playOne_2 xf_X10_30 hv1 ?_
  obtain ⟨v2, hv2, h⟩ := xb h
  refine x_getI (o := v1) dX10_playOne_5 xf_X10_161 hv2 ?_
  obtain ⟨q4, hq4, h⟩ := xb h
  obtain ⟨p3, hp3, h⟩ := xb h
  refine z_callV (as := [.int v2]) (o := a3) (r1 := (some (.int p3.1))) (stk := []) (stk2 := [.int p3.1]) (st1 := p3.2) (d' := 1) dX10_playOne_8 xl_X10_193 hq4 (by decide) (Nat.le_trans xs0 (by decide)) rfl rfl (S_X0_shots n st a3 v2 p3.1 p3.2 hp3) ?_
  refine r_istore (lv' := [(4, .int p3.1), (0, va_rf a0), (1, .int a1), (2, .int a2), (3, va_rf a3)]) (x := p3.1) dX10_playOne_11 (by decide) (congrArg (List.cons _) (xfY rfl (xfY rfl (xfY rfl (xfY (xk1 3 4 _) rfl))))) ?_
  refine x_aload_n (o := a3) dX10_playOne_13 rfl ?_
  refine x_aload_n (o := a0) dX10_playOne_14 rfl ?_
  obtain ⟨v5, hv5, h⟩ := xb h
  refine x_getR (o := a0) dX10_playOne_15 xf_X10_30 hv5 ?_
  obtain ⟨v6, hv6, h⟩ := xb h
  refine x_getI (o := v5) dX10_playOne_18 xf_X10_164 hv6 ?_
  obtain ⟨q8, hq8, h⟩ := xb h
  obtain ⟨p7, hp7, h⟩ := xb h
  refine z_callV (as := [.int v6]) (o := a3) (r1 := (some (.int p7.1))) (stk := []) (stk2 := [.int p7.1]) (st1 := p7.2) (d' := 1) dX10_playOne_21 xl_X10_193 hq8 (by decide) (Nat.le_trans xs0 (by decide)) rfl rfl (S_X0_shots n p3.2 a3 v6 p7.1 p7.2 hp7) ?_
  refine r_istore (lv' := [(5, .int p7.1), (4, .int p3.1), (0, va_rf a0), (1, .int a1), (2, .int a2), (3, va_rf a3)]) (x := p7.1) dX10_playOne_24 (by decide) rfl ?_
  refine x_aload_n (o := a3) dX10_playOne_26 rfl ?_
  refine r_iconst (v := (4 : Int32)) dX10_playOne_27 (by decide) ?_
  obtain ⟨q10, hq10, h⟩ := xb h
  obtain ⟨p9, hp9, h⟩ := xb h
  refine z_callV (as := [.int (4 : Int32)]) (o := a3) (r1 := (some (.int p9.1))) (stk := []) (stk2 := [.int p9.1]) (st1 := p9.2) (d' := 0) dX10_playOne_28 xl_X10_196 hq10 (by decide) (Nat.le_trans xs0 (by decide)) rfl rfl (S_X0_below n p7.2 a3 (4 : Int32) p9.1 p9.2 hp9) ?_
  refine r_istore (lv' := [(6, .int p9.1), (5, .int p7.1), (4, .int p3.1), (0, va_rf a0), (1, .int a1), (2, .int a2), (3, va_rf a3)]) (x := p9.1) dX10_playOne_31 (by decide) rfl ?_
  refine x_aload_n (o := a3) dX10_playOne_33 rfl ?_
  refine r_iconst (v := (4 : Int32)) dX10_playOne_34 (by decide) ?_
  obtain ⟨q12, hq12, h⟩ := xb h
  obtain ⟨p11, hp11, h⟩ := xb h
  refine z_callV (as := [.int (4 : Int32)]) (o := a3) (r1 := (some (.int p11.1))) (stk := []) (stk2 := [.int p11.1]) (st1 := p11.2) (d' := 0) dX10_playOne_35 xl_X10_196 hq12 (by decide) (Nat.le_trans xs0 (by decide)) rfl rfl (S_X0_below n p9.2 a3 (4 : Int32) p11.1 p11.2 hp11) ?_
  refine x_aload_n (o := a0) dX10_playOne_38 rfl ?_
  obtain ⟨v13, hv13, h⟩ := xb h
  refine x_getR (o := a0) dX10_playOne_39 xf_X10_30 hv13 ?_
  refine r_iconst (v := (4 : Int32)) dX10_playOne_42 (by decide) ?_
  obtain ⟨q15, hq15, h⟩ := xb h
  obtain ⟨v14, hv14, h⟩ := xb h
  refine z_callV (as := [.int (4 : Int32)]) (o := v13) (r1 := (some (.int v14))) (stk := [.int p11.1]) (stk2 := [.int v14, .int p11.1]) (st1 := p11.2) (d' := 1) dX10_playOne_43 xl_X10_170 hq15 (by decide) (Nat.le_trans (xsI xs0) (by decide)) rfl rfl (S_X5_worthOf n p11.2 v13 (4 : Int32) v14 hv14) ?_
  obtain ⟨q16, hq16, h⟩ := xb h
  have Jq16 : Rn mX10_playOne 54 [(0, va_rf a0), (1, .int a1), (2, .int a2), (3, va_rf a3), (4, .int p3.1), (5, .int p7.1), (6, .int p9.1)] [.int q16, .int p11.1] p11.2 none st' 3 := by
    refine r_iadd dX10_playOne_54 ?_
    obtain ⟨v17, hv17, h⟩ := xb h
    refine x_eqI (Option.some.inj hv17) ?_
    refine r_istore (lv' := [(7, .int v17), (0, va_rf a0), (1, .int a1), (2, .int a2), (3, va_rf a3), (4, .int p3.1), (5, .int p7.1), (6, .int p9.1)]) (x := v17) dX10_playOne_55 (by decide) rfl ?_
    refine x_aload_n (o := a0) dX10_playOne_57 rfl ?_
    obtain ⟨v18, hv18, h⟩ := xb h
    refine x_getR (o := a0) dX10_playOne_58 xf_X10_30 hv18 ?_
    obtain ⟨v19, hv19, h⟩ := xb h
    refine x_getR (o := v18) dX10_playOne_61 xf_X10_148 hv19 ?_
    refine r_iload_n (x := a1) dX10_playOne_64 rfl ?_
    refine r_iconst (v := (4 : Int32)) dX10_playOne_65 (by decide) ?_
    obtain ⟨q21, hq21, h⟩ := xb h
    obtain ⟨v20, hv20, h⟩ := xb h
    refine z_callV (as := [.int a1, .int (4 : Int32)]) (o := v19) (r1 := (some (.int v20))) (stk := []) (stk2 := [.int v20]) (st1 := p11.2) (d' := 1) dX10_playOne_66 xl_X10_138 hq21 (by decide) (Nat.le_trans xs0 (by decide)) rfl rfl (S_X6_of n p11.2 v19 a1 (4 : Int32) v20 hv20) ?_
    refine r_istore (lv' := [(8, .int v20), (7, .int v17), (0, va_rf a0), (1, .int a1), (2, .int a2), (3, va_rf a3), (4, .int p3.1), (5, .int p7.1), (6, .int p9.1)]) (x := v20) dX10_playOne_69 (by decide) rfl ?_
    refine r_iconst (v := (1 : Int32)) dX10_playOne_71 (by decide) ?_
    refine x_aload_n (o := a3) dX10_playOne_72 rfl ?_
    refine r_iconst (v := (3 : Int32)) dX10_playOne_73 (by decide) ?_
    obtain ⟨q23, hq23, h⟩ := xb h
    obtain ⟨p22, hp22, h⟩ := xb h
    refine z_callV (as := [.int (3 : Int32)]) (o := a3) (r1 := (some (.int p22.1))) (stk := [.int (1 : Int32)]) (stk2 := [.int p22.1, .int (1 : Int32)]) (st1 := p22.2) (d' := 0) dX10_playOne_74 xl_X10_196 hq23 (by decide) (Nat.le_trans (xsI xs0) (by decide)) rfl rfl (S_X0_below n p11.2 a3 (3 : Int32) p22.1 p22.2 hp22) ?_
    refine r_iadd dX10_playOne_77 ?_
    refine r_iload (x := v20) dX10_playOne_78 rfl ?_
    refine r_iconst (v := (1 : Int32)) dX10_playOne_80 (by decide) ?_
    obtain ⟨q24, hq24, h⟩ := xb h
    have Jq24 : Rn mX10_playOne 98 [(0, va_rf a0), (1, .int a1), (2, .int a2), (4, .int p3.1), (5, .int p7.1), (6, .int p9.1), (7, .int v17), (8, .int v20)] [.int q24, .int ((1 : Int32) + p22.1)] p22.2 none st' 3 := by
      refine r_iadd dX10_playOne_98 ?_
      obtain ⟨v25, hv25, h⟩ := xb h
      refine x_eqI (Option.some.inj hv25) ?_
      refine r_istore (lv' := [(9, .int v25), (0, va_rf a0), (1, .int a1), (2, .int a2), (4, .int p3.1), (5, .int p7.1), (6, .int p9.1), (7, .int v17), (8, .int v20)]) (x := v25) dX10_playOne_99 (by decide) rfl ?_
      refine x_aload_n (o := a0) dX10_playOne_101 rfl ?_
      obtain ⟨v26, hv26, h⟩ := xb h
      refine x_getR (o := a0) dX10_playOne_102 xf_X10_10 hv26 ?_
      obtain ⟨q28, hq28, h⟩ := xb h
      obtain ⟨p27, hp27, h⟩ := xb h
      refine z_callV (as := []) (o := v26) (r1 := (some (.int p27.1))) (stk := []) (stk2 := [.int p27.1]) (st1 := p27.2) (d' := 2) dX10_playOne_105 xl_X10_199 hq28 (by decide) (Nat.le_trans xs0 (by decide)) rfl rfl (S_X9_newNote n p22.2 v26  p27.1 p27.2 hp27) ?_
      refine r_istore (lv' := [(10, .int p27.1), (9, .int v25), (0, va_rf a0), (1, .int a1), (2, .int a2), (4, .int p3.1), (5, .int p7.1), (6, .int p9.1), (7, .int v17), (8, .int v20)]) (x := p27.1) dX10_playOne_108 (by decide) rfl ?_
      refine x_aload_n (o := a0) dX10_playOne_110 rfl ?_
      obtain ⟨v29, hv29, h⟩ := xb h
      refine x_getR (o := a0) dX10_playOne_111 xf_X10_10 hv29 ?_
      refine r_iload (x := p27.1) dX10_playOne_114 rfl ?_
      refine r_iconst (v := (0 : Int32)) dX10_playOne_116 (by decide) ?_
      refine x_aload_n (o := a0) dX10_playOne_117 rfl ?_
      obtain ⟨v30, hv30, h⟩ := xb h
      refine x_getR (o := a0) dX10_playOne_118 xf_X10_30 hv30 ?_
      obtain ⟨v31, hv31, h⟩ := xb h
      refine x_getR (o := v30) dX10_playOne_121 xf_X10_148 hv31 ?_
      refine r_iload_n (x := a1) dX10_playOne_124 rfl ?_
      refine r_iconst (v := (0 : Int32)) dX10_playOne_125 (by decide) ?_
      obtain ⟨q33, hq33, h⟩ := xb h
      obtain ⟨v32, hv32, h⟩ := xb h
      refine z_callV (as := [.int a1, .int (0 : Int32)]) (o := v31) (r1 := (some (.int v32))) (stk := [.int (0 : Int32), .int p27.1, va_rf v29]) (stk2 := [.int v32, .int (0 : Int32), .int p27.1, va_rf v29]) (st1 := p27.2) (d' := 1) dX10_playOne_126 xl_X10_138 hq33 (by decide) (Nat.le_trans (xsI (xsI (xsA xs0))) (by decide)) rfl rfl (S_X6_of n p27.2 v31 a1 (0 : Int32) v32 hv32) ?_
      obtain ⟨q35, hq35, h⟩ := xb h
      obtain ⟨s34, hs34, h⟩ := xb h
      refine z_callV (as := [.int p27.1, .int (0 : Int32), .int v32]) (o := v29) (r1 := none) (stk := []) (stk2 := []) (st1 := s34) (d' := 1) dX10_playOne_129 xl_X10_203 hq35 (by decide) (Nat.le_trans xs0 (by decide)) rfl rfl (S_X9_setNote n p27.2 v29 p27.1 (0 : Int32) v32 s34 hs34) ?_
      refine x_aload_n (o := a0) dX10_playOne_132 rfl ?_
      obtain ⟨v36, hv36, h⟩ := xb h
      refine x_getR (o := a0) dX10_playOne_133 xf_X10_10 hv36 ?_
      refine r_iload (x := p27.1) dX10_playOne_136 rfl ?_
      refine r_iconst (v := (1 : Int32)) dX10_playOne_138 (by decide) ?_
      refine x_aload_n (o := a0) dX10_playOne_139 rfl ?_
      obtain ⟨v37, hv37, h⟩ := xb h
      refine x_getR (o := a0) dX10_playOne_140 xf_X10_30 hv37 ?_
      obtain ⟨v38, hv38, h⟩ := xb h
      refine x_getR (o := v37) dX10_playOne_143 xf_X10_148 hv38 ?_
      refine r_iload_n (x := a1) dX10_playOne_146 rfl ?_
      refine r_iconst (v := (1 : Int32)) dX10_playOne_147 (by decide) ?_
      obtain ⟨q40, hq40, h⟩ := xb h
      obtain ⟨v39, hv39, h⟩ := xb h
      refine z_callV (as := [.int a1, .int (1 : Int32)]) (o := v38) (r1 := (some (.int v39))) (stk := [.int (1 : Int32), .int p27.1, va_rf v36]) (stk2 := [.int v39, .int (1 : Int32), .int p27.1, va_rf v36]) (st1 := s34) (d' := 1) dX10_playOne_148 xl_X10_138 hq40 (by decide) (Nat.le_trans (xsI (xsI (xsA xs0))) (by decide)) rfl rfl (S_X6_of n s34 v38 a1 (1 : Int32) v39 hv39) ?_
      obtain ⟨q42, hq42, h⟩ := xb h
      obtain ⟨s41, hs41, h⟩ := xb h
      refine z_callV (as := [.int p27.1, .int (1 : Int32), .int v39]) (o := v36) (r1 := none) (stk := []) (stk2 := []) (st1 := s41) (d' := 1) dX10_playOne_151 xl_X10_203 hq42 (by decide) (Nat.le_trans xs0 (by decide)) rfl rfl (S_X9_setNote n s34 v36 p27.1 (1 : Int32) v39 s41 hs41) ?_
      refine x_aload_n (o := a0) dX10_playOne_154 rfl ?_
      obtain ⟨v43, hv43, h⟩ := xb h
      refine x_getR (o := a0) dX10_playOne_155 xf_X10_10 hv43 ?_
      refine r_iload (x := p27.1) dX10_playOne_158 rfl ?_
      refine r_iconst (v := (2 : Int32)) dX10_playOne_160 (by decide) ?_
      refine r_iload_n (x := a2) dX10_playOne_161 rfl ?_
      obtain ⟨q45, hq45, h⟩ := xb h
      obtain ⟨s44, hs44, h⟩ := xb h
      refine z_callV (as := [.int p27.1, .int (2 : Int32), .int a2]) (o := v43) (r1 := none) (stk := []) (stk2 := []) (st1 := s44) (d' := 1) dX10_playOne_162 xl_X10_203 hq45 (by decide) (Nat.le_trans xs0 (by decide)) rfl rfl (S_X9_setNote n s41 v43 p27.1 (2 : Int32) a2 s44 hs44) ?_
      refine x_aload_n (o := a0) dX10_playOne_165 rfl ?_
      obtain ⟨v46, hv46, h⟩ := xb h
      refine x_getR (o := a0) dX10_playOne_166 xf_X10_10 hv46 ?_
      refine r_iload (x := p27.1) dX10_playOne_169 rfl ?_
      refine r_iconst (v := (3 : Int32)) dX10_playOne_171 (by decide) ?_
      refine r_iload (x := p3.1) dX10_playOne_172 rfl ?_
      obtain ⟨q48, hq48, h⟩ := xb h
      obtain ⟨s47, hs47, h⟩ := xb h
      refine z_callV (as := [.int p27.1, .int (3 : Int32), .int p3.1]) (o := v46) (r1 := none) (stk := []) (stk2 := []) (st1 := s47) (d' := 1) dX10_playOne_174 xl_X10_203 hq48 (by decide) (Nat.le_trans xs0 (by decide)) rfl rfl (S_X9_setNote n s44 v46 p27.1 (3 : Int32) p3.1 s47 hs47) ?_
      refine x_aload_n (o := a0) dX10_playOne_177 rfl ?_
      obtain ⟨v49, hv49, h⟩ := xb h
      refine x_getR (o := a0) dX10_playOne_178 xf_X10_10 hv49 ?_
      refine r_iload (x := p27.1) dX10_playOne_181 rfl ?_
      refine r_iconst (v := (4 : Int32)) dX10_playOne_183 (by decide) ?_
      refine r_iload (x := p7.1) dX10_playOne_184 rfl ?_
      obtain ⟨q51, hq51, h⟩ := xb h
      obtain ⟨s50, hs50, h⟩ := xb h
      refine z_callV (as := [.int p27.1, .int (4 : Int32), .int p7.1]) (o := v49) (r1 := none) (stk := []) (stk2 := []) (st1 := s50) (d' := 1) dX10_playOne_186 xl_X10_203 hq51 (by decide) (Nat.le_trans xs0 (by decide)) rfl rfl (S_X9_setNote n s47 v49 p27.1 (4 : Int32) p7.1 s50 hs50) ?_
      refine x_aload_n (o := a0) dX10_playOne_189 rfl ?_
      obtain ⟨v52, hv52, h⟩ := xb h
      refine x_getR (o := a0) dX10_playOne_190 xf_X10_10 hv52 ?_
      refine r_iload (x := p27.1) dX10_playOne_193 rfl ?_
      refine r_iconst (v := (5 : Int32)) dX10_playOne_195 (by decide) ?_
      refine r_iload (x := p9.1) dX10_playOne_196 rfl ?_
      obtain ⟨q54, hq54, h⟩ := xb h
      obtain ⟨s53, hs53, h⟩ := xb h
      refine z_callV (as := [.int p27.1, .int (5 : Int32), .int p9.1]) (o := v52) (r1 := none) (stk := []) (stk2 := []) (st1 := s53) (d' := 1) dX10_playOne_198 xl_X10_203 hq54 (by decide) (Nat.le_trans xs0 (by decide)) rfl rfl (S_X9_setNote n s50 v52 p27.1 (5 : Int32) p9.1 s53 hs53) ?_
      refine x_aload_n (o := a0) dX10_playOne_201 rfl ?_
      obtain ⟨v55, hv55, h⟩ := xb h
      refine x_getR (o := a0) dX10_playOne_202 xf_X10_10 hv55 ?_
      refine r_iload (x := p27.1) dX10_playOne_205 rfl ?_
      refine r_bipush (v := (6 : Int32)) dX10_playOne_207 (by decide) ?_
      refine r_iload (x := v17) dX10_playOne_209 rfl ?_
      obtain ⟨q57, hq57, h⟩ := xb h
      obtain ⟨s56, hs56, h⟩ := xb h
      refine z_callV (as := [.int p27.1, .int (6 : Int32), .int v17]) (o := v55) (r1 := none) (stk := []) (stk2 := []) (st1 := s56) (d' := 1) dX10_playOne_211 xl_X10_203 hq57 (by decide) (Nat.le_trans xs0 (by decide)) rfl rfl (S_X9_setNote n s53 v55 p27.1 (6 : Int32) v17 s56 hs56) ?_
      refine x_aload_n (o := a0) dX10_playOne_214 rfl ?_
      obtain ⟨v58, hv58, h⟩ := xb h
      refine x_getR (o := a0) dX10_playOne_215 xf_X10_10 hv58 ?_
      refine r_iload (x := p27.1) dX10_playOne_218 rfl ?_
      refine r_bipush (v := (7 : Int32)) dX10_playOne_220 (by decide) ?_
      refine r_iload (x := v25) dX10_playOne_222 rfl ?_
      obtain ⟨q60, hq60, h⟩ := xb h
      obtain ⟨s59, hs59, h⟩ := xb h
      refine z_callV (as := [.int p27.1, .int (7 : Int32), .int v25]) (o := v58) (r1 := none) (stk := []) (stk2 := []) (st1 := s59) (d' := 1) dX10_playOne_224 xl_X10_203 hq60 (by decide) (Nat.le_trans xs0 (by decide)) rfl rfl (S_X9_setNote n s56 v58 p27.1 (7 : Int32) v25 s59 hs59) ?_
      refine x_aload_n (o := a0) dX10_playOne_227 rfl ?_
      obtain ⟨v61, hv61, h⟩ := xb h
      refine x_getR (o := a0) dX10_playOne_228 xf_X10_10 hv61 ?_
      refine r_iload (x := p27.1) dX10_playOne_231 rfl ?_
      refine r_bipush (v := (8 : Int32)) dX10_playOne_233 (by decide) ?_
      refine x_aload_n (o := a0) dX10_playOne_235 rfl ?_
      obtain ⟨v62, hv62, h⟩ := xb h
      refine x_getR (o := a0) dX10_playOne_236 xf_X10_30 hv62 ?_
      obtain ⟨v63, hv63, h⟩ := xb h
      refine x_getI (o := v62) dX10_playOne_239 xf_X10_158 hv63 ?_
      obtain ⟨q65, hq65, h⟩ := xb h
      obtain ⟨s64, hs64, h⟩ := xb h
      refine z_callV (as := [.int p27.1, .int (8 : Int32), .int v63]) (o := v61) (r1 := none) (stk := []) (stk2 := []) (st1 := s64) (d' := 1) dX10_playOne_242 xl_X10_203 hq65 (by decide) (Nat.le_trans xs0 (by decide)) rfl rfl (S_X9_setNote n s59 v61 p27.1 (8 : Int32) v63 s64 hs64) ?_
      refine x_aload_n (o := a0) dX10_playOne_245 rfl ?_
      obtain ⟨v66, hv66, h⟩ := xb h
      refine x_getR (o := a0) dX10_playOne_246 xf_X10_10 hv66 ?_
      refine r_iload (x := p27.1) dX10_playOne_249 rfl ?_
      refine r_bipush (v := (9 : Int32)) dX10_playOne_251 (by decide) ?_
      refine r_iload (x := v20) dX10_playOne_253 rfl ?_
      obtain ⟨q68, hq68, h⟩ := xb h
      obtain ⟨s67, hs67, h⟩ := xb h
      refine z_callV (as := [.int p27.1, .int (9 : Int32), .int v20]) (o := v66) (r1 := none) (stk := []) (stk2 := []) (st1 := s67) (d' := 1) dX10_playOne_255 xl_X10_203 hq68 (by decide) (Nat.le_trans xs0 (by decide)) rfl rfl (S_X9_setNote n s64 v66 p27.1 (9 : Int32) v20 s67 hs67) ?_
      obtain rfl := Option.some.inj h
      exact r_return dX10_playOne_258 rfl
    refine r_icmp_ne (tgt := 97) dX10_playOne_81 (by decide) (fun c => ?_) (fun c => ?_)
    · replace hq24 := (if_neg c).symm.trans hq24
      refine r_iconst (v := (0 : Int32)) dX10_playOne_97 (by decide) ?_
      obtain rfl := Option.some.inj hq24
      exact x_sub [2, 3, 4, 6, 7, 8, 1, 0] rfl Jq24
    · replace hq24 := (if_pos c).symm.trans hq24
      refine r_iload (x := p3.1) dX10_playOne_84 rfl ?_
      refine r_iload (x := p7.1) dX10_playOne_86 rfl ?_
      refine r_isub dX10_playOne_88 ?_
      refine r_iconst (v := (-1 : Int32)) dX10_playOne_89 (by decide) ?_
      refine r_icmp_ne (tgt := 97) dX10_playOne_90 (by decide) (fun c => ?_) (fun c => ?_)
      · replace hq24 := (if_neg c).symm.trans hq24
        refine r_iconst (v := (0 : Int32)) dX10_playOne_97 (by decide) ?_
        obtain rfl := Option.some.inj hq24
        exact x_sub [2, 3, 4, 6, 7, 8, 1, 0] rfl Jq24
      · replace hq24 := (if_pos c).symm.trans hq24
        refine r_iconst (v := (2 : Int32)) dX10_playOne_93 (by decide) ?_
        refine r_goto (tgt := 98) dX10_playOne_94 (by decide) ?_
        obtain rfl := Option.some.inj hq24
        exact x_sub [2, 3, 4, 6, 7, 8, 1, 0] rfl Jq24
  refine r_if_le (tgt := 53) dX10_playOne_46 (by decide) (fun c => ?_) (fun c => ?_)
  · replace hq16 := (if_pos c).symm.trans hq16
    refine r_iconst (v := (0 : Int32)) dX10_playOne_53 (by decide) ?_
    obtain rfl := Option.some.inj hq16
    exact x_sub [3, 4, 5, 6, 2, 1, 0] rfl Jq16
  · replace hq16 := (if_neg c).symm.trans hq16
    refine r_iconst (v := (1 : Int32)) dX10_playOne_49 (by decide) ?_
    refine r_goto (tgt := 54) dX10_playOne_50 (by decide) ?_
    obtain rfl := Option.some.inj hq16
    exact x_sub [3, 4, 5, 6, 2, 1, 0] rfl Jq16
theorem S_X10_playOne (n : Nat) (st : xS) (a0 : Option Nat) (a1 : Int32) (a2 : Int32) (a3 : Option Nat) (st' : xS) (h : F_X10_playOne n st a0 a1 a2 a3 = some st') : Ct mX10_playOne [va_rf a0, .int a1, .int a2, va_rf a3] st none st' 3 := by
  refine Ct.of (by decide) (by simp only [lgL_R, lgL_I, lgL_L, lgL_0]; decide) ?_
  try simp only [lvA_R]
  exact R_X10_playOne n st a0 a1 a2 a3 st' h
theorem R_X10_isYear (n : Nat) (st : xS) (a0 : Int32) (rv : Int32) (h : F_X10_isYear n st a0 = some rv) : Rn mX10_isYear 0 [(0, .int a0)] [] st (some (.int rv)) st 1 := by
  unfold F_X10_isYear at h
  refine r_iload_n (x := a0) dX10_isYear_0 rfl ?_
  refine r_iconst (v := (0 : Int32)) dX10_isYear_1 (by decide) ?_
  refine r_bipush (v := (59 : Int32)) dX10_isYear_2 (by decide) ?_
  obtain ⟨v1, hv1, h⟩ := xb h
  refine z_callS (as := [.int a0, .int (0 : Int32), .int (59 : Int32)]) (r1 := (some (.int v1))) (stk := []) (stk2 := [.int v1]) (st1 := st) (d' := 0) dX10_isYear_4 xl_X10_209 (by decide) (Nat.le_trans xs0 (by decide)) rfl rfl (S_X10_within n st a0 (0 : Int32) (59 : Int32) v1 hv1) ?_
  obtain ⟨v2, hv2, h⟩ := xb h
  refine x_eqI (rz_inv2 hv2).1 ?_
  obtain rfl := Option.some.inj h
  exact r_ireturn dX10_isYear_7 .boolean rfl (by rcases (rz_inv2 hv2).2 with e | e <;> rw [e] <;> rfl)
theorem S_X10_isYear (n : Nat) (st : xS) (a0 : Int32) (rv : Int32) (h : F_X10_isYear n st a0 = some rv) : Ct mX10_isYear [.int a0] st (some (.int rv)) st 1 := by
  refine Ct.of (by decide) (by simp only [lgL_R, lgL_I, lgL_L, lgL_0]; decide) ?_
  try simp only [lvA_R]
  exact R_X10_isYear n st a0 rv h
theorem R_X10_play_L71 (n : Nat) {r : Option Value} {st' : xS} : ∀ (k : Nat) (st : xS) (a0 : Option Nat) (a5 : Int32) (a6 : Int32) (a7 : Option Nat) (a8 : Int32) (q : (xS)), F_X10_play_L71 n k st a0 a5 a6 a7 a8 = some q → Rn mX10_play 103 [(6, .int a6)] [] q r st' 5 → Rn mX10_play 71 [(0, va_rf a0), (5, .int a5), (6, .int a6), (7, va_rf a7), (8, .int a8)] [] st r st' 5 := by
  intro k
  induction k with
  | zero => intro st a0 a5 a6 a7 a8 q h; cases h
  | succ k ih =>
    intro st a0 a5 a6 a7 a8 q h J
    unfold F_X10_play_L71 at h
    refine r_iload (x := a8) dX10_play_71 rfl ?_
    refine r_iload (x := a6) dX10_play_73 rfl ?_
    refine r_icmp_ge (tgt := 103) dX10_play_75 (by decide) (fun c => ?_) (fun c => ?_)
    · replace h := (if_pos c).symm.trans h
      obtain rfl := Option.some.inj h
      exact x_sub [2] rfl J
    · replace h := (if_neg c).symm.trans h
      refine x_aload_n (o := a0) dX10_play_78 rfl ?_
      obtain ⟨v16, hv16, h⟩ := xb h
      refine x_getR (o := a0) dX10_play_79 xf_X10_30 hv16 ?_
      refine r_iload (x := a8) dX10_play_82 rfl ?_
      obtain ⟨q18, hq18, h⟩ := xb h
      obtain ⟨s17, hs17, h⟩ := xb h
      refine z_callV (as := [.int a8]) (o := v16) (r1 := none) (stk := []) (stk2 := []) (st1 := s17) (d' := 4) dX10_play_84 xl_X10_152 hq18 (by decide) (Nat.le_trans xs0 (by decide)) rfl rfl (S_X5_weigh n st v16 a8 s17 hs17) ?_
      refine x_aload_n (o := a0) dX10_play_87 rfl ?_
      refine r_iload (x := a8) dX10_play_88 rfl ?_
      refine r_iload (x := a5) dX10_play_90 rfl ?_
      refine x_aload (o := a7) dX10_play_92 rfl ?_
      obtain ⟨q20, hq20, h⟩ := xb h
      obtain ⟨s19, hs19, h⟩ := xb h
      refine z_callV (as := [.int a8, .int a5, va_rf a7]) (o := a0) (r1 := none) (stk := []) (stk2 := []) (st1 := s19) (d' := 3) dX10_play_94 xl_X10_189 hq20 (by decide) (Nat.le_trans xs0 (by decide)) rfl rfl (S_X10_playOne n s17 a0 a8 a5 a7 s19 hs19) ?_
      obtain ⟨v21, hv21, h⟩ := xb h
      refine x_iinc (c := (1 : Int32)) (lv' := [(8, .int v21), (0, va_rf a0), (5, .int a5), (6, .int a6), (7, va_rf a7)]) (x := a8) (v := v21) dX10_play_97 rfl (by decide) (Option.some.inj hv21) (by decide) (congrArg (List.cons _) (xfY rfl (xfY rfl (xfY rfl (xfY (xk1 7 8 _) (xfN rfl rfl)))))) ?_
      refine r_goto (tgt := 71) dX10_play_100 (by decide) ?_
      exact x_sub [1, 2, 3, 4, 0] rfl (ih s19 a0 a5 a6 a7 v21 q h J)
theorem R_X10_play (n : Nat) (st : xS) (a0 : Option Nat) (a1 : Int32) (a2 : Int32) (a3 : Int32) (a4 : Int32) (a5 : Int32) (rv : Int32) (st' : xS) (h : F_X10_play n st a0 a1 a2 a3 a4 a5 = some (rv, st')) : Rn mX10_play 0 [(0, va_rf a0), (1, .int a1), (2, .int a2), (3, .int a3), (4, .int a4), (5, .int a5)] [] st (some (.int rv)) st' 5 := by
  unfold F_X10_play at h
  refine r_iload (x := a5) dX10_play_0 rfl ?_
  obtain ⟨v1, hv1, h⟩ := xb h
  refine z_callS (as := [.int a5]) (r1 := (some (.int v1))) (stk := []) (stk2 := [.int v1]) (st1 := st) (d' := 1) dX10_play_2 xl_X10_179 (by decide) (Nat.le_trans xs0 (by decide)) rfl rfl (S_X10_isYear n st a5 v1 hv1) ?_
  refine r_if_eq (tgt := 25) dX10_play_5 (by decide) (fun c => ?_) (fun c => ?_)
  · replace h := (if_pos c).symm.trans h
    refine r_iconst (v := (-1 : Int32)) dX10_play_25 (by decide) ?_
    obtain ⟨rfl, rfl⟩ := Prod.mk.inj (Option.some.inj h)
    exact r_ireturn dX10_play_26 .int rfl rfl
  · replace h := (if_neg c).symm.trans h
    refine x_aload_n (o := a0) dX10_play_8 rfl ?_
    obtain ⟨v2, hv2, h⟩ := xb h
    refine x_getR (o := a0) dX10_play_9 xf_X10_30 hv2 ?_
    refine x_aload_n (o := a0) dX10_play_12 rfl ?_
    obtain ⟨v3, hv3, h⟩ := xb h
    refine x_getR (o := a0) dX10_play_13 xf_X10_10 hv3 ?_
    refine r_iload_n (x := a1) dX10_play_16 rfl ?_
    refine r_iload_n (x := a2) dX10_play_17 rfl ?_
    refine r_iload_n (x := a3) dX10_play_18 rfl ?_
    obtain ⟨q5, hq5, h⟩ := xb h
    obtain ⟨p4, hp4, h⟩ := xb h
    refine z_callV (as := [va_rf v3, .int a1, .int a2, .int a3]) (o := v2) (r1 := (some (.int p4.1))) (stk := []) (stk2 := [.int p4.1]) (st1 := p4.2) (d' := 2) dX10_play_19 xl_X10_145 hq5 (by decide) (Nat.le_trans xs0 (by decide)) rfl rfl (S_X5_bring_ n st v2 v3 a1 a2 a3 p4.1 p4.2 hp4) ?_
    refine r_if_ne (tgt := 27) dX10_play_22 (by decide) (fun c => ?_) (fun c => ?_)
    · replace h := (if_neg c).symm.trans h
      refine x_aload_n (o := a0) dX10_play_27 rfl ?_
      obtain ⟨v6, hv6, h⟩ := xb h
      refine x_getR (o := a0) dX10_play_28 xf_X10_30 hv6 ?_
      obtain ⟨v7, hv7, h⟩ := xb h
      refine x_getR (o := v6) dX10_play_31 xf_X10_148 hv7 ?_
      obtain ⟨v8, hv8, h⟩ := xb h
      refine x_getI (o := v7) dX10_play_34 xf_X10_132 hv8 ?_
      refine r_istore (lv' := [(6, .int v8), (0, va_rf a0), (1, .int a1), (2, .int a2), (3, .int a3), (4, .int a4), (5, .int a5)]) (x := v8) dX10_play_37 (by decide) rfl ?_
      refine x_aload_n (o := a0) dX10_play_39 rfl ?_
      obtain ⟨v9, hv9, h⟩ := xb h
      refine x_getR (o := a0) dX10_play_40 xf_X10_10 hv9 ?_
      refine r_iconst (v := (3 : Int32)) dX10_play_43 (by decide) ?_
      obtain ⟨q11, hq11, h⟩ := xb h
      obtain ⟨v10, hv10, h⟩ := xb h
      refine z_callV (as := [.int (3 : Int32)]) (o := v9) (r1 := (some (.int v10))) (stk := []) (stk2 := [.int v10]) (st1 := p4.2) (d' := 1) dX10_play_44 xl_X10_182 hq11 (by decide) (Nat.le_trans xs0 (by decide)) rfl rfl (S_X9_howMany n p4.2 v9 (3 : Int32) v10 hv10) ?_
      refine r_iload (x := v8) dX10_play_47 rfl ?_
      refine r_iadd dX10_play_49 ?_
      refine r_bipush (v := (80 : Int32)) dX10_play_50 (by decide) ?_
      refine r_icmp_le (tgt := 57) dX10_play_52 (by decide) (fun c => ?_) (fun c => ?_)
      · replace h := (if_pos c).symm.trans h
        obtain ⟨s12, hs12, h⟩ := xb h
        obtain ⟨o13, ho13, h⟩ := xb h
        refine x_new (o := o13) dX10_play_57 xc_X0 tyX0 tyX0_ok xw_X10_185 xi_X0 xj_X0 xh_X0 (Option.some.inj hs12) (Option.some.inj ho13) ?_
        refine x_dupR (o := o13) dX10_play_60 ?_
        refine r_iload (x := a4) dX10_play_61 rfl ?_
        obtain ⟨b14, hb14, h⟩ := xb h
        obtain ⟨s15, hs15, h⟩ := xb h
        refine x_callI (as := [.int a4]) (o := o13) (stk := [va_rf o13]) (st1 := s15) (d' := 1) dX10_play_63 xl_X10_187 hb14 (by decide) (Nat.le_trans (xsA xs0) (by decide)) rfl (S_X0_init n s12 o13 a4 s15 hs15) ?_
        refine x_astore (lv' := [(7, va_rf o13), (6, .int v8), (0, va_rf a0), (1, .int a1), (2, .int a2), (3, .int a3), (4, .int a4), (5, .int a5)]) (o := o13) dX10_play_66 (by decide) rfl ?_
        refine r_iconst (v := (0 : Int32)) dX10_play_68 (by decide) ?_
        refine r_istore (lv' := [(8, .int (0 : Int32)), (7, va_rf o13), (6, .int v8), (0, va_rf a0), (1, .int a1), (2, .int a2), (3, .int a3), (4, .int a4), (5, .int a5)]) (x := (0 : Int32)) dX10_play_69 (by decide) (congrArg (List.cons _) (xfY (xk1 7 8 _) (xfY rfl (xfY rfl (xfY rfl (xfY rfl (xfY rfl (xfY rfl (xfY rfl rfl))))))))) ?_
        obtain ⟨q22, hq22, h⟩ := xb h
        have Jq22 : Rn mX10_play 103 [(6, .int v8)] [] q22 (some (.int rv)) st' 5 := by
          refine r_iload (x := v8) dX10_play_103 rfl ?_
          obtain ⟨rfl, rfl⟩ := Prod.mk.inj (Option.some.inj h)
          exact r_ireturn dX10_play_105 .int rfl rfl
        exact x_sub [3, 8, 2, 1, 0] rfl (R_X10_play_L71 n n s15 a0 a5 v8 o13 (0 : Int32) q22 hq22 Jq22)
      · replace h := (if_neg c).symm.trans h
        refine r_iconst (v := (-1 : Int32)) dX10_play_55 (by decide) ?_
        obtain ⟨rfl, rfl⟩ := Prod.mk.inj (Option.some.inj h)
        exact r_ireturn dX10_play_56 .int rfl rfl
    · replace h := (if_pos c).symm.trans h
      refine r_iconst (v := (-1 : Int32)) dX10_play_25 (by decide) ?_
      obtain ⟨rfl, rfl⟩ := Prod.mk.inj (Option.some.inj h)
      exact r_ireturn dX10_play_26 .int rfl rfl
theorem S_X10_play (n : Nat) (st : xS) (a0 : Option Nat) (a1 : Int32) (a2 : Int32) (a3 : Int32) (a4 : Int32) (a5 : Int32) (rv : Int32) (st' : xS) (h : F_X10_play n st a0 a1 a2 a3 a4 a5 = some (rv, st')) : Ct mX10_play [va_rf a0, .int a1, .int a2, .int a3, .int a4, .int a5] st (some (.int rv)) st' 5 := by
  refine Ct.of (by decide) (by simp only [lgL_R, lgL_I, lgL_L, lgL_0]; decide) ?_
  try simp only [lvA_R]
  exact R_X10_play n st a0 a1 a2 a3 a4 a5 rv st' h
theorem R_X10_isSide (n : Nat) (st : xS) (a0 : Int32) (rv : Int32) (h : F_X10_isSide n st a0 = some rv) : Rn mX10_isSide 0 [(0, .int a0)] [] st (some (.int rv)) st 1 := by
  unfold F_X10_isSide at h
  refine r_iload_n (x := a0) dX10_isSide_0 rfl ?_
  refine r_iconst (v := (0 : Int32)) dX10_isSide_1 (by decide) ?_
  refine r_bipush (v := (7 : Int32)) dX10_isSide_2 (by decide) ?_
  obtain ⟨v1, hv1, h⟩ := xb h
  refine z_callS (as := [.int a0, .int (0 : Int32), .int (7 : Int32)]) (r1 := (some (.int v1))) (stk := []) (stk2 := [.int v1]) (st1 := st) (d' := 0) dX10_isSide_4 xl_X10_209 (by decide) (Nat.le_trans xs0 (by decide)) rfl rfl (S_X10_within n st a0 (0 : Int32) (7 : Int32) v1 hv1) ?_
  obtain ⟨v2, hv2, h⟩ := xb h
  refine x_eqI (rz_inv2 hv2).1 ?_
  obtain rfl := Option.some.inj h
  exact r_ireturn dX10_isSide_7 .boolean rfl (by rcases (rz_inv2 hv2).2 with e | e <;> rw [e] <;> rfl)
theorem S_X10_isSide (n : Nat) (st : xS) (a0 : Int32) (rv : Int32) (h : F_X10_isSide n st a0 = some rv) : Ct mX10_isSide [.int a0] st (some (.int rv)) st 1 := by
  refine Ct.of (by decide) (by simp only [lgL_R, lgL_I, lgL_L, lgL_0]; decide) ?_
  try simp only [lvA_R]
  exact R_X10_isSide n st a0 rv h
theorem R_X10_isJudge (n : Nat) (st : xS) (a0 : Int32) (rv : Int32) (h : F_X10_isJudge n st a0 = some rv) : Rn mX10_isJudge 0 [(0, .int a0)] [] st (some (.int rv)) st 1 := by
  unfold F_X10_isJudge at h
  refine r_iload_n (x := a0) dX10_isJudge_0 rfl ?_
  refine r_iconst (v := (0 : Int32)) dX10_isJudge_1 (by decide) ?_
  refine r_bipush (v := (7 : Int32)) dX10_isJudge_2 (by decide) ?_
  obtain ⟨v1, hv1, h⟩ := xb h
  refine z_callS (as := [.int a0, .int (0 : Int32), .int (7 : Int32)]) (r1 := (some (.int v1))) (stk := []) (stk2 := [.int v1]) (st1 := st) (d' := 0) dX10_isJudge_4 xl_X10_209 (by decide) (Nat.le_trans xs0 (by decide)) rfl rfl (S_X10_within n st a0 (0 : Int32) (7 : Int32) v1 hv1) ?_
  obtain ⟨v2, hv2, h⟩ := xb h
  refine x_eqI (rz_inv2 hv2).1 ?_
  obtain rfl := Option.some.inj h
  exact r_ireturn dX10_isJudge_7 .boolean rfl (by rcases (rz_inv2 hv2).2 with e | e <;> rw [e] <;> rfl)
theorem S_X10_isJudge (n : Nat) (st : xS) (a0 : Int32) (rv : Int32) (h : F_X10_isJudge n st a0 = some rv) : Ct mX10_isJudge [.int a0] st (some (.int rv)) st 1 := by
  refine Ct.of (by decide) (by simp only [lgL_R, lgL_I, lgL_L, lgL_0]; decide) ?_
  try simp only [lvA_R]
  exact R_X10_isJudge n st a0 rv h
theorem R_X10_note (n : Nat) (st : xS) (a0 : Option Nat) (a1 : Int32) (a2 : Int32) (a3 : Int32) (a4 : Int32) (a5 : Int32) (a6 : Int32) (a7 : Int32) (a8 : Int32) (rv : Int32) (st' : xS) (h : F_X10_note n st a0 a1 a2 a3 a4 a5 a6 a7 a8 = some (rv, st')) : Rn mX10_note 0 [(0, va_rf a0), (1, .int a1), (2, .int a2), (3, .int a3), (4, .int a4), (5, .int a5), (6, .int a6), (7, .int a7), (8, .int a8)] [] st (some (.int rv)) st' 3 := by
  unfold F_X10_note at h
  refine r_iload_n (x := a1) dX10_note_0 rfl ?_
  obtain ⟨v1, hv1, h⟩ := xb h
  refine z_callS (as := [.int a1]) (r1 := (some (.int v1))) (stk := []) (stk2 := [.int v1]) (st1 := st) (d' := 1) dX10_note_1 xl_X10_206 (by decide) (Nat.le_trans xs0 (by decide)) rfl rfl (S_X10_isSide n st a1 v1 hv1) ?_
  obtain ⟨q3, hq3, h⟩ := xb h
  have Jq3 : Rn mX10_note 24 [(0, va_rf a0), (1, .int a1), (2, .int a2), (3, .int a3), (4, .int a4), (5, .int a5), (6, .int a6), (7, .int a7), (8, .int a8)] [.int q3] st (some (.int rv)) st' 3 := by
    refine r_istore (lv' := [(9, .int q3), (0, va_rf a0), (1, .int a1), (2, .int a2), (3, .int a3), (4, .int a4), (5, .int a5), (6, .int a6), (7, .int a7), (8, .int a8)]) (x := q3) dX10_note_24 (by decide) rfl ?_
    refine r_iload (x := a4) dX10_note_26 rfl ?_
    refine r_iconst (v := (0 : Int32)) dX10_note_28 (by decide) ?_
    refine r_bipush (v := (99 : Int32)) dX10_note_29 (by decide) ?_
    obtain ⟨v4, hv4, h⟩ := xb h
    refine z_callS (as := [.int a4, .int (0 : Int32), .int (99 : Int32)]) (r1 := (some (.int v4))) (stk := []) (stk2 := [.int v4]) (st1 := st) (d' := 0) dX10_note_31 xl_X10_209 (by decide) (Nat.le_trans xs0 (by decide)) rfl rfl (S_X10_within n st a4 (0 : Int32) (99 : Int32) v4 hv4) ?_
    obtain ⟨q6, hq6, h⟩ := xb h
    have Jq6 : Rn mX10_note 53 [(0, va_rf a0), (1, .int a1), (2, .int a2), (3, .int a3), (4, .int a4), (5, .int a5), (6, .int a6), (7, .int a7), (8, .int a8), (9, .int q3)] [.int q6] st (some (.int rv)) st' 3 := by
      refine r_istore (lv' := [(10, .int q6), (0, va_rf a0), (1, .int a1), (2, .int a2), (3, .int a3), (4, .int a4), (5, .int a5), (6, .int a6), (7, .int a7), (8, .int a8), (9, .int q3)]) (x := q6) dX10_note_53 (by decide) rfl ?_
      refine r_iload (x := a6) dX10_note_55 rfl ?_
      refine r_iconst (v := (0 : Int32)) dX10_note_57 (by decide) ?_
      refine r_bipush (v := (19 : Int32)) dX10_note_58 (by decide) ?_
      obtain ⟨v7, hv7, h⟩ := xb h
      refine z_callS (as := [.int a6, .int (0 : Int32), .int (19 : Int32)]) (r1 := (some (.int v7))) (stk := []) (stk2 := [.int v7]) (st1 := st) (d' := 0) dX10_note_60 xl_X10_209 (by decide) (Nat.le_trans xs0 (by decide)) rfl rfl (S_X10_within n st a6 (0 : Int32) (19 : Int32) v7 hv7) ?_
      obtain ⟨q10, hq10, h⟩ := xb h
      have Jq10 : Rn mX10_note 91 [(0, va_rf a0), (1, .int a1), (2, .int a2), (3, .int a3), (4, .int a4), (5, .int a5), (6, .int a6), (7, .int a7), (8, .int a8), (9, .int q3), (10, .int q6)] [.int q10] st (some (.int rv)) st' 3 := by
        refine r_istore (lv' := [(11, .int q10), (0, va_rf a0), (1, .int a1), (2, .int a2), (3, .int a3), (4, .int a4), (5, .int a5), (6, .int a6), (7, .int a7), (8, .int a8), (9, .int q3), (10, .int q6)]) (x := q10) dX10_note_91 (by decide) rfl ?_
        refine r_iload (x := q3) dX10_note_93 rfl ?_
        refine r_if_eq (tgt := 128) dX10_note_95 (by decide) (fun c => ?_) (fun c => ?_)
        · replace h := (if_pos c).symm.trans h
          refine r_iconst (v := (-1 : Int32)) dX10_note_128 (by decide) ?_
          obtain ⟨rfl, rfl⟩ := Prod.mk.inj (Option.some.inj h)
          exact r_ireturn dX10_note_129 .int rfl rfl
        · replace h := (if_neg c).symm.trans h
          refine r_iload (x := q6) dX10_note_98 rfl ?_
          refine r_if_eq (tgt := 128) dX10_note_100 (by decide) (fun c => ?_) (fun c => ?_)
          · replace h := (if_pos c).symm.trans h
            refine r_iconst (v := (-1 : Int32)) dX10_note_128 (by decide) ?_
            obtain ⟨rfl, rfl⟩ := Prod.mk.inj (Option.some.inj h)
            exact r_ireturn dX10_note_129 .int rfl rfl
          · replace h := (if_neg c).symm.trans h
            refine r_iload (x := q10) dX10_note_103 rfl ?_
            refine r_if_eq (tgt := 128) dX10_note_105 (by decide) (fun c => ?_) (fun c => ?_)
            · replace h := (if_pos c).symm.trans h
              refine r_iconst (v := (-1 : Int32)) dX10_note_128 (by decide) ?_
              obtain ⟨rfl, rfl⟩ := Prod.mk.inj (Option.some.inj h)
              exact r_ireturn dX10_note_129 .int rfl rfl
            · replace h := (if_neg c).symm.trans h
              refine r_iload_n (x := a3) dX10_note_108 rfl ?_
              obtain ⟨v11, hv11, h⟩ := xb h
              refine z_callS (as := [.int a3]) (r1 := (some (.int v11))) (stk := []) (stk2 := [.int v11]) (st1 := st) (d' := 1) dX10_note_109 xl_X10_179 (by decide) (Nat.le_trans xs0 (by decide)) rfl rfl (S_X10_isYear n st a3 v11 hv11) ?_
              refine r_if_eq (tgt := 128) dX10_note_112 (by decide) (fun c => ?_) (fun c => ?_)
              · replace h := (if_pos c).symm.trans h
                refine r_iconst (v := (-1 : Int32)) dX10_note_128 (by decide) ?_
                obtain ⟨rfl, rfl⟩ := Prod.mk.inj (Option.some.inj h)
                exact r_ireturn dX10_note_129 .int rfl rfl
              · replace h := (if_neg c).symm.trans h
                refine x_aload_n (o := a0) dX10_note_115 rfl ?_
                obtain ⟨v12, hv12, h⟩ := xb h
                refine x_getR (o := a0) dX10_note_116 xf_X10_10 hv12 ?_
                refine r_iconst (v := (3 : Int32)) dX10_note_119 (by decide) ?_
                obtain ⟨q14, hq14, h⟩ := xb h
                obtain ⟨v13, hv13, h⟩ := xb h
                refine z_callV (as := [.int (3 : Int32)]) (o := v12) (r1 := (some (.int v13))) (stk := []) (stk2 := [.int v13]) (st1 := st) (d' := 1) dX10_note_120 xl_X10_182 hq14 (by decide) (Nat.le_trans xs0 (by decide)) rfl rfl (S_X9_howMany n st v12 (3 : Int32) v13 hv13) ?_
                refine r_bipush (v := (80 : Int32)) dX10_note_123 (by decide) ?_
                refine r_icmp_lt (tgt := 130) dX10_note_125 (by decide) (fun c => ?_) (fun c => ?_)
                · replace h := (if_pos c).symm.trans h
                  refine x_aload_n (o := a0) dX10_note_130 rfl ?_
                  obtain ⟨v15, hv15, h⟩ := xb h
                  refine x_getR (o := a0) dX10_note_131 xf_X10_10 hv15 ?_
                  obtain ⟨q17, hq17, h⟩ := xb h
                  obtain ⟨p16, hp16, h⟩ := xb h
                  refine z_callV (as := []) (o := v15) (r1 := (some (.int p16.1))) (stk := []) (stk2 := [.int p16.1]) (st1 := p16.2) (d' := 2) dX10_note_134 xl_X10_199 hq17 (by decide) (Nat.le_trans xs0 (by decide)) rfl rfl (S_X9_newNote n st v15  p16.1 p16.2 hp16) ?_
                  refine r_istore (lv' := [(12, .int p16.1), (11, .int q10), (0, va_rf a0), (1, .int a1), (2, .int a2), (3, .int a3), (4, .int a4), (5, .int a5), (6, .int a6), (7, .int a7), (8, .int a8), (9, .int q3), (10, .int q6)]) (x := p16.1) dX10_note_137 (by decide) rfl ?_
                  refine x_aload_n (o := a0) dX10_note_139 rfl ?_
                  obtain ⟨v18, hv18, h⟩ := xb h
                  refine x_getR (o := a0) dX10_note_140 xf_X10_10 hv18 ?_
                  refine r_iload (x := p16.1) dX10_note_143 rfl ?_
                  refine r_iconst (v := (0 : Int32)) dX10_note_145 (by decide) ?_
                  refine r_iload_n (x := a1) dX10_note_146 rfl ?_
                  obtain ⟨q20, hq20, h⟩ := xb h
                  obtain ⟨s19, hs19, h⟩ := xb h
                  refine z_callV (as := [.int p16.1, .int (0 : Int32), .int a1]) (o := v18) (r1 := none) (stk := []) (stk2 := []) (st1 := s19) (d' := 1) dX10_note_147 xl_X10_203 hq20 (by decide) (Nat.le_trans xs0 (by decide)) rfl rfl (S_X9_setNote n p16.2 v18 p16.1 (0 : Int32) a1 s19 hs19) ?_
                  refine x_aload_n (o := a0) dX10_note_150 rfl ?_
                  obtain ⟨v21, hv21, h⟩ := xb h
                  refine x_getR (o := a0) dX10_note_151 xf_X10_10 hv21 ?_
                  refine r_iload (x := p16.1) dX10_note_154 rfl ?_
                  refine r_iconst (v := (1 : Int32)) dX10_note_156 (by decide) ?_
                  refine r_iload_n (x := a2) dX10_note_157 rfl ?_
                  obtain ⟨q23, hq23, h⟩ := xb h
                  obtain ⟨s22, hs22, h⟩ := xb h
                  refine z_callV (as := [.int p16.1, .int (1 : Int32), .int a2]) (o := v21) (r1 := none) (stk := []) (stk2 := []) (st1 := s22) (d' := 1) dX10_note_158 xl_X10_203 hq23 (by decide) (Nat.le_trans xs0 (by decide)) rfl rfl (S_X9_setNote n s19 v21 p16.1 (1 : Int32) a2 s22 hs22) ?_
                  refine x_aload_n (o := a0) dX10_note_161 rfl ?_
                  obtain ⟨v24, hv24, h⟩ := xb h
                  refine x_getR (o := a0) dX10_note_162 xf_X10_10 hv24 ?_
                  refine r_iload (x := p16.1) dX10_note_165 rfl ?_
                  refine r_iconst (v := (2 : Int32)) dX10_note_167 (by decide) ?_
                  refine r_iload_n (x := a3) dX10_note_168 rfl ?_
                  obtain ⟨q26, hq26, h⟩ := xb h
                  obtain ⟨s25, hs25, h⟩ := xb h
                  refine z_callV (as := [.int p16.1, .int (2 : Int32), .int a3]) (o := v24) (r1 := none) (stk := []) (stk2 := []) (st1 := s25) (d' := 1) dX10_note_169 xl_X10_203 hq26 (by decide) (Nat.le_trans xs0 (by decide)) rfl rfl (S_X9_setNote n s22 v24 p16.1 (2 : Int32) a3 s25 hs25) ?_
                  refine x_aload_n (o := a0) dX10_note_172 rfl ?_
                  obtain ⟨v27, hv27, h⟩ := xb h
                  refine x_getR (o := a0) dX10_note_173 xf_X10_10 hv27 ?_
                  refine r_iload (x := p16.1) dX10_note_176 rfl ?_
                  refine r_iconst (v := (3 : Int32)) dX10_note_178 (by decide) ?_
                  refine r_iload (x := a4) dX10_note_179 rfl ?_
                  refine r_bipush (v := (10 : Int32)) dX10_note_181 (by decide) ?_
                  obtain ⟨v28, hv28, h⟩ := xb h
                  refine x_idiv dX10_note_183 hv28 ?_
                  obtain ⟨q30, hq30, h⟩ := xb h
                  obtain ⟨s29, hs29, h⟩ := xb h
                  refine z_callV (as := [.int p16.1, .int (3 : Int32), .int v28]) (o := v27) (r1 := none) (stk := []) (stk2 := []) (st1 := s29) (d' := 1) dX10_note_184 xl_X10_203 hq30 (by decide) (Nat.le_trans xs0 (by decide)) rfl rfl (S_X9_setNote n s25 v27 p16.1 (3 : Int32) v28 s29 hs29) ?_
                  refine x_aload_n (o := a0) dX10_note_187 rfl ?_
                  obtain ⟨v31, hv31, h⟩ := xb h
                  refine x_getR (o := a0) dX10_note_188 xf_X10_10 hv31 ?_
                  refine r_iload (x := p16.1) dX10_note_191 rfl ?_
                  refine r_iconst (v := (4 : Int32)) dX10_note_193 (by decide) ?_
                  refine r_iload (x := a4) dX10_note_194 rfl ?_
                  refine r_bipush (v := (10 : Int32)) dX10_note_196 (by decide) ?_
                  obtain ⟨v32, hv32, h⟩ := xb h
                  refine x_irem dX10_note_198 hv32 ?_
                  obtain ⟨q34, hq34, h⟩ := xb h
                  obtain ⟨s33, hs33, h⟩ := xb h
                  refine z_callV (as := [.int p16.1, .int (4 : Int32), .int v32]) (o := v31) (r1 := none) (stk := []) (stk2 := []) (st1 := s33) (d' := 1) dX10_note_199 xl_X10_203 hq34 (by decide) (Nat.le_trans xs0 (by decide)) rfl rfl (S_X9_setNote n s29 v31 p16.1 (4 : Int32) v32 s33 hs33) ?_
                  refine x_aload_n (o := a0) dX10_note_202 rfl ?_
                  obtain ⟨v35, hv35, h⟩ := xb h
                  refine x_getR (o := a0) dX10_note_203 xf_X10_10 hv35 ?_
                  refine r_iload (x := p16.1) dX10_note_206 rfl ?_
                  refine r_iconst (v := (5 : Int32)) dX10_note_208 (by decide) ?_
                  refine r_iload (x := a5) dX10_note_209 rfl ?_
                  refine r_bipush (v := (10 : Int32)) dX10_note_211 (by decide) ?_
                  obtain ⟨v36, hv36, h⟩ := xb h
                  refine x_idiv dX10_note_213 hv36 ?_
                  obtain ⟨q38, hq38, h⟩ := xb h
                  obtain ⟨s37, hs37, h⟩ := xb h
                  refine z_callV (as := [.int p16.1, .int (5 : Int32), .int v36]) (o := v35) (r1 := none) (stk := []) (stk2 := []) (st1 := s37) (d' := 1) dX10_note_214 xl_X10_203 hq38 (by decide) (Nat.le_trans xs0 (by decide)) rfl rfl (S_X9_setNote n s33 v35 p16.1 (5 : Int32) v36 s37 hs37) ?_
                  refine x_aload_n (o := a0) dX10_note_217 rfl ?_
                  obtain ⟨v39, hv39, h⟩ := xb h
                  refine x_getR (o := a0) dX10_note_218 xf_X10_10 hv39 ?_
                  refine r_iload (x := p16.1) dX10_note_221 rfl ?_
                  refine r_bipush (v := (6 : Int32)) dX10_note_223 (by decide) ?_
                  refine r_iload (x := a5) dX10_note_225 rfl ?_
                  refine r_bipush (v := (10 : Int32)) dX10_note_227 (by decide) ?_
                  obtain ⟨v40, hv40, h⟩ := xb h
                  refine x_irem dX10_note_229 hv40 ?_
                  obtain ⟨q42, hq42, h⟩ := xb h
                  obtain ⟨s41, hs41, h⟩ := xb h
                  refine z_callV (as := [.int p16.1, .int (6 : Int32), .int v40]) (o := v39) (r1 := none) (stk := []) (stk2 := []) (st1 := s41) (d' := 1) dX10_note_230 xl_X10_203 hq42 (by decide) (Nat.le_trans xs0 (by decide)) rfl rfl (S_X9_setNote n s37 v39 p16.1 (6 : Int32) v40 s41 hs41) ?_
                  refine x_aload_n (o := a0) dX10_note_233 rfl ?_
                  obtain ⟨v43, hv43, h⟩ := xb h
                  refine x_getR (o := a0) dX10_note_234 xf_X10_10 hv43 ?_
                  refine r_iload (x := p16.1) dX10_note_237 rfl ?_
                  refine r_bipush (v := (7 : Int32)) dX10_note_239 (by decide) ?_
                  refine r_iload (x := a6) dX10_note_241 rfl ?_
                  obtain ⟨q45, hq45, h⟩ := xb h
                  obtain ⟨s44, hs44, h⟩ := xb h
                  refine z_callV (as := [.int p16.1, .int (7 : Int32), .int a6]) (o := v43) (r1 := none) (stk := []) (stk2 := []) (st1 := s44) (d' := 1) dX10_note_243 xl_X10_203 hq45 (by decide) (Nat.le_trans xs0 (by decide)) rfl rfl (S_X9_setNote n s41 v43 p16.1 (7 : Int32) a6 s44 hs44) ?_
                  refine x_aload_n (o := a0) dX10_note_246 rfl ?_
                  obtain ⟨v46, hv46, h⟩ := xb h
                  refine x_getR (o := a0) dX10_note_247 xf_X10_10 hv46 ?_
                  refine r_iload (x := p16.1) dX10_note_250 rfl ?_
                  refine r_bipush (v := (8 : Int32)) dX10_note_252 (by decide) ?_
                  refine r_iload (x := a7) dX10_note_254 rfl ?_
                  obtain ⟨q48, hq48, h⟩ := xb h
                  obtain ⟨s47, hs47, h⟩ := xb h
                  refine z_callV (as := [.int p16.1, .int (8 : Int32), .int a7]) (o := v46) (r1 := none) (stk := []) (stk2 := []) (st1 := s47) (d' := 1) dX10_note_256 xl_X10_203 hq48 (by decide) (Nat.le_trans xs0 (by decide)) rfl rfl (S_X9_setNote n s44 v46 p16.1 (8 : Int32) a7 s47 hs47) ?_
                  refine x_aload_n (o := a0) dX10_note_259 rfl ?_
                  obtain ⟨v49, hv49, h⟩ := xb h
                  refine x_getR (o := a0) dX10_note_260 xf_X10_10 hv49 ?_
                  refine r_iload (x := p16.1) dX10_note_263 rfl ?_
                  refine r_bipush (v := (9 : Int32)) dX10_note_265 (by decide) ?_
                  refine r_iload (x := a8) dX10_note_267 rfl ?_
                  obtain ⟨q51, hq51, h⟩ := xb h
                  obtain ⟨s50, hs50, h⟩ := xb h
                  refine z_callV (as := [.int p16.1, .int (9 : Int32), .int a8]) (o := v49) (r1 := none) (stk := []) (stk2 := []) (st1 := s50) (d' := 1) dX10_note_269 xl_X10_203 hq51 (by decide) (Nat.le_trans xs0 (by decide)) rfl rfl (S_X9_setNote n s47 v49 p16.1 (9 : Int32) a8 s50 hs50) ?_
                  refine r_iload (x := p16.1) dX10_note_272 rfl ?_
                  obtain ⟨rfl, rfl⟩ := Prod.mk.inj (Option.some.inj h)
                  exact r_ireturn dX10_note_274 .int rfl rfl
                · replace h := (if_neg c).symm.trans h
                  refine r_iconst (v := (-1 : Int32)) dX10_note_128 (by decide) ?_
                  obtain ⟨rfl, rfl⟩ := Prod.mk.inj (Option.some.inj h)
                  exact r_ireturn dX10_note_129 .int rfl rfl
      refine r_if_eq (tgt := 90) dX10_note_63 (by decide) (fun c => ?_) (fun c => ?_)
      · replace hq10 := (if_pos c).symm.trans hq10
        refine r_iconst (v := (0 : Int32)) dX10_note_90 (by decide) ?_
        obtain rfl := Option.some.inj hq10
        exact x_sub [1, 2, 3, 4, 5, 6, 7, 8, 9, 10, 0] rfl Jq10
      · replace hq10 := (if_neg c).symm.trans hq10
        refine r_iload (x := a7) dX10_note_66 rfl ?_
        refine r_iconst (v := (0 : Int32)) dX10_note_68 (by decide) ?_
        refine r_sipush (v := (999 : Int32)) dX10_note_69 (by decide) ?_
        obtain ⟨v8, hv8, hq10⟩ := xb hq10
        refine z_callS (as := [.int a7, .int (0 : Int32), .int (999 : Int32)]) (r1 := (some (.int v8))) (stk := []) (stk2 := [.int v8]) (st1 := st) (d' := 0) dX10_note_72 xl_X10_209 (by decide) (Nat.le_trans xs0 (by decide)) rfl rfl (S_X10_within n st a7 (0 : Int32) (999 : Int32) v8 hv8) ?_
        refine r_if_eq (tgt := 90) dX10_note_75 (by decide) (fun c => ?_) (fun c => ?_)
        · replace hq10 := (if_pos c).symm.trans hq10
          refine r_iconst (v := (0 : Int32)) dX10_note_90 (by decide) ?_
          obtain rfl := Option.some.inj hq10
          exact x_sub [1, 2, 3, 4, 5, 6, 7, 8, 9, 10, 0] rfl Jq10
        · replace hq10 := (if_neg c).symm.trans hq10
          refine r_iload (x := a8) dX10_note_78 rfl ?_
          obtain ⟨v9, hv9, hq10⟩ := xb hq10
          refine z_callS (as := [.int a8]) (r1 := (some (.int v9))) (stk := []) (stk2 := [.int v9]) (st1 := st) (d' := 1) dX10_note_80 xl_X10_213 (by decide) (Nat.le_trans xs0 (by decide)) rfl rfl (S_X10_isJudge n st a8 v9 hv9) ?_
          refine r_if_eq (tgt := 90) dX10_note_83 (by decide) (fun c => ?_) (fun c => ?_)
          · replace hq10 := (if_pos c).symm.trans hq10
            refine r_iconst (v := (0 : Int32)) dX10_note_90 (by decide) ?_
            obtain rfl := Option.some.inj hq10
            exact x_sub [1, 2, 3, 4, 5, 6, 7, 8, 9, 10, 0] rfl Jq10
          · replace hq10 := (if_neg c).symm.trans hq10
            refine r_iconst (v := (1 : Int32)) dX10_note_86 (by decide) ?_
            refine r_goto (tgt := 91) dX10_note_87 (by decide) ?_
            obtain rfl := Option.some.inj hq10
            exact x_sub [1, 2, 3, 4, 5, 6, 7, 8, 9, 10, 0] rfl Jq10
    refine r_if_eq (tgt := 52) dX10_note_34 (by decide) (fun c => ?_) (fun c => ?_)
    · replace hq6 := (if_pos c).symm.trans hq6
      refine r_iconst (v := (0 : Int32)) dX10_note_52 (by decide) ?_
      obtain rfl := Option.some.inj hq6
      exact x_sub [1, 2, 3, 4, 5, 6, 7, 8, 9, 0] rfl Jq6
    · replace hq6 := (if_neg c).symm.trans hq6
      refine r_iload (x := a5) dX10_note_37 rfl ?_
      refine r_iconst (v := (0 : Int32)) dX10_note_39 (by decide) ?_
      refine r_bipush (v := (99 : Int32)) dX10_note_40 (by decide) ?_
      obtain ⟨v5, hv5, hq6⟩ := xb hq6
      refine z_callS (as := [.int a5, .int (0 : Int32), .int (99 : Int32)]) (r1 := (some (.int v5))) (stk := []) (stk2 := [.int v5]) (st1 := st) (d' := 0) dX10_note_42 xl_X10_209 (by decide) (Nat.le_trans xs0 (by decide)) rfl rfl (S_X10_within n st a5 (0 : Int32) (99 : Int32) v5 hv5) ?_
      refine r_if_eq (tgt := 52) dX10_note_45 (by decide) (fun c => ?_) (fun c => ?_)
      · replace hq6 := (if_pos c).symm.trans hq6
        refine r_iconst (v := (0 : Int32)) dX10_note_52 (by decide) ?_
        obtain rfl := Option.some.inj hq6
        exact x_sub [1, 2, 3, 4, 5, 6, 7, 8, 9, 0] rfl Jq6
      · replace hq6 := (if_neg c).symm.trans hq6
        refine r_iconst (v := (1 : Int32)) dX10_note_48 (by decide) ?_
        refine r_goto (tgt := 53) dX10_note_49 (by decide) ?_
        obtain rfl := Option.some.inj hq6
        exact x_sub [1, 2, 3, 4, 5, 6, 7, 8, 9, 0] rfl Jq6
  refine r_if_eq (tgt := 23) dX10_note_4 (by decide) (fun c => ?_) (fun c => ?_)
  · replace hq3 := (if_pos c).symm.trans hq3
    refine r_iconst (v := (0 : Int32)) dX10_note_23 (by decide) ?_
    obtain rfl := Option.some.inj hq3
    exact x_sub [0, 1, 2, 3, 4, 5, 6, 7, 8] rfl Jq3
  · replace hq3 := (if_neg c).symm.trans hq3
    refine r_iload_n (x := a2) dX10_note_7 rfl ?_
    obtain ⟨v2, hv2, hq3⟩ := xb hq3
    refine z_callS (as := [.int a2]) (r1 := (some (.int v2))) (stk := []) (stk2 := [.int v2]) (st1 := st) (d' := 1) dX10_note_8 xl_X10_206 (by decide) (Nat.le_trans xs0 (by decide)) rfl rfl (S_X10_isSide n st a2 v2 hv2) ?_
    refine r_if_eq (tgt := 23) dX10_note_11 (by decide) (fun c => ?_) (fun c => ?_)
    · replace hq3 := (if_pos c).symm.trans hq3
      refine r_iconst (v := (0 : Int32)) dX10_note_23 (by decide) ?_
      obtain rfl := Option.some.inj hq3
      exact x_sub [0, 1, 2, 3, 4, 5, 6, 7, 8] rfl Jq3
    · replace hq3 := (if_neg c).symm.trans hq3
      refine r_iload_n (x := a1) dX10_note_14 rfl ?_
      refine r_iload_n (x := a2) dX10_note_15 rfl ?_
      refine r_icmp_eq (tgt := 23) dX10_note_16 (by decide) (fun c => ?_) (fun c => ?_)
      · replace hq3 := (if_pos c).symm.trans hq3
        refine r_iconst (v := (0 : Int32)) dX10_note_23 (by decide) ?_
        obtain rfl := Option.some.inj hq3
        exact x_sub [0, 1, 2, 3, 4, 5, 6, 7, 8] rfl Jq3
      · replace hq3 := (if_neg c).symm.trans hq3
        refine r_iconst (v := (1 : Int32)) dX10_note_19 (by decide) ?_
        refine r_goto (tgt := 24) dX10_note_20 (by decide) ?_
        obtain rfl := Option.some.inj hq3
        exact x_sub [0, 1, 2, 3, 4, 5, 6, 7, 8] rfl Jq3
theorem S_X10_note (n : Nat) (st : xS) (a0 : Option Nat) (a1 : Int32) (a2 : Int32) (a3 : Int32) (a4 : Int32) (a5 : Int32) (a6 : Int32) (a7 : Int32) (a8 : Int32) (rv : Int32) (st' : xS) (h : F_X10_note n st a0 a1 a2 a3 a4 a5 a6 a7 a8 = some (rv, st')) : Ct mX10_note [va_rf a0, .int a1, .int a2, .int a3, .int a4, .int a5, .int a6, .int a7, .int a8] st (some (.int rv)) st' 3 := by
  refine Ct.of (by decide) (by simp only [lgL_R, lgL_I, lgL_L, lgL_0]; decide) ?_
  try simp only [lvA_R]
  exact R_X10_note n st a0 a1 a2 a3 a4 a5 a6 a7 a8 rv st' h
theorem R_X10_noted (n : Nat) (st : xS) (a0 : Option Nat) (a1 : Int32) (a2 : Int32) (rv : Int32) (h : F_X10_noted n st a0 a1 a2 = some rv) : Rn mX10_noted 0 [(0, va_rf a0), (1, .int a1), (2, .int a2)] [] st (some (.int rv)) st 2 := by
  unfold F_X10_noted at h
  refine r_iload_n (x := a1) dX10_noted_0 rfl ?_
  refine r_if_lt (tgt := 26) dX10_noted_1 (by decide) (fun c => ?_) (fun c => ?_)
  · replace h := (if_pos c).symm.trans h
    refine r_iconst (v := (-1 : Int32)) dX10_noted_26 (by decide) ?_
    obtain rfl := Option.some.inj h
    exact r_ireturn dX10_noted_27 .int rfl rfl
  · replace h := (if_neg c).symm.trans h
    refine r_iload_n (x := a1) dX10_noted_4 rfl ?_
    refine x_aload_n (o := a0) dX10_noted_5 rfl ?_
    obtain ⟨v1, hv1, h⟩ := xb h
    refine x_getR (o := a0) dX10_noted_6 xf_X10_10 hv1 ?_
    refine r_iconst (v := (3 : Int32)) dX10_noted_9 (by decide) ?_
    obtain ⟨q3, hq3, h⟩ := xb h
    obtain ⟨v2, hv2, h⟩ := xb h
    refine z_callV (as := [.int (3 : Int32)]) (o := v1) (r1 := (some (.int v2))) (stk := [.int a1]) (stk2 := [.int v2, .int a1]) (st1 := st) (d' := 1) dX10_noted_10 xl_X10_182 hq3 (by decide) (Nat.le_trans (xsI xs0) (by decide)) rfl rfl (S_X9_howMany n st v1 (3 : Int32) v2 hv2) ?_
    refine r_icmp_ge (tgt := 26) dX10_noted_13 (by decide) (fun c => ?_) (fun c => ?_)
    · replace h := (if_pos c).symm.trans h
      refine r_iconst (v := (-1 : Int32)) dX10_noted_26 (by decide) ?_
      obtain rfl := Option.some.inj h
      exact r_ireturn dX10_noted_27 .int rfl rfl
    · replace h := (if_neg c).symm.trans h
      refine r_iload_n (x := a2) dX10_noted_16 rfl ?_
      refine r_if_lt (tgt := 26) dX10_noted_17 (by decide) (fun c => ?_) (fun c => ?_)
      · replace h := (if_pos c).symm.trans h
        refine r_iconst (v := (-1 : Int32)) dX10_noted_26 (by decide) ?_
        obtain rfl := Option.some.inj h
        exact r_ireturn dX10_noted_27 .int rfl rfl
      · replace h := (if_neg c).symm.trans h
        refine r_iload_n (x := a2) dX10_noted_20 rfl ?_
        refine r_bipush (v := (10 : Int32)) dX10_noted_21 (by decide) ?_
        refine r_icmp_lt (tgt := 28) dX10_noted_23 (by decide) (fun c => ?_) (fun c => ?_)
        · replace h := (if_pos c).symm.trans h
          refine x_aload_n (o := a0) dX10_noted_28 rfl ?_
          obtain ⟨v4, hv4, h⟩ := xb h
          refine x_getR (o := a0) dX10_noted_29 xf_X10_10 hv4 ?_
          refine r_iload_n (x := a1) dX10_noted_32 rfl ?_
          refine r_iload_n (x := a2) dX10_noted_33 rfl ?_
          obtain ⟨q6, hq6, h⟩ := xb h
          obtain ⟨v5, hv5, h⟩ := xb h
          refine z_callV (as := [.int a1, .int a2]) (o := v4) (r1 := (some (.int v5))) (stk := []) (stk2 := [.int v5]) (st1 := st) (d' := 1) dX10_noted_34 xl_X10_216 hq6 (by decide) (Nat.le_trans xs0 (by decide)) rfl rfl (S_X9_noteOf n st v4 a1 a2 v5 hv5) ?_
          obtain rfl := Option.some.inj h
          exact r_ireturn dX10_noted_37 .int rfl rfl
        · replace h := (if_neg c).symm.trans h
          refine r_iconst (v := (-1 : Int32)) dX10_noted_26 (by decide) ?_
          obtain rfl := Option.some.inj h
          exact r_ireturn dX10_noted_27 .int rfl rfl
theorem S_X10_noted (n : Nat) (st : xS) (a0 : Option Nat) (a1 : Int32) (a2 : Int32) (rv : Int32) (h : F_X10_noted n st a0 a1 a2 = some rv) : Ct mX10_noted [va_rf a0, .int a1, .int a2] st (some (.int rv)) st 2 := by
  refine Ct.of (by decide) (by simp only [lgL_R, lgL_I, lgL_L, lgL_0]; decide) ?_
  try simp only [lvA_R]
  exact R_X10_noted n st a0 a1 a2 rv h
theorem R_X10_pickedOf (n : Nat) (st : xS) (a0 : Option Nat) (a1 : Int32) (a2 : Int32) (rv : Int32) (h : F_X10_pickedOf n st a0 a1 a2 = some rv) : Rn mX10_pickedOf 0 [(0, va_rf a0), (1, .int a1), (2, .int a2)] [] st (some (.int rv)) st 2 := by
  unfold F_X10_pickedOf at h
  refine x_aload_n (o := a0) dX10_pickedOf_0 rfl ?_
  obtain ⟨v1, hv1, h⟩ := xb h
  refine x_getR (o := a0) dX10_pickedOf_1 xf_X10_10 hv1 ?_
  refine x_aload_n (o := a0) dX10_pickedOf_4 rfl ?_
  obtain ⟨v2, hv2, h⟩ := xb h
  refine x_getR (o := a0) dX10_pickedOf_5 xf_X10_48 hv2 ?_
  refine r_iload_n (x := a1) dX10_pickedOf_8 rfl ?_
  obtain ⟨v3, hv3, h⟩ := xb h
  refine z_callS (as := [va_rf v2, .int a1]) (r1 := (some (.int v3))) (stk := [va_rf v1]) (stk2 := [.int v3, va_rf v1]) (st1 := st) (d' := 0) dX10_pickedOf_9 xl_X10_348 (by decide) (Nat.le_trans (xsA xs0) (by decide)) rfl rfl (S_X10_valueAt n st v2 a1 v3 hv3) ?_
  refine r_iload_n (x := a2) dX10_pickedOf_12 rfl ?_
  obtain ⟨q5, hq5, h⟩ := xb h
  obtain ⟨v4, hv4, h⟩ := xb h
  refine z_callV (as := [.int v3, .int a2]) (o := v1) (r1 := (some (.int v4))) (stk := []) (stk2 := [.int v4]) (st1 := st) (d' := 1) dX10_pickedOf_13 xl_X10_216 hq5 (by decide) (Nat.le_trans xs0 (by decide)) rfl rfl (S_X9_noteOf n st v1 v3 a2 v4 hv4) ?_
  obtain rfl := Option.some.inj h
  exact r_ireturn dX10_pickedOf_16 .int rfl rfl
theorem S_X10_pickedOf (n : Nat) (st : xS) (a0 : Option Nat) (a1 : Int32) (a2 : Int32) (rv : Int32) (h : F_X10_pickedOf n st a0 a1 a2 = some rv) : Ct mX10_pickedOf [va_rf a0, .int a1, .int a2] st (some (.int rv)) st 2 := by
  refine Ct.of (by decide) (by simp only [lgL_R, lgL_I, lgL_L, lgL_0]; decide) ?_
  try simp only [lvA_R]
  exact R_X10_pickedOf n st a0 a1 a2 rv h
theorem R_X10_margin (n : Nat) (st : xS) (a0 : Option Nat) (a1 : Int32) (rv : Int32) (h : F_X10_margin n st a0 a1 = some rv) : Rn mX10_margin 0 [(0, va_rf a0), (1, .int a1)] [] st (some (.int rv)) st 3 := by
  unfold F_X10_margin at h
  refine x_aload_n (o := a0) dX10_margin_0 rfl ?_
  refine r_iload_n (x := a1) dX10_margin_1 rfl ?_
  refine r_iconst (v := (3 : Int32)) dX10_margin_2 (by decide) ?_
  obtain ⟨q2, hq2, h⟩ := xb h
  obtain ⟨v1, hv1, h⟩ := xb h
  refine z_callV (as := [.int a1, .int (3 : Int32)]) (o := a0) (r1 := (some (.int v1))) (stk := []) (stk2 := [.int v1]) (st1 := st) (d' := 2) dX10_margin_3 xl_X10_228 hq2 (by decide) (Nat.le_trans xs0 (by decide)) rfl rfl (S_X10_pickedOf n st a0 a1 (3 : Int32) v1 hv1) ?_
  refine x_aload_n (o := a0) dX10_margin_6 rfl ?_
  refine r_iload_n (x := a1) dX10_margin_7 rfl ?_
  refine r_iconst (v := (4 : Int32)) dX10_margin_8 (by decide) ?_
  obtain ⟨q4, hq4, h⟩ := xb h
  obtain ⟨v3, hv3, h⟩ := xb h
  refine z_callV (as := [.int a1, .int (4 : Int32)]) (o := a0) (r1 := (some (.int v3))) (stk := [.int v1]) (stk2 := [.int v3, .int v1]) (st1 := st) (d' := 2) dX10_margin_9 xl_X10_228 hq4 (by decide) (Nat.le_trans (xsI xs0) (by decide)) rfl rfl (S_X10_pickedOf n st a0 a1 (4 : Int32) v3 hv3) ?_
  refine r_isub dX10_margin_12 ?_
  obtain rfl := Option.some.inj h
  exact r_ireturn dX10_margin_13 .int rfl rfl
theorem S_X10_margin (n : Nat) (st : xS) (a0 : Option Nat) (a1 : Int32) (rv : Int32) (h : F_X10_margin n st a0 a1 = some rv) : Ct mX10_margin [va_rf a0, .int a1] st (some (.int rv)) st 3 := by
  refine Ct.of (by decide) (by simp only [lgL_R, lgL_I, lgL_L, lgL_0]; decide) ?_
  try simp only [lvA_R]
  exact R_X10_margin n st a0 a1 rv h
theorem R_X10_counted (n : Nat) (st : xS) (a0 : Option Nat) (a1 : Int32) (a2 : Int32) (rv : Int32) (h : F_X10_counted n st a0 a1 a2 = some rv) : Rn mX10_counted 0 [(0, va_rf a0), (1, .int a1), (2, .int a2)] [] st (some (.int rv)) st 4 := by
  unfold F_X10_counted at h
  refine x_aload_n (o := a0) dX10_counted_0 rfl ?_
  refine r_iload_n (x := a1) dX10_counted_1 rfl ?_
  obtain ⟨q2, hq2, h⟩ := xb h
  obtain ⟨v1, hv1, h⟩ := xb h
  refine z_callV (as := [.int a1]) (o := a0) (r1 := (some (.int v1))) (stk := []) (stk2 := [.int v1]) (st1 := st) (d' := 3) dX10_counted_2 xl_X10_225 hq2 (by decide) (Nat.le_trans xs0 (by decide)) rfl rfl (S_X10_margin n st a0 a1 v1 hv1) ?_
  refine r_istore_n (lv' := [(3, .int v1), (0, va_rf a0), (1, .int a1), (2, .int a2)]) (x := v1) dX10_counted_5 (by decide) rfl ?_
  refine r_iload_n (x := a2) dX10_counted_6 rfl ?_
  by_cases c0 : a2 = (0 : Int32)
  · replace h := (if_pos c0).symm.trans h
    refine r_tableIn (off := 33) (tgt := 40) dX10_counted_7 (by rw [c0]; decide) (by rw [c0]; decide) (by rw [c0]; rfl) (by decide) ?_
    refine r_iconst (v := (1 : Int32)) dX10_counted_40 (by decide) ?_
    obtain rfl := Option.some.inj h
    exact r_ireturn dX10_counted_41 .int rfl rfl
  replace h := (if_neg c0).symm.trans h
  by_cases c1 : a2 = (1 : Int32)
  · replace h := (if_pos c1).symm.trans h
    refine r_tableIn (off := 35) (tgt := 42) dX10_counted_7 (by rw [c1]; decide) (by rw [c1]; decide) (by rw [c1]; rfl) (by decide) ?_
    refine r_iload_n (x := v1) dX10_counted_42 rfl ?_
    obtain ⟨q3, hq3, h⟩ := xb h
    have Jq3 : Rn mX10_counted 51 [] [.int q3] st (some (.int rv)) st 4 := by
      obtain rfl := Option.some.inj h
      exact r_ireturn dX10_counted_51 .int rfl rfl
    refine r_if_le (tgt := 50) dX10_counted_43 (by decide) (fun c => ?_) (fun c => ?_)
    · replace hq3 := (if_pos c).symm.trans hq3
      refine r_iconst (v := (0 : Int32)) dX10_counted_50 (by decide) ?_
      obtain rfl := Option.some.inj hq3
      exact x_sub [] rfl Jq3
    · replace hq3 := (if_neg c).symm.trans hq3
      refine r_iconst (v := (1 : Int32)) dX10_counted_46 (by decide) ?_
      refine r_goto (tgt := 51) dX10_counted_47 (by decide) ?_
      obtain rfl := Option.some.inj hq3
      exact x_sub [] rfl Jq3
  replace h := (if_neg c1).symm.trans h
  by_cases c2 : a2 = (2 : Int32)
  · replace h := (if_pos c2).symm.trans h
    refine r_tableIn (off := 45) (tgt := 52) dX10_counted_7 (by rw [c2]; decide) (by rw [c2]; decide) (by rw [c2]; rfl) (by decide) ?_
    refine r_iload_n (x := v1) dX10_counted_52 rfl ?_
    obtain ⟨q4, hq4, h⟩ := xb h
    have Jq4 : Rn mX10_counted 61 [] [.int q4] st (some (.int rv)) st 4 := by
      obtain rfl := Option.some.inj h
      exact r_ireturn dX10_counted_61 .int rfl rfl
    refine r_if_ne (tgt := 60) dX10_counted_53 (by decide) (fun c => ?_) (fun c => ?_)
    · replace hq4 := (if_neg c).symm.trans hq4
      refine r_iconst (v := (0 : Int32)) dX10_counted_60 (by decide) ?_
      obtain rfl := Option.some.inj hq4
      exact x_sub [] rfl Jq4
    · replace hq4 := (if_pos c).symm.trans hq4
      refine r_iconst (v := (1 : Int32)) dX10_counted_56 (by decide) ?_
      refine r_goto (tgt := 61) dX10_counted_57 (by decide) ?_
      obtain rfl := Option.some.inj hq4
      exact x_sub [] rfl Jq4
  replace h := (if_neg c2).symm.trans h
  by_cases c3 : a2 = (3 : Int32)
  · replace h := (if_pos c3).symm.trans h
    refine r_tableIn (off := 55) (tgt := 62) dX10_counted_7 (by rw [c3]; decide) (by rw [c3]; decide) (by rw [c3]; rfl) (by decide) ?_
    refine r_iload_n (x := v1) dX10_counted_62 rfl ?_
    obtain ⟨q5, hq5, h⟩ := xb h
    have Jq5 : Rn mX10_counted 71 [] [.int q5] st (some (.int rv)) st 4 := by
      obtain rfl := Option.some.inj h
      exact r_ireturn dX10_counted_71 .int rfl rfl
    refine r_if_ge (tgt := 70) dX10_counted_63 (by decide) (fun c => ?_) (fun c => ?_)
    · replace hq5 := (if_pos c).symm.trans hq5
      refine r_iconst (v := (0 : Int32)) dX10_counted_70 (by decide) ?_
      obtain rfl := Option.some.inj hq5
      exact x_sub [] rfl Jq5
    · replace hq5 := (if_neg c).symm.trans hq5
      refine r_iconst (v := (1 : Int32)) dX10_counted_66 (by decide) ?_
      refine r_goto (tgt := 71) dX10_counted_67 (by decide) ?_
      obtain rfl := Option.some.inj hq5
      exact x_sub [] rfl Jq5
  replace h := (if_neg c3).symm.trans h
  by_cases c4 : a2 = (4 : Int32)
  · replace h := (if_pos c4).symm.trans h
    refine r_tableIn (off := 65) (tgt := 72) dX10_counted_7 (by rw [c4]; decide) (by rw [c4]; decide) (by rw [c4]; rfl) (by decide) ?_
    refine x_aload_n (o := a0) dX10_counted_72 rfl ?_
    refine r_iload_n (x := a1) dX10_counted_73 rfl ?_
    refine r_iconst (v := (3 : Int32)) dX10_counted_74 (by decide) ?_
    obtain ⟨q7, hq7, h⟩ := xb h
    obtain ⟨v6, hv6, h⟩ := xb h
    refine z_callV (as := [.int a1, .int (3 : Int32)]) (o := a0) (r1 := (some (.int v6))) (stk := []) (stk2 := [.int v6]) (st1 := st) (d' := 2) dX10_counted_75 xl_X10_228 hq7 (by decide) (Nat.le_trans xs0 (by decide)) rfl rfl (S_X10_pickedOf n st a0 a1 (3 : Int32) v6 hv6) ?_
    obtain rfl := Option.some.inj h
    exact r_ireturn dX10_counted_78 .int rfl rfl
  replace h := (if_neg c4).symm.trans h
  refine r_tableOut (tgt := 79) dX10_counted_7 (xswD (fun k hk1 hk2 => by
    have hk : k = 0 ∨ k = 1 ∨ k = 2 ∨ k = 3 ∨ k = 4 := by omega
    rcases hk with rfl | rfl | rfl | rfl | rfl
    · exact c0
    · exact c1
    · exact c2
    · exact c3
    · exact c4)) (by decide) ?_
  refine x_aload_n (o := a0) dX10_counted_79 rfl ?_
  refine r_iload_n (x := a1) dX10_counted_80 rfl ?_
  refine r_iconst (v := (4 : Int32)) dX10_counted_81 (by decide) ?_
  obtain ⟨q9, hq9, h⟩ := xb h
  obtain ⟨v8, hv8, h⟩ := xb h
  refine z_callV (as := [.int a1, .int (4 : Int32)]) (o := a0) (r1 := (some (.int v8))) (stk := []) (stk2 := [.int v8]) (st1 := st) (d' := 2) dX10_counted_82 xl_X10_228 hq9 (by decide) (Nat.le_trans xs0 (by decide)) rfl rfl (S_X10_pickedOf n st a0 a1 (4 : Int32) v8 hv8) ?_
  obtain rfl := Option.some.inj h
  exact r_ireturn dX10_counted_85 .int rfl rfl
theorem S_X10_counted (n : Nat) (st : xS) (a0 : Option Nat) (a1 : Int32) (a2 : Int32) (rv : Int32) (h : F_X10_counted n st a0 a1 a2 = some rv) : Ct mX10_counted [va_rf a0, .int a1, .int a2] st (some (.int rv)) st 4 := by
  refine Ct.of (by decide) (by simp only [lgL_R, lgL_I, lgL_L, lgL_0]; decide) ?_
  try simp only [lvA_R]
  exact R_X10_counted n st a0 a1 a2 rv h
theorem R_X10_pick_L55 (n : Nat) {r : Option Value} {st' : xS} : ∀ (k : Nat) (st : xS) (a0 : Option Nat) (a1 : Int32) (a2 : Int32) (a3 : Int32) (a4 : Int32) (a5 : Int32) (a6 : Int32) (q : (Int32 × xS)), F_X10_pick_L55 n k st a0 a1 a2 a3 a4 a5 a6 = some q → Rn mX10_pick 104 [(0, va_rf a0), (1, .int a1), (2, .int a2), (3, .int a3), (4, .int a4), (6, .int q.1)] [] q.2 r st' 2 → Rn mX10_pick 55 [(0, va_rf a0), (1, .int a1), (2, .int a2), (3, .int a3), (4, .int a4), (5, .int a5), (6, .int a6)] [] st r st' 2 := by
  intro k
  induction k with
  | zero => intro st a0 a1 a2 a3 a4 a5 a6 q h; cases h
  | succ k ih =>
    intro st a0 a1 a2 a3 a4 a5 a6 q h J
    unfold F_X10_pick_L55 at h
    refine r_iload (x := a6) dX10_pick_55 rfl ?_
    refine r_if_le (tgt := 104) dX10_pick_57 (by decide) (fun c => ?_) (fun c => ?_)
    · replace h := (if_pos c).symm.trans h
      obtain rfl := Option.some.inj h
      exact x_sub [0, 1, 2, 3, 4, 6] rfl J
    · replace h := (if_neg c).symm.trans h
      refine x_aload_n (o := a0) dX10_pick_60 rfl ?_
      obtain ⟨v10, hv10, h⟩ := xb h
      refine x_getR (o := a0) dX10_pick_61 xf_X10_10 hv10 ?_
      refine x_aload_n (o := a0) dX10_pick_64 rfl ?_
      obtain ⟨v11, hv11, h⟩ := xb h
      refine x_getR (o := a0) dX10_pick_65 xf_X10_48 hv11 ?_
      refine r_iload (x := a6) dX10_pick_68 rfl ?_
      refine r_iconst (v := (1 : Int32)) dX10_pick_70 (by decide) ?_
      refine r_isub dX10_pick_71 ?_
      obtain ⟨v12, hv12, h⟩ := xb h
      refine x_iaload (o := v11) dX10_pick_72 hv12 ?_
      refine r_iconst (v := (2 : Int32)) dX10_pick_73 (by decide) ?_
      obtain ⟨q14, hq14, h⟩ := xb h
      obtain ⟨v13, hv13, h⟩ := xb h
      refine z_callV (as := [.int v12, .int (2 : Int32)]) (o := v10) (r1 := (some (.int v13))) (stk := []) (stk2 := [.int v13]) (st1 := st) (d' := 1) dX10_pick_74 xl_X10_216 hq14 (by decide) (Nat.le_trans xs0 (by decide)) rfl rfl (S_X9_noteOf n st v10 v12 (2 : Int32) v13 hv13) ?_
      refine r_iload (x := a5) dX10_pick_77 rfl ?_
      refine r_icmp_le (tgt := 104) dX10_pick_79 (by decide) (fun c => ?_) (fun c => ?_)
      · replace h := (if_pos c).symm.trans h
        obtain rfl := Option.some.inj h
        exact x_sub [0, 1, 2, 3, 4, 6] rfl J
      · replace h := (if_neg c).symm.trans h
        refine x_aload_n (o := a0) dX10_pick_82 rfl ?_
        obtain ⟨v15, hv15, h⟩ := xb h
        refine x_getR (o := a0) dX10_pick_83 xf_X10_48 hv15 ?_
        refine r_iload (x := a6) dX10_pick_86 rfl ?_
        refine x_aload_n (o := a0) dX10_pick_88 rfl ?_
        obtain ⟨v16, hv16, h⟩ := xb h
        refine x_getR (o := a0) dX10_pick_89 xf_X10_48 hv16 ?_
        refine r_iload (x := a6) dX10_pick_92 rfl ?_
        refine r_iconst (v := (1 : Int32)) dX10_pick_94 (by decide) ?_
        refine r_isub dX10_pick_95 ?_
        obtain ⟨v17, hv17, h⟩ := xb h
        refine x_iaload (o := v16) dX10_pick_96 hv17 ?_
        obtain ⟨s18, hs18, h⟩ := xb h
        refine x_iastore (o := v15) dX10_pick_97 hs18 ?_
        obtain ⟨v19, hv19, h⟩ := xb h
        refine x_iinc (c := (-1 : Int32)) (lv' := [(6, .int v19), (0, va_rf a0), (1, .int a1), (2, .int a2), (3, .int a3), (4, .int a4), (5, .int a5)]) (x := a6) (v := v19) dX10_pick_98 rfl (by decide) (Option.some.inj hv19) (by decide) rfl ?_
        refine r_goto (tgt := 55) dX10_pick_101 (by decide) ?_
        exact x_sub [1, 2, 3, 4, 5, 6, 0] rfl (ih s18 a0 a1 a2 a3 a4 a5 v19 q h J)
theorem R_X10_pick_L5 (n : Nat) {r : Option Value} {st' : xS} : ∀ (k : Nat) (st : xS) (a0 : Option Nat) (a1 : Int32) (a2 : Int32) (a3 : Int32) (a4 : Int32) (q : (Int32 × xS)), F_X10_pick_L5 n k st a0 a1 a2 a3 a4 = some q → Rn mX10_pick 122 [(3, .int q.1)] [] q.2 r st' 2 → Rn mX10_pick 5 [(0, va_rf a0), (1, .int a1), (2, .int a2), (3, .int a3), (4, .int a4)] [] st r st' 2 := by
  intro k
  induction k with
  | zero => intro st a0 a1 a2 a3 a4 q h; cases h
  | succ k ih =>
    intro st a0 a1 a2 a3 a4 q h J
    unfold F_X10_pick_L5 at h
    refine r_iload (x := a4) dX10_pick_5 rfl ?_
    refine x_aload_n (o := a0) dX10_pick_7 rfl ?_
    obtain ⟨v1, hv1, h⟩ := xb h
    refine x_getR (o := a0) dX10_pick_8 xf_X10_10 hv1 ?_
    refine r_iconst (v := (3 : Int32)) dX10_pick_11 (by decide) ?_
    obtain ⟨q3, hq3, h⟩ := xb h
    obtain ⟨v2, hv2, h⟩ := xb h
    refine z_callV (as := [.int (3 : Int32)]) (o := v1) (r1 := (some (.int v2))) (stk := [.int a4]) (stk2 := [.int v2, .int a4]) (st1 := st) (d' := 1) dX10_pick_12 xl_X10_182 hq3 (by decide) (Nat.le_trans (xsI xs0) (by decide)) rfl rfl (S_X9_howMany n st v1 (3 : Int32) v2 hv2) ?_
    refine r_icmp_ge (tgt := 122) dX10_pick_15 (by decide) (fun c => ?_) (fun c => ?_)
    · replace h := (if_pos c).symm.trans h
      obtain rfl := Option.some.inj h
      exact x_sub [3] rfl J
    · replace h := (if_neg c).symm.trans h
      refine r_iload_n (x := a3) dX10_pick_18 rfl ?_
      refine x_aload_n (o := a0) dX10_pick_19 rfl ?_
      obtain ⟨v4, hv4, h⟩ := xb h
      refine x_getR (o := a0) dX10_pick_20 xf_X10_48 hv4 ?_
      obtain ⟨v5, hv5, h⟩ := xb h
      refine x_alen (o := v4) dX10_pick_23 hv5 ?_
      refine r_icmp_ge (tgt := 122) dX10_pick_24 (by decide) (fun c => ?_) (fun c => ?_)
      · replace h := (if_pos c).symm.trans h
        obtain rfl := Option.some.inj h
        exact x_sub [3] rfl J
      · replace h := (if_neg c).symm.trans h
        refine x_aload_n (o := a0) dX10_pick_27 rfl ?_
        obtain ⟨v6, hv6, h⟩ := xb h
        refine x_getR (o := a0) dX10_pick_28 xf_X10_10 hv6 ?_
        refine r_iload (x := a4) dX10_pick_31 rfl ?_
        refine r_iconst (v := (2 : Int32)) dX10_pick_33 (by decide) ?_
        obtain ⟨q8, hq8, h⟩ := xb h
        obtain ⟨v7, hv7, h⟩ := xb h
        refine z_callV (as := [.int a4, .int (2 : Int32)]) (o := v6) (r1 := (some (.int v7))) (stk := []) (stk2 := [.int v7]) (st1 := st) (d' := 1) dX10_pick_34 xl_X10_216 hq8 (by decide) (Nat.le_trans xs0 (by decide)) rfl rfl (S_X9_noteOf n st v6 a4 (2 : Int32) v7 hv7) ?_
        refine r_istore (lv' := [(5, .int v7), (0, va_rf a0), (1, .int a1), (2, .int a2), (3, .int a3), (4, .int a4)]) (x := v7) dX10_pick_37 (by decide) rfl ?_
        refine r_iload (x := v7) dX10_pick_39 rfl ?_
        refine r_iload_n (x := a1) dX10_pick_41 rfl ?_
        refine r_iload_n (x := a2) dX10_pick_42 rfl ?_
        obtain ⟨v9, hv9, h⟩ := xb h
        refine z_callS (as := [.int v7, .int a1, .int a2]) (r1 := (some (.int v9))) (stk := []) (stk2 := [.int v9]) (st1 := st) (d' := 0) dX10_pick_43 xl_X10_209 (by decide) (Nat.le_trans xs0 (by decide)) rfl rfl (S_X10_within n st v7 a1 a2 v9 hv9) ?_
        obtain ⟨q24, hq24, h⟩ := xb h
        have Jq24 : Rn mX10_pick 116 [(0, va_rf a0), (1, .int a1), (2, .int a2), (3, .int q24.1), (4, .int a4)] [] q24.2 r st' 2 := by
          obtain ⟨v25, hv25, h⟩ := xb h
          refine x_iinc (c := (1 : Int32)) (lv' := [(4, .int v25), (0, va_rf a0), (1, .int a1), (2, .int a2), (3, .int q24.1)]) (x := a4) (v := v25) dX10_pick_116 rfl (by decide) (Option.some.inj hv25) (by decide) rfl ?_
          refine r_goto (tgt := 5) dX10_pick_119 (by decide) ?_
          exact x_sub [1, 2, 3, 4, 0] rfl (ih q24.2 a0 a1 a2 q24.1 v25 q h J)
        refine r_if_ne (tgt := 52) dX10_pick_46 (by decide) (fun c => ?_) (fun c => ?_)
        · replace hq24 := (if_neg c).symm.trans hq24
          refine r_iload_n (x := a3) dX10_pick_52 rfl ?_
          refine r_istore (lv' := [(6, .int a3), (5, .int v7), (0, va_rf a0), (1, .int a1), (2, .int a2), (3, .int a3), (4, .int a4)]) (x := a3) dX10_pick_53 (by decide) rfl ?_
          obtain ⟨q20, hq20, hq24⟩ := xb hq24
          have Jq20 : Rn mX10_pick 104 [(0, va_rf a0), (1, .int a1), (2, .int a2), (3, .int a3), (4, .int a4), (6, .int q20.1)] [] q20.2 r st' 2 := by
            refine x_aload_n (o := a0) dX10_pick_104 rfl ?_
            obtain ⟨v21, hv21, hq24⟩ := xb hq24
            refine x_getR (o := a0) dX10_pick_105 xf_X10_48 hv21 ?_
            refine r_iload (x := q20.1) dX10_pick_108 rfl ?_
            refine r_iload (x := a4) dX10_pick_110 rfl ?_
            obtain ⟨s22, hs22, hq24⟩ := xb hq24
            refine x_iastore (o := v21) dX10_pick_112 hs22 ?_
            obtain ⟨v23, hv23, hq24⟩ := xb hq24
            refine x_iinc (c := (1 : Int32)) (lv' := [(3, .int v23), (0, va_rf a0), (1, .int a1), (2, .int a2), (4, .int a4), (6, .int q20.1)]) (x := a3) (v := v23) dX10_pick_113 rfl (by decide) (Option.some.inj hv23) (by decide) rfl ?_
            obtain rfl := Option.some.inj hq24
            exact x_sub [1, 2, 3, 0, 4] rfl Jq24
          exact x_sub [2, 3, 4, 5, 6, 1, 0] rfl (R_X10_pick_L55 n n st a0 a1 a2 a3 a4 v7 a3 q20 hq20 Jq20)
        · replace hq24 := (if_pos c).symm.trans hq24
          refine r_goto (tgt := 116) dX10_pick_49 (by decide) ?_
          obtain rfl := Option.some.inj hq24
          exact x_sub [1, 2, 3, 4, 5] rfl Jq24
theorem R_X10_pick (n : Nat) (st : xS) (a0 : Option Nat) (a1 : Int32) (a2 : Int32) (rv : Int32) (st' : xS) (h : F_X10_pick n st a0 a1 a2 = some (rv, st')) : Rn mX10_pick 0 [(0, va_rf a0), (1, .int a1), (2, .int a2)] [] st (some (.int rv)) st' 2 := by
  unfold F_X10_pick at h
  refine r_iconst (v := (0 : Int32)) dX10_pick_0 (by decide) ?_
  refine r_istore_n (lv' := [(3, .int (0 : Int32)), (0, va_rf a0), (1, .int a1), (2, .int a2)]) (x := (0 : Int32)) dX10_pick_1 (by decide) rfl ?_
  refine r_iconst (v := (0 : Int32)) dX10_pick_2 (by decide) ?_
  refine r_istore (lv' := [(4, .int (0 : Int32)), (3, .int (0 : Int32)), (0, va_rf a0), (1, .int a1), (2, .int a2)]) (x := (0 : Int32)) dX10_pick_3 (by decide) rfl ?_
  obtain ⟨q26, hq26, h⟩ := xb h
  have Jq26 : Rn mX10_pick 122 [(3, .int q26.1)] [] q26.2 (some (.int rv)) st' 2 := by
    refine r_iload_n (x := q26.1) dX10_pick_122 rfl ?_
    obtain ⟨rfl, rfl⟩ := Prod.mk.inj (Option.some.inj h)
    exact r_ireturn dX10_pick_123 .int rfl rfl
  exact x_sub [2, 3, 4, 1, 0] rfl (R_X10_pick_L5 n n st a0 a1 a2 (0 : Int32) (0 : Int32) q26 hq26 Jq26)
theorem S_X10_pick (n : Nat) (st : xS) (a0 : Option Nat) (a1 : Int32) (a2 : Int32) (rv : Int32) (st' : xS) (h : F_X10_pick n st a0 a1 a2 = some (rv, st')) : Ct mX10_pick [va_rf a0, .int a1, .int a2] st (some (.int rv)) st' 2 := by
  refine Ct.of (by decide) (by simp only [lgL_R, lgL_I, lgL_L, lgL_0]; decide) ?_
  try simp only [lvA_R]
  exact R_X10_pick n st a0 a1 a2 rv st' h
theorem R_X10_sum_L25 (n : Nat) {r : Option Value} {st' : xS} : ∀ (k : Nat) (st : xS) (a0 : Option Nat) (a3 : Int32) (a4 : Int32) (a5 : Int32) (a6 : Int32) (q : (Int32)), F_X10_sum_L25 n k st a0 a3 a4 a5 a6 = some q → Rn mX10_sum 50 [(5, .int q)] [] st r st' 5 → Rn mX10_sum 25 [(0, va_rf a0), (3, .int a3), (4, .int a4), (5, .int a5), (6, .int a6)] [] st r st' 5 := by
  intro k
  induction k with
  | zero => intro st a0 a3 a4 a5 a6 q h; cases h
  | succ k ih =>
    intro st a0 a3 a4 a5 a6 q h J
    unfold F_X10_sum_L25 at h
    refine r_iload (x := a6) dX10_sum_25 rfl ?_
    refine r_iload (x := a4) dX10_sum_27 rfl ?_
    refine r_icmp_ge (tgt := 50) dX10_sum_29 (by decide) (fun c => ?_) (fun c => ?_)
    · replace h := (if_pos c).symm.trans h
      obtain rfl := Option.some.inj h
      exact x_sub [3] rfl J
    · replace h := (if_neg c).symm.trans h
      refine r_iload (x := a5) dX10_sum_32 rfl ?_
      refine x_aload_n (o := a0) dX10_sum_34 rfl ?_
      refine r_iload (x := a6) dX10_sum_35 rfl ?_
      refine r_iload_n (x := a3) dX10_sum_37 rfl ?_
      obtain ⟨q4, hq4, h⟩ := xb h
      obtain ⟨v3, hv3, h⟩ := xb h
      refine z_callV (as := [.int a6, .int a3]) (o := a0) (r1 := (some (.int v3))) (stk := [.int a5]) (stk2 := [.int v3, .int a5]) (st1 := st) (d' := 4) dX10_sum_38 xl_X10_222 hq4 (by decide) (Nat.le_trans (xsI xs0) (by decide)) rfl rfl (S_X10_counted n st a0 a6 a3 v3 hv3) ?_
      refine r_iadd dX10_sum_41 ?_
      obtain ⟨v5, hv5, h⟩ := xb h
      refine x_eqI (Option.some.inj hv5) ?_
      refine r_istore (lv' := [(5, .int v5), (0, va_rf a0), (3, .int a3), (4, .int a4), (6, .int a6)]) (x := v5) dX10_sum_42 (by decide) rfl ?_
      obtain ⟨v6, hv6, h⟩ := xb h
      refine x_iinc (c := (1 : Int32)) (lv' := [(6, .int v6), (5, .int v5), (0, va_rf a0), (3, .int a3), (4, .int a4)]) (x := a6) (v := v6) dX10_sum_44 rfl (by decide) (Option.some.inj hv6) (by decide) rfl ?_
      refine r_goto (tgt := 25) dX10_sum_47 (by decide) ?_
      exact x_sub [2, 3, 4, 1, 0] rfl (ih st a0 a3 a4 v5 v6 q h J)
theorem R_X10_sum (n : Nat) (st : xS) (a0 : Option Nat) (a1 : Int32) (a2 : Int32) (a3 : Int32) (rv : Int32) (st' : xS) (h : F_X10_sum n st a0 a1 a2 a3 = some (rv, st')) : Rn mX10_sum 0 [(0, va_rf a0), (1, .int a1), (2, .int a2), (3, .int a3)] [] st (some (.int rv)) st' 5 := by
  unfold F_X10_sum at h
  refine r_iload_n (x := a3) dX10_sum_0 rfl ?_
  refine r_if_lt (tgt := 9) dX10_sum_1 (by decide) (fun c => ?_) (fun c => ?_)
  · replace h := (if_pos c).symm.trans h
    refine r_iconst (v := (-1 : Int32)) dX10_sum_9 (by decide) ?_
    obtain ⟨rfl, rfl⟩ := Prod.mk.inj (Option.some.inj h)
    exact r_ireturn dX10_sum_10 .int rfl rfl
  · replace h := (if_neg c).symm.trans h
    refine r_iload_n (x := a3) dX10_sum_4 rfl ?_
    refine r_iconst (v := (5 : Int32)) dX10_sum_5 (by decide) ?_
    refine r_icmp_le (tgt := 11) dX10_sum_6 (by decide) (fun c => ?_) (fun c => ?_)
    · replace h := (if_pos c).symm.trans h
      refine x_aload_n (o := a0) dX10_sum_11 rfl ?_
      refine r_iload_n (x := a1) dX10_sum_12 rfl ?_
      refine r_iload_n (x := a2) dX10_sum_13 rfl ?_
      obtain ⟨q2, hq2, h⟩ := xb h
      obtain ⟨p1, hp1, h⟩ := xb h
      refine z_callV (as := [.int a1, .int a2]) (o := a0) (r1 := (some (.int p1.1))) (stk := []) (stk2 := [.int p1.1]) (st1 := p1.2) (d' := 2) dX10_sum_14 xl_X10_219 hq2 (by decide) (Nat.le_trans xs0 (by decide)) rfl rfl (S_X10_pick n st a0 a1 a2 p1.1 p1.2 hp1) ?_
      refine r_istore (lv' := [(4, .int p1.1), (0, va_rf a0), (1, .int a1), (2, .int a2), (3, .int a3)]) (x := p1.1) dX10_sum_17 (by decide) rfl ?_
      refine r_iconst (v := (0 : Int32)) dX10_sum_19 (by decide) ?_
      refine r_istore (lv' := [(5, .int (0 : Int32)), (4, .int p1.1), (0, va_rf a0), (1, .int a1), (2, .int a2), (3, .int a3)]) (x := (0 : Int32)) dX10_sum_20 (by decide) rfl ?_
      refine r_iconst (v := (0 : Int32)) dX10_sum_22 (by decide) ?_
      refine r_istore (lv' := [(6, .int (0 : Int32)), (5, .int (0 : Int32)), (4, .int p1.1), (0, va_rf a0), (1, .int a1), (2, .int a2), (3, .int a3)]) (x := (0 : Int32)) dX10_sum_23 (by decide) rfl ?_
      obtain ⟨q7, hq7, h⟩ := xb h
      have Jq7 : Rn mX10_sum 50 [(5, .int q7)] [] p1.2 (some (.int rv)) st' 5 := by
        refine r_iload (x := q7) dX10_sum_50 rfl ?_
        obtain ⟨rfl, rfl⟩ := Prod.mk.inj (Option.some.inj h)
        exact r_ireturn dX10_sum_52 .int rfl rfl
      exact x_sub [3, 6, 2, 1, 0] rfl (R_X10_sum_L25 n n p1.2 a0 a3 p1.1 (0 : Int32) (0 : Int32) q7 hq7 Jq7)
    · replace h := (if_neg c).symm.trans h
      refine r_iconst (v := (-1 : Int32)) dX10_sum_9 (by decide) ?_
      obtain ⟨rfl, rfl⟩ := Prod.mk.inj (Option.some.inj h)
      exact r_ireturn dX10_sum_10 .int rfl rfl
theorem S_X10_sum (n : Nat) (st : xS) (a0 : Option Nat) (a1 : Int32) (a2 : Int32) (a3 : Int32) (rv : Int32) (st' : xS) (h : F_X10_sum n st a0 a1 a2 a3 = some (rv, st')) : Ct mX10_sum [va_rf a0, .int a1, .int a2, .int a3] st (some (.int rv)) st' 5 := by
  refine Ct.of (by decide) (by simp only [lgL_R, lgL_I, lgL_L, lgL_0]; decide) ?_
  try simp only [lvA_R]
  exact R_X10_sum n st a0 a1 a2 a3 rv st' h
theorem R_X10_fillTable_L17 (n : Nat) {r : Option Value} {st' : xS} : ∀ (k : Nat) (st : xS) (a0 : Option Nat) (a3 : Int32) (a4 : Int32) (q : (xS)), F_X10_fillTable_L17 n k st a0 a3 a4 = some q → Rn mX10_fillTable 83 [] [] q r st' 3 → Rn mX10_fillTable 17 [(0, va_rf a0), (3, .int a3), (4, .int a4)] [] st r st' 3 := by
  intro k
  induction k with
  | zero => intro st a0 a3 a4 q h; cases h
  | succ k ih =>
    intro st a0 a3 a4 q h J
    unfold F_X10_fillTable_L17 at h
    refine r_iload (x := a4) dX10_fillTable_17 rfl ?_
    refine r_iload_n (x := a3) dX10_fillTable_19 rfl ?_
    refine r_icmp_ge (tgt := 83) dX10_fillTable_20 (by decide) (fun c => ?_) (fun c => ?_)
    · replace h := (if_pos c).symm.trans h
      obtain rfl := Option.some.inj h
      exact x_sub [] rfl J
    · replace h := (if_neg c).symm.trans h
      refine x_aload_n (o := a0) dX10_fillTable_23 rfl ?_
      refine r_iload (x := a4) dX10_fillTable_24 rfl ?_
      refine r_iconst (v := (3 : Int32)) dX10_fillTable_26 (by decide) ?_
      obtain ⟨q7, hq7, h⟩ := xb h
      obtain ⟨v6, hv6, h⟩ := xb h
      refine z_callV (as := [.int a4, .int (3 : Int32)]) (o := a0) (r1 := (some (.int v6))) (stk := []) (stk2 := [.int v6]) (st1 := st) (d' := 2) dX10_fillTable_27 xl_X10_228 hq7 (by decide) (Nat.le_trans xs0 (by decide)) rfl rfl (S_X10_pickedOf n st a0 a4 (3 : Int32) v6 hv6) ?_
      refine r_istore (lv' := [(5, .int v6), (0, va_rf a0), (3, .int a3), (4, .int a4)]) (x := v6) dX10_fillTable_30 (by decide) rfl ?_
      refine x_aload_n (o := a0) dX10_fillTable_32 rfl ?_
      refine r_iload (x := a4) dX10_fillTable_33 rfl ?_
      refine r_iconst (v := (4 : Int32)) dX10_fillTable_35 (by decide) ?_
      obtain ⟨q9, hq9, h⟩ := xb h
      obtain ⟨v8, hv8, h⟩ := xb h
      refine z_callV (as := [.int a4, .int (4 : Int32)]) (o := a0) (r1 := (some (.int v8))) (stk := []) (stk2 := [.int v8]) (st1 := st) (d' := 2) dX10_fillTable_36 xl_X10_228 hq9 (by decide) (Nat.le_trans xs0 (by decide)) rfl rfl (S_X10_pickedOf n st a0 a4 (4 : Int32) v8 hv8) ?_
      refine r_istore (lv' := [(6, .int v8), (5, .int v6), (0, va_rf a0), (3, .int a3), (4, .int a4)]) (x := v8) dX10_fillTable_39 (by decide) rfl ?_
      refine x_aload_n (o := a0) dX10_fillTable_41 rfl ?_
      obtain ⟨v10, hv10, h⟩ := xb h
      refine x_getR (o := a0) dX10_fillTable_42 xf_X10_44 hv10 ?_
      refine x_aload_n (o := a0) dX10_fillTable_45 rfl ?_
      refine r_iload (x := a4) dX10_fillTable_46 rfl ?_
      refine r_iconst (v := (0 : Int32)) dX10_fillTable_48 (by decide) ?_
      obtain ⟨q12, hq12, h⟩ := xb h
      obtain ⟨v11, hv11, h⟩ := xb h
      refine z_callV (as := [.int a4, .int (0 : Int32)]) (o := a0) (r1 := (some (.int v11))) (stk := [va_rf v10]) (stk2 := [.int v11, va_rf v10]) (st1 := st) (d' := 2) dX10_fillTable_49 xl_X10_228 hq12 (by decide) (Nat.le_trans (xsA xs0) (by decide)) rfl rfl (S_X10_pickedOf n st a0 a4 (0 : Int32) v11 hv11) ?_
      refine r_iload (x := v6) dX10_fillTable_52 rfl ?_
      refine r_iload (x := v8) dX10_fillTable_54 rfl ?_
      obtain ⟨q14, hq14, h⟩ := xb h
      obtain ⟨s13, hs13, h⟩ := xb h
      refine z_callV (as := [.int v11, .int v6, .int v8]) (o := v10) (r1 := none) (stk := []) (stk2 := []) (st1 := s13) (d' := 1) dX10_fillTable_56 xl_X10_244 hq14 (by decide) (Nat.le_trans xs0 (by decide)) rfl rfl (S_X8_add n st v10 v11 v6 v8 s13 hs13) ?_
      refine x_aload_n (o := a0) dX10_fillTable_59 rfl ?_
      obtain ⟨v15, hv15, h⟩ := xb h
      refine x_getR (o := a0) dX10_fillTable_60 xf_X10_44 hv15 ?_
      refine x_aload_n (o := a0) dX10_fillTable_63 rfl ?_
      refine r_iload (x := a4) dX10_fillTable_64 rfl ?_
      refine r_iconst (v := (1 : Int32)) dX10_fillTable_66 (by decide) ?_
      obtain ⟨q17, hq17, h⟩ := xb h
      obtain ⟨v16, hv16, h⟩ := xb h
      refine z_callV (as := [.int a4, .int (1 : Int32)]) (o := a0) (r1 := (some (.int v16))) (stk := [va_rf v15]) (stk2 := [.int v16, va_rf v15]) (st1 := s13) (d' := 2) dX10_fillTable_67 xl_X10_228 hq17 (by decide) (Nat.le_trans (xsA xs0) (by decide)) rfl rfl (S_X10_pickedOf n s13 a0 a4 (1 : Int32) v16 hv16) ?_
      refine r_iload (x := v8) dX10_fillTable_70 rfl ?_
      refine r_iload (x := v6) dX10_fillTable_72 rfl ?_
      obtain ⟨q19, hq19, h⟩ := xb h
      obtain ⟨s18, hs18, h⟩ := xb h
      refine z_callV (as := [.int v16, .int v8, .int v6]) (o := v15) (r1 := none) (stk := []) (stk2 := []) (st1 := s18) (d' := 1) dX10_fillTable_74 xl_X10_244 hq19 (by decide) (Nat.le_trans xs0 (by decide)) rfl rfl (S_X8_add n s13 v15 v16 v8 v6 s18 hs18) ?_
      obtain ⟨v20, hv20, h⟩ := xb h
      refine x_iinc (c := (1 : Int32)) (lv' := [(4, .int v20), (6, .int v8), (5, .int v6), (0, va_rf a0), (3, .int a3)]) (x := a4) (v := v20) dX10_fillTable_77 rfl (by decide) (Option.some.inj hv20) (by decide) rfl ?_
      refine r_goto (tgt := 17) dX10_fillTable_80 (by decide) ?_
      exact x_sub [3, 4, 0] rfl (ih s18 a0 a3 v20 q h J)
theorem R_X10_fillTable (n : Nat) (st : xS) (a0 : Option Nat) (a1 : Int32) (a2 : Int32) (st' : xS) (h : F_X10_fillTable n st a0 a1 a2 = some st') : Rn mX10_fillTable 0 [(0, va_rf a0), (1, .int a1), (2, .int a2)] [] st none st' 3 := by
  unfold F_X10_fillTable at h
  refine x_aload_n (o := a0) dX10_fillTable_0 rfl ?_
  obtain ⟨v1, hv1, h⟩ := xb h
  refine x_getR (o := a0) dX10_fillTable_1 xf_X10_44 hv1 ?_
  obtain ⟨q3, hq3, h⟩ := xb h
  obtain ⟨s2, hs2, h⟩ := xb h
  refine z_callV (as := []) (o := v1) (r1 := none) (stk := []) (stk2 := []) (st1 := s2) (d' := 0) dX10_fillTable_4 xl_X10_241 hq3 (by decide) (Nat.le_trans xs0 (by decide)) rfl rfl (S_X8_clear n st v1  s2 hs2) ?_
  refine x_aload_n (o := a0) dX10_fillTable_7 rfl ?_
  refine r_iload_n (x := a1) dX10_fillTable_8 rfl ?_
  refine r_iload_n (x := a2) dX10_fillTable_9 rfl ?_
  obtain ⟨q5, hq5, h⟩ := xb h
  obtain ⟨p4, hp4, h⟩ := xb h
  refine z_callV (as := [.int a1, .int a2]) (o := a0) (r1 := (some (.int p4.1))) (stk := []) (stk2 := [.int p4.1]) (st1 := p4.2) (d' := 2) dX10_fillTable_10 xl_X10_219 hq5 (by decide) (Nat.le_trans xs0 (by decide)) rfl rfl (S_X10_pick n s2 a0 a1 a2 p4.1 p4.2 hp4) ?_
  refine r_istore_n (lv' := [(3, .int p4.1), (0, va_rf a0), (1, .int a1), (2, .int a2)]) (x := p4.1) dX10_fillTable_13 (by decide) rfl ?_
  refine r_iconst (v := (0 : Int32)) dX10_fillTable_14 (by decide) ?_
  refine r_istore (lv' := [(4, .int (0 : Int32)), (3, .int p4.1), (0, va_rf a0), (1, .int a1), (2, .int a2)]) (x := (0 : Int32)) dX10_fillTable_15 (by decide) rfl ?_
  obtain ⟨q21, hq21, h⟩ := xb h
  have Jq21 : Rn mX10_fillTable 83 [] [] q21 none st' 3 := by
    obtain rfl := Option.some.inj h
    exact r_return dX10_fillTable_83 rfl
  exact x_sub [2, 1, 0] rfl (R_X10_fillTable_L17 n n p4.2 a0 p4.1 (0 : Int32) q21 hq21 Jq21)
theorem S_X10_fillTable (n : Nat) (st : xS) (a0 : Option Nat) (a1 : Int32) (a2 : Int32) (st' : xS) (h : F_X10_fillTable n st a0 a1 a2 = some st') : Ct mX10_fillTable [va_rf a0, .int a1, .int a2] st none st' 3 := by
  refine Ct.of (by decide) (by simp only [lgL_R, lgL_I, lgL_L, lgL_0]; decide) ?_
  try simp only [lvA_R]
  exact R_X10_fillTable n st a0 a1 a2 st' h
theorem R_X10_table (n : Nat) (st : xS) (a0 : Option Nat) (a1 : Int32) (a2 : Int32) (a3 : Int32) (rv : Int32) (st' : xS) (h : F_X10_table n st a0 a1 a2 a3 = some (rv, st')) : Rn mX10_table 0 [(0, va_rf a0), (1, .int a1), (2, .int a2), (3, .int a3)] [] st (some (.int rv)) st' 4 := by
  unfold F_X10_table at h
  refine x_aload_n (o := a0) dX10_table_0 rfl ?_
  refine r_iload_n (x := a1) dX10_table_1 rfl ?_
  refine r_iload_n (x := a2) dX10_table_2 rfl ?_
  obtain ⟨q2, hq2, h⟩ := xb h
  obtain ⟨s1, hs1, h⟩ := xb h
  refine z_callV (as := [.int a1, .int a2]) (o := a0) (r1 := none) (stk := []) (stk2 := []) (st1 := s1) (d' := 3) dX10_table_3 xl_X10_231 hq2 (by decide) (Nat.le_trans xs0 (by decide)) rfl rfl (S_X10_fillTable n st a0 a1 a2 s1 hs1) ?_
  refine x_aload_n (o := a0) dX10_table_6 rfl ?_
  obtain ⟨v3, hv3, h⟩ := xb h
  refine x_getR (o := a0) dX10_table_7 xf_X10_44 hv3 ?_
  refine r_iload_n (x := a3) dX10_table_10 rfl ?_
  obtain ⟨q5, hq5, h⟩ := xb h
  obtain ⟨v4, hv4, h⟩ := xb h
  refine z_callV (as := [.int a3]) (o := v3) (r1 := (some (.int v4))) (stk := []) (stk2 := [.int v4]) (st1 := s1) (d' := 3) dX10_table_11 xl_X10_235 hq5 (by decide) (Nat.le_trans xs0 (by decide)) rfl rfl (S_X8_sideAt n s1 v3 a3 v4 hv4) ?_
  obtain ⟨rfl, rfl⟩ := Prod.mk.inj (Option.some.inj h)
  exact r_ireturn dX10_table_14 .int rfl rfl
theorem S_X10_table (n : Nat) (st : xS) (a0 : Option Nat) (a1 : Int32) (a2 : Int32) (a3 : Int32) (rv : Int32) (st' : xS) (h : F_X10_table n st a0 a1 a2 a3 = some (rv, st')) : Ct mX10_table [va_rf a0, .int a1, .int a2, .int a3] st (some (.int rv)) st' 4 := by
  refine Ct.of (by decide) (by simp only [lgL_R, lgL_I, lgL_L, lgL_0]; decide) ?_
  try simp only [lvA_R]
  exact R_X10_table n st a0 a1 a2 a3 rv st' h
theorem R_X10_points (n : Nat) (st : xS) (a0 : Option Nat) (a1 : Int32) (a2 : Int32) (a3 : Int32) (rv : Int32) (st' : xS) (h : F_X10_points n st a0 a1 a2 a3 = some (rv, st')) : Rn mX10_points 0 [(0, va_rf a0), (1, .int a1), (2, .int a2), (3, .int a3)] [] st (some (.int rv)) st' 4 := by
  unfold F_X10_points at h
  refine r_iload_n (x := a3) dX10_points_0 rfl ?_
  obtain ⟨v1, hv1, h⟩ := xb h
  refine z_callS (as := [.int a3]) (r1 := (some (.int v1))) (stk := []) (stk2 := [.int v1]) (st1 := st) (d' := 1) dX10_points_1 xl_X10_206 (by decide) (Nat.le_trans xs0 (by decide)) rfl rfl (S_X10_isSide n st a3 v1 hv1) ?_
  refine r_if_ne (tgt := 9) dX10_points_4 (by decide) (fun c => ?_) (fun c => ?_)
  · replace h := (if_neg c).symm.trans h
    refine x_aload_n (o := a0) dX10_points_9 rfl ?_
    refine r_iload_n (x := a1) dX10_points_10 rfl ?_
    refine r_iload_n (x := a2) dX10_points_11 rfl ?_
    obtain ⟨q3, hq3, h⟩ := xb h
    obtain ⟨s2, hs2, h⟩ := xb h
    refine z_callV (as := [.int a1, .int a2]) (o := a0) (r1 := none) (stk := []) (stk2 := []) (st1 := s2) (d' := 3) dX10_points_12 xl_X10_231 hq3 (by decide) (Nat.le_trans xs0 (by decide)) rfl rfl (S_X10_fillTable n st a0 a1 a2 s2 hs2) ?_
    refine x_aload_n (o := a0) dX10_points_15 rfl ?_
    obtain ⟨v4, hv4, h⟩ := xb h
    refine x_getR (o := a0) dX10_points_16 xf_X10_44 hv4 ?_
    refine r_iload_n (x := a3) dX10_points_19 rfl ?_
    obtain ⟨q6, hq6, h⟩ := xb h
    obtain ⟨v5, hv5, h⟩ := xb h
    refine z_callV (as := [.int a3]) (o := v4) (r1 := (some (.int v5))) (stk := []) (stk2 := [.int v5]) (st1 := s2) (d' := 1) dX10_points_20 xl_X10_238 hq6 (by decide) (Nat.le_trans xs0 (by decide)) rfl rfl (S_X8_pointsOf n s2 v4 a3 v5 hv5) ?_
    obtain ⟨rfl, rfl⟩ := Prod.mk.inj (Option.some.inj h)
    exact r_ireturn dX10_points_23 .int rfl rfl
  · replace h := (if_pos c).symm.trans h
    refine r_iconst (v := (-1 : Int32)) dX10_points_7 (by decide) ?_
    obtain ⟨rfl, rfl⟩ := Prod.mk.inj (Option.some.inj h)
    exact r_ireturn dX10_points_8 .int rfl rfl
theorem S_X10_points (n : Nat) (st : xS) (a0 : Option Nat) (a1 : Int32) (a2 : Int32) (a3 : Int32) (rv : Int32) (st' : xS) (h : F_X10_points n st a0 a1 a2 a3 = some (rv, st')) : Ct mX10_points [va_rf a0, .int a1, .int a2, .int a3] st (some (.int rv)) st' 4 := by
  refine Ct.of (by decide) (by simp only [lgL_R, lgL_I, lgL_L, lgL_0]; decide) ?_
  try simp only [lvA_R]
  exact R_X10_points n st a0 a1 a2 a3 rv st' h
theorem R_X10_marginsTogether_L4 (n : Nat) {r : Option Value} {st' : xS} : ∀ (k : Nat) (st : xS) (a0 : Option Nat) (a1 : Int32) (a2 : Int32) (a3 : Int32) (q : (Int32)), F_X10_marginsTogether_L4 n k st a0 a1 a2 a3 = some q → Rn mX10_marginsTogether 23 [(2, .int q)] [] st r st' 4 → Rn mX10_marginsTogether 4 [(0, va_rf a0), (1, .int a1), (2, .int a2), (3, .int a3)] [] st r st' 4 := by
  intro k
  induction k with
  | zero => intro st a0 a1 a2 a3 q h; cases h
  | succ k ih =>
    intro st a0 a1 a2 a3 q h J
    unfold F_X10_marginsTogether_L4 at h
    refine r_iload_n (x := a3) dX10_marginsTogether_4 rfl ?_
    refine r_iload_n (x := a1) dX10_marginsTogether_5 rfl ?_
    refine r_icmp_ge (tgt := 23) dX10_marginsTogether_6 (by decide) (fun c => ?_) (fun c => ?_)
    · replace h := (if_pos c).symm.trans h
      obtain rfl := Option.some.inj h
      exact x_sub [2] rfl J
    · replace h := (if_neg c).symm.trans h
      refine r_iload_n (x := a2) dX10_marginsTogether_9 rfl ?_
      refine x_aload_n (o := a0) dX10_marginsTogether_10 rfl ?_
      refine r_iload_n (x := a3) dX10_marginsTogether_11 rfl ?_
      obtain ⟨q2, hq2, h⟩ := xb h
      obtain ⟨v1, hv1, h⟩ := xb h
      refine z_callV (as := [.int a3]) (o := a0) (r1 := (some (.int v1))) (stk := [.int a2]) (stk2 := [.int v1, .int a2]) (st1 := st) (d' := 3) dX10_marginsTogether_12 xl_X10_225 hq2 (by decide) (Nat.le_trans (xsI xs0) (by decide)) rfl rfl (S_X10_margin n st a0 a3 v1 hv1) ?_
      refine r_iadd dX10_marginsTogether_15 ?_
      obtain ⟨v3, hv3, h⟩ := xb h
      refine x_eqI (Option.some.inj hv3) ?_
      refine r_istore_n (lv' := [(2, .int v3), (0, va_rf a0), (1, .int a1), (3, .int a3)]) (x := v3) dX10_marginsTogether_16 (by decide) rfl ?_
      obtain ⟨v4, hv4, h⟩ := xb h
      refine x_iinc (c := (1 : Int32)) (lv' := [(3, .int v4), (2, .int v3), (0, va_rf a0), (1, .int a1)]) (x := a3) (v := v4) dX10_marginsTogether_17 rfl (by decide) (Option.some.inj hv4) (by decide) rfl ?_
      refine r_goto (tgt := 4) dX10_marginsTogether_20 (by decide) ?_
      exact x_sub [2, 3, 1, 0] rfl (ih st a0 a1 v3 v4 q h J)
theorem R_X10_marginsTogether (n : Nat) (st : xS) (a0 : Option Nat) (a1 : Int32) (rv : Int32) (h : F_X10_marginsTogether n st a0 a1 = some rv) : Rn mX10_marginsTogether 0 [(0, va_rf a0), (1, .int a1)] [] st (some (.int rv)) st 4 := by
  unfold F_X10_marginsTogether at h
  refine r_iconst (v := (0 : Int32)) dX10_marginsTogether_0 (by decide) ?_
  refine r_istore_n (lv' := [(2, .int (0 : Int32)), (0, va_rf a0), (1, .int a1)]) (x := (0 : Int32)) dX10_marginsTogether_1 (by decide) rfl ?_
  refine r_iconst (v := (0 : Int32)) dX10_marginsTogether_2 (by decide) ?_
  refine r_istore_n (lv' := [(3, .int (0 : Int32)), (2, .int (0 : Int32)), (0, va_rf a0), (1, .int a1)]) (x := (0 : Int32)) dX10_marginsTogether_3 (by decide) rfl ?_
  obtain ⟨q5, hq5, h⟩ := xb h
  have Jq5 : Rn mX10_marginsTogether 23 [(2, .int q5)] [] st (some (.int rv)) st 4 := by
    refine r_iload_n (x := q5) dX10_marginsTogether_23 rfl ?_
    obtain rfl := Option.some.inj h
    exact r_ireturn dX10_marginsTogether_24 .int rfl rfl
  exact x_sub [2, 3, 1, 0] rfl (R_X10_marginsTogether_L4 n n st a0 a1 (0 : Int32) (0 : Int32) q5 hq5 Jq5)
theorem S_X10_marginsTogether (n : Nat) (st : xS) (a0 : Option Nat) (a1 : Int32) (rv : Int32) (h : F_X10_marginsTogether n st a0 a1 = some rv) : Ct mX10_marginsTogether [va_rf a0, .int a1] st (some (.int rv)) st 4 := by
  refine Ct.of (by decide) (by simp only [lgL_R, lgL_I, lgL_L, lgL_0]; decide) ?_
  try simp only [lvA_R]
  exact R_X10_marginsTogether n st a0 a1 rv h
theorem R_X10_common_L15 (n : Nat) {r : Option Value} {st' : xS} : ∀ (k : Nat) (st : xS) (a4 : Int64) (a6 : Int64) (a8 : Int32) (q : (Int64)), F_X10_common_L15 n k st a4 a6 a8 = some q → Rn mX10_common 50 [(4, .long q)] [] st r st' 1 → Rn mX10_common 15 [(4, .long a4), (6, .long a6), (8, .int a8)] [] st r st' 1 := by
  intro k
  induction k with
  | zero => intro st a4 a6 a8 q h; cases h
  | succ k ih =>
    intro st a4 a6 a8 q h J
    unfold F_X10_common_L15 at h
    refine r_iload (x := a8) dX10_common_15 rfl ?_
    refine r_bipush (v := (100 : Int32)) dX10_common_17 (by decide) ?_
    refine r_icmp_ge (tgt := 50) dX10_common_19 (by decide) (fun c => ?_) (fun c => ?_)
    · replace h := (if_pos c).symm.trans h
      obtain rfl := Option.some.inj h
      exact x_sub [0] rfl J
    · replace h := (if_neg c).symm.trans h
      refine r_lload (x := a6) dX10_common_22 rfl ?_
      refine r_lconst (v := (0 : Int64)) dX10_common_24 (by decide) ?_
      refine r_lcmp dX10_common_25 ?_
      refine r_if_eq (tgt := 50) dX10_common_26 (by decide) (fun c => ?_) (fun c => ?_)
      · replace h := (if_pos c).symm.trans h
        obtain rfl := Option.some.inj h
        exact x_sub [0] rfl J
      · replace h := (if_neg c).symm.trans h
        refine r_lload (x := a4) dX10_common_29 rfl ?_
        refine r_lload (x := a6) dX10_common_31 rfl ?_
        obtain ⟨v3, hv3, h⟩ := xb h
        refine x_lrem dX10_common_33 hv3 ?_
        refine r_lstore (lv' := [(9, .long v3), (4, .long a4), (6, .long a6), (8, .int a8)]) (x := v3) dX10_common_34 (by decide) rfl ?_
        refine r_lload (x := a6) dX10_common_36 rfl ?_
        refine r_lstore (lv' := [(4, .long a6), (9, .long v3), (6, .long a6), (8, .int a8)]) (x := a6) dX10_common_38 (by decide) rfl ?_
        refine r_lload (x := v3) dX10_common_40 rfl ?_
        refine r_lstore (lv' := [(6, .long v3), (4, .long a6), (9, .long v3), (8, .int a8)]) (x := v3) dX10_common_42 (by decide) rfl ?_
        obtain ⟨v4, hv4, h⟩ := xb h
        refine x_iinc (c := (1 : Int32)) (lv' := [(8, .int v4), (6, .long v3), (4, .long a6), (9, .long v3)]) (x := a8) (v := v4) dX10_common_44 rfl (by decide) (Option.some.inj hv4) (by decide) rfl ?_
        refine r_goto (tgt := 15) dX10_common_47 (by decide) ?_
        exact x_sub [2, 1, 0] rfl (ih st a6 v3 v4 q h J)
theorem R_X10_common (n : Nat) (st : xS) (a0 : Int64) (a2 : Int64) (rv : Int64) (h : F_X10_common n st a0 a2 = some rv) : Rn mX10_common 0 [(0, .long a0), (2, .long a2)] [] st (some (.long rv)) st 1 := by
  unfold F_X10_common at h
  refine r_lload_n (x := a0) dX10_common_0 rfl ?_
  refine r_mabsL dX10_common_1 xm_X10_377 xm1_abs xm2 xm3_abs (by decide) (Nat.le_trans xs0 (by decide)) ?_
  obtain ⟨v1, hv1, h⟩ := xb h
  refine x_eqL (Option.some.inj hv1) ?_
  refine r_lstore (lv' := [(4, .long v1), (0, .long a0), (2, .long a2)]) (x := v1) dX10_common_4 (by decide) rfl ?_
  refine r_lload_n (x := a2) dX10_common_6 rfl ?_
  refine r_mabsL dX10_common_7 xm_X10_377 xm1_abs xm2 xm3_abs (by decide) (Nat.le_trans xs0 (by decide)) ?_
  obtain ⟨v2, hv2, h⟩ := xb h
  refine x_eqL (Option.some.inj hv2) ?_
  refine r_lstore (lv' := [(6, .long v2), (4, .long v1), (0, .long a0), (2, .long a2)]) (x := v2) dX10_common_10 (by decide) rfl ?_
  refine r_iconst (v := (0 : Int32)) dX10_common_12 (by decide) ?_
  refine r_istore (lv' := [(8, .int (0 : Int32)), (6, .long v2), (4, .long v1), (0, .long a0), (2, .long a2)]) (x := (0 : Int32)) dX10_common_13 (by decide) rfl ?_
  obtain ⟨q5, hq5, h⟩ := xb h
  have Jq5 : Rn mX10_common 50 [(4, .long q5)] [] st (some (.long rv)) st 1 := by
    refine r_lload (x := q5) dX10_common_50 rfl ?_
    obtain rfl := Option.some.inj h
    exact r_lreturn dX10_common_52 rfl
  exact x_sub [2, 1, 0] rfl (R_X10_common_L15 n n st v1 v2 (0 : Int32) q5 hq5 Jq5)
theorem S_X10_common (n : Nat) (st : xS) (a0 : Int64) (a2 : Int64) (rv : Int64) (h : F_X10_common n st a0 a2 = some rv) : Ct mX10_common [.long a0, .long a2] st (some (.long rv)) st 1 := by
  refine Ct.of (by decide) (by simp only [lgL_R, lgL_I, lgL_L, lgL_0]; decide) ?_
  try simp only [lvA_R]
  exact R_X10_common n st a0 a2 rv h
theorem R_X10_share (n : Nat) (st : xS) (a0 : Int64) (a2 : Int64) (a4 : Int32) (rv : Int64) (h : F_X10_share n st a0 a2 a4 = some rv) : Rn mX10_share 0 [(0, .long a0), (2, .long a2), (4, .int a4)] [] st (some (.long rv)) st 2 := by
  unfold F_X10_share at h
  refine r_lload_n (x := a0) dX10_share_0 rfl ?_
  refine r_lload_n (x := a2) dX10_share_1 rfl ?_
  obtain ⟨v1, hv1, h⟩ := xb h
  refine z_callS (as := [.long a0, .long a2]) (r1 := (some (.long v1))) (stk := []) (stk2 := [.long v1]) (st1 := st) (d' := 1) dX10_share_2 xl_X10_373 (by decide) (Nat.le_trans xs0 (by decide)) rfl rfl (S_X10_common n st a0 a2 v1 hv1) ?_
  refine r_lstore (lv' := [(5, .long v1), (0, .long a0), (2, .long a2), (4, .int a4)]) (x := v1) dX10_share_5 (by decide) rfl ?_
  refine r_lload (x := v1) dX10_share_7 rfl ?_
  refine r_lconst (v := (0 : Int64)) dX10_share_9 (by decide) ?_
  refine r_lcmp dX10_share_10 ?_
  refine r_if_ne (tgt := 16) dX10_share_11 (by decide) (fun c => ?_) (fun c => ?_)
  · replace h := (if_neg c).symm.trans h
    refine r_lload_n (x := a2) dX10_share_16 rfl ?_
    refine r_lconst (v := (0 : Int64)) dX10_share_17 (by decide) ?_
    refine r_lcmp dX10_share_18 ?_
    obtain ⟨q2, hq2, h⟩ := xb h
    have Jq2 : Rn mX10_share 30 [(0, .long a0), (2, .long a2), (4, .int a4)] [.long q2] st (some (.long rv)) st 2 := by
      refine r_lstore (lv' := [(7, .long q2), (0, .long a0), (2, .long a2), (4, .int a4)]) (x := q2) dX10_share_30 (by decide) rfl ?_
      refine r_iload (x := a4) dX10_share_32 rfl ?_
      obtain ⟨q5, hq5, h⟩ := xb h
      have Jq5 : Rn mX10_share 48 [] [.long q5] st (some (.long rv)) st 2 := by
        obtain rfl := Option.some.inj h
        exact r_lreturn dX10_share_48 rfl
      refine r_if_eq (tgt := 44) dX10_share_34 (by decide) (fun c => ?_) (fun c => ?_)
      · replace hq5 := (if_pos c).symm.trans hq5
        refine r_lload_n (x := a0) dX10_share_44 rfl ?_
        refine r_lload (x := q2) dX10_share_45 rfl ?_
        obtain ⟨v3, hv3, hq5⟩ := xb hq5
        refine x_ldiv dX10_share_47 hv3 ?_
        obtain rfl := Option.some.inj hq5
        exact x_sub [] rfl Jq5
      · replace hq5 := (if_neg c).symm.trans hq5
        refine r_lload_n (x := a2) dX10_share_37 rfl ?_
        refine r_lload (x := q2) dX10_share_38 rfl ?_
        obtain ⟨v4, hv4, hq5⟩ := xb hq5
        refine x_ldiv dX10_share_40 hv4 ?_
        refine r_goto (tgt := 48) dX10_share_41 (by decide) ?_
        obtain rfl := Option.some.inj hq5
        exact x_sub [] rfl Jq5
    refine r_if_ge (tgt := 28) dX10_share_19 (by decide) (fun c => ?_) (fun c => ?_)
    · replace hq2 := (if_pos c).symm.trans hq2
      refine r_lload (x := v1) dX10_share_28 rfl ?_
      obtain rfl := Option.some.inj hq2
      exact x_sub [1, 2, 3] rfl Jq2
    · replace hq2 := (if_neg c).symm.trans hq2
      refine r_lload (x := v1) dX10_share_22 rfl ?_
      refine r_lneg dX10_share_24 ?_
      refine r_goto (tgt := 30) dX10_share_25 (by decide) ?_
      obtain rfl := Option.some.inj hq2
      exact x_sub [1, 2, 3] rfl Jq2
  · replace h := (if_pos c).symm.trans h
    refine r_lconst (v := (0 : Int64)) dX10_share_14 (by decide) ?_
    obtain rfl := Option.some.inj h
    exact r_lreturn dX10_share_15 rfl
theorem S_X10_share (n : Nat) (st : xS) (a0 : Int64) (a2 : Int64) (a4 : Int32) (rv : Int64) (h : F_X10_share n st a0 a2 a4 = some rv) : Ct mX10_share [.long a0, .long a2, .int a4] st (some (.long rv)) st 2 := by
  refine Ct.of (by decide) (by simp only [lgL_R, lgL_I, lgL_L, lgL_0]; decide) ?_
  try simp only [lvA_R]
  exact R_X10_share n st a0 a2 a4 rv h
theorem R_X10_alone (n : Nat) (st : xS) (a0 : Option Nat) (a1 : Int32) (a2 : Int32) (a3 : Int32) (rv : Int32) (st' : xS) (h : F_X10_alone n st a0 a1 a2 a3 = some (rv, st')) : Rn mX10_alone 0 [(0, va_rf a0), (1, .int a1), (2, .int a2), (3, .int a3)] [] st (some (.int rv)) st' 5 := by
  unfold F_X10_alone at h
  refine x_aload_n (o := a0) dX10_alone_0 rfl ?_
  refine r_iload_n (x := a1) dX10_alone_1 rfl ?_
  refine r_iload_n (x := a2) dX10_alone_2 rfl ?_
  obtain ⟨q2, hq2, h⟩ := xb h
  obtain ⟨p1, hp1, h⟩ := xb h
  refine z_callV (as := [.int a1, .int a2]) (o := a0) (r1 := (some (.int p1.1))) (stk := []) (stk2 := [.int p1.1]) (st1 := p1.2) (d' := 2) dX10_alone_3 xl_X10_219 hq2 (by decide) (Nat.le_trans xs0 (by decide)) rfl rfl (S_X10_pick n st a0 a1 a2 p1.1 p1.2 hp1) ?_
  refine r_istore (lv' := [(4, .int p1.1), (0, va_rf a0), (1, .int a1), (2, .int a2), (3, .int a3)]) (x := p1.1) dX10_alone_6 (by decide) rfl ?_
  refine r_iload (x := p1.1) dX10_alone_8 rfl ?_
  obtain ⟨q6, hq6, h⟩ := xb h
  have Jq6 : Rn mX10_alone 33 [] [.int q6] p1.2 (some (.int rv)) st' 5 := by
    obtain ⟨rfl, rfl⟩ := Prod.mk.inj (Option.some.inj h)
    exact r_ireturn dX10_alone_33 .int rfl rfl
  refine r_if_ne (tgt := 18) dX10_alone_10 (by decide) (fun c => ?_) (fun c => ?_)
  · replace hq6 := (if_neg c).symm.trans hq6
    refine x_aload_n (o := a0) dX10_alone_18 rfl ?_
    refine r_iload (x := p1.1) dX10_alone_19 rfl ?_
    obtain ⟨q4, hq4, hq6⟩ := xb hq6
    obtain ⟨v3, hv3, hq6⟩ := xb hq6
    refine z_callV (as := [.int p1.1]) (o := a0) (r1 := (some (.int v3))) (stk := []) (stk2 := [.int v3]) (st1 := p1.2) (d' := 4) dX10_alone_21 xl_X10_248 hq4 (by decide) (Nat.le_trans xs0 (by decide)) rfl rfl (S_X10_marginsTogether n p1.2 a0 p1.1 v3 hv3) ?_
    refine r_i2l dX10_alone_24 ?_
    refine r_iload (x := p1.1) dX10_alone_25 rfl ?_
    refine r_i2l dX10_alone_27 ?_
    refine r_iload_n (x := a3) dX10_alone_28 rfl ?_
    obtain ⟨v5, hv5, hq6⟩ := xb hq6
    refine z_callS (as := [.long v3.toInt64, .long p1.1.toInt64, .int a3]) (r1 := (some (.long v5))) (stk := []) (stk2 := [.long v5]) (st1 := p1.2) (d' := 2) dX10_alone_29 xl_X10_251 (by decide) (Nat.le_trans xs0 (by decide)) rfl rfl (S_X10_share n p1.2 v3.toInt64 p1.1.toInt64 a3 v5 hv5) ?_
    refine r_l2i dX10_alone_32 ?_
    obtain rfl := Option.some.inj hq6
    exact x_sub [] rfl Jq6
  · replace hq6 := (if_pos c).symm.trans hq6
    refine r_ldc (v := (-1000000 : Int32)) dX10_alone_13 xk_X10_247 ?_
    refine r_goto (tgt := 33) dX10_alone_15 (by decide) ?_
    obtain rfl := Option.some.inj hq6
    exact x_sub [] rfl Jq6
theorem S_X10_alone (n : Nat) (st : xS) (a0 : Option Nat) (a1 : Int32) (a2 : Int32) (a3 : Int32) (rv : Int32) (st' : xS) (h : F_X10_alone n st a0 a1 a2 a3 = some (rv, st')) : Ct mX10_alone [va_rf a0, .int a1, .int a2, .int a3] st (some (.int rv)) st' 5 := by
  refine Ct.of (by decide) (by simp only [lgL_R, lgL_I, lgL_L, lgL_0]; decide) ?_
  try simp only [lvA_R]
  exact R_X10_alone n st a0 a1 a2 a3 rv st' h
theorem R_X10_fitYears_L17 (n : Nat) {r : Option Value} {st' : xS} : ∀ (k : Nat) (st : xS) (a0 : Option Nat) (a3 : Int32) (a4 : Int32) (q : (xS)), F_X10_fitYears_L17 n k st a0 a3 a4 = some q → Rn mX10_fitYears 50 [(0, va_rf a0), (3, .int a3)] [] q r st' 4 → Rn mX10_fitYears 17 [(0, va_rf a0), (3, .int a3), (4, .int a4)] [] st r st' 4 := by
  intro k
  induction k with
  | zero => intro st a0 a3 a4 q h; cases h
  | succ k ih =>
    intro st a0 a3 a4 q h J
    unfold F_X10_fitYears_L17 at h
    refine r_iload (x := a4) dX10_fitYears_17 rfl ?_
    refine r_iload_n (x := a3) dX10_fitYears_19 rfl ?_
    refine r_icmp_ge (tgt := 50) dX10_fitYears_20 (by decide) (fun c => ?_) (fun c => ?_)
    · replace h := (if_pos c).symm.trans h
      obtain rfl := Option.some.inj h
      exact x_sub [0, 1] rfl J
    · replace h := (if_neg c).symm.trans h
      refine x_aload_n (o := a0) dX10_fitYears_23 rfl ?_
      obtain ⟨v6, hv6, h⟩ := xb h
      refine x_getR (o := a0) dX10_fitYears_24 xf_X10_37 hv6 ?_
      refine x_aload_n (o := a0) dX10_fitYears_27 rfl ?_
      refine r_iload (x := a4) dX10_fitYears_28 rfl ?_
      refine r_iconst (v := (0 : Int32)) dX10_fitYears_30 (by decide) ?_
      obtain ⟨q8, hq8, h⟩ := xb h
      obtain ⟨v7, hv7, h⟩ := xb h
      refine z_callV (as := [.int a4, .int (0 : Int32)]) (o := a0) (r1 := (some (.int v7))) (stk := [va_rf v6]) (stk2 := [.int v7, va_rf v6]) (st1 := st) (d' := 2) dX10_fitYears_31 xl_X10_228 hq8 (by decide) (Nat.le_trans (xsA xs0) (by decide)) rfl rfl (S_X10_pickedOf n st a0 a4 (0 : Int32) v7 hv7) ?_
      refine x_aload_n (o := a0) dX10_fitYears_34 rfl ?_
      refine r_iload (x := a4) dX10_fitYears_35 rfl ?_
      refine r_iconst (v := (1 : Int32)) dX10_fitYears_37 (by decide) ?_
      obtain ⟨q10, hq10, h⟩ := xb h
      obtain ⟨v9, hv9, h⟩ := xb h
      refine z_callV (as := [.int a4, .int (1 : Int32)]) (o := a0) (r1 := (some (.int v9))) (stk := [.int v7, va_rf v6]) (stk2 := [.int v9, .int v7, va_rf v6]) (st1 := st) (d' := 2) dX10_fitYears_38 xl_X10_228 hq10 (by decide) (Nat.le_trans (xsI (xsA xs0)) (by decide)) rfl rfl (S_X10_pickedOf n st a0 a4 (1 : Int32) v9 hv9) ?_
      obtain ⟨q12, hq12, h⟩ := xb h
      obtain ⟨s11, hs11, h⟩ := xb h
      refine z_callV (as := [.int v7, .int v9]) (o := v6) (r1 := none) (stk := []) (stk2 := []) (st1 := s11) (d' := 1) dX10_fitYears_41 xl_X10_275 hq12 (by decide) (Nat.le_trans xs0 (by decide)) rfl rfl (S_X1_see n st v6 v7 v9 s11 hs11) ?_
      obtain ⟨v13, hv13, h⟩ := xb h
      refine x_iinc (c := (1 : Int32)) (lv' := [(4, .int v13), (0, va_rf a0), (3, .int a3)]) (x := a4) (v := v13) dX10_fitYears_44 rfl (by decide) (Option.some.inj hv13) (by decide) rfl ?_
      refine r_goto (tgt := 17) dX10_fitYears_47 (by decide) ?_
      exact x_sub [1, 2, 0] rfl (ih s11 a0 a3 v13 q h J)
theorem R_X10_fitYears_L65 (n : Nat) {r : Option Value} {st' : xS} : ∀ (k : Nat) (st : xS) (a0 : Option Nat) (a3 : Int32) (a4 : Int32) (q : (xS)), F_X10_fitYears_L65 n k st a0 a3 a4 = some q → Rn mX10_fitYears 104 [(0, va_rf a0)] [] q r st' 4 → Rn mX10_fitYears 65 [(0, va_rf a0), (3, .int a3), (4, .int a4)] [] st r st' 4 := by
  intro k
  induction k with
  | zero => intro st a0 a3 a4 q h; cases h
  | succ k ih =>
    intro st a0 a3 a4 q h J
    unfold F_X10_fitYears_L65 at h
    refine r_iload (x := a4) dX10_fitYears_65 rfl ?_
    refine r_iload_n (x := a3) dX10_fitYears_67 rfl ?_
    refine r_icmp_ge (tgt := 104) dX10_fitYears_68 (by decide) (fun c => ?_) (fun c => ?_)
    · replace h := (if_pos c).symm.trans h
      obtain rfl := Option.some.inj h
      exact x_sub [0] rfl J
    · replace h := (if_neg c).symm.trans h
      refine x_aload_n (o := a0) dX10_fitYears_71 rfl ?_
      obtain ⟨v19, hv19, h⟩ := xb h
      refine x_getR (o := a0) dX10_fitYears_72 xf_X10_37 hv19 ?_
      refine x_aload_n (o := a0) dX10_fitYears_75 rfl ?_
      refine r_iload (x := a4) dX10_fitYears_76 rfl ?_
      refine r_iconst (v := (0 : Int32)) dX10_fitYears_78 (by decide) ?_
      obtain ⟨q21, hq21, h⟩ := xb h
      obtain ⟨v20, hv20, h⟩ := xb h
      refine z_callV (as := [.int a4, .int (0 : Int32)]) (o := a0) (r1 := (some (.int v20))) (stk := [va_rf v19]) (stk2 := [.int v20, va_rf v19]) (st1 := st) (d' := 2) dX10_fitYears_79 xl_X10_228 hq21 (by decide) (Nat.le_trans (xsA xs0) (by decide)) rfl rfl (S_X10_pickedOf n st a0 a4 (0 : Int32) v20 hv20) ?_
      refine x_aload_n (o := a0) dX10_fitYears_82 rfl ?_
      refine r_iload (x := a4) dX10_fitYears_83 rfl ?_
      refine r_iconst (v := (1 : Int32)) dX10_fitYears_85 (by decide) ?_
      obtain ⟨q23, hq23, h⟩ := xb h
      obtain ⟨v22, hv22, h⟩ := xb h
      refine z_callV (as := [.int a4, .int (1 : Int32)]) (o := a0) (r1 := (some (.int v22))) (stk := [.int v20, va_rf v19]) (stk2 := [.int v22, .int v20, va_rf v19]) (st1 := st) (d' := 2) dX10_fitYears_86 xl_X10_228 hq23 (by decide) (Nat.le_trans (xsI (xsA xs0)) (by decide)) rfl rfl (S_X10_pickedOf n st a0 a4 (1 : Int32) v22 hv22) ?_
      refine x_aload_n (o := a0) dX10_fitYears_89 rfl ?_
      refine r_iload (x := a4) dX10_fitYears_90 rfl ?_
      obtain ⟨q25, hq25, h⟩ := xb h
      obtain ⟨v24, hv24, h⟩ := xb h
      refine z_callV (as := [.int a4]) (o := a0) (r1 := (some (.int v24))) (stk := [.int v22, .int v20, va_rf v19]) (stk2 := [.int v24, .int v22, .int v20, va_rf v19]) (st1 := st) (d' := 3) dX10_fitYears_92 xl_X10_225 hq25 (by decide) (Nat.le_trans (xsI (xsI (xsA xs0))) (by decide)) rfl rfl (S_X10_margin n st a0 a4 v24 hv24) ?_
      obtain ⟨q27, hq27, h⟩ := xb h
      obtain ⟨s26, hs26, h⟩ := xb h
      refine z_callV (as := [.int v20, .int v22, .int v24]) (o := v19) (r1 := none) (stk := []) (stk2 := []) (st1 := s26) (d' := 2) dX10_fitYears_95 xl_X10_282 hq27 (by decide) (Nat.le_trans xs0 (by decide)) rfl rfl (S_X1_add n st v19 v20 v22 v24 s26 hs26) ?_
      obtain ⟨v28, hv28, h⟩ := xb h
      refine x_iinc (c := (1 : Int32)) (lv' := [(4, .int v28), (0, va_rf a0), (3, .int a3)]) (x := a4) (v := v28) dX10_fitYears_98 rfl (by decide) (Option.some.inj hv28) (by decide) rfl ?_
      refine r_goto (tgt := 65) dX10_fitYears_101 (by decide) ?_
      exact x_sub [1, 2, 0] rfl (ih s26 a0 a3 v28 q h J)
theorem R_X10_fitYears (n : Nat) (st : xS) (a0 : Option Nat) (a1 : Int32) (a2 : Int32) (rv : Int32) (st' : xS) (h : F_X10_fitYears n st a0 a1 a2 = some (rv, st')) : Rn mX10_fitYears 0 [(0, va_rf a0), (1, .int a1), (2, .int a2)] [] st (some (.int rv)) st' 4 := by
  unfold F_X10_fitYears at h
  refine x_aload_n (o := a0) dX10_fitYears_0 rfl ?_
  refine r_iload_n (x := a1) dX10_fitYears_1 rfl ?_
  refine r_iload_n (x := a2) dX10_fitYears_2 rfl ?_
  obtain ⟨q2, hq2, h⟩ := xb h
  obtain ⟨p1, hp1, h⟩ := xb h
  refine z_callV (as := [.int a1, .int a2]) (o := a0) (r1 := (some (.int p1.1))) (stk := []) (stk2 := [.int p1.1]) (st1 := p1.2) (d' := 2) dX10_fitYears_3 xl_X10_219 hq2 (by decide) (Nat.le_trans xs0 (by decide)) rfl rfl (S_X10_pick n st a0 a1 a2 p1.1 p1.2 hp1) ?_
  refine r_istore_n (lv' := [(3, .int p1.1), (0, va_rf a0), (1, .int a1), (2, .int a2)]) (x := p1.1) dX10_fitYears_6 (by decide) rfl ?_
  refine x_aload_n (o := a0) dX10_fitYears_7 rfl ?_
  obtain ⟨v3, hv3, h⟩ := xb h
  refine x_getR (o := a0) dX10_fitYears_8 xf_X10_37 hv3 ?_
  obtain ⟨q5, hq5, h⟩ := xb h
  obtain ⟨s4, hs4, h⟩ := xb h
  refine z_callV (as := []) (o := v3) (r1 := none) (stk := []) (stk2 := []) (st1 := s4) (d' := 0) dX10_fitYears_11 xl_X10_274 hq5 (by decide) (Nat.le_trans xs0 (by decide)) rfl rfl (S_X1_clear n p1.2 v3  s4 hs4) ?_
  refine r_iconst (v := (0 : Int32)) dX10_fitYears_14 (by decide) ?_
  refine r_istore (lv' := [(4, .int (0 : Int32)), (3, .int p1.1), (0, va_rf a0), (1, .int a1), (2, .int a2)]) (x := (0 : Int32)) dX10_fitYears_15 (by decide) rfl ?_
  obtain ⟨q14, hq14, h⟩ := xb h
  have Jq14 : Rn mX10_fitYears 50 [(0, va_rf a0), (3, .int p1.1)] [] q14 (some (.int rv)) st' 4 := by
    refine x_aload_n (o := a0) dX10_fitYears_50 rfl ?_
    obtain ⟨v15, hv15, h⟩ := xb h
    refine x_getR (o := a0) dX10_fitYears_51 xf_X10_37 hv15 ?_
    obtain ⟨q17, hq17, h⟩ := xb h
    obtain ⟨p16, hp16, h⟩ := xb h
    refine z_callV (as := []) (o := v15) (r1 := (some (.int p16.1))) (stk := []) (stk2 := [.int p16.1]) (st1 := p16.2) (d' := 0) dX10_fitYears_54 xl_X10_278 hq17 (by decide) (Nat.le_trans xs0 (by decide)) rfl rfl (S_X1_arrange n q14 v15  p16.1 p16.2 hp16) ?_
    refine r_if_ne (tgt := 62) dX10_fitYears_57 (by decide) (fun c => ?_) (fun c => ?_)
    · replace h := (if_neg c).symm.trans h
      refine r_iconst (v := (0 : Int32)) dX10_fitYears_62 (by decide) ?_
      refine r_istore (lv' := [(4, .int (0 : Int32)), (0, va_rf a0), (3, .int p1.1)]) (x := (0 : Int32)) dX10_fitYears_63 (by decide) rfl ?_
      obtain ⟨q29, hq29, h⟩ := xb h
      have Jq29 : Rn mX10_fitYears 104 [(0, va_rf a0)] [] q29 (some (.int rv)) st' 4 := by
        refine x_aload_n (o := a0) dX10_fitYears_104 rfl ?_
        obtain ⟨v30, hv30, h⟩ := xb h
        refine x_getR (o := a0) dX10_fitYears_105 xf_X10_37 hv30 ?_
        obtain ⟨q32, hq32, h⟩ := xb h
        obtain ⟨p31, hp31, h⟩ := xb h
        refine z_callV (as := []) (o := v30) (r1 := (some (.int p31.1))) (stk := []) (stk2 := [.int p31.1]) (st1 := p31.2) (d' := 1) dX10_fitYears_108 xl_X10_283 hq32 (by decide) (Nat.le_trans xs0 (by decide)) rfl rfl (S_X1_solve n q29 v30  p31.1 p31.2 hp31) ?_
        obtain ⟨v33, hv33, h⟩ := xb h
        refine x_eqI (rz_inv2 hv33).1 ?_
        obtain ⟨rfl, rfl⟩ := Prod.mk.inj (Option.some.inj h)
        exact r_ireturn dX10_fitYears_111 .boolean rfl (by rcases (rz_inv2 hv33).2 with e | e <;> rw [e] <;> rfl)
      exact x_sub [1, 2, 0] rfl (R_X10_fitYears_L65 n n p16.2 a0 p1.1 (0 : Int32) q29 hq29 Jq29)
    · replace h := (if_pos c).symm.trans h
      refine r_iconst (v := (0 : Int32)) dX10_fitYears_60 (by decide) ?_
      obtain ⟨v18, hv18, h⟩ := xb h
      refine x_eqI (rz_inv2 hv18).1 ?_
      obtain ⟨rfl, rfl⟩ := Prod.mk.inj (Option.some.inj h)
      exact r_ireturn dX10_fitYears_61 .boolean rfl (by rcases (rz_inv2 hv18).2 with e | e <;> rw [e] <;> rfl)
  exact x_sub [2, 1, 0] rfl (R_X10_fitYears_L17 n n s4 a0 p1.1 (0 : Int32) q14 hq14 Jq14)
theorem S_X10_fitYears (n : Nat) (st : xS) (a0 : Option Nat) (a1 : Int32) (a2 : Int32) (rv : Int32) (st' : xS) (h : F_X10_fitYears n st a0 a1 a2 = some (rv, st')) : Ct mX10_fitYears [va_rf a0, .int a1, .int a2] st (some (.int rv)) st' 4 := by
  refine Ct.of (by decide) (by simp only [lgL_R, lgL_I, lgL_L, lgL_0]; decide) ?_
  try simp only [lvA_R]
  exact R_X10_fitYears n st a0 a1 a2 rv st' h
theorem R_X10_both (n : Nat) (st : xS) (a0 : Option Nat) (a1 : Int32) (a2 : Int32) (a3 : Int32) (a4 : Int32) (rv : Int64) (st' : xS) (h : F_X10_both n st a0 a1 a2 a3 a4 = some (rv, st')) : Rn mX10_both 0 [(0, va_rf a0), (1, .int a1), (2, .int a2), (3, .int a3), (4, .int a4)] [] st (some (.long rv)) st' 5 := by
  unfold F_X10_both at h
  refine x_aload_n (o := a0) dX10_both_0 rfl ?_
  refine r_iload_n (x := a1) dX10_both_1 rfl ?_
  refine r_iload_n (x := a2) dX10_both_2 rfl ?_
  obtain ⟨q2, hq2, h⟩ := xb h
  obtain ⟨p1, hp1, h⟩ := xb h
  refine z_callV (as := [.int a1, .int a2]) (o := a0) (r1 := (some (.int p1.1))) (stk := []) (stk2 := [.int p1.1]) (st1 := p1.2) (d' := 4) dX10_both_3 xl_X10_255 hq2 (by decide) (Nat.le_trans xs0 (by decide)) rfl rfl (S_X10_fitYears n st a0 a1 a2 p1.1 p1.2 hp1) ?_
  refine r_if_ne (tgt := 13) dX10_both_6 (by decide) (fun c => ?_) (fun c => ?_)
  · replace h := (if_neg c).symm.trans h
    refine r_iload_n (x := a3) dX10_both_13 rfl ?_
    refine r_iconst (v := (-1 : Int32)) dX10_both_14 (by decide) ?_
    refine r_icmp_ne (tgt := 38) dX10_both_15 (by decide) (fun c => ?_) (fun c => ?_)
    · replace h := (if_neg c).symm.trans h
      refine x_aload_n (o := a0) dX10_both_38 rfl ?_
      obtain ⟨v10, hv10, h⟩ := xb h
      refine x_getR (o := a0) dX10_both_39 xf_X10_37 hv10 ?_
      refine r_iload_n (x := a3) dX10_both_42 rfl ?_
      obtain ⟨q12, hq12, h⟩ := xb h
      obtain ⟨v11, hv11, h⟩ := xb h
      refine z_callV (as := [.int a3]) (o := v10) (r1 := (some (.int v11))) (stk := []) (stk2 := [.int v11]) (st1 := p1.2) (d' := 0) dX10_both_43 xl_X10_268 hq12 (by decide) (Nat.le_trans xs0 (by decide)) rfl rfl (S_X1_played n p1.2 v10 a3 v11 hv11) ?_
      obtain ⟨q20, hq20, h⟩ := xb h
      have Jq20 : Rn mX10_both 75 [] [.long q20] p1.2 (some (.long rv)) st' 5 := by
        obtain ⟨rfl, rfl⟩ := Prod.mk.inj (Option.some.inj h)
        exact r_lreturn dX10_both_75 rfl
      refine r_if_eq (tgt := 72) dX10_both_46 (by decide) (fun c => ?_) (fun c => ?_)
      · replace hq20 := (if_pos c).symm.trans hq20
        refine r_ldc2 (v := (-1000000000000000 : Int64)) dX10_both_72 xk_X10_259 ?_
        obtain rfl := Option.some.inj hq20
        exact x_sub [] rfl Jq20
      · replace hq20 := (if_neg c).symm.trans hq20
        refine x_aload_n (o := a0) dX10_both_49 rfl ?_
        obtain ⟨v13, hv13, hq20⟩ := xb hq20
        refine x_getR (o := a0) dX10_both_50 xf_X10_37 hv13 ?_
        refine r_iload_n (x := a3) dX10_both_53 rfl ?_
        obtain ⟨q15, hq15, hq20⟩ := xb hq20
        obtain ⟨v14, hv14, hq20⟩ := xb hq20
        refine z_callV (as := [.int a3]) (o := v13) (r1 := (some (.long v14))) (stk := []) (stk2 := [.long v14]) (st1 := p1.2) (d' := 1) dX10_both_54 xl_X10_271 hq15 (by decide) (Nat.le_trans xs0 (by decide)) rfl rfl (S_X1_strength n p1.2 v13 a3 v14 hv14) ?_
        refine x_aload_n (o := a0) dX10_both_57 rfl ?_
        obtain ⟨v16, hv16, hq20⟩ := xb hq20
        refine x_getR (o := a0) dX10_both_58 xf_X10_37 hv16 ?_
        obtain ⟨q18, hq18, hq20⟩ := xb hq20
        obtain ⟨v17, hv17, hq20⟩ := xb hq20
        refine z_callV (as := []) (o := v16) (r1 := (some (.long v17))) (stk := [.long v14]) (stk2 := [.long v17, .long v14]) (st1 := p1.2) (d' := 0) dX10_both_61 xl_X10_265 hq18 (by decide) (Nat.le_trans (xsJ xs0) (by decide)) rfl rfl (S_X1_under n p1.2 v16  v17 hv17) ?_
        refine r_iload (x := a4) dX10_both_64 rfl ?_
        obtain ⟨v19, hv19, hq20⟩ := xb hq20
        refine z_callS (as := [.long v14, .long v17, .int a4]) (r1 := (some (.long v19))) (stk := []) (stk2 := [.long v19]) (st1 := p1.2) (d' := 2) dX10_both_66 xl_X10_251 (by decide) (Nat.le_trans xs0 (by decide)) rfl rfl (S_X10_share n p1.2 v14 v17 a4 v19 hv19) ?_
        refine r_goto (tgt := 75) dX10_both_69 (by decide) ?_
        obtain rfl := Option.some.inj hq20
        exact x_sub [] rfl Jq20
    · replace h := (if_pos c).symm.trans h
      refine x_aload_n (o := a0) dX10_both_18 rfl ?_
      obtain ⟨v3, hv3, h⟩ := xb h
      refine x_getR (o := a0) dX10_both_19 xf_X10_37 hv3 ?_
      obtain ⟨q5, hq5, h⟩ := xb h
      obtain ⟨v4, hv4, h⟩ := xb h
      refine z_callV (as := []) (o := v3) (r1 := (some (.long v4))) (stk := []) (stk2 := [.long v4]) (st1 := p1.2) (d' := 0) dX10_both_22 xl_X10_261 hq5 (by decide) (Nat.le_trans xs0 (by decide)) rfl rfl (S_X1_home n p1.2 v3  v4 hv4) ?_
      refine x_aload_n (o := a0) dX10_both_25 rfl ?_
      obtain ⟨v6, hv6, h⟩ := xb h
      refine x_getR (o := a0) dX10_both_26 xf_X10_37 hv6 ?_
      obtain ⟨q8, hq8, h⟩ := xb h
      obtain ⟨v7, hv7, h⟩ := xb h
      refine z_callV (as := []) (o := v6) (r1 := (some (.long v7))) (stk := [.long v4]) (stk2 := [.long v7, .long v4]) (st1 := p1.2) (d' := 0) dX10_both_29 xl_X10_265 hq8 (by decide) (Nat.le_trans (xsJ xs0) (by decide)) rfl rfl (S_X1_under n p1.2 v6  v7 hv7) ?_
      refine r_iload (x := a4) dX10_both_32 rfl ?_
      obtain ⟨v9, hv9, h⟩ := xb h
      refine z_callS (as := [.long v4, .long v7, .int a4]) (r1 := (some (.long v9))) (stk := []) (stk2 := [.long v9]) (st1 := p1.2) (d' := 2) dX10_both_34 xl_X10_251 (by decide) (Nat.le_trans xs0 (by decide)) rfl rfl (S_X10_share n p1.2 v4 v7 a4 v9 hv9) ?_
      obtain ⟨rfl, rfl⟩ := Prod.mk.inj (Option.some.inj h)
      exact r_lreturn dX10_both_37 rfl
  · replace h := (if_pos c).symm.trans h
    refine r_ldc2 (v := (-1000000000000000 : Int64)) dX10_both_9 xk_X10_259 ?_
    obtain ⟨rfl, rfl⟩ := Prod.mk.inj (Option.some.inj h)
    exact r_lreturn dX10_both_12 rfl
theorem S_X10_both (n : Nat) (st : xS) (a0 : Option Nat) (a1 : Int32) (a2 : Int32) (a3 : Int32) (a4 : Int32) (rv : Int64) (st' : xS) (h : F_X10_both n st a0 a1 a2 a3 a4 = some (rv, st')) : Ct mX10_both [va_rf a0, .int a1, .int a2, .int a3, .int a4] st (some (.long rv)) st' 5 := by
  refine Ct.of (by decide) (by simp only [lgL_R, lgL_I, lgL_L, lgL_0]; decide) ?_
  try simp only [lvA_R]
  exact R_X10_both n st a0 a1 a2 a3 a4 rv st' h
theorem R_X10_off (n : Nat) (st : xS) (a0 : Option Nat) (a1 : Int32) (a2 : Int32) (a3 : Int32) (rv : Int64) (st' : xS) (h : F_X10_off n st a0 a1 a2 a3 = some (rv, st')) : Rn mX10_off 0 [(0, va_rf a0), (1, .int a1), (2, .int a2), (3, .int a3)] [] st (some (.long rv)) st' 5 := by
  unfold F_X10_off at h
  refine x_aload_n (o := a0) dX10_off_0 rfl ?_
  refine r_iload_n (x := a1) dX10_off_1 rfl ?_
  refine r_iload_n (x := a2) dX10_off_2 rfl ?_
  obtain ⟨q2, hq2, h⟩ := xb h
  obtain ⟨p1, hp1, h⟩ := xb h
  refine z_callV (as := [.int a1, .int a2]) (o := a0) (r1 := (some (.int p1.1))) (stk := []) (stk2 := [.int p1.1]) (st1 := p1.2) (d' := 4) dX10_off_3 xl_X10_255 hq2 (by decide) (Nat.le_trans xs0 (by decide)) rfl rfl (S_X10_fitYears n st a0 a1 a2 p1.1 p1.2 hp1) ?_
  refine r_if_ne (tgt := 13) dX10_off_6 (by decide) (fun c => ?_) (fun c => ?_)
  · replace h := (if_neg c).symm.trans h
    refine x_aload_n (o := a0) dX10_off_13 rfl ?_
    refine r_iload_n (x := a1) dX10_off_14 rfl ?_
    refine r_iload_n (x := a2) dX10_off_15 rfl ?_
    obtain ⟨q4, hq4, h⟩ := xb h
    obtain ⟨p3, hp3, h⟩ := xb h
    refine z_callV (as := [.int a1, .int a2]) (o := a0) (r1 := (some (.int p3.1))) (stk := []) (stk2 := [.int p3.1]) (st1 := p3.2) (d' := 2) dX10_off_16 xl_X10_219 hq4 (by decide) (Nat.le_trans xs0 (by decide)) rfl rfl (S_X10_pick n p1.2 a0 a1 a2 p3.1 p3.2 hp3) ?_
    refine r_istore (lv' := [(4, .int p3.1), (0, va_rf a0), (1, .int a1), (2, .int a2), (3, .int a3)]) (x := p3.1) dX10_off_19 (by decide) rfl ?_
    refine x_aload_n (o := a0) dX10_off_21 rfl ?_
    refine r_iload (x := p3.1) dX10_off_22 rfl ?_
    obtain ⟨q6, hq6, h⟩ := xb h
    obtain ⟨v5, hv5, h⟩ := xb h
    refine z_callV (as := [.int p3.1]) (o := a0) (r1 := (some (.int v5))) (stk := []) (stk2 := [.int v5]) (st1 := p3.2) (d' := 4) dX10_off_24 xl_X10_248 hq6 (by decide) (Nat.le_trans xs0 (by decide)) rfl rfl (S_X10_marginsTogether n p3.2 a0 p3.1 v5 hv5) ?_
    refine r_i2l dX10_off_27 ?_
    refine x_aload_n (o := a0) dX10_off_28 rfl ?_
    obtain ⟨v7, hv7, h⟩ := xb h
    refine x_getR (o := a0) dX10_off_29 xf_X10_37 hv7 ?_
    obtain ⟨q9, hq9, h⟩ := xb h
    obtain ⟨v8, hv8, h⟩ := xb h
    refine z_callV (as := []) (o := v7) (r1 := (some (.long v8))) (stk := [.long v5.toInt64]) (stk2 := [.long v8, .long v5.toInt64]) (st1 := p3.2) (d' := 0) dX10_off_32 xl_X10_265 hq9 (by decide) (Nat.le_trans (xsJ xs0) (by decide)) rfl rfl (S_X1_under n p3.2 v7  v8 hv8) ?_
    refine r_lmul dX10_off_35 ?_
    refine r_iload (x := p3.1) dX10_off_36 rfl ?_
    refine r_i2l dX10_off_38 ?_
    refine x_aload_n (o := a0) dX10_off_39 rfl ?_
    obtain ⟨v10, hv10, h⟩ := xb h
    refine x_getR (o := a0) dX10_off_40 xf_X10_37 hv10 ?_
    obtain ⟨q12, hq12, h⟩ := xb h
    obtain ⟨v11, hv11, h⟩ := xb h
    refine z_callV (as := []) (o := v10) (r1 := (some (.long v11))) (stk := [.long p3.1.toInt64, .long (v5.toInt64 * v8)]) (stk2 := [.long v11, .long p3.1.toInt64, .long (v5.toInt64 * v8)]) (st1 := p3.2) (d' := 0) dX10_off_43 xl_X10_261 hq12 (by decide) (Nat.le_trans (xsJ (xsJ xs0)) (by decide)) rfl rfl (S_X1_home n p3.2 v10  v11 hv11) ?_
    refine r_lmul dX10_off_46 ?_
    refine r_lsub dX10_off_47 ?_
    refine r_iload (x := p3.1) dX10_off_48 rfl ?_
    refine r_i2l dX10_off_50 ?_
    refine x_aload_n (o := a0) dX10_off_51 rfl ?_
    obtain ⟨v13, hv13, h⟩ := xb h
    refine x_getR (o := a0) dX10_off_52 xf_X10_37 hv13 ?_
    obtain ⟨q15, hq15, h⟩ := xb h
    obtain ⟨v14, hv14, h⟩ := xb h
    refine z_callV (as := []) (o := v13) (r1 := (some (.long v14))) (stk := [.long p3.1.toInt64, .long ((v5.toInt64 * v8) - (p3.1.toInt64 * v11))]) (stk2 := [.long v14, .long p3.1.toInt64, .long ((v5.toInt64 * v8) - (p3.1.toInt64 * v11))]) (st1 := p3.2) (d' := 0) dX10_off_55 xl_X10_265 hq15 (by decide) (Nat.le_trans (xsJ (xsJ xs0)) (by decide)) rfl rfl (S_X1_under n p3.2 v13  v14 hv14) ?_
    refine r_lmul dX10_off_58 ?_
    refine r_iload_n (x := a3) dX10_off_59 rfl ?_
    obtain ⟨v16, hv16, h⟩ := xb h
    refine z_callS (as := [.long ((v5.toInt64 * v8) - (p3.1.toInt64 * v11)), .long (p3.1.toInt64 * v14), .int a3]) (r1 := (some (.long v16))) (stk := []) (stk2 := [.long v16]) (st1 := p3.2) (d' := 2) dX10_off_60 xl_X10_251 (by decide) (Nat.le_trans xs0 (by decide)) rfl rfl (S_X10_share n p3.2 ((v5.toInt64 * v8) - (p3.1.toInt64 * v11)) (p3.1.toInt64 * v14) a3 v16 hv16) ?_
    obtain ⟨rfl, rfl⟩ := Prod.mk.inj (Option.some.inj h)
    exact r_lreturn dX10_off_63 rfl
  · replace h := (if_pos c).symm.trans h
    refine r_ldc2 (v := (-1000000000000000 : Int64)) dX10_off_9 xk_X10_259 ?_
    obtain ⟨rfl, rfl⟩ := Prod.mk.inj (Option.some.inj h)
    exact r_lreturn dX10_off_12 rfl
theorem S_X10_off (n : Nat) (st : xS) (a0 : Option Nat) (a1 : Int32) (a2 : Int32) (a3 : Int32) (rv : Int64) (st' : xS) (h : F_X10_off n st a0 a1 a2 a3 = some (rv, st')) : Ct mX10_off [va_rf a0, .int a1, .int a2, .int a3] st (some (.long rv)) st' 5 := by
  refine Ct.of (by decide) (by simp only [lgL_R, lgL_I, lgL_L, lgL_0]; decide) ?_
  try simp only [lvA_R]
  exact R_X10_off n st a0 a1 a2 a3 rv st' h
theorem R_X10_lessOther (n : Nat) (st : xS) (a0 : Int32) (a1 : Int32) (a2 : Int32) (a3 : Int32) (a4 : Int32) (rv : Int32) (h : F_X10_lessOther n st a0 a1 a2 a3 a4 = some rv) : Rn mX10_lessOther 0 [(0, .int a0), (1, .int a1), (2, .int a2), (3, .int a3), (4, .int a4)] [] st (some (.int rv)) st 3 := by
  unfold F_X10_lessOther at h
  refine r_iload_n (x := a1) dX10_lessOther_0 rfl ?_
  refine r_if_eq (tgt := 8) dX10_lessOther_1 (by decide) (fun c => ?_) (fun c => ?_)
  · replace h := (if_pos c).symm.trans h
    refine r_ldc (v := (-1000000 : Int32)) dX10_lessOther_8 xk_X10_247 ?_
    obtain rfl := Option.some.inj h
    exact r_ireturn dX10_lessOther_10 .int rfl rfl
  · replace h := (if_neg c).symm.trans h
    refine r_iload_n (x := a3) dX10_lessOther_4 rfl ?_
    refine r_if_ne (tgt := 11) dX10_lessOther_5 (by decide) (fun c => ?_) (fun c => ?_)
    · replace h := (if_neg c).symm.trans h
      refine r_iload_n (x := a0) dX10_lessOther_11 rfl ?_
      refine r_iload_n (x := a3) dX10_lessOther_12 rfl ?_
      refine r_imul dX10_lessOther_13 ?_
      refine r_iload_n (x := a2) dX10_lessOther_14 rfl ?_
      refine r_iload_n (x := a1) dX10_lessOther_15 rfl ?_
      refine r_imul dX10_lessOther_16 ?_
      refine r_isub dX10_lessOther_17 ?_
      refine r_i2l dX10_lessOther_18 ?_
      refine r_iload_n (x := a1) dX10_lessOther_19 rfl ?_
      refine r_iload_n (x := a3) dX10_lessOther_20 rfl ?_
      refine r_imul dX10_lessOther_21 ?_
      refine r_i2l dX10_lessOther_22 ?_
      refine r_iload (x := a4) dX10_lessOther_23 rfl ?_
      obtain ⟨v1, hv1, h⟩ := xb h
      refine z_callS (as := [.long (((a0 * a3) - (a2 * a1)).toInt64), .long ((a1 * a3).toInt64), .int a4]) (r1 := (some (.long v1))) (stk := []) (stk2 := [.long v1]) (st1 := st) (d' := 2) dX10_lessOther_25 xl_X10_251 (by decide) (Nat.le_trans xs0 (by decide)) rfl rfl (S_X10_share n st (((a0 * a3) - (a2 * a1)).toInt64) ((a1 * a3).toInt64) a4 v1 hv1) ?_
      refine r_l2i dX10_lessOther_28 ?_
      obtain rfl := Option.some.inj h
      exact r_ireturn dX10_lessOther_29 .int rfl rfl
    · replace h := (if_pos c).symm.trans h
      refine r_ldc (v := (-1000000 : Int32)) dX10_lessOther_8 xk_X10_247 ?_
      obtain rfl := Option.some.inj h
      exact r_ireturn dX10_lessOther_10 .int rfl rfl
theorem S_X10_lessOther (n : Nat) (st : xS) (a0 : Int32) (a1 : Int32) (a2 : Int32) (a3 : Int32) (a4 : Int32) (rv : Int32) (h : F_X10_lessOther n st a0 a1 a2 a3 a4 = some rv) : Ct mX10_lessOther [.int a0, .int a1, .int a2, .int a3, .int a4] st (some (.int rv)) st 3 := by
  refine Ct.of (by decide) (by simp only [lgL_R, lgL_I, lgL_L, lgL_0]; decide) ?_
  try simp only [lvA_R]
  exact R_X10_lessOther n st a0 a1 a2 a3 a4 rv h
theorem R_X10_people_L34 (n : Nat) {r : Option Value} {st' : xS} : ∀ (k : Nat) (st : xS) (a0 : Option Nat) (a3 : Int32) (a4 : Int32) (a5 : Int32) (a6 : Int32) (a7 : Int32) (a8 : Int32) (a9 : Int32) (q : (Int32 × Int32 × Int32)), F_X10_people_L34 n k st a0 a3 a4 a5 a6 a7 a8 a9 = some q → Rn mX10_people 87 [(4, .int a4), (5, .int a5), (6, .int q.1), (7, .int q.2.1), (8, .int q.2.2)] [] st r st' 4 → Rn mX10_people 34 [(0, va_rf a0), (3, .int a3), (4, .int a4), (5, .int a5), (6, .int a6), (7, .int a7), (8, .int a8), (9, .int a9)] [] st r st' 4 := by
  intro k
  induction k with
  | zero => intro st a0 a3 a4 a5 a6 a7 a8 a9 q h; cases h
  | succ k ih =>
    intro st a0 a3 a4 a5 a6 a7 a8 a9 q h J
    unfold F_X10_people_L34 at h
    refine r_iload (x := a9) dX10_people_34 rfl ?_
    refine r_iload (x := a5) dX10_people_36 rfl ?_
    refine r_icmp_ge (tgt := 87) dX10_people_38 (by decide) (fun c => ?_) (fun c => ?_)
    · replace h := (if_pos c).symm.trans h
      obtain rfl := Option.some.inj h
      exact x_sub [2, 3, 4, 5, 6] rfl J
    · replace h := (if_neg c).symm.trans h
      refine x_aload_n (o := a0) dX10_people_41 rfl ?_
      refine r_iload (x := a9) dX10_people_42 rfl ?_
      refine r_bipush (v := (8 : Int32)) dX10_people_44 (by decide) ?_
      obtain ⟨q5, hq5, h⟩ := xb h
      obtain ⟨v4, hv4, h⟩ := xb h
      refine z_callV (as := [.int a9, .int (8 : Int32)]) (o := a0) (r1 := (some (.int v4))) (stk := []) (stk2 := [.int v4]) (st1 := st) (d' := 2) dX10_people_46 xl_X10_228 hq5 (by decide) (Nat.le_trans xs0 (by decide)) rfl rfl (S_X10_pickedOf n st a0 a9 (8 : Int32) v4 hv4) ?_
      refine r_iload_n (x := a3) dX10_people_49 rfl ?_
      obtain ⟨q13, hq13, h⟩ := xb h
      have Jq13 : Rn mX10_people 81 [(0, va_rf a0), (3, .int a3), (4, .int a4), (5, .int a5), (6, .int q13.1), (7, .int q13.2.1), (8, .int q13.2.2), (9, .int a9)] [] st r st' 4 := by
        obtain ⟨v14, hv14, h⟩ := xb h
        refine x_iinc (c := (1 : Int32)) (lv' := [(9, .int v14), (0, va_rf a0), (3, .int a3), (4, .int a4), (5, .int a5), (6, .int q13.1), (7, .int q13.2.1), (8, .int q13.2.2)]) (x := a9) (v := v14) dX10_people_81 rfl (by decide) (Option.some.inj hv14) (by decide) rfl ?_
        refine r_goto (tgt := 34) dX10_people_84 (by decide) ?_
        exact x_sub [1, 2, 3, 4, 5, 6, 7, 0] rfl (ih st a0 a3 a4 a5 q13.1 q13.2.1 q13.2.2 v14 q h J)
      refine r_icmp_lt (tgt := 70) dX10_people_50 (by decide) (fun c => ?_) (fun c => ?_)
      · replace hq13 := (if_pos c).symm.trans hq13
        refine r_iload (x := a8) dX10_people_70 rfl ?_
        refine x_aload_n (o := a0) dX10_people_72 rfl ?_
        refine r_iload (x := a9) dX10_people_73 rfl ?_
        obtain ⟨q7, hq7, hq13⟩ := xb hq13
        obtain ⟨v6, hv6, hq13⟩ := xb hq13
        refine z_callV (as := [.int a9]) (o := a0) (r1 := (some (.int v6))) (stk := [.int a8]) (stk2 := [.int v6, .int a8]) (st1 := st) (d' := 3) dX10_people_75 xl_X10_225 hq7 (by decide) (Nat.le_trans (xsI xs0) (by decide)) rfl rfl (S_X10_margin n st a0 a9 v6 hv6) ?_
        refine r_iadd dX10_people_78 ?_
        obtain ⟨v8, hv8, hq13⟩ := xb hq13
        refine x_eqI (Option.some.inj hv8) ?_
        refine r_istore (lv' := [(8, .int v8), (0, va_rf a0), (3, .int a3), (4, .int a4), (5, .int a5), (6, .int a6), (7, .int a7), (9, .int a9)]) (x := v8) dX10_people_79 (by decide) rfl ?_
        obtain rfl := Option.some.inj hq13
        exact x_sub [1, 2, 3, 4, 5, 6, 0, 7] rfl Jq13
      · replace hq13 := (if_neg c).symm.trans hq13
        obtain ⟨v9, hv9, hq13⟩ := xb hq13
        refine x_iinc (c := (1 : Int32)) (lv' := [(6, .int v9), (0, va_rf a0), (3, .int a3), (4, .int a4), (5, .int a5), (7, .int a7), (8, .int a8), (9, .int a9)]) (x := a6) (v := v9) dX10_people_53 rfl (by decide) (Option.some.inj hv9) (by decide) rfl ?_
        refine r_iload (x := a7) dX10_people_56 rfl ?_
        refine x_aload_n (o := a0) dX10_people_58 rfl ?_
        refine r_iload (x := a9) dX10_people_59 rfl ?_
        obtain ⟨q11, hq11, hq13⟩ := xb hq13
        obtain ⟨v10, hv10, hq13⟩ := xb hq13
        refine z_callV (as := [.int a9]) (o := a0) (r1 := (some (.int v10))) (stk := [.int a7]) (stk2 := [.int v10, .int a7]) (st1 := st) (d' := 3) dX10_people_61 xl_X10_225 hq11 (by decide) (Nat.le_trans (xsI xs0) (by decide)) rfl rfl (S_X10_margin n st a0 a9 v10 hv10) ?_
        refine r_iadd dX10_people_64 ?_
        obtain ⟨v12, hv12, hq13⟩ := xb hq13
        refine x_eqI (Option.some.inj hv12) ?_
        refine r_istore (lv' := [(7, .int v12), (6, .int v9), (0, va_rf a0), (3, .int a3), (4, .int a4), (5, .int a5), (8, .int a8), (9, .int a9)]) (x := v12) dX10_people_65 (by decide) rfl ?_
        refine r_goto (tgt := 81) dX10_people_67 (by decide) ?_
        obtain rfl := Option.some.inj hq13
        exact x_sub [2, 3, 4, 5, 1, 0, 6, 7] rfl Jq13
theorem R_X10_people (n : Nat) (st : xS) (a0 : Option Nat) (a1 : Int32) (a2 : Int32) (a3 : Int32) (a4 : Int32) (rv : Int32) (st' : xS) (h : F_X10_people n st a0 a1 a2 a3 a4 = some (rv, st')) : Rn mX10_people 0 [(0, va_rf a0), (1, .int a1), (2, .int a2), (3, .int a3), (4, .int a4)] [] st (some (.int rv)) st' 4 := by
  unfold F_X10_people at h
  refine r_iload_n (x := a3) dX10_people_0 rfl ?_
  refine r_iconst (v := (0 : Int32)) dX10_people_1 (by decide) ?_
  refine r_sipush (v := (1000 : Int32)) dX10_people_2 (by decide) ?_
  obtain ⟨v1, hv1, h⟩ := xb h
  refine z_callS (as := [.int a3, .int (0 : Int32), .int (1000 : Int32)]) (r1 := (some (.int v1))) (stk := []) (stk2 := [.int v1]) (st1 := st) (d' := 0) dX10_people_5 xl_X10_209 (by decide) (Nat.le_trans xs0 (by decide)) rfl rfl (S_X10_within n st a3 (0 : Int32) (1000 : Int32) v1 hv1) ?_
  refine r_if_ne (tgt := 14) dX10_people_8 (by decide) (fun c => ?_) (fun c => ?_)
  · replace h := (if_neg c).symm.trans h
    refine x_aload_n (o := a0) dX10_people_14 rfl ?_
    refine r_iload_n (x := a1) dX10_people_15 rfl ?_
    refine r_iload_n (x := a2) dX10_people_16 rfl ?_
    obtain ⟨q3, hq3, h⟩ := xb h
    obtain ⟨p2, hp2, h⟩ := xb h
    refine z_callV (as := [.int a1, .int a2]) (o := a0) (r1 := (some (.int p2.1))) (stk := []) (stk2 := [.int p2.1]) (st1 := p2.2) (d' := 2) dX10_people_17 xl_X10_219 hq3 (by decide) (Nat.le_trans xs0 (by decide)) rfl rfl (S_X10_pick n st a0 a1 a2 p2.1 p2.2 hp2) ?_
    refine r_istore (lv' := [(5, .int p2.1), (0, va_rf a0), (1, .int a1), (2, .int a2), (3, .int a3), (4, .int a4)]) (x := p2.1) dX10_people_20 (by decide) rfl ?_
    refine r_iconst (v := (0 : Int32)) dX10_people_22 (by decide) ?_
    refine r_istore (lv' := [(6, .int (0 : Int32)), (5, .int p2.1), (0, va_rf a0), (1, .int a1), (2, .int a2), (3, .int a3), (4, .int a4)]) (x := (0 : Int32)) dX10_people_23 (by decide) rfl ?_
    refine r_iconst (v := (0 : Int32)) dX10_people_25 (by decide) ?_
    refine r_istore (lv' := [(7, .int (0 : Int32)), (6, .int (0 : Int32)), (5, .int p2.1), (0, va_rf a0), (1, .int a1), (2, .int a2), (3, .int a3), (4, .int a4)]) (x := (0 : Int32)) dX10_people_26 (by decide) rfl ?_
    refine r_iconst (v := (0 : Int32)) dX10_people_28 (by decide) ?_
    refine r_istore (lv' := [(8, .int (0 : Int32)), (7, .int (0 : Int32)), (6, .int (0 : Int32)), (5, .int p2.1), (0, va_rf a0), (1, .int a1), (2, .int a2), (3, .int a3), (4, .int a4)]) (x := (0 : Int32)) dX10_people_29 (by decide) rfl ?_
    refine r_iconst (v := (0 : Int32)) dX10_people_31 (by decide) ?_
    refine r_istore (lv' := [(9, .int (0 : Int32)), (8, .int (0 : Int32)), (7, .int (0 : Int32)), (6, .int (0 : Int32)), (5, .int p2.1), (0, va_rf a0), (1, .int a1), (2, .int a2), (3, .int a3), (4, .int a4)]) (x := (0 : Int32)) dX10_people_32 (by decide) rfl ?_
    obtain ⟨q15, hq15, h⟩ := xb h
    have Jq15 : Rn mX10_people 87 [(4, .int a4), (5, .int p2.1), (6, .int q15.1), (7, .int q15.2.1), (8, .int q15.2.2)] [] p2.2 (some (.int rv)) st' 4 := by
      refine r_iload (x := q15.2.1) dX10_people_87 rfl ?_
      refine r_iload (x := q15.1) dX10_people_89 rfl ?_
      refine r_iload (x := q15.2.2) dX10_people_91 rfl ?_
      refine r_iload (x := p2.1) dX10_people_93 rfl ?_
      refine r_iload (x := q15.1) dX10_people_95 rfl ?_
      refine r_isub dX10_people_97 ?_
      refine r_iload (x := a4) dX10_people_98 rfl ?_
      obtain ⟨v16, hv16, h⟩ := xb h
      refine z_callS (as := [.int q15.2.1, .int q15.1, .int q15.2.2, .int (p2.1 - q15.1), .int a4]) (r1 := (some (.int v16))) (stk := []) (stk2 := [.int v16]) (st1 := p2.2) (d' := 3) dX10_people_100 xl_X10_286 (by decide) (Nat.le_trans xs0 (by decide)) rfl rfl (S_X10_lessOther n p2.2 q15.2.1 q15.1 q15.2.2 (p2.1 - q15.1) a4 v16 hv16) ?_
      obtain ⟨rfl, rfl⟩ := Prod.mk.inj (Option.some.inj h)
      exact r_ireturn dX10_people_103 .int rfl rfl
    exact x_sub [5, 8, 9, 4, 3, 2, 1, 0] rfl (R_X10_people_L34 n n p2.2 a0 a3 a4 p2.1 (0 : Int32) (0 : Int32) (0 : Int32) (0 : Int32) q15 hq15 Jq15)
  · replace h := (if_pos c).symm.trans h
    refine r_ldc (v := (-1000000 : Int32)) dX10_people_11 xk_X10_247 ?_
    obtain ⟨rfl, rfl⟩ := Prod.mk.inj (Option.some.inj h)
    exact r_ireturn dX10_people_13 .int rfl rfl
theorem S_X10_people (n : Nat) (st : xS) (a0 : Option Nat) (a1 : Int32) (a2 : Int32) (a3 : Int32) (a4 : Int32) (rv : Int32) (st' : xS) (h : F_X10_people n st a0 a1 a2 a3 a4 = some (rv, st')) : Ct mX10_people [va_rf a0, .int a1, .int a2, .int a3, .int a4] st (some (.int rv)) st' 4 := by
  refine Ct.of (by decide) (by simp only [lgL_R, lgL_I, lgL_L, lgL_0]; decide) ?_
  try simp only [lvA_R]
  exact R_X10_people n st a0 a1 a2 a3 a4 rv st' h
theorem R_X10_slope_L23 (n : Nat) {r : Option Value} {st' : xS} : ∀ (k : Nat) (st : xS) (a0 : Option Nat) (a3 : Int32) (a4 : Int32) (a5 : Int32) (a6 : Int32) (a7 : Int32) (a8 : Int32) (a9 : Int32) (q : (Int32 × Int32 × Int32 × Int32)), F_X10_slope_L23 n k st a0 a3 a4 a5 a6 a7 a8 a9 = some q → Rn mX10_slope 87 [(3, .int a3), (4, .int a4), (5, .int q.1), (6, .int q.2.1), (7, .int q.2.2.1), (8, .int q.2.2.2)] [] st r st' 4 → Rn mX10_slope 23 [(0, va_rf a0), (3, .int a3), (4, .int a4), (5, .int a5), (6, .int a6), (7, .int a7), (8, .int a8), (9, .int a9)] [] st r st' 4 := by
  intro k
  induction k with
  | zero => intro st a0 a3 a4 a5 a6 a7 a8 a9 q h; cases h
  | succ k ih =>
    intro st a0 a3 a4 a5 a6 a7 a8 a9 q h J
    unfold F_X10_slope_L23 at h
    refine r_iload (x := a9) dX10_slope_23 rfl ?_
    refine r_iload (x := a4) dX10_slope_25 rfl ?_
    refine r_icmp_ge (tgt := 87) dX10_slope_27 (by decide) (fun c => ?_) (fun c => ?_)
    · replace h := (if_pos c).symm.trans h
      obtain rfl := Option.some.inj h
      exact x_sub [1, 2, 3, 4, 5, 6] rfl J
    · replace h := (if_neg c).symm.trans h
      refine x_aload_n (o := a0) dX10_slope_30 rfl ?_
      refine r_iload (x := a9) dX10_slope_31 rfl ?_
      refine r_iconst (v := (2 : Int32)) dX10_slope_33 (by decide) ?_
      obtain ⟨q4, hq4, h⟩ := xb h
      obtain ⟨v3, hv3, h⟩ := xb h
      refine z_callV (as := [.int a9, .int (2 : Int32)]) (o := a0) (r1 := (some (.int v3))) (stk := []) (stk2 := [.int v3]) (st1 := st) (d' := 2) dX10_slope_34 xl_X10_228 hq4 (by decide) (Nat.le_trans xs0 (by decide)) rfl rfl (S_X10_pickedOf n st a0 a9 (2 : Int32) v3 hv3) ?_
      refine r_istore (lv' := [(10, .int v3), (0, va_rf a0), (3, .int a3), (4, .int a4), (5, .int a5), (6, .int a6), (7, .int a7), (8, .int a8), (9, .int a9)]) (x := v3) dX10_slope_37 (by decide) rfl ?_
      refine r_iload (x := a5) dX10_slope_39 rfl ?_
      refine r_iload (x := v3) dX10_slope_41 rfl ?_
      refine r_iadd dX10_slope_43 ?_
      obtain ⟨v5, hv5, h⟩ := xb h
      refine x_eqI (Option.some.inj hv5) ?_
      refine r_istore (lv' := [(5, .int v5), (10, .int v3), (0, va_rf a0), (3, .int a3), (4, .int a4), (6, .int a6), (7, .int a7), (8, .int a8), (9, .int a9)]) (x := v5) dX10_slope_44 (by decide) rfl ?_
      refine r_iload (x := a6) dX10_slope_46 rfl ?_
      refine x_aload_n (o := a0) dX10_slope_48 rfl ?_
      refine r_iload (x := a9) dX10_slope_49 rfl ?_
      obtain ⟨q7, hq7, h⟩ := xb h
      obtain ⟨v6, hv6, h⟩ := xb h
      refine z_callV (as := [.int a9]) (o := a0) (r1 := (some (.int v6))) (stk := [.int a6]) (stk2 := [.int v6, .int a6]) (st1 := st) (d' := 3) dX10_slope_51 xl_X10_225 hq7 (by decide) (Nat.le_trans (xsI xs0) (by decide)) rfl rfl (S_X10_margin n st a0 a9 v6 hv6) ?_
      refine r_iadd dX10_slope_54 ?_
      obtain ⟨v8, hv8, h⟩ := xb h
      refine x_eqI (Option.some.inj hv8) ?_
      refine r_istore (lv' := [(6, .int v8), (5, .int v5), (10, .int v3), (0, va_rf a0), (3, .int a3), (4, .int a4), (7, .int a7), (8, .int a8), (9, .int a9)]) (x := v8) dX10_slope_55 (by decide) rfl ?_
      refine r_iload (x := a7) dX10_slope_57 rfl ?_
      refine r_iload (x := v3) dX10_slope_59 rfl ?_
      refine r_iload (x := v3) dX10_slope_61 rfl ?_
      refine r_imul dX10_slope_63 ?_
      refine r_iadd dX10_slope_64 ?_
      obtain ⟨v9, hv9, h⟩ := xb h
      refine x_eqI (Option.some.inj hv9) ?_
      refine r_istore (lv' := [(7, .int v9), (6, .int v8), (5, .int v5), (10, .int v3), (0, va_rf a0), (3, .int a3), (4, .int a4), (8, .int a8), (9, .int a9)]) (x := v9) dX10_slope_65 (by decide) rfl ?_
      refine r_iload (x := a8) dX10_slope_67 rfl ?_
      refine r_iload (x := v3) dX10_slope_69 rfl ?_
      refine x_aload_n (o := a0) dX10_slope_71 rfl ?_
      refine r_iload (x := a9) dX10_slope_72 rfl ?_
      obtain ⟨q11, hq11, h⟩ := xb h
      obtain ⟨v10, hv10, h⟩ := xb h
      refine z_callV (as := [.int a9]) (o := a0) (r1 := (some (.int v10))) (stk := [.int v3, .int a8]) (stk2 := [.int v10, .int v3, .int a8]) (st1 := st) (d' := 3) dX10_slope_74 xl_X10_225 hq11 (by decide) (Nat.le_trans (xsI (xsI xs0)) (by decide)) rfl rfl (S_X10_margin n st a0 a9 v10 hv10) ?_
      refine r_imul dX10_slope_77 ?_
      refine r_iadd dX10_slope_78 ?_
      obtain ⟨v12, hv12, h⟩ := xb h
      refine x_eqI (Option.some.inj hv12) ?_
      refine r_istore (lv' := [(8, .int v12), (7, .int v9), (6, .int v8), (5, .int v5), (10, .int v3), (0, va_rf a0), (3, .int a3), (4, .int a4), (9, .int a9)]) (x := v12) dX10_slope_79 (by decide) rfl ?_
      obtain ⟨v13, hv13, h⟩ := xb h
      refine x_iinc (c := (1 : Int32)) (lv' := [(9, .int v13), (8, .int v12), (7, .int v9), (6, .int v8), (5, .int v5), (10, .int v3), (0, va_rf a0), (3, .int a3), (4, .int a4)]) (x := a9) (v := v13) dX10_slope_81 rfl (by decide) (Option.some.inj hv13) (by decide) rfl ?_
      refine r_goto (tgt := 23) dX10_slope_84 (by decide) ?_
      exact x_sub [6, 7, 8, 4, 3, 2, 1, 0] rfl (ih st a0 a3 a4 v5 v8 v9 v12 v13 q h J)
theorem R_X10_slope (n : Nat) (st : xS) (a0 : Option Nat) (a1 : Int32) (a2 : Int32) (a3 : Int32) (rv : Int32) (st' : xS) (h : F_X10_slope n st a0 a1 a2 a3 = some (rv, st')) : Rn mX10_slope 0 [(0, va_rf a0), (1, .int a1), (2, .int a2), (3, .int a3)] [] st (some (.int rv)) st' 4 := by
  unfold F_X10_slope at h
  refine x_aload_n (o := a0) dX10_slope_0 rfl ?_
  refine r_iload_n (x := a1) dX10_slope_1 rfl ?_
  refine r_iload_n (x := a2) dX10_slope_2 rfl ?_
  obtain ⟨q2, hq2, h⟩ := xb h
  obtain ⟨p1, hp1, h⟩ := xb h
  refine z_callV (as := [.int a1, .int a2]) (o := a0) (r1 := (some (.int p1.1))) (stk := []) (stk2 := [.int p1.1]) (st1 := p1.2) (d' := 2) dX10_slope_3 xl_X10_219 hq2 (by decide) (Nat.le_trans xs0 (by decide)) rfl rfl (S_X10_pick n st a0 a1 a2 p1.1 p1.2 hp1) ?_
  refine r_istore (lv' := [(4, .int p1.1), (0, va_rf a0), (1, .int a1), (2, .int a2), (3, .int a3)]) (x := p1.1) dX10_slope_6 (by decide) rfl ?_
  refine r_iconst (v := (0 : Int32)) dX10_slope_8 (by decide) ?_
  refine r_istore (lv' := [(5, .int (0 : Int32)), (4, .int p1.1), (0, va_rf a0), (1, .int a1), (2, .int a2), (3, .int a3)]) (x := (0 : Int32)) dX10_slope_9 (by decide) rfl ?_
  refine r_iconst (v := (0 : Int32)) dX10_slope_11 (by decide) ?_
  refine r_istore (lv' := [(6, .int (0 : Int32)), (5, .int (0 : Int32)), (4, .int p1.1), (0, va_rf a0), (1, .int a1), (2, .int a2), (3, .int a3)]) (x := (0 : Int32)) dX10_slope_12 (by decide) rfl ?_
  refine r_iconst (v := (0 : Int32)) dX10_slope_14 (by decide) ?_
  refine r_istore (lv' := [(7, .int (0 : Int32)), (6, .int (0 : Int32)), (5, .int (0 : Int32)), (4, .int p1.1), (0, va_rf a0), (1, .int a1), (2, .int a2), (3, .int a3)]) (x := (0 : Int32)) dX10_slope_15 (by decide) rfl ?_
  refine r_iconst (v := (0 : Int32)) dX10_slope_17 (by decide) ?_
  refine r_istore (lv' := [(8, .int (0 : Int32)), (7, .int (0 : Int32)), (6, .int (0 : Int32)), (5, .int (0 : Int32)), (4, .int p1.1), (0, va_rf a0), (1, .int a1), (2, .int a2), (3, .int a3)]) (x := (0 : Int32)) dX10_slope_18 (by decide) rfl ?_
  refine r_iconst (v := (0 : Int32)) dX10_slope_20 (by decide) ?_
  refine r_istore (lv' := [(9, .int (0 : Int32)), (8, .int (0 : Int32)), (7, .int (0 : Int32)), (6, .int (0 : Int32)), (5, .int (0 : Int32)), (4, .int p1.1), (0, va_rf a0), (1, .int a1), (2, .int a2), (3, .int a3)]) (x := (0 : Int32)) dX10_slope_21 (by decide) rfl ?_
  obtain ⟨q14, hq14, h⟩ := xb h
  have Jq14 : Rn mX10_slope 87 [(3, .int a3), (4, .int p1.1), (5, .int q14.1), (6, .int q14.2.1), (7, .int q14.2.2.1), (8, .int q14.2.2.2)] [] p1.2 (some (.int rv)) st' 4 := by
    refine r_iload (x := p1.1) dX10_slope_87 rfl ?_
    refine r_iload (x := q14.2.2.1) dX10_slope_89 rfl ?_
    refine r_imul dX10_slope_91 ?_
    refine r_iload (x := q14.1) dX10_slope_92 rfl ?_
    refine r_iload (x := q14.1) dX10_slope_94 rfl ?_
    refine r_imul dX10_slope_96 ?_
    refine r_isub dX10_slope_97 ?_
    obtain ⟨v15, hv15, h⟩ := xb h
    refine x_eqI (Option.some.inj hv15) ?_
    refine r_istore (lv' := [(9, .int v15), (3, .int a3), (4, .int p1.1), (5, .int q14.1), (6, .int q14.2.1), (7, .int q14.2.2.1), (8, .int q14.2.2.2)]) (x := v15) dX10_slope_98 (by decide) rfl ?_
    refine r_iload (x := v15) dX10_slope_100 rfl ?_
    obtain ⟨q17, hq17, h⟩ := xb h
    have Jq17 : Rn mX10_slope 130 [] [.int q17] p1.2 (some (.int rv)) st' 4 := by
      obtain ⟨rfl, rfl⟩ := Prod.mk.inj (Option.some.inj h)
      exact r_ireturn dX10_slope_130 .int rfl rfl
    refine r_if_ne (tgt := 110) dX10_slope_102 (by decide) (fun c => ?_) (fun c => ?_)
    · replace hq17 := (if_neg c).symm.trans hq17
      refine r_iload (x := p1.1) dX10_slope_110 rfl ?_
      refine r_iload (x := q14.2.2.2) dX10_slope_112 rfl ?_
      refine r_imul dX10_slope_114 ?_
      refine r_iload (x := q14.1) dX10_slope_115 rfl ?_
      refine r_iload (x := q14.2.1) dX10_slope_117 rfl ?_
      refine r_imul dX10_slope_119 ?_
      refine r_isub dX10_slope_120 ?_
      refine r_i2l dX10_slope_121 ?_
      refine r_iload (x := v15) dX10_slope_122 rfl ?_
      refine r_i2l dX10_slope_124 ?_
      refine r_iload_n (x := a3) dX10_slope_125 rfl ?_
      obtain ⟨v16, hv16, hq17⟩ := xb hq17
      refine z_callS (as := [.long (((p1.1 * q14.2.2.2) - (q14.1 * q14.2.1)).toInt64), .long v15.toInt64, .int a3]) (r1 := (some (.long v16))) (stk := []) (stk2 := [.long v16]) (st1 := p1.2) (d' := 2) dX10_slope_126 xl_X10_251 (by decide) (Nat.le_trans xs0 (by decide)) rfl rfl (S_X10_share n p1.2 (((p1.1 * q14.2.2.2) - (q14.1 * q14.2.1)).toInt64) v15.toInt64 a3 v16 hv16) ?_
      refine r_l2i dX10_slope_129 ?_
      obtain rfl := Option.some.inj hq17
      exact x_sub [] rfl Jq17
    · replace hq17 := (if_pos c).symm.trans hq17
      refine r_ldc (v := (-1000000 : Int32)) dX10_slope_105 xk_X10_247 ?_
      refine r_goto (tgt := 130) dX10_slope_107 (by decide) ?_
      obtain rfl := Option.some.inj hq17
      exact x_sub [] rfl Jq17
  exact x_sub [6, 9, 5, 4, 3, 2, 1, 0] rfl (R_X10_slope_L23 n n p1.2 a0 a3 p1.1 (0 : Int32) (0 : Int32) (0 : Int32) (0 : Int32) (0 : Int32) q14 hq14 Jq14)
theorem S_X10_slope (n : Nat) (st : xS) (a0 : Option Nat) (a1 : Int32) (a2 : Int32) (a3 : Int32) (rv : Int32) (st' : xS) (h : F_X10_slope n st a0 a1 a2 a3 = some (rv, st')) : Ct mX10_slope [va_rf a0, .int a1, .int a2, .int a3] st (some (.int rv)) st' 4 := by
  refine Ct.of (by decide) (by simp only [lgL_R, lgL_I, lgL_L, lgL_0]; decide) ?_
  try simp only [lvA_R]
  exact R_X10_slope n st a0 a1 a2 a3 rv st' h
theorem R_X10_ways_L24 (n : Nat) {r : Option Value} {st' : xS} : ∀ (k : Nat) (st : xS) (a0 : Int32) (a2 : Int32) (a3 : Int64) (a5 : Int32) (q : (Int64)), F_X10_ways_L24 n k st a0 a2 a3 a5 = some q → Rn mX10_ways 50 [(3, .long q)] [] st r st' 1 → Rn mX10_ways 24 [(0, .int a0), (2, .int a2), (3, .long a3), (5, .int a5)] [] st r st' 1 := by
  intro k
  induction k with
  | zero => intro st a0 a2 a3 a5 q h; cases h
  | succ k ih =>
    intro st a0 a2 a3 a5 q h J
    unfold F_X10_ways_L24 at h
    refine r_iload (x := a5) dX10_ways_24 rfl ?_
    refine r_iload_n (x := a2) dX10_ways_26 rfl ?_
    refine r_icmp_gt (tgt := 50) dX10_ways_27 (by decide) (fun c => ?_) (fun c => ?_)
    · replace h := (if_pos c).symm.trans h
      obtain rfl := Option.some.inj h
      exact x_sub [2] rfl J
    · replace h := (if_neg c).symm.trans h
      refine r_lload_n (x := a3) dX10_ways_30 rfl ?_
      refine r_iload_n (x := a0) dX10_ways_31 rfl ?_
      refine r_iload_n (x := a2) dX10_ways_32 rfl ?_
      refine r_isub dX10_ways_33 ?_
      refine r_iload (x := a5) dX10_ways_34 rfl ?_
      refine r_iadd dX10_ways_36 ?_
      refine r_i2l dX10_ways_37 ?_
      refine r_lmul dX10_ways_38 ?_
      refine r_iload (x := a5) dX10_ways_39 rfl ?_
      refine r_i2l dX10_ways_41 ?_
      obtain ⟨v2, hv2, h⟩ := xb h
      refine x_ldiv dX10_ways_42 hv2 ?_
      refine r_lstore_n (lv' := [(3, .long v2), (0, .int a0), (2, .int a2), (5, .int a5)]) (x := v2) dX10_ways_43 (by decide) rfl ?_
      obtain ⟨v3, hv3, h⟩ := xb h
      refine x_iinc (c := (1 : Int32)) (lv' := [(5, .int v3), (3, .long v2), (0, .int a0), (2, .int a2)]) (x := a5) (v := v3) dX10_ways_44 rfl (by decide) (Option.some.inj hv3) (by decide) rfl ?_
      refine r_goto (tgt := 24) dX10_ways_47 (by decide) ?_
      exact x_sub [2, 3, 1, 0] rfl (ih st a0 a2 v2 v3 q h J)
theorem R_X10_ways (n : Nat) (st : xS) (a0 : Int32) (a1 : Int32) (rv : Int64) (h : F_X10_ways n st a0 a1 = some rv) : Rn mX10_ways 0 [(0, .int a0), (1, .int a1)] [] st (some (.long rv)) st 1 := by
  unfold F_X10_ways at h
  refine r_iload_n (x := a1) dX10_ways_0 rfl ?_
  refine r_if_lt (tgt := 9) dX10_ways_1 (by decide) (fun c => ?_) (fun c => ?_)
  · replace h := (if_pos c).symm.trans h
    refine r_lconst (v := (0 : Int64)) dX10_ways_9 (by decide) ?_
    obtain rfl := Option.some.inj h
    exact r_lreturn dX10_ways_10 rfl
  · replace h := (if_neg c).symm.trans h
    refine r_iload_n (x := a1) dX10_ways_4 rfl ?_
    refine r_iload_n (x := a0) dX10_ways_5 rfl ?_
    refine r_icmp_le (tgt := 11) dX10_ways_6 (by decide) (fun c => ?_) (fun c => ?_)
    · replace h := (if_pos c).symm.trans h
      refine r_iload_n (x := a1) dX10_ways_11 rfl ?_
      refine r_iload_n (x := a0) dX10_ways_12 rfl ?_
      refine r_iload_n (x := a1) dX10_ways_13 rfl ?_
      refine r_isub dX10_ways_14 ?_
      refine r_mmin dX10_ways_15 xm_X10_381 xm1_min xm2 xm3_min (by decide) (Nat.le_trans xs0 (by decide)) ?_
      obtain ⟨v1, hv1, h⟩ := xb h
      refine x_eqI (Option.some.inj hv1) ?_
      refine r_istore_n (lv' := [(2, .int v1), (0, .int a0), (1, .int a1)]) (x := v1) dX10_ways_18 (by decide) rfl ?_
      refine r_lconst (v := (1 : Int64)) dX10_ways_19 (by decide) ?_
      refine r_lstore_n (lv' := [(3, .long (1 : Int64)), (2, .int v1), (0, .int a0), (1, .int a1)]) (x := (1 : Int64)) dX10_ways_20 (by decide) rfl ?_
      refine r_iconst (v := (1 : Int32)) dX10_ways_21 (by decide) ?_
      refine r_istore (lv' := [(5, .int (1 : Int32)), (3, .long (1 : Int64)), (2, .int v1), (0, .int a0), (1, .int a1)]) (x := (1 : Int32)) dX10_ways_22 (by decide) rfl ?_
      obtain ⟨q4, hq4, h⟩ := xb h
      have Jq4 : Rn mX10_ways 50 [(3, .long q4)] [] st (some (.long rv)) st 1 := by
        refine r_lload_n (x := q4) dX10_ways_50 rfl ?_
        obtain rfl := Option.some.inj h
        exact r_lreturn dX10_ways_51 rfl
      exact x_sub [3, 2, 1, 0] rfl (R_X10_ways_L24 n n st a0 v1 (1 : Int64) (1 : Int32) q4 hq4 Jq4)
    · replace h := (if_neg c).symm.trans h
      refine r_lconst (v := (0 : Int64)) dX10_ways_9 (by decide) ?_
      obtain rfl := Option.some.inj h
      exact r_lreturn dX10_ways_10 rfl
theorem S_X10_ways (n : Nat) (st : xS) (a0 : Int32) (a1 : Int32) (rv : Int64) (h : F_X10_ways n st a0 a1 = some rv) : Ct mX10_ways [.int a0, .int a1] st (some (.long rv)) st 1 := by
  refine Ct.of (by decide) (by simp only [lgL_R, lgL_I, lgL_L, lgL_0]; decide) ?_
  try simp only [lvA_R]
  exact R_X10_ways n st a0 a1 rv h
theorem R_X10_waysWithAtLeast_L6 (n : Nat) {r : Option Value} {st' : xS} : ∀ (k : Nat) (st : xS) (a0 : Int32) (a1 : Int32) (a2 : Int32) (a4 : Int64) (a6 : Int32) (q : (Int64)), F_X10_waysWithAtLeast_L6 n k st a0 a1 a2 a4 a6 = some q → Rn mX10_waysWithAtLeast 40 [(4, .long q)] [] st r st' 2 → Rn mX10_waysWithAtLeast 6 [(0, .int a0), (1, .int a1), (2, .int a2), (4, .long a4), (6, .int a6)] [] st r st' 2 := by
  intro k
  induction k with
  | zero => intro st a0 a1 a2 a4 a6 q h; cases h
  | succ k ih =>
    intro st a0 a1 a2 a4 a6 q h J
    unfold F_X10_waysWithAtLeast_L6 at h
    refine r_iload (x := a6) dX10_waysWithAtLeast_6 rfl ?_
    refine r_iload_n (x := a1) dX10_waysWithAtLeast_8 rfl ?_
    refine r_icmp_gt (tgt := 40) dX10_waysWithAtLeast_9 (by decide) (fun c => ?_) (fun c => ?_)
    · replace h := (if_pos c).symm.trans h
      obtain rfl := Option.some.inj h
      exact x_sub [3] rfl J
    · replace h := (if_neg c).symm.trans h
      refine r_lload (x := a4) dX10_waysWithAtLeast_12 rfl ?_
      refine r_iload_n (x := a1) dX10_waysWithAtLeast_14 rfl ?_
      refine r_iload (x := a6) dX10_waysWithAtLeast_15 rfl ?_
      obtain ⟨v1, hv1, h⟩ := xb h
      refine z_callS (as := [.int a1, .int a6]) (r1 := (some (.long v1))) (stk := [.long a4]) (stk2 := [.long v1, .long a4]) (st1 := st) (d' := 1) dX10_waysWithAtLeast_17 xl_X10_290 (by decide) (Nat.le_trans (xsJ xs0) (by decide)) rfl rfl (S_X10_ways n st a1 a6 v1 hv1) ?_
      refine r_iload_n (x := a0) dX10_waysWithAtLeast_20 rfl ?_
      refine r_iload_n (x := a1) dX10_waysWithAtLeast_21 rfl ?_
      refine r_isub dX10_waysWithAtLeast_22 ?_
      refine r_iload_n (x := a2) dX10_waysWithAtLeast_23 rfl ?_
      refine r_iload (x := a6) dX10_waysWithAtLeast_24 rfl ?_
      refine r_isub dX10_waysWithAtLeast_26 ?_
      obtain ⟨v2, hv2, h⟩ := xb h
      refine z_callS (as := [.int (a0 - a1), .int (a2 - a6)]) (r1 := (some (.long v2))) (stk := [.long v1, .long a4]) (stk2 := [.long v2, .long v1, .long a4]) (st1 := st) (d' := 1) dX10_waysWithAtLeast_27 xl_X10_290 (by decide) (Nat.le_trans (xsJ (xsJ xs0)) (by decide)) rfl rfl (S_X10_ways n st (a0 - a1) (a2 - a6) v2 hv2) ?_
      refine r_lmul dX10_waysWithAtLeast_30 ?_
      refine r_ladd dX10_waysWithAtLeast_31 ?_
      obtain ⟨v3, hv3, h⟩ := xb h
      refine x_eqL (Option.some.inj hv3) ?_
      refine r_lstore (lv' := [(4, .long v3), (0, .int a0), (1, .int a1), (2, .int a2), (6, .int a6)]) (x := v3) dX10_waysWithAtLeast_32 (by decide) rfl ?_
      obtain ⟨v4, hv4, h⟩ := xb h
      refine x_iinc (c := (1 : Int32)) (lv' := [(6, .int v4), (4, .long v3), (0, .int a0), (1, .int a1), (2, .int a2)]) (x := a6) (v := v4) dX10_waysWithAtLeast_34 rfl (by decide) (Option.some.inj hv4) (by decide) rfl ?_
      refine r_goto (tgt := 6) dX10_waysWithAtLeast_37 (by decide) ?_
      exact x_sub [2, 3, 4, 1, 0] rfl (ih st a0 a1 a2 v3 v4 q h J)
theorem R_X10_waysWithAtLeast (n : Nat) (st : xS) (a0 : Int32) (a1 : Int32) (a2 : Int32) (a3 : Int32) (rv : Int64) (h : F_X10_waysWithAtLeast n st a0 a1 a2 a3 = some rv) : Rn mX10_waysWithAtLeast 0 [(0, .int a0), (1, .int a1), (2, .int a2), (3, .int a3)] [] st (some (.long rv)) st 2 := by
  unfold F_X10_waysWithAtLeast at h
  refine r_lconst (v := (0 : Int64)) dX10_waysWithAtLeast_0 (by decide) ?_
  refine r_lstore (lv' := [(4, .long (0 : Int64)), (0, .int a0), (1, .int a1), (2, .int a2), (3, .int a3)]) (x := (0 : Int64)) dX10_waysWithAtLeast_1 (by decide) rfl ?_
  refine r_iload_n (x := a3) dX10_waysWithAtLeast_3 rfl ?_
  refine r_istore (lv' := [(6, .int a3), (4, .long (0 : Int64)), (0, .int a0), (1, .int a1), (2, .int a2), (3, .int a3)]) (x := a3) dX10_waysWithAtLeast_4 (by decide) rfl ?_
  obtain ⟨q5, hq5, h⟩ := xb h
  have Jq5 : Rn mX10_waysWithAtLeast 40 [(4, .long q5)] [] st (some (.long rv)) st 2 := by
    refine r_lload (x := q5) dX10_waysWithAtLeast_40 rfl ?_
    obtain rfl := Option.some.inj h
    exact r_lreturn dX10_waysWithAtLeast_42 rfl
  exact x_sub [2, 3, 4, 1, 0] rfl (R_X10_waysWithAtLeast_L6 n n st a0 a1 a2 (0 : Int64) a3 q5 hq5 Jq5)
theorem S_X10_waysWithAtLeast (n : Nat) (st : xS) (a0 : Int32) (a1 : Int32) (a2 : Int32) (a3 : Int32) (rv : Int64) (h : F_X10_waysWithAtLeast n st a0 a1 a2 a3 = some rv) : Ct mX10_waysWithAtLeast [.int a0, .int a1, .int a2, .int a3] st (some (.long rv)) st 2 := by
  refine Ct.of (by decide) (by simp only [lgL_R, lgL_I, lgL_L, lgL_0]; decide) ?_
  try simp only [lvA_R]
  exact R_X10_waysWithAtLeast n st a0 a1 a2 a3 rv h
theorem R_X10_odds_L42 (n : Nat) {r : Option Value} {st' : xS} : ∀ (k : Nat) (st : xS) (a0 : Option Nat) (a3 : Int32) (a4 : Int32) (a5 : Int32) (a6 : Int32) (a7 : Int32) (a8 : Int32) (a9 : Int32) (q : (Int32 × Int32 × Int32)), F_X10_odds_L42 n k st a0 a3 a4 a5 a6 a7 a8 a9 = some q → Rn mX10_odds 100 [(4, .int a4), (5, .int a5), (6, .int q.1), (7, .int q.2.1), (8, .int q.2.2)] [] st r st' 4 → Rn mX10_odds 42 [(0, va_rf a0), (3, .int a3), (4, .int a4), (5, .int a5), (6, .int a6), (7, .int a7), (8, .int a8), (9, .int a9)] [] st r st' 4 := by
  intro k
  induction k with
  | zero => intro st a0 a3 a4 a5 a6 a7 a8 a9 q h; cases h
  | succ k ih =>
    intro st a0 a3 a4 a5 a6 a7 a8 a9 q h J
    unfold F_X10_odds_L42 at h
    refine r_iload (x := a9) dX10_odds_42 rfl ?_
    refine r_iload (x := a5) dX10_odds_44 rfl ?_
    refine r_icmp_ge (tgt := 100) dX10_odds_46 (by decide) (fun c => ?_) (fun c => ?_)
    · replace h := (if_pos c).symm.trans h
      obtain rfl := Option.some.inj h
      exact x_sub [2, 3, 4, 5, 6] rfl J
    · replace h := (if_neg c).symm.trans h
      refine x_aload_n (o := a0) dX10_odds_49 rfl ?_
      refine r_iload (x := a9) dX10_odds_50 rfl ?_
      obtain ⟨q5, hq5, h⟩ := xb h
      obtain ⟨v4, hv4, h⟩ := xb h
      refine z_callV (as := [.int a9]) (o := a0) (r1 := (some (.int v4))) (stk := []) (stk2 := [.int v4]) (st1 := st) (d' := 3) dX10_odds_52 xl_X10_225 hq5 (by decide) (Nat.le_trans xs0 (by decide)) rfl rfl (S_X10_margin n st a0 a9 v4 hv4) ?_
      obtain ⟨q6, hq6, h⟩ := xb h
      have Jq6 : Rn mX10_odds 63 [(0, va_rf a0), (3, .int a3), (4, .int a4), (5, .int a5), (6, .int a6), (7, .int a7), (8, .int a8), (9, .int a9)] [.int q6] st r st' 4 := by
        refine r_istore (lv' := [(10, .int q6), (0, va_rf a0), (3, .int a3), (4, .int a4), (5, .int a5), (6, .int a6), (7, .int a7), (8, .int a8), (9, .int a9)]) (x := q6) dX10_odds_63 (by decide) rfl ?_
        refine r_iload (x := a6) dX10_odds_65 rfl ?_
        refine r_iload (x := q6) dX10_odds_67 rfl ?_
        refine r_iadd dX10_odds_69 ?_
        obtain ⟨v7, hv7, h⟩ := xb h
        refine x_eqI (Option.some.inj hv7) ?_
        refine r_istore (lv' := [(6, .int v7), (10, .int q6), (0, va_rf a0), (3, .int a3), (4, .int a4), (5, .int a5), (7, .int a7), (8, .int a8), (9, .int a9)]) (x := v7) dX10_odds_70 (by decide) rfl ?_
        refine x_aload_n (o := a0) dX10_odds_72 rfl ?_
        refine r_iload (x := a9) dX10_odds_73 rfl ?_
        refine r_bipush (v := (8 : Int32)) dX10_odds_75 (by decide) ?_
        obtain ⟨q9, hq9, h⟩ := xb h
        obtain ⟨v8, hv8, h⟩ := xb h
        refine z_callV (as := [.int a9, .int (8 : Int32)]) (o := a0) (r1 := (some (.int v8))) (stk := []) (stk2 := [.int v8]) (st1 := st) (d' := 2) dX10_odds_77 xl_X10_228 hq9 (by decide) (Nat.le_trans xs0 (by decide)) rfl rfl (S_X10_pickedOf n st a0 a9 (8 : Int32) v8 hv8) ?_
        refine r_iload_n (x := a3) dX10_odds_80 rfl ?_
        obtain ⟨q12, hq12, h⟩ := xb h
        have Jq12 : Rn mX10_odds 94 [(0, va_rf a0), (3, .int a3), (4, .int a4), (5, .int a5), (6, .int v7), (7, .int q12.1), (8, .int q12.2), (9, .int a9)] [] st r st' 4 := by
          obtain ⟨v13, hv13, h⟩ := xb h
          refine x_iinc (c := (1 : Int32)) (lv' := [(9, .int v13), (0, va_rf a0), (3, .int a3), (4, .int a4), (5, .int a5), (6, .int v7), (7, .int q12.1), (8, .int q12.2)]) (x := a9) (v := v13) dX10_odds_94 rfl (by decide) (Option.some.inj hv13) (by decide) rfl ?_
          refine r_goto (tgt := 42) dX10_odds_97 (by decide) ?_
          exact x_sub [1, 2, 3, 4, 5, 6, 7, 0] rfl (ih st a0 a3 a4 a5 v7 q12.1 q12.2 v13 q h J)
        refine r_icmp_lt (tgt := 94) dX10_odds_81 (by decide) (fun c => ?_) (fun c => ?_)
        · replace hq12 := (if_pos c).symm.trans hq12
          obtain rfl := Option.some.inj hq12
          exact x_sub [2, 3, 4, 5, 0, 6, 7, 8] rfl Jq12
        · replace hq12 := (if_neg c).symm.trans hq12
          obtain ⟨v10, hv10, hq12⟩ := xb hq12
          refine x_iinc (c := (1 : Int32)) (lv' := [(7, .int v10), (6, .int v7), (10, .int q6), (0, va_rf a0), (3, .int a3), (4, .int a4), (5, .int a5), (8, .int a8), (9, .int a9)]) (x := a7) (v := v10) dX10_odds_84 rfl (by decide) (Option.some.inj hv10) (by decide) rfl ?_
          refine r_iload (x := a8) dX10_odds_87 rfl ?_
          refine r_iload (x := q6) dX10_odds_89 rfl ?_
          refine r_iadd dX10_odds_91 ?_
          obtain ⟨v11, hv11, hq12⟩ := xb hq12
          refine x_eqI (Option.some.inj hv11) ?_
          refine r_istore (lv' := [(8, .int v11), (7, .int v10), (6, .int v7), (10, .int q6), (0, va_rf a0), (3, .int a3), (4, .int a4), (5, .int a5), (9, .int a9)]) (x := v11) dX10_odds_92 (by decide) rfl ?_
          obtain rfl := Option.some.inj hq12
          exact x_sub [4, 5, 6, 7, 2, 1, 0, 8] rfl Jq12
      refine r_if_le (tgt := 62) dX10_odds_55 (by decide) (fun c => ?_) (fun c => ?_)
      · replace hq6 := (if_pos c).symm.trans hq6
        refine r_iconst (v := (0 : Int32)) dX10_odds_62 (by decide) ?_
        obtain rfl := Option.some.inj hq6
        exact x_sub [0, 1, 2, 3, 4, 5, 6, 7] rfl Jq6
      · replace hq6 := (if_neg c).symm.trans hq6
        refine r_iconst (v := (1 : Int32)) dX10_odds_58 (by decide) ?_
        refine r_goto (tgt := 63) dX10_odds_59 (by decide) ?_
        obtain rfl := Option.some.inj hq6
        exact x_sub [0, 1, 2, 3, 4, 5, 6, 7] rfl Jq6
theorem R_X10_odds (n : Nat) (st : xS) (a0 : Option Nat) (a1 : Int32) (a2 : Int32) (a3 : Int32) (a4 : Int32) (rv : Int64) (st' : xS) (h : F_X10_odds n st a0 a1 a2 a3 a4 = some (rv, st')) : Rn mX10_odds 0 [(0, va_rf a0), (1, .int a1), (2, .int a2), (3, .int a3), (4, .int a4)] [] st (some (.long rv)) st' 4 := by
  unfold F_X10_odds at h
  refine x_aload_n (o := a0) dX10_odds_0 rfl ?_
  refine r_iload_n (x := a1) dX10_odds_1 rfl ?_
  refine r_iload_n (x := a2) dX10_odds_2 rfl ?_
  obtain ⟨q2, hq2, h⟩ := xb h
  obtain ⟨p1, hp1, h⟩ := xb h
  refine z_callV (as := [.int a1, .int a2]) (o := a0) (r1 := (some (.int p1.1))) (stk := []) (stk2 := [.int p1.1]) (st1 := p1.2) (d' := 2) dX10_odds_3 xl_X10_219 hq2 (by decide) (Nat.le_trans xs0 (by decide)) rfl rfl (S_X10_pick n st a0 a1 a2 p1.1 p1.2 hp1) ?_
  refine r_istore (lv' := [(5, .int p1.1), (0, va_rf a0), (1, .int a1), (2, .int a2), (3, .int a3), (4, .int a4)]) (x := p1.1) dX10_odds_6 (by decide) rfl ?_
  refine r_iload (x := p1.1) dX10_odds_8 rfl ?_
  refine r_bipush (v := (60 : Int32)) dX10_odds_10 (by decide) ?_
  refine r_icmp_gt (tgt := 26) dX10_odds_12 (by decide) (fun c => ?_) (fun c => ?_)
  · replace h := (if_pos c).symm.trans h
    refine r_ldc2 (v := (-1 : Int64)) dX10_odds_26 xk_X10_173 ?_
    obtain ⟨rfl, rfl⟩ := Prod.mk.inj (Option.some.inj h)
    exact r_lreturn dX10_odds_29 rfl
  · replace h := (if_neg c).symm.trans h
    refine r_iload_n (x := a3) dX10_odds_15 rfl ?_
    refine r_iconst (v := (0 : Int32)) dX10_odds_16 (by decide) ?_
    refine r_sipush (v := (1000 : Int32)) dX10_odds_17 (by decide) ?_
    obtain ⟨v3, hv3, h⟩ := xb h
    refine z_callS (as := [.int a3, .int (0 : Int32), .int (1000 : Int32)]) (r1 := (some (.int v3))) (stk := []) (stk2 := [.int v3]) (st1 := p1.2) (d' := 0) dX10_odds_20 xl_X10_209 (by decide) (Nat.le_trans xs0 (by decide)) rfl rfl (S_X10_within n p1.2 a3 (0 : Int32) (1000 : Int32) v3 hv3) ?_
    refine r_if_ne (tgt := 30) dX10_odds_23 (by decide) (fun c => ?_) (fun c => ?_)
    · replace h := (if_neg c).symm.trans h
      refine r_iconst (v := (0 : Int32)) dX10_odds_30 (by decide) ?_
      refine r_istore (lv' := [(6, .int (0 : Int32)), (5, .int p1.1), (0, va_rf a0), (1, .int a1), (2, .int a2), (3, .int a3), (4, .int a4)]) (x := (0 : Int32)) dX10_odds_31 (by decide) rfl ?_
      refine r_iconst (v := (0 : Int32)) dX10_odds_33 (by decide) ?_
      refine r_istore (lv' := [(7, .int (0 : Int32)), (6, .int (0 : Int32)), (5, .int p1.1), (0, va_rf a0), (1, .int a1), (2, .int a2), (3, .int a3), (4, .int a4)]) (x := (0 : Int32)) dX10_odds_34 (by decide) rfl ?_
      refine r_iconst (v := (0 : Int32)) dX10_odds_36 (by decide) ?_
      refine r_istore (lv' := [(8, .int (0 : Int32)), (7, .int (0 : Int32)), (6, .int (0 : Int32)), (5, .int p1.1), (0, va_rf a0), (1, .int a1), (2, .int a2), (3, .int a3), (4, .int a4)]) (x := (0 : Int32)) dX10_odds_37 (by decide) rfl ?_
      refine r_iconst (v := (0 : Int32)) dX10_odds_39 (by decide) ?_
      refine r_istore (lv' := [(9, .int (0 : Int32)), (8, .int (0 : Int32)), (7, .int (0 : Int32)), (6, .int (0 : Int32)), (5, .int p1.1), (0, va_rf a0), (1, .int a1), (2, .int a2), (3, .int a3), (4, .int a4)]) (x := (0 : Int32)) dX10_odds_40 (by decide) rfl ?_
      obtain ⟨q14, hq14, h⟩ := xb h
      have Jq14 : Rn mX10_odds 100 [(4, .int a4), (5, .int p1.1), (6, .int q14.1), (7, .int q14.2.1), (8, .int q14.2.2)] [] p1.2 (some (.long rv)) st' 4 := by
        refine r_iload (x := a4) dX10_odds_100 rfl ?_
        obtain ⟨q17, hq17, h⟩ := xb h
        have Jq17 : Rn mX10_odds 126 [] [.long q17] p1.2 (some (.long rv)) st' 4 := by
          obtain ⟨rfl, rfl⟩ := Prod.mk.inj (Option.some.inj h)
          exact r_lreturn dX10_odds_126 rfl
        refine r_if_eq (tgt := 115) dX10_odds_102 (by decide) (fun c => ?_) (fun c => ?_)
        · replace hq17 := (if_pos c).symm.trans hq17
          refine r_iload (x := p1.1) dX10_odds_115 rfl ?_
          refine r_iload (x := q14.1) dX10_odds_117 rfl ?_
          refine r_iload (x := q14.2.1) dX10_odds_119 rfl ?_
          refine r_iload (x := q14.2.2) dX10_odds_121 rfl ?_
          obtain ⟨v15, hv15, hq17⟩ := xb hq17
          refine z_callS (as := [.int p1.1, .int q14.1, .int q14.2.1, .int q14.2.2]) (r1 := (some (.long v15))) (stk := []) (stk2 := [.long v15]) (st1 := p1.2) (d' := 2) dX10_odds_123 xl_X10_294 (by decide) (Nat.le_trans xs0 (by decide)) rfl rfl (S_X10_waysWithAtLeast n p1.2 p1.1 q14.1 q14.2.1 q14.2.2 v15 hv15) ?_
          obtain rfl := Option.some.inj hq17
          exact x_sub [] rfl Jq17
        · replace hq17 := (if_neg c).symm.trans hq17
          refine r_iload (x := p1.1) dX10_odds_105 rfl ?_
          refine r_iload (x := q14.2.1) dX10_odds_107 rfl ?_
          obtain ⟨v16, hv16, hq17⟩ := xb hq17
          refine z_callS (as := [.int p1.1, .int q14.2.1]) (r1 := (some (.long v16))) (stk := []) (stk2 := [.long v16]) (st1 := p1.2) (d' := 1) dX10_odds_109 xl_X10_290 (by decide) (Nat.le_trans xs0 (by decide)) rfl rfl (S_X10_ways n p1.2 p1.1 q14.2.1 v16 hv16) ?_
          refine r_goto (tgt := 126) dX10_odds_112 (by decide) ?_
          obtain rfl := Option.some.inj hq17
          exact x_sub [] rfl Jq17
      exact x_sub [5, 8, 9, 4, 3, 2, 1, 0] rfl (R_X10_odds_L42 n n p1.2 a0 a3 a4 p1.1 (0 : Int32) (0 : Int32) (0 : Int32) (0 : Int32) q14 hq14 Jq14)
    · replace h := (if_pos c).symm.trans h
      refine r_ldc2 (v := (-1 : Int64)) dX10_odds_26 xk_X10_173 ?_
      obtain ⟨rfl, rfl⟩ := Prod.mk.inj (Option.some.inj h)
      exact r_lreturn dX10_odds_29 rfl
theorem S_X10_odds (n : Nat) (st : xS) (a0 : Option Nat) (a1 : Int32) (a2 : Int32) (a3 : Int32) (a4 : Int32) (rv : Int64) (st' : xS) (h : F_X10_odds n st a0 a1 a2 a3 a4 = some (rv, st')) : Ct mX10_odds [va_rf a0, .int a1, .int a2, .int a3, .int a4] st (some (.long rv)) st' 4 := by
  refine Ct.of (by decide) (by simp only [lgL_R, lgL_I, lgL_L, lgL_0]; decide) ?_
  try simp only [lvA_R]
  exact R_X10_odds n st a0 a1 a2 a3 a4 rv st' h
theorem R_X10_carded_L17 (n : Nat) {r : Option Value} {st' : xS} : ∀ (k : Nat) (st : xS) (a0 : Option Nat) (a3 : Int32) (a4 : Int32) (a5 : Int32) (a6 : Int32) (a7 : Int32) (q : (Int32 × Int32)), F_X10_carded_L17 n k st a0 a3 a4 a5 a6 a7 = some q → Rn mX10_carded 66 [(5, .int q.1), (6, .int q.2)] [] st r st' 3 → Rn mX10_carded 17 [(0, va_rf a0), (3, .int a3), (4, .int a4), (5, .int a5), (6, .int a6), (7, .int a7)] [] st r st' 3 := by
  intro k
  induction k with
  | zero => intro st a0 a3 a4 a5 a6 a7 q h; cases h
  | succ k ih =>
    intro st a0 a3 a4 a5 a6 a7 q h J
    unfold F_X10_carded_L17 at h
    refine r_iload (x := a7) dX10_carded_17 rfl ?_
    refine r_iload (x := a4) dX10_carded_19 rfl ?_
    refine r_icmp_ge (tgt := 66) dX10_carded_21 (by decide) (fun c => ?_) (fun c => ?_)
    · replace h := (if_pos c).symm.trans h
      obtain rfl := Option.some.inj h
      exact x_sub [3, 4] rfl J
    · replace h := (if_neg c).symm.trans h
      refine x_aload_n (o := a0) dX10_carded_24 rfl ?_
      refine r_iload (x := a7) dX10_carded_25 rfl ?_
      refine r_bipush (v := (9 : Int32)) dX10_carded_27 (by decide) ?_
      obtain ⟨q4, hq4, h⟩ := xb h
      obtain ⟨v3, hv3, h⟩ := xb h
      refine z_callV (as := [.int a7, .int (9 : Int32)]) (o := a0) (r1 := (some (.int v3))) (stk := []) (stk2 := [.int v3]) (st1 := st) (d' := 2) dX10_carded_29 xl_X10_228 hq4 (by decide) (Nat.le_trans xs0 (by decide)) rfl rfl (S_X10_pickedOf n st a0 a7 (9 : Int32) v3 hv3) ?_
      refine r_iload_n (x := a3) dX10_carded_32 rfl ?_
      obtain ⟨q11, hq11, h⟩ := xb h
      have Jq11 : Rn mX10_carded 60 [(0, va_rf a0), (3, .int a3), (4, .int a4), (5, .int q11.1), (6, .int q11.2), (7, .int a7)] [] st r st' 3 := by
        obtain ⟨v12, hv12, h⟩ := xb h
        refine x_iinc (c := (1 : Int32)) (lv' := [(7, .int v12), (0, va_rf a0), (3, .int a3), (4, .int a4), (5, .int q11.1), (6, .int q11.2)]) (x := a7) (v := v12) dX10_carded_60 rfl (by decide) (Option.some.inj hv12) (by decide) rfl ?_
        refine r_goto (tgt := 17) dX10_carded_63 (by decide) ?_
        exact x_sub [1, 2, 3, 4, 5, 0] rfl (ih st a0 a3 a4 q11.1 q11.2 v12 q h J)
      refine r_icmp_ne (tgt := 60) dX10_carded_33 (by decide) (fun c => ?_) (fun c => ?_)
      · replace hq11 := (if_neg c).symm.trans hq11
        obtain rfl := Option.some.inj hq11
        exact x_sub [0, 1, 2, 3, 4, 5] rfl Jq11
      · replace hq11 := (if_pos c).symm.trans hq11
        obtain ⟨v5, hv5, hq11⟩ := xb hq11
        refine x_iinc (c := (1 : Int32)) (lv' := [(5, .int v5), (0, va_rf a0), (3, .int a3), (4, .int a4), (6, .int a6), (7, .int a7)]) (x := a5) (v := v5) dX10_carded_36 rfl (by decide) (Option.some.inj hv5) (by decide) rfl ?_
        refine r_iload (x := a6) dX10_carded_39 rfl ?_
        refine x_aload_n (o := a0) dX10_carded_41 rfl ?_
        refine r_iload (x := a7) dX10_carded_42 rfl ?_
        refine r_bipush (v := (6 : Int32)) dX10_carded_44 (by decide) ?_
        obtain ⟨q7, hq7, hq11⟩ := xb hq11
        obtain ⟨v6, hv6, hq11⟩ := xb hq11
        refine z_callV (as := [.int a7, .int (6 : Int32)]) (o := a0) (r1 := (some (.int v6))) (stk := [.int a6]) (stk2 := [.int v6, .int a6]) (st1 := st) (d' := 2) dX10_carded_46 xl_X10_228 hq7 (by decide) (Nat.le_trans (xsI xs0) (by decide)) rfl rfl (S_X10_pickedOf n st a0 a7 (6 : Int32) v6 hv6) ?_
        refine x_aload_n (o := a0) dX10_carded_49 rfl ?_
        refine r_iload (x := a7) dX10_carded_50 rfl ?_
        refine r_iconst (v := (5 : Int32)) dX10_carded_52 (by decide) ?_
        obtain ⟨q9, hq9, hq11⟩ := xb hq11
        obtain ⟨v8, hv8, hq11⟩ := xb hq11
        refine z_callV (as := [.int a7, .int (5 : Int32)]) (o := a0) (r1 := (some (.int v8))) (stk := [.int v6, .int a6]) (stk2 := [.int v8, .int v6, .int a6]) (st1 := st) (d' := 2) dX10_carded_53 xl_X10_228 hq9 (by decide) (Nat.le_trans (xsI (xsI xs0)) (by decide)) rfl rfl (S_X10_pickedOf n st a0 a7 (5 : Int32) v8 hv8) ?_
        refine r_isub dX10_carded_56 ?_
        refine r_iadd dX10_carded_57 ?_
        obtain ⟨v10, hv10, hq11⟩ := xb hq11
        refine x_eqI (Option.some.inj hv10) ?_
        refine r_istore (lv' := [(6, .int v10), (5, .int v5), (0, va_rf a0), (3, .int a3), (4, .int a4), (7, .int a7)]) (x := v10) dX10_carded_58 (by decide) rfl ?_
        obtain rfl := Option.some.inj hq11
        exact x_sub [2, 3, 4, 1, 0, 5] rfl Jq11
theorem R_X10_carded (n : Nat) (st : xS) (a0 : Option Nat) (a1 : Int32) (a2 : Int32) (a3 : Int32) (rv : Int32) (st' : xS) (h : F_X10_carded n st a0 a1 a2 a3 = some (rv, st')) : Rn mX10_carded 0 [(0, va_rf a0), (1, .int a1), (2, .int a2), (3, .int a3)] [] st (some (.int rv)) st' 3 := by
  unfold F_X10_carded at h
  refine x_aload_n (o := a0) dX10_carded_0 rfl ?_
  refine r_iload_n (x := a1) dX10_carded_1 rfl ?_
  refine r_iload_n (x := a2) dX10_carded_2 rfl ?_
  obtain ⟨q2, hq2, h⟩ := xb h
  obtain ⟨p1, hp1, h⟩ := xb h
  refine z_callV (as := [.int a1, .int a2]) (o := a0) (r1 := (some (.int p1.1))) (stk := []) (stk2 := [.int p1.1]) (st1 := p1.2) (d' := 2) dX10_carded_3 xl_X10_219 hq2 (by decide) (Nat.le_trans xs0 (by decide)) rfl rfl (S_X10_pick n st a0 a1 a2 p1.1 p1.2 hp1) ?_
  refine r_istore (lv' := [(4, .int p1.1), (0, va_rf a0), (1, .int a1), (2, .int a2), (3, .int a3)]) (x := p1.1) dX10_carded_6 (by decide) rfl ?_
  refine r_iconst (v := (0 : Int32)) dX10_carded_8 (by decide) ?_
  refine r_istore (lv' := [(5, .int (0 : Int32)), (4, .int p1.1), (0, va_rf a0), (1, .int a1), (2, .int a2), (3, .int a3)]) (x := (0 : Int32)) dX10_carded_9 (by decide) rfl ?_
  refine r_iconst (v := (0 : Int32)) dX10_carded_11 (by decide) ?_
  refine r_istore (lv' := [(6, .int (0 : Int32)), (5, .int (0 : Int32)), (4, .int p1.1), (0, va_rf a0), (1, .int a1), (2, .int a2), (3, .int a3)]) (x := (0 : Int32)) dX10_carded_12 (by decide) rfl ?_
  refine r_iconst (v := (0 : Int32)) dX10_carded_14 (by decide) ?_
  refine r_istore (lv' := [(7, .int (0 : Int32)), (6, .int (0 : Int32)), (5, .int (0 : Int32)), (4, .int p1.1), (0, va_rf a0), (1, .int a1), (2, .int a2), (3, .int a3)]) (x := (0 : Int32)) dX10_carded_15 (by decide) rfl ?_
  obtain ⟨q13, hq13, h⟩ := xb h
  have Jq13 : Rn mX10_carded 66 [(5, .int q13.1), (6, .int q13.2)] [] p1.2 (some (.int rv)) st' 3 := by
    refine r_iload (x := q13.1) dX10_carded_66 rfl ?_
    obtain ⟨q14, hq14, h⟩ := xb h
    have Jq14 : Rn mX10_carded 78 [] [.int q14] p1.2 (some (.int rv)) st' 3 := by
      obtain ⟨rfl, rfl⟩ := Prod.mk.inj (Option.some.inj h)
      exact r_ireturn dX10_carded_78 .int rfl rfl
    refine r_if_ne (tgt := 76) dX10_carded_68 (by decide) (fun c => ?_) (fun c => ?_)
    · replace hq14 := (if_neg c).symm.trans hq14
      refine r_iload (x := q13.2) dX10_carded_76 rfl ?_
      obtain rfl := Option.some.inj hq14
      exact x_sub [] rfl Jq14
    · replace hq14 := (if_pos c).symm.trans hq14
      refine r_ldc (v := (-1000000 : Int32)) dX10_carded_71 xk_X10_247 ?_
      refine r_goto (tgt := 78) dX10_carded_73 (by decide) ?_
      obtain rfl := Option.some.inj hq14
      exact x_sub [] rfl Jq14
  exact x_sub [4, 7, 3, 2, 1, 0] rfl (R_X10_carded_L17 n n p1.2 a0 a3 p1.1 (0 : Int32) (0 : Int32) (0 : Int32) q13 hq13 Jq13)
theorem S_X10_carded (n : Nat) (st : xS) (a0 : Option Nat) (a1 : Int32) (a2 : Int32) (a3 : Int32) (rv : Int32) (st' : xS) (h : F_X10_carded n st a0 a1 a2 a3 = some (rv, st')) : Ct mX10_carded [va_rf a0, .int a1, .int a2, .int a3] st (some (.int rv)) st' 3 := by
  refine Ct.of (by decide) (by simp only [lgL_R, lgL_I, lgL_L, lgL_0]; decide) ?_
  try simp only [lvA_R]
  exact R_X10_carded n st a0 a1 a2 a3 rv st' h
theorem R_X10_longer_L23 (n : Nat) {r : Option Value} {st' : xS} : ∀ (k : Nat) (st : xS) (a0 : Option Nat) (a3 : Int32) (a4 : Int32) (a5 : Int32) (a6 : Int32) (a7 : Int32) (a8 : Int32) (a9 : Int32) (a10 : Int32) (q : (Int32 × Int32 × Int32 × Int32)), F_X10_longer_L23 n k st a0 a3 a4 a5 a6 a7 a8 a9 a10 = some q → Rn mX10_longer 106 [(4, .int a4), (6, .int q.1), (7, .int q.2.1), (8, .int q.2.2.1), (9, .int q.2.2.2)] [] st r st' 4 → Rn mX10_longer 23 [(0, va_rf a0), (3, .int a3), (4, .int a4), (5, .int a5), (6, .int a6), (7, .int a7), (8, .int a8), (9, .int a9), (10, .int a10)] [] st r st' 4 := by
  intro k
  induction k with
  | zero => intro st a0 a3 a4 a5 a6 a7 a8 a9 a10 q h; cases h
  | succ k ih =>
    intro st a0 a3 a4 a5 a6 a7 a8 a9 a10 q h J
    unfold F_X10_longer_L23 at h
    refine r_iload (x := a10) dX10_longer_23 rfl ?_
    refine r_iload (x := a5) dX10_longer_25 rfl ?_
    refine r_icmp_ge (tgt := 106) dX10_longer_27 (by decide) (fun c => ?_) (fun c => ?_)
    · replace h := (if_pos c).symm.trans h
      obtain rfl := Option.some.inj h
      exact x_sub [2, 4, 5, 6, 7] rfl J
    · replace h := (if_neg c).symm.trans h
      refine x_aload_n (o := a0) dX10_longer_30 rfl ?_
      refine r_iload (x := a10) dX10_longer_31 rfl ?_
      refine r_bipush (v := (9 : Int32)) dX10_longer_33 (by decide) ?_
      obtain ⟨q4, hq4, h⟩ := xb h
      obtain ⟨v3, hv3, h⟩ := xb h
      refine z_callV (as := [.int a10, .int (9 : Int32)]) (o := a0) (r1 := (some (.int v3))) (stk := []) (stk2 := [.int v3]) (st1 := st) (d' := 2) dX10_longer_35 xl_X10_228 hq4 (by decide) (Nat.le_trans xs0 (by decide)) rfl rfl (S_X10_pickedOf n st a0 a10 (9 : Int32) v3 hv3) ?_
      refine r_iload_n (x := a3) dX10_longer_38 rfl ?_
      obtain ⟨q17, hq17, h⟩ := xb h
      have Jq17 : Rn mX10_longer 100 [(0, va_rf a0), (3, .int a3), (4, .int a4), (5, .int a5), (6, .int q17.1), (7, .int q17.2.1), (8, .int q17.2.2.1), (9, .int q17.2.2.2), (10, .int a10)] [] st r st' 4 := by
        obtain ⟨v18, hv18, h⟩ := xb h
        refine x_iinc (c := (1 : Int32)) (lv' := [(10, .int v18), (0, va_rf a0), (3, .int a3), (4, .int a4), (5, .int a5), (6, .int q17.1), (7, .int q17.2.1), (8, .int q17.2.2.1), (9, .int q17.2.2.2)]) (x := a10) (v := v18) dX10_longer_100 rfl (by decide) (Option.some.inj hv18) (by decide) rfl ?_
        refine r_goto (tgt := 23) dX10_longer_103 (by decide) ?_
        exact x_sub [1, 2, 3, 4, 5, 6, 7, 8, 0] rfl (ih st a0 a3 a4 a5 q17.1 q17.2.1 q17.2.2.1 q17.2.2.2 v18 q h J)
      refine r_icmp_eq (tgt := 45) dX10_longer_39 (by decide) (fun c => ?_) (fun c => ?_)
      · replace hq17 := (if_pos c).symm.trans hq17
        refine x_aload_n (o := a0) dX10_longer_45 rfl ?_
        refine r_iload (x := a10) dX10_longer_46 rfl ?_
        obtain ⟨q6, hq6, hq17⟩ := xb hq17
        obtain ⟨v5, hv5, hq17⟩ := xb hq17
        refine z_callV (as := [.int a10]) (o := a0) (r1 := (some (.int v5))) (stk := []) (stk2 := [.int v5]) (st1 := st) (d' := 3) dX10_longer_48 xl_X10_225 hq6 (by decide) (Nat.le_trans xs0 (by decide)) rfl rfl (S_X10_margin n st a0 a10 v5 hv5) ?_
        refine r_iconst (v := (-1 : Int32)) dX10_longer_51 (by decide) ?_
        refine r_icmp_ne (tgt := 74) dX10_longer_52 (by decide) (fun c => ?_) (fun c => ?_)
        · replace hq17 := (if_neg c).symm.trans hq17
          refine x_aload_n (o := a0) dX10_longer_74 rfl ?_
          refine r_iload (x := a10) dX10_longer_75 rfl ?_
          obtain ⟨q12, hq12, hq17⟩ := xb hq17
          obtain ⟨v11, hv11, hq17⟩ := xb hq17
          refine z_callV (as := [.int a10]) (o := a0) (r1 := (some (.int v11))) (stk := []) (stk2 := [.int v11]) (st1 := st) (d' := 3) dX10_longer_77 xl_X10_225 hq12 (by decide) (Nat.le_trans xs0 (by decide)) rfl rfl (S_X10_margin n st a0 a10 v11 hv11) ?_
          refine r_iconst (v := (1 : Int32)) dX10_longer_80 (by decide) ?_
          refine r_icmp_ne (tgt := 100) dX10_longer_81 (by decide) (fun c => ?_) (fun c => ?_)
          · replace hq17 := (if_neg c).symm.trans hq17
            obtain rfl := Option.some.inj hq17
            exact x_sub [0, 1, 2, 3, 4, 5, 6, 7, 8] rfl Jq17
          · replace hq17 := (if_pos c).symm.trans hq17
            obtain ⟨v13, hv13, hq17⟩ := xb hq17
            refine x_iinc (c := (1 : Int32)) (lv' := [(8, .int v13), (0, va_rf a0), (3, .int a3), (4, .int a4), (5, .int a5), (6, .int a6), (7, .int a7), (9, .int a9), (10, .int a10)]) (x := a8) (v := v13) dX10_longer_84 rfl (by decide) (Option.some.inj hv13) (by decide) rfl ?_
            refine r_iload (x := a9) dX10_longer_87 rfl ?_
            refine x_aload_n (o := a0) dX10_longer_89 rfl ?_
            refine r_iload (x := a10) dX10_longer_90 rfl ?_
            refine r_bipush (v := (7 : Int32)) dX10_longer_92 (by decide) ?_
            obtain ⟨q15, hq15, hq17⟩ := xb hq17
            obtain ⟨v14, hv14, hq17⟩ := xb hq17
            refine z_callV (as := [.int a10, .int (7 : Int32)]) (o := a0) (r1 := (some (.int v14))) (stk := [.int a9]) (stk2 := [.int v14, .int a9]) (st1 := st) (d' := 2) dX10_longer_94 xl_X10_228 hq15 (by decide) (Nat.le_trans (xsI xs0) (by decide)) rfl rfl (S_X10_pickedOf n st a0 a10 (7 : Int32) v14 hv14) ?_
            refine r_iadd dX10_longer_97 ?_
            obtain ⟨v16, hv16, hq17⟩ := xb hq17
            refine x_eqI (Option.some.inj hv16) ?_
            refine r_istore (lv' := [(9, .int v16), (8, .int v13), (0, va_rf a0), (3, .int a3), (4, .int a4), (5, .int a5), (6, .int a6), (7, .int a7), (10, .int a10)]) (x := v16) dX10_longer_98 (by decide) rfl ?_
            obtain rfl := Option.some.inj hq17
            exact x_sub [2, 3, 4, 5, 6, 7, 1, 0, 8] rfl Jq17
        · replace hq17 := (if_pos c).symm.trans hq17
          obtain ⟨v7, hv7, hq17⟩ := xb hq17
          refine x_iinc (c := (1 : Int32)) (lv' := [(6, .int v7), (0, va_rf a0), (3, .int a3), (4, .int a4), (5, .int a5), (7, .int a7), (8, .int a8), (9, .int a9), (10, .int a10)]) (x := a6) (v := v7) dX10_longer_55 rfl (by decide) (Option.some.inj hv7) (by decide) rfl ?_
          refine r_iload (x := a7) dX10_longer_58 rfl ?_
          refine x_aload_n (o := a0) dX10_longer_60 rfl ?_
          refine r_iload (x := a10) dX10_longer_61 rfl ?_
          refine r_bipush (v := (7 : Int32)) dX10_longer_63 (by decide) ?_
          obtain ⟨q9, hq9, hq17⟩ := xb hq17
          obtain ⟨v8, hv8, hq17⟩ := xb hq17
          refine z_callV (as := [.int a10, .int (7 : Int32)]) (o := a0) (r1 := (some (.int v8))) (stk := [.int a7]) (stk2 := [.int v8, .int a7]) (st1 := st) (d' := 2) dX10_longer_65 xl_X10_228 hq9 (by decide) (Nat.le_trans (xsI xs0) (by decide)) rfl rfl (S_X10_pickedOf n st a0 a10 (7 : Int32) v8 hv8) ?_
          refine r_iadd dX10_longer_68 ?_
          obtain ⟨v10, hv10, hq17⟩ := xb hq17
          refine x_eqI (Option.some.inj hv10) ?_
          refine r_istore (lv' := [(7, .int v10), (6, .int v7), (0, va_rf a0), (3, .int a3), (4, .int a4), (5, .int a5), (8, .int a8), (9, .int a9), (10, .int a10)]) (x := v10) dX10_longer_69 (by decide) rfl ?_
          refine r_goto (tgt := 100) dX10_longer_71 (by decide) ?_
          obtain rfl := Option.some.inj hq17
          exact x_sub [2, 3, 4, 5, 1, 0, 6, 7, 8] rfl Jq17
      · replace hq17 := (if_neg c).symm.trans hq17
        refine r_goto (tgt := 100) dX10_longer_42 (by decide) ?_
        obtain rfl := Option.some.inj hq17
        exact x_sub [0, 1, 2, 3, 4, 5, 6, 7, 8] rfl Jq17
theorem R_X10_longer (n : Nat) (st : xS) (a0 : Option Nat) (a1 : Int32) (a2 : Int32) (a3 : Int32) (a4 : Int32) (rv : Int32) (st' : xS) (h : F_X10_longer n st a0 a1 a2 a3 a4 = some (rv, st')) : Rn mX10_longer 0 [(0, va_rf a0), (1, .int a1), (2, .int a2), (3, .int a3), (4, .int a4)] [] st (some (.int rv)) st' 4 := by
  unfold F_X10_longer at h
  refine x_aload_n (o := a0) dX10_longer_0 rfl ?_
  refine r_iload_n (x := a1) dX10_longer_1 rfl ?_
  refine r_iload_n (x := a2) dX10_longer_2 rfl ?_
  obtain ⟨q2, hq2, h⟩ := xb h
  obtain ⟨p1, hp1, h⟩ := xb h
  refine z_callV (as := [.int a1, .int a2]) (o := a0) (r1 := (some (.int p1.1))) (stk := []) (stk2 := [.int p1.1]) (st1 := p1.2) (d' := 2) dX10_longer_3 xl_X10_219 hq2 (by decide) (Nat.le_trans xs0 (by decide)) rfl rfl (S_X10_pick n st a0 a1 a2 p1.1 p1.2 hp1) ?_
  refine r_istore (lv' := [(5, .int p1.1), (0, va_rf a0), (1, .int a1), (2, .int a2), (3, .int a3), (4, .int a4)]) (x := p1.1) dX10_longer_6 (by decide) rfl ?_
  refine r_iconst (v := (0 : Int32)) dX10_longer_8 (by decide) ?_
  refine r_istore (lv' := [(6, .int (0 : Int32)), (5, .int p1.1), (0, va_rf a0), (1, .int a1), (2, .int a2), (3, .int a3), (4, .int a4)]) (x := (0 : Int32)) dX10_longer_9 (by decide) rfl ?_
  refine r_iconst (v := (0 : Int32)) dX10_longer_11 (by decide) ?_
  refine r_istore (lv' := [(7, .int (0 : Int32)), (6, .int (0 : Int32)), (5, .int p1.1), (0, va_rf a0), (1, .int a1), (2, .int a2), (3, .int a3), (4, .int a4)]) (x := (0 : Int32)) dX10_longer_12 (by decide) rfl ?_
  refine r_iconst (v := (0 : Int32)) dX10_longer_14 (by decide) ?_
  refine r_istore (lv' := [(8, .int (0 : Int32)), (7, .int (0 : Int32)), (6, .int (0 : Int32)), (5, .int p1.1), (0, va_rf a0), (1, .int a1), (2, .int a2), (3, .int a3), (4, .int a4)]) (x := (0 : Int32)) dX10_longer_15 (by decide) rfl ?_
  refine r_iconst (v := (0 : Int32)) dX10_longer_17 (by decide) ?_
  refine r_istore (lv' := [(9, .int (0 : Int32)), (8, .int (0 : Int32)), (7, .int (0 : Int32)), (6, .int (0 : Int32)), (5, .int p1.1), (0, va_rf a0), (1, .int a1), (2, .int a2), (3, .int a3), (4, .int a4)]) (x := (0 : Int32)) dX10_longer_18 (by decide) rfl ?_
  refine r_iconst (v := (0 : Int32)) dX10_longer_20 (by decide) ?_
  refine r_istore (lv' := [(10, .int (0 : Int32)), (9, .int (0 : Int32)), (8, .int (0 : Int32)), (7, .int (0 : Int32)), (6, .int (0 : Int32)), (5, .int p1.1), (0, va_rf a0), (1, .int a1), (2, .int a2), (3, .int a3), (4, .int a4)]) (x := (0 : Int32)) dX10_longer_21 (by decide) rfl ?_
  obtain ⟨q19, hq19, h⟩ := xb h
  have Jq19 : Rn mX10_longer 106 [(4, .int a4), (6, .int q19.1), (7, .int q19.2.1), (8, .int q19.2.2.1), (9, .int q19.2.2.2)] [] p1.2 (some (.int rv)) st' 4 := by
    refine r_iload (x := q19.2.1) dX10_longer_106 rfl ?_
    refine r_iload (x := q19.1) dX10_longer_108 rfl ?_
    refine r_iload (x := q19.2.2.2) dX10_longer_110 rfl ?_
    refine r_iload (x := q19.2.2.1) dX10_longer_112 rfl ?_
    refine r_iload (x := a4) dX10_longer_114 rfl ?_
    obtain ⟨v20, hv20, h⟩ := xb h
    refine z_callS (as := [.int q19.2.1, .int q19.1, .int q19.2.2.2, .int q19.2.2.1, .int a4]) (r1 := (some (.int v20))) (stk := []) (stk2 := [.int v20]) (st1 := p1.2) (d' := 3) dX10_longer_116 xl_X10_286 (by decide) (Nat.le_trans xs0 (by decide)) rfl rfl (S_X10_lessOther n p1.2 q19.2.1 q19.1 q19.2.2.2 q19.2.2.1 a4 v20 hv20) ?_
    obtain ⟨rfl, rfl⟩ := Prod.mk.inj (Option.some.inj h)
    exact r_ireturn dX10_longer_119 .int rfl rfl
  exact x_sub [6, 9, 10, 5, 4, 3, 2, 1, 0] rfl (R_X10_longer_L23 n n p1.2 a0 a3 a4 p1.1 (0 : Int32) (0 : Int32) (0 : Int32) (0 : Int32) (0 : Int32) q19 hq19 Jq19)
theorem S_X10_longer (n : Nat) (st : xS) (a0 : Option Nat) (a1 : Int32) (a2 : Int32) (a3 : Int32) (a4 : Int32) (rv : Int32) (st' : xS) (h : F_X10_longer n st a0 a1 a2 a3 a4 = some (rv, st')) : Ct mX10_longer [va_rf a0, .int a1, .int a2, .int a3, .int a4] st (some (.int rv)) st' 4 := by
  refine Ct.of (by decide) (by simp only [lgL_R, lgL_I, lgL_L, lgL_0]; decide) ?_
  try simp only [lvA_R]
  exact R_X10_longer n st a0 a1 a2 a3 a4 rv st' h
theorem R_X10_fresh_L38 (n : Nat) {r : Option Value} {st' : xS} : ∀ (k : Nat) (st : xS) (a0 : Option Nat) (a1 : Int32) (a3 : Int32) (a4 : Int32) (a5 : Int32) (a6 : Int32) (a7 : Int32) (q : (Int32 × Int32)), F_X10_fresh_L38 n k st a0 a1 a3 a4 a5 a6 a7 = some q → Rn mX10_fresh 103 [(3, .int a3), (5, .int q.1), (6, .int q.2)] [] st r st' 4 → Rn mX10_fresh 38 [(0, va_rf a0), (1, .int a1), (3, .int a3), (4, .int a4), (5, .int a5), (6, .int a6), (7, .int a7)] [] st r st' 4 := by
  intro k
  induction k with
  | zero => intro st a0 a1 a3 a4 a5 a6 a7 q h; cases h
  | succ k ih =>
    intro st a0 a1 a3 a4 a5 a6 a7 q h J
    unfold F_X10_fresh_L38 at h
    refine r_iload (x := a7) dX10_fresh_38 rfl ?_
    refine r_iload (x := a4) dX10_fresh_40 rfl ?_
    refine r_icmp_ge (tgt := 103) dX10_fresh_42 (by decide) (fun c => ?_) (fun c => ?_)
    · replace h := (if_pos c).symm.trans h
      obtain rfl := Option.some.inj h
      exact x_sub [2, 4, 5] rfl J
    · replace h := (if_neg c).symm.trans h
      refine r_iload (x := a5) dX10_fresh_45 rfl ?_
      refine r_iconst (v := (2 : Int32)) dX10_fresh_47 (by decide) ?_
      refine r_iload_n (x := a3) dX10_fresh_48 rfl ?_
      refine r_imul dX10_fresh_49 ?_
      refine r_icmp_ge (tgt := 103) dX10_fresh_50 (by decide) (fun c => ?_) (fun c => ?_)
      · replace h := (if_pos c).symm.trans h
        obtain rfl := Option.some.inj h
        exact x_sub [2, 4, 5] rfl J
      · replace h := (if_neg c).symm.trans h
        refine x_aload_n (o := a0) dX10_fresh_53 rfl ?_
        refine r_iload (x := a7) dX10_fresh_54 rfl ?_
        refine r_iconst (v := (0 : Int32)) dX10_fresh_56 (by decide) ?_
        obtain ⟨q6, hq6, h⟩ := xb h
        obtain ⟨v5, hv5, h⟩ := xb h
        refine z_callV (as := [.int a7, .int (0 : Int32)]) (o := a0) (r1 := (some (.int v5))) (stk := []) (stk2 := [.int v5]) (st1 := st) (d' := 2) dX10_fresh_57 xl_X10_228 hq6 (by decide) (Nat.le_trans xs0 (by decide)) rfl rfl (S_X10_pickedOf n st a0 a7 (0 : Int32) v5 hv5) ?_
        refine r_iload_n (x := a1) dX10_fresh_60 rfl ?_
        obtain ⟨q13, hq13, h⟩ := xb h
        have Jq13 : Rn mX10_fresh 97 [(0, va_rf a0), (1, .int a1), (3, .int a3), (4, .int a4), (5, .int q13.1), (6, .int q13.2), (7, .int a7)] [] st r st' 4 := by
          obtain ⟨v14, hv14, h⟩ := xb h
          refine x_iinc (c := (1 : Int32)) (lv' := [(7, .int v14), (0, va_rf a0), (1, .int a1), (3, .int a3), (4, .int a4), (5, .int q13.1), (6, .int q13.2)]) (x := a7) (v := v14) dX10_fresh_97 rfl (by decide) (Option.some.inj hv14) (by decide) rfl ?_
          refine r_goto (tgt := 38) dX10_fresh_100 (by decide) ?_
          exact x_sub [1, 2, 3, 4, 5, 6, 0] rfl (ih st a0 a1 a3 a4 q13.1 q13.2 v14 q h J)
        refine r_icmp_ne (tgt := 97) dX10_fresh_61 (by decide) (fun c => ?_) (fun c => ?_)
        · replace hq13 := (if_neg c).symm.trans hq13
          obtain rfl := Option.some.inj hq13
          exact x_sub [0, 1, 2, 3, 4, 5, 6] rfl Jq13
        · replace hq13 := (if_pos c).symm.trans hq13
          refine x_aload_n (o := a0) dX10_fresh_64 rfl ?_
          refine r_iload (x := a7) dX10_fresh_65 rfl ?_
          obtain ⟨q8, hq8, hq13⟩ := xb hq13
          obtain ⟨v7, hv7, hq13⟩ := xb hq13
          refine z_callV (as := [.int a7]) (o := a0) (r1 := (some (.int v7))) (stk := []) (stk2 := [.int v7]) (st1 := st) (d' := 3) dX10_fresh_67 xl_X10_225 hq8 (by decide) (Nat.le_trans xs0 (by decide)) rfl rfl (S_X10_margin n st a0 a7 v7 hv7) ?_
          obtain ⟨v9, hv9, hq13⟩ := xb hq13
          refine z_callS (as := [.int v7]) (r1 := (some (.int v9))) (stk := []) (stk2 := [.int v9]) (st1 := st) (d' := 0) dX10_fresh_70 xl_X10_298 (by decide) (Nat.le_trans xs0 (by decide)) rfl rfl (S_X10_pointsBy n st v7 v9 hv9) ?_
          refine r_istore (lv' := [(8, .int v9), (0, va_rf a0), (1, .int a1), (3, .int a3), (4, .int a4), (5, .int a5), (6, .int a6), (7, .int a7)]) (x := v9) dX10_fresh_73 (by decide) rfl ?_
          refine r_iload (x := a6) dX10_fresh_75 rfl ?_
          refine r_iload (x := a5) dX10_fresh_77 rfl ?_
          refine r_iload_n (x := a3) dX10_fresh_79 rfl ?_
          obtain ⟨q10, hq10, hq13⟩ := xb hq13
          have Jq10 : Rn mX10_fresh 91 [(0, va_rf a0), (1, .int a1), (3, .int a3), (4, .int a4), (5, .int a5), (7, .int a7)] [.int q10, .int a6] st r st' 4 := by
            refine r_iadd dX10_fresh_91 ?_
            obtain ⟨v11, hv11, hq13⟩ := xb hq13
            refine x_eqI (Option.some.inj hv11) ?_
            refine r_istore (lv' := [(6, .int v11), (0, va_rf a0), (1, .int a1), (3, .int a3), (4, .int a4), (5, .int a5), (7, .int a7)]) (x := v11) dX10_fresh_92 (by decide) rfl ?_
            obtain ⟨v12, hv12, hq13⟩ := xb hq13
            refine x_iinc (c := (1 : Int32)) (lv' := [(5, .int v12), (6, .int v11), (0, va_rf a0), (1, .int a1), (3, .int a3), (4, .int a4), (7, .int a7)]) (x := a5) (v := v12) dX10_fresh_94 rfl (by decide) (Option.some.inj hv12) (by decide) rfl ?_
            obtain rfl := Option.some.inj hq13
            exact x_sub [2, 3, 4, 5, 0, 1, 6] rfl Jq13
          refine r_icmp_ge (tgt := 88) dX10_fresh_80 (by decide) (fun c => ?_) (fun c => ?_)
          · replace hq10 := (if_pos c).symm.trans hq10
            refine r_iload (x := v9) dX10_fresh_88 rfl ?_
            refine r_ineg dX10_fresh_90 ?_
            obtain rfl := Option.some.inj hq10
            exact x_sub [1, 2, 3, 4, 5, 7] rfl Jq10
          · replace hq10 := (if_neg c).symm.trans hq10
            refine r_iload (x := v9) dX10_fresh_83 rfl ?_
            refine r_goto (tgt := 91) dX10_fresh_85 (by decide) ?_
            obtain rfl := Option.some.inj hq10
            exact x_sub [1, 2, 3, 4, 5, 7] rfl Jq10
theorem R_X10_fresh (n : Nat) (st : xS) (a0 : Option Nat) (a1 : Int32) (a2 : Int32) (a3 : Int32) (rv : Int32) (st' : xS) (h : F_X10_fresh n st a0 a1 a2 a3 = some (rv, st')) : Rn mX10_fresh 0 [(0, va_rf a0), (1, .int a1), (2, .int a2), (3, .int a3)] [] st (some (.int rv)) st' 4 := by
  unfold F_X10_fresh at h
  refine r_iload_n (x := a1) dX10_fresh_0 rfl ?_
  obtain ⟨v1, hv1, h⟩ := xb h
  refine z_callS (as := [.int a1]) (r1 := (some (.int v1))) (stk := []) (stk2 := [.int v1]) (st1 := st) (d' := 1) dX10_fresh_1 xl_X10_206 (by decide) (Nat.le_trans xs0 (by decide)) rfl rfl (S_X10_isSide n st a1 v1 hv1) ?_
  refine r_if_eq (tgt := 17) dX10_fresh_4 (by decide) (fun c => ?_) (fun c => ?_)
  · replace h := (if_pos c).symm.trans h
    refine r_ldc (v := (-1000000 : Int32)) dX10_fresh_17 xk_X10_247 ?_
    obtain ⟨rfl, rfl⟩ := Prod.mk.inj (Option.some.inj h)
    exact r_ireturn dX10_fresh_19 .int rfl rfl
  · replace h := (if_neg c).symm.trans h
    refine r_iload_n (x := a3) dX10_fresh_7 rfl ?_
    refine r_iconst (v := (1 : Int32)) dX10_fresh_8 (by decide) ?_
    refine r_bipush (v := (40 : Int32)) dX10_fresh_9 (by decide) ?_
    obtain ⟨v2, hv2, h⟩ := xb h
    refine z_callS (as := [.int a3, .int (1 : Int32), .int (40 : Int32)]) (r1 := (some (.int v2))) (stk := []) (stk2 := [.int v2]) (st1 := st) (d' := 0) dX10_fresh_11 xl_X10_209 (by decide) (Nat.le_trans xs0 (by decide)) rfl rfl (S_X10_within n st a3 (1 : Int32) (40 : Int32) v2 hv2) ?_
    refine r_if_ne (tgt := 20) dX10_fresh_14 (by decide) (fun c => ?_) (fun c => ?_)
    · replace h := (if_neg c).symm.trans h
      refine x_aload_n (o := a0) dX10_fresh_20 rfl ?_
      refine r_iload_n (x := a2) dX10_fresh_21 rfl ?_
      refine r_bipush (v := (59 : Int32)) dX10_fresh_22 (by decide) ?_
      obtain ⟨q4, hq4, h⟩ := xb h
      obtain ⟨p3, hp3, h⟩ := xb h
      refine z_callV (as := [.int a2, .int (59 : Int32)]) (o := a0) (r1 := (some (.int p3.1))) (stk := []) (stk2 := [.int p3.1]) (st1 := p3.2) (d' := 2) dX10_fresh_24 xl_X10_219 hq4 (by decide) (Nat.le_trans xs0 (by decide)) rfl rfl (S_X10_pick n st a0 a2 (59 : Int32) p3.1 p3.2 hp3) ?_
      refine r_istore (lv' := [(4, .int p3.1), (0, va_rf a0), (1, .int a1), (2, .int a2), (3, .int a3)]) (x := p3.1) dX10_fresh_27 (by decide) rfl ?_
      refine r_iconst (v := (0 : Int32)) dX10_fresh_29 (by decide) ?_
      refine r_istore (lv' := [(5, .int (0 : Int32)), (4, .int p3.1), (0, va_rf a0), (1, .int a1), (2, .int a2), (3, .int a3)]) (x := (0 : Int32)) dX10_fresh_30 (by decide) rfl ?_
      refine r_iconst (v := (0 : Int32)) dX10_fresh_32 (by decide) ?_
      refine r_istore (lv' := [(6, .int (0 : Int32)), (5, .int (0 : Int32)), (4, .int p3.1), (0, va_rf a0), (1, .int a1), (2, .int a2), (3, .int a3)]) (x := (0 : Int32)) dX10_fresh_33 (by decide) rfl ?_
      refine r_iconst (v := (0 : Int32)) dX10_fresh_35 (by decide) ?_
      refine r_istore (lv' := [(7, .int (0 : Int32)), (6, .int (0 : Int32)), (5, .int (0 : Int32)), (4, .int p3.1), (0, va_rf a0), (1, .int a1), (2, .int a2), (3, .int a3)]) (x := (0 : Int32)) dX10_fresh_36 (by decide) rfl ?_
      obtain ⟨q15, hq15, h⟩ := xb h
      have Jq15 : Rn mX10_fresh 103 [(3, .int a3), (5, .int q15.1), (6, .int q15.2)] [] p3.2 (some (.int rv)) st' 4 := by
        refine r_iload (x := q15.1) dX10_fresh_103 rfl ?_
        refine r_iconst (v := (2 : Int32)) dX10_fresh_105 (by decide) ?_
        refine r_iload_n (x := a3) dX10_fresh_106 rfl ?_
        refine r_imul dX10_fresh_107 ?_
        obtain ⟨q16, hq16, h⟩ := xb h
        have Jq16 : Rn mX10_fresh 118 [] [.int q16] p3.2 (some (.int rv)) st' 4 := by
          obtain ⟨rfl, rfl⟩ := Prod.mk.inj (Option.some.inj h)
          exact r_ireturn dX10_fresh_118 .int rfl rfl
        refine r_icmp_ge (tgt := 116) dX10_fresh_108 (by decide) (fun c => ?_) (fun c => ?_)
        · replace hq16 := (if_pos c).symm.trans hq16
          refine r_iload (x := q15.2) dX10_fresh_116 rfl ?_
          obtain rfl := Option.some.inj hq16
          exact x_sub [] rfl Jq16
        · replace hq16 := (if_neg c).symm.trans hq16
          refine r_ldc (v := (-1000000 : Int32)) dX10_fresh_111 xk_X10_247 ?_
          refine r_goto (tgt := 118) dX10_fresh_113 (by decide) ?_
          obtain rfl := Option.some.inj hq16
          exact x_sub [] rfl Jq16
      exact x_sub [4, 5, 7, 3, 2, 1, 0] rfl (R_X10_fresh_L38 n n p3.2 a0 a1 a3 p3.1 (0 : Int32) (0 : Int32) (0 : Int32) q15 hq15 Jq15)
    · replace h := (if_pos c).symm.trans h
      refine r_ldc (v := (-1000000 : Int32)) dX10_fresh_17 xk_X10_247 ?_
      obtain ⟨rfl, rfl⟩ := Prod.mk.inj (Option.some.inj h)
      exact r_ireturn dX10_fresh_19 .int rfl rfl
theorem S_X10_fresh (n : Nat) (st : xS) (a0 : Option Nat) (a1 : Int32) (a2 : Int32) (a3 : Int32) (rv : Int32) (st' : xS) (h : F_X10_fresh n st a0 a1 a2 a3 = some (rv, st')) : Ct mX10_fresh [va_rf a0, .int a1, .int a2, .int a3] st (some (.int rv)) st' 4 := by
  refine Ct.of (by decide) (by simp only [lgL_R, lgL_I, lgL_L, lgL_0]; decide) ?_
  try simp only [lvA_R]
  exact R_X10_fresh n st a0 a1 a2 a3 rv st' h
theorem R_X10_films (n : Nat) (st : xS) (a0 : Option Nat) (a1 : Int32) (a2 : Int32) (a3 : Int32) (a4 : Int32) (rv : Int32) (st' : xS) (h : F_X10_films n st a0 a1 a2 a3 a4 = some (rv, st')) : Rn mX10_films 0 [(0, va_rf a0), (1, .int a1), (2, .int a2), (3, .int a3), (4, .int a4)] [] st (some (.int rv)) st' 2 := by
  unfold F_X10_films at h
  refine r_iload_n (x := a1) dX10_films_0 rfl ?_
  obtain ⟨v1, hv1, h⟩ := xb h
  refine z_callS (as := [.int a1]) (r1 := (some (.int v1))) (stk := []) (stk2 := [.int v1]) (st1 := st) (d' := 1) dX10_films_1 xl_X10_213 (by decide) (Nat.le_trans xs0 (by decide)) rfl rfl (S_X10_isJudge n st a1 v1 hv1) ?_
  refine r_if_eq (tgt := 27) dX10_films_4 (by decide) (fun c => ?_) (fun c => ?_)
  · replace h := (if_pos c).symm.trans h
    refine r_iconst (v := (0 : Int32)) dX10_films_27 (by decide) ?_
    obtain ⟨v2, hv2, h⟩ := xb h
    refine x_eqI (rz_inv2 hv2).1 ?_
    obtain ⟨rfl, rfl⟩ := Prod.mk.inj (Option.some.inj h)
    exact r_ireturn dX10_films_28 .boolean rfl (by rcases (rz_inv2 hv2).2 with e | e <;> rw [e] <;> rfl)
  · replace h := (if_neg c).symm.trans h
    refine r_iload_n (x := a3) dX10_films_7 rfl ?_
    refine r_iconst (v := (0 : Int32)) dX10_films_8 (by decide) ?_
    refine r_bipush (v := (30 : Int32)) dX10_films_9 (by decide) ?_
    obtain ⟨v3, hv3, h⟩ := xb h
    refine z_callS (as := [.int a3, .int (0 : Int32), .int (30 : Int32)]) (r1 := (some (.int v3))) (stk := []) (stk2 := [.int v3]) (st1 := st) (d' := 0) dX10_films_11 xl_X10_209 (by decide) (Nat.le_trans xs0 (by decide)) rfl rfl (S_X10_within n st a3 (0 : Int32) (30 : Int32) v3 hv3) ?_
    refine r_if_eq (tgt := 27) dX10_films_14 (by decide) (fun c => ?_) (fun c => ?_)
    · replace h := (if_pos c).symm.trans h
      refine r_iconst (v := (0 : Int32)) dX10_films_27 (by decide) ?_
      obtain ⟨v4, hv4, h⟩ := xb h
      refine x_eqI (rz_inv2 hv4).1 ?_
      obtain ⟨rfl, rfl⟩ := Prod.mk.inj (Option.some.inj h)
      exact r_ireturn dX10_films_28 .boolean rfl (by rcases (rz_inv2 hv4).2 with e | e <;> rw [e] <;> rfl)
    · replace h := (if_neg c).symm.trans h
      refine r_iload (x := a4) dX10_films_17 rfl ?_
      refine r_iconst (v := (0 : Int32)) dX10_films_19 (by decide) ?_
      refine r_iload_n (x := a3) dX10_films_20 rfl ?_
      obtain ⟨v5, hv5, h⟩ := xb h
      refine z_callS (as := [.int a4, .int (0 : Int32), .int a3]) (r1 := (some (.int v5))) (stk := []) (stk2 := [.int v5]) (st1 := st) (d' := 0) dX10_films_21 xl_X10_209 (by decide) (Nat.le_trans xs0 (by decide)) rfl rfl (S_X10_within n st a4 (0 : Int32) a3 v5 hv5) ?_
      refine r_if_ne (tgt := 29) dX10_films_24 (by decide) (fun c => ?_) (fun c => ?_)
      · replace h := (if_neg c).symm.trans h
        refine x_aload_n (o := a0) dX10_films_29 rfl ?_
        obtain ⟨v7, hv7, h⟩ := xb h
        refine x_getR (o := a0) dX10_films_30 xf_X10_10 hv7 ?_
        refine r_iload_n (x := a1) dX10_films_33 rfl ?_
        refine r_iload_n (x := a2) dX10_films_34 rfl ?_
        refine r_iload_n (x := a3) dX10_films_35 rfl ?_
        refine r_iload (x := a4) dX10_films_36 rfl ?_
        obtain ⟨q9, hq9, h⟩ := xb h
        obtain ⟨s8, hs8, h⟩ := xb h
        refine z_callV (as := [.int a1, .int a2, .int a3, .int a4]) (o := v7) (r1 := none) (stk := []) (stk2 := []) (st1 := s8) (d' := 1) dX10_films_38 xl_X10_301 hq9 (by decide) (Nat.le_trans xs0 (by decide)) rfl rfl (S_X9_setFilms n st v7 a1 a2 a3 a4 s8 hs8) ?_
        refine r_iconst (v := (1 : Int32)) dX10_films_41 (by decide) ?_
        obtain ⟨v10, hv10, h⟩ := xb h
        refine x_eqI (rz_inv2 hv10).1 ?_
        obtain ⟨rfl, rfl⟩ := Prod.mk.inj (Option.some.inj h)
        exact r_ireturn dX10_films_42 .boolean rfl (by rcases (rz_inv2 hv10).2 with e | e <;> rw [e] <;> rfl)
      · replace h := (if_pos c).symm.trans h
        refine r_iconst (v := (0 : Int32)) dX10_films_27 (by decide) ?_
        obtain ⟨v6, hv6, h⟩ := xb h
        refine x_eqI (rz_inv2 hv6).1 ?_
        obtain ⟨rfl, rfl⟩ := Prod.mk.inj (Option.some.inj h)
        exact r_ireturn dX10_films_28 .boolean rfl (by rcases (rz_inv2 hv6).2 with e | e <;> rw [e] <;> rfl)
theorem S_X10_films (n : Nat) (st : xS) (a0 : Option Nat) (a1 : Int32) (a2 : Int32) (a3 : Int32) (a4 : Int32) (rv : Int32) (st' : xS) (h : F_X10_films n st a0 a1 a2 a3 a4 = some (rv, st')) : Ct mX10_films [va_rf a0, .int a1, .int a2, .int a3, .int a4] st (some (.int rv)) st' 2 := by
  refine Ct.of (by decide) (by simp only [lgL_R, lgL_I, lgL_L, lgL_0]; decide) ?_
  try simp only [lvA_R]
  exact R_X10_films n st a0 a1 a2 a3 a4 rv st' h

/-! printed by a program: the methods run as their functions say -/
theorem R_X11_wordOf (n : Nat) (st : xS) (a0 : Int32) (rv : Int32) (h : F_X11_wordOf n st a0 = some rv) : Rn mX11_wordOf 0 [(0, .int a0)] [] st (some (.int rv)) st 1 := by
  unfold F_X11_wordOf at h
  refine r_iload_n (x := a0) dX11_wordOf_0 rfl ?_
  refine r_ldc (v := (32768 : Int32)) dX11_wordOf_1 xk_X11_46 ?_
  refine r_bipush (v := (7 : Int32)) dX11_wordOf_3 (by decide) ?_
  refine r_bipush (v := (18 : Int32)) dX11_wordOf_5 (by decide) ?_
  refine r_bipush (v := (15 : Int32)) dX11_wordOf_7 (by decide) ?_
  obtain ⟨v1, hv1, h⟩ := xb h
  refine z_callS (as := [.int (7 : Int32), .int (18 : Int32), .int (15 : Int32)]) (r1 := (some (.int v1))) (stk := [.int (32768 : Int32), .int a0]) (stk2 := [.int v1, .int (32768 : Int32), .int a0]) (st1 := st) (d' := 0) dX11_wordOf_9 xl_X11_47 (by decide) (Nat.le_trans (xsI (xsI xs0)) (by decide)) rfl rfl (S_X11_three n st (7 : Int32) (18 : Int32) (15 : Int32) v1 hv1) ?_
  refine r_imul dX11_wordOf_12 ?_
  refine r_bipush (v := (21 : Int32)) dX11_wordOf_13 (by decide) ?_
  refine r_bipush (v := (14 : Int32)) dX11_wordOf_15 (by decide) ?_
  refine r_iconst (v := (4 : Int32)) dX11_wordOf_17 (by decide) ?_
  obtain ⟨v2, hv2, h⟩ := xb h
  refine z_callS (as := [.int (21 : Int32), .int (14 : Int32), .int (4 : Int32)]) (r1 := (some (.int v2))) (stk := [.int ((32768 : Int32) * v1), .int a0]) (stk2 := [.int v2, .int ((32768 : Int32) * v1), .int a0]) (st1 := st) (d' := 0) dX11_wordOf_18 xl_X11_47 (by decide) (Nat.le_trans (xsI (xsI xs0)) (by decide)) rfl rfl (S_X11_three n st (21 : Int32) (14 : Int32) (4 : Int32) v2 hv2) ?_
  refine r_iadd dX11_wordOf_21 ?_
  refine r_icmp_ne (tgt := 27) dX11_wordOf_22 (by decide) (fun c => ?_) (fun c => ?_)
  · replace h := (if_neg c).symm.trans h
    refine r_iload_n (x := a0) dX11_wordOf_27 rfl ?_
    refine r_bipush (v := (32 : Int32)) dX11_wordOf_28 (by decide) ?_
    refine r_bipush (v := (19 : Int32)) dX11_wordOf_30 (by decide) ?_
    refine r_bipush (v := (9 : Int32)) dX11_wordOf_32 (by decide) ?_
    refine r_iconst (v := (4 : Int32)) dX11_wordOf_34 (by decide) ?_
    obtain ⟨v3, hv3, h⟩ := xb h
    refine z_callS (as := [.int (19 : Int32), .int (9 : Int32), .int (4 : Int32)]) (r1 := (some (.int v3))) (stk := [.int (32 : Int32), .int a0]) (stk2 := [.int v3, .int (32 : Int32), .int a0]) (st1 := st) (d' := 0) dX11_wordOf_35 xl_X11_47 (by decide) (Nat.le_trans (xsI (xsI xs0)) (by decide)) rfl rfl (S_X11_three n st (19 : Int32) (9 : Int32) (4 : Int32) v3 hv3) ?_
    refine r_imul dX11_wordOf_38 ?_
    refine r_iconst (v := (5 : Int32)) dX11_wordOf_39 (by decide) ?_
    refine r_iadd dX11_wordOf_40 ?_
    refine r_icmp_ne (tgt := 46) dX11_wordOf_41 (by decide) (fun c => ?_) (fun c => ?_)
    · replace h := (if_neg c).symm.trans h
      refine r_iload_n (x := a0) dX11_wordOf_46 rfl ?_
      refine r_bipush (v := (32 : Int32)) dX11_wordOf_47 (by decide) ?_
      refine r_iconst (v := (2 : Int32)) dX11_wordOf_49 (by decide) ?_
      refine r_iconst (v := (1 : Int32)) dX11_wordOf_50 (by decide) ?_
      refine r_bipush (v := (19 : Int32)) dX11_wordOf_51 (by decide) ?_
      obtain ⟨v4, hv4, h⟩ := xb h
      refine z_callS (as := [.int (2 : Int32), .int (1 : Int32), .int (19 : Int32)]) (r1 := (some (.int v4))) (stk := [.int (32 : Int32), .int a0]) (stk2 := [.int v4, .int (32 : Int32), .int a0]) (st1 := st) (d' := 0) dX11_wordOf_53 xl_X11_47 (by decide) (Nat.le_trans (xsI (xsI xs0)) (by decide)) rfl rfl (S_X11_three n st (2 : Int32) (1 : Int32) (19 : Int32) v4 hv4) ?_
      refine r_imul dX11_wordOf_56 ?_
      refine r_iconst (v := (5 : Int32)) dX11_wordOf_57 (by decide) ?_
      refine r_iadd dX11_wordOf_58 ?_
      refine r_icmp_ne (tgt := 65) dX11_wordOf_59 (by decide) (fun c => ?_) (fun c => ?_)
      · replace h := (if_neg c).symm.trans h
        refine r_iload_n (x := a0) dX11_wordOf_65 rfl ?_
        refine r_sipush (v := (1024 : Int32)) dX11_wordOf_66 (by decide) ?_
        refine r_bipush (v := (11 : Int32)) dX11_wordOf_69 (by decide) ?_
        refine r_bipush (v := (14 : Int32)) dX11_wordOf_71 (by decide) ?_
        refine r_bipush (v := (15 : Int32)) dX11_wordOf_73 (by decide) ?_
        obtain ⟨v5, hv5, h⟩ := xb h
        refine z_callS (as := [.int (11 : Int32), .int (14 : Int32), .int (15 : Int32)]) (r1 := (some (.int v5))) (stk := [.int (1024 : Int32), .int a0]) (stk2 := [.int v5, .int (1024 : Int32), .int a0]) (st1 := st) (d' := 0) dX11_wordOf_75 xl_X11_47 (by decide) (Nat.le_trans (xsI (xsI xs0)) (by decide)) rfl rfl (S_X11_three n st (11 : Int32) (14 : Int32) (15 : Int32) v5 hv5) ?_
        refine r_imul dX11_wordOf_78 ?_
        refine r_sipush (v := (736 : Int32)) dX11_wordOf_79 (by decide) ?_
        refine r_iadd dX11_wordOf_82 ?_
        refine r_bipush (v := (14 : Int32)) dX11_wordOf_83 (by decide) ?_
        refine r_iadd dX11_wordOf_85 ?_
        refine r_icmp_ne (tgt := 92) dX11_wordOf_86 (by decide) (fun c => ?_) (fun c => ?_)
        · replace h := (if_neg c).symm.trans h
          refine r_iload_n (x := a0) dX11_wordOf_92 rfl ?_
          refine r_sipush (v := (1024 : Int32)) dX11_wordOf_93 (by decide) ?_
          refine r_bipush (v := (13 : Int32)) dX11_wordOf_96 (by decide) ?_
          refine r_bipush (v := (9 : Int32)) dX11_wordOf_98 (by decide) ?_
          refine r_bipush (v := (12 : Int32)) dX11_wordOf_100 (by decide) ?_
          obtain ⟨v6, hv6, h⟩ := xb h
          refine z_callS (as := [.int (13 : Int32), .int (9 : Int32), .int (12 : Int32)]) (r1 := (some (.int v6))) (stk := [.int (1024 : Int32), .int a0]) (stk2 := [.int v6, .int (1024 : Int32), .int a0]) (st1 := st) (d' := 0) dX11_wordOf_102 xl_X11_47 (by decide) (Nat.le_trans (xsI (xsI xs0)) (by decide)) rfl rfl (S_X11_three n st (13 : Int32) (9 : Int32) (12 : Int32) v6 hv6) ?_
          refine r_imul dX11_wordOf_105 ?_
          refine r_sipush (v := (160 : Int32)) dX11_wordOf_106 (by decide) ?_
          refine r_iadd dX11_wordOf_109 ?_
          refine r_bipush (v := (19 : Int32)) dX11_wordOf_110 (by decide) ?_
          refine r_iadd dX11_wordOf_112 ?_
          refine r_icmp_ne (tgt := 119) dX11_wordOf_113 (by decide) (fun c => ?_) (fun c => ?_)
          · replace h := (if_neg c).symm.trans h
            refine r_iload_n (x := a0) dX11_wordOf_119 rfl ?_
            refine r_bipush (v := (32 : Int32)) dX11_wordOf_120 (by decide) ?_
            refine r_bipush (v := (18 : Int32)) dX11_wordOf_122 (by decide) ?_
            refine r_iconst (v := (5 : Int32)) dX11_wordOf_124 (by decide) ?_
            refine r_bipush (v := (19 : Int32)) dX11_wordOf_125 (by decide) ?_
            obtain ⟨v7, hv7, h⟩ := xb h
            refine z_callS (as := [.int (18 : Int32), .int (5 : Int32), .int (19 : Int32)]) (r1 := (some (.int v7))) (stk := [.int (32 : Int32), .int a0]) (stk2 := [.int v7, .int (32 : Int32), .int a0]) (st1 := st) (d' := 0) dX11_wordOf_127 xl_X11_47 (by decide) (Nat.le_trans (xsI (xsI xs0)) (by decide)) rfl rfl (S_X11_three n st (18 : Int32) (5 : Int32) (19 : Int32) v7 hv7) ?_
            refine r_imul dX11_wordOf_130 ?_
            refine r_bipush (v := (20 : Int32)) dX11_wordOf_131 (by decide) ?_
            refine r_iadd dX11_wordOf_133 ?_
            refine r_icmp_ne (tgt := 140) dX11_wordOf_134 (by decide) (fun c => ?_) (fun c => ?_)
            · replace h := (if_neg c).symm.trans h
              refine r_iload_n (x := a0) dX11_wordOf_140 rfl ?_
              refine r_bipush (v := (32 : Int32)) dX11_wordOf_141 (by decide) ?_
              refine r_bipush (v := (19 : Int32)) dX11_wordOf_143 (by decide) ?_
              refine r_bipush (v := (21 : Int32)) dX11_wordOf_145 (by decide) ?_
              refine r_bipush (v := (14 : Int32)) dX11_wordOf_147 (by decide) ?_
              obtain ⟨v8, hv8, h⟩ := xb h
              refine z_callS (as := [.int (19 : Int32), .int (21 : Int32), .int (14 : Int32)]) (r1 := (some (.int v8))) (stk := [.int (32 : Int32), .int a0]) (stk2 := [.int v8, .int (32 : Int32), .int a0]) (st1 := st) (d' := 0) dX11_wordOf_149 xl_X11_47 (by decide) (Nat.le_trans (xsI (xsI xs0)) (by decide)) rfl rfl (S_X11_three n st (19 : Int32) (21 : Int32) (14 : Int32) v8 hv8) ?_
              refine r_imul dX11_wordOf_152 ?_
              refine r_bipush (v := (7 : Int32)) dX11_wordOf_153 (by decide) ?_
              refine r_iadd dX11_wordOf_155 ?_
              refine r_icmp_ne (tgt := 162) dX11_wordOf_156 (by decide) (fun c => ?_) (fun c => ?_)
              · replace h := (if_neg c).symm.trans h
                refine r_iload_n (x := a0) dX11_wordOf_162 rfl ?_
                refine r_ldc (v := (32768 : Int32)) dX11_wordOf_163 xk_X11_46 ?_
                refine r_bipush (v := (10 : Int32)) dX11_wordOf_165 (by decide) ?_
                refine r_bipush (v := (21 : Int32)) dX11_wordOf_167 (by decide) ?_
                refine r_iconst (v := (4 : Int32)) dX11_wordOf_169 (by decide) ?_
                obtain ⟨v9, hv9, h⟩ := xb h
                refine z_callS (as := [.int (10 : Int32), .int (21 : Int32), .int (4 : Int32)]) (r1 := (some (.int v9))) (stk := [.int (32768 : Int32), .int a0]) (stk2 := [.int v9, .int (32768 : Int32), .int a0]) (st1 := st) (d' := 0) dX11_wordOf_170 xl_X11_47 (by decide) (Nat.le_trans (xsI (xsI xs0)) (by decide)) rfl rfl (S_X11_three n st (10 : Int32) (21 : Int32) (4 : Int32) v9 hv9) ?_
                refine r_imul dX11_wordOf_173 ?_
                refine r_bipush (v := (7 : Int32)) dX11_wordOf_174 (by decide) ?_
                refine r_iconst (v := (5 : Int32)) dX11_wordOf_176 (by decide) ?_
                refine r_iconst (v := (4 : Int32)) dX11_wordOf_177 (by decide) ?_
                obtain ⟨v10, hv10, h⟩ := xb h
                refine z_callS (as := [.int (7 : Int32), .int (5 : Int32), .int (4 : Int32)]) (r1 := (some (.int v10))) (stk := [.int ((32768 : Int32) * v9), .int a0]) (stk2 := [.int v10, .int ((32768 : Int32) * v9), .int a0]) (st1 := st) (d' := 0) dX11_wordOf_178 xl_X11_47 (by decide) (Nat.le_trans (xsI (xsI xs0)) (by decide)) rfl rfl (S_X11_three n st (7 : Int32) (5 : Int32) (4 : Int32) v10 hv10) ?_
                refine r_iadd dX11_wordOf_181 ?_
                refine r_icmp_ne (tgt := 188) dX11_wordOf_182 (by decide) (fun c => ?_) (fun c => ?_)
                · replace h := (if_neg c).symm.trans h
                  refine r_iload_n (x := a0) dX11_wordOf_188 rfl ?_
                  refine r_ldc (v := (32768 : Int32)) dX11_wordOf_189 xk_X11_46 ?_
                  refine r_bipush (v := (8 : Int32)) dX11_wordOf_191 (by decide) ?_
                  refine r_iconst (v := (5 : Int32)) dX11_wordOf_193 (by decide) ?_
                  refine r_bipush (v := (9 : Int32)) dX11_wordOf_194 (by decide) ?_
                  obtain ⟨v11, hv11, h⟩ := xb h
                  refine z_callS (as := [.int (8 : Int32), .int (5 : Int32), .int (9 : Int32)]) (r1 := (some (.int v11))) (stk := [.int (32768 : Int32), .int a0]) (stk2 := [.int v11, .int (32768 : Int32), .int a0]) (st1 := st) (d' := 0) dX11_wordOf_196 xl_X11_47 (by decide) (Nat.le_trans (xsI (xsI xs0)) (by decide)) rfl rfl (S_X11_three n st (8 : Int32) (5 : Int32) (9 : Int32) v11 hv11) ?_
                  refine r_imul dX11_wordOf_199 ?_
                  refine r_bipush (v := (7 : Int32)) dX11_wordOf_200 (by decide) ?_
                  refine r_bipush (v := (8 : Int32)) dX11_wordOf_202 (by decide) ?_
                  refine r_bipush (v := (20 : Int32)) dX11_wordOf_204 (by decide) ?_
                  obtain ⟨v12, hv12, h⟩ := xb h
                  refine z_callS (as := [.int (7 : Int32), .int (8 : Int32), .int (20 : Int32)]) (r1 := (some (.int v12))) (stk := [.int ((32768 : Int32) * v11), .int a0]) (stk2 := [.int v12, .int ((32768 : Int32) * v11), .int a0]) (st1 := st) (d' := 0) dX11_wordOf_206 xl_X11_47 (by decide) (Nat.le_trans (xsI (xsI xs0)) (by decide)) rfl rfl (S_X11_three n st (7 : Int32) (8 : Int32) (20 : Int32) v12 hv12) ?_
                  refine r_iadd dX11_wordOf_209 ?_
                  refine r_icmp_ne (tgt := 216) dX11_wordOf_210 (by decide) (fun c => ?_) (fun c => ?_)
                  · replace h := (if_neg c).symm.trans h
                    refine r_iload_n (x := a0) dX11_wordOf_216 rfl ?_
                    refine r_iconst (v := (4 : Int32)) dX11_wordOf_217 (by decide) ?_
                    refine r_iconst (v := (1 : Int32)) dX11_wordOf_218 (by decide) ?_
                    refine r_bipush (v := (25 : Int32)) dX11_wordOf_219 (by decide) ?_
                    obtain ⟨v13, hv13, h⟩ := xb h
                    refine z_callS (as := [.int (4 : Int32), .int (1 : Int32), .int (25 : Int32)]) (r1 := (some (.int v13))) (stk := [.int a0]) (stk2 := [.int v13, .int a0]) (st1 := st) (d' := 0) dX11_wordOf_221 xl_X11_47 (by decide) (Nat.le_trans (xsI xs0) (by decide)) rfl rfl (S_X11_three n st (4 : Int32) (1 : Int32) (25 : Int32) v13 hv13) ?_
                    refine r_icmp_ne (tgt := 230) dX11_wordOf_224 (by decide) (fun c => ?_) (fun c => ?_)
                    · replace h := (if_neg c).symm.trans h
                      refine r_iload_n (x := a0) dX11_wordOf_230 rfl ?_
                      refine r_ldc (v := (32768 : Int32)) dX11_wordOf_231 xk_X11_46 ?_
                      refine r_bipush (v := (16 : Int32)) dX11_wordOf_233 (by decide) ?_
                      refine r_iconst (v := (5 : Int32)) dX11_wordOf_235 (by decide) ?_
                      refine r_bipush (v := (15 : Int32)) dX11_wordOf_236 (by decide) ?_
                      obtain ⟨v14, hv14, h⟩ := xb h
                      refine z_callS (as := [.int (16 : Int32), .int (5 : Int32), .int (15 : Int32)]) (r1 := (some (.int v14))) (stk := [.int (32768 : Int32), .int a0]) (stk2 := [.int v14, .int (32768 : Int32), .int a0]) (st1 := st) (d' := 0) dX11_wordOf_238 xl_X11_47 (by decide) (Nat.le_trans (xsI (xsI xs0)) (by decide)) rfl rfl (S_X11_three n st (16 : Int32) (5 : Int32) (15 : Int32) v14 hv14) ?_
                      refine r_imul dX11_wordOf_241 ?_
                      refine r_bipush (v := (16 : Int32)) dX11_wordOf_242 (by decide) ?_
                      refine r_bipush (v := (12 : Int32)) dX11_wordOf_244 (by decide) ?_
                      refine r_iconst (v := (5 : Int32)) dX11_wordOf_246 (by decide) ?_
                      obtain ⟨v15, hv15, h⟩ := xb h
                      refine z_callS (as := [.int (16 : Int32), .int (12 : Int32), .int (5 : Int32)]) (r1 := (some (.int v15))) (stk := [.int ((32768 : Int32) * v14), .int a0]) (stk2 := [.int v15, .int ((32768 : Int32) * v14), .int a0]) (st1 := st) (d' := 0) dX11_wordOf_247 xl_X11_47 (by decide) (Nat.le_trans (xsI (xsI xs0)) (by decide)) rfl rfl (S_X11_three n st (16 : Int32) (12 : Int32) (5 : Int32) v15 hv15) ?_
                      refine r_iadd dX11_wordOf_250 ?_
                      refine r_icmp_ne (tgt := 257) dX11_wordOf_251 (by decide) (fun c => ?_) (fun c => ?_)
                      · replace h := (if_neg c).symm.trans h
                        refine r_iload_n (x := a0) dX11_wordOf_257 rfl ?_
                        refine r_sipush (v := (1024 : Int32)) dX11_wordOf_258 (by decide) ?_
                        refine r_iconst (v := (5 : Int32)) dX11_wordOf_261 (by decide) ?_
                        refine r_bipush (v := (13 : Int32)) dX11_wordOf_262 (by decide) ?_
                        refine r_bipush (v := (16 : Int32)) dX11_wordOf_264 (by decide) ?_
                        obtain ⟨v16, hv16, h⟩ := xb h
                        refine z_callS (as := [.int (5 : Int32), .int (13 : Int32), .int (16 : Int32)]) (r1 := (some (.int v16))) (stk := [.int (1024 : Int32), .int a0]) (stk2 := [.int v16, .int (1024 : Int32), .int a0]) (st1 := st) (d' := 0) dX11_wordOf_266 xl_X11_47 (by decide) (Nat.le_trans (xsI (xsI xs0)) (by decide)) rfl rfl (S_X11_three n st (5 : Int32) (13 : Int32) (16 : Int32) v16 hv16) ?_
                        refine r_imul dX11_wordOf_269 ?_
                        refine r_sipush (v := (640 : Int32)) dX11_wordOf_270 (by decide) ?_
                        refine r_iadd dX11_wordOf_273 ?_
                        refine r_bipush (v := (25 : Int32)) dX11_wordOf_274 (by decide) ?_
                        refine r_iadd dX11_wordOf_276 ?_
                        refine r_icmp_ne (tgt := 283) dX11_wordOf_277 (by decide) (fun c => ?_) (fun c => ?_)
                        · replace h := (if_neg c).symm.trans h
                          refine r_iload_n (x := a0) dX11_wordOf_283 rfl ?_
                          refine r_bipush (v := (32 : Int32)) dX11_wordOf_284 (by decide) ?_
                          refine r_bipush (v := (19 : Int32)) dX11_wordOf_286 (by decide) ?_
                          refine r_bipush (v := (15 : Int32)) dX11_wordOf_288 (by decide) ?_
                          refine r_bipush (v := (6 : Int32)) dX11_wordOf_290 (by decide) ?_
                          obtain ⟨v17, hv17, h⟩ := xb h
                          refine z_callS (as := [.int (19 : Int32), .int (15 : Int32), .int (6 : Int32)]) (r1 := (some (.int v17))) (stk := [.int (32 : Int32), .int a0]) (stk2 := [.int v17, .int (32 : Int32), .int a0]) (st1 := st) (d' := 0) dX11_wordOf_292 xl_X11_47 (by decide) (Nat.le_trans (xsI (xsI xs0)) (by decide)) rfl rfl (S_X11_three n st (19 : Int32) (15 : Int32) (6 : Int32) v17 hv17) ?_
                          refine r_imul dX11_wordOf_295 ?_
                          refine r_bipush (v := (20 : Int32)) dX11_wordOf_296 (by decide) ?_
                          refine r_iadd dX11_wordOf_298 ?_
                          refine r_icmp_ne (tgt := 305) dX11_wordOf_299 (by decide) (fun c => ?_) (fun c => ?_)
                          · replace h := (if_neg c).symm.trans h
                            refine r_iload_n (x := a0) dX11_wordOf_305 rfl ?_
                            refine r_ldc (v := (32768 : Int32)) dX11_wordOf_306 xk_X11_46 ?_
                            refine r_bipush (v := (19 : Int32)) dX11_wordOf_308 (by decide) ?_
                            refine r_bipush (v := (20 : Int32)) dX11_wordOf_310 (by decide) ?_
                            refine r_bipush (v := (18 : Int32)) dX11_wordOf_312 (by decide) ?_
                            obtain ⟨v18, hv18, h⟩ := xb h
                            refine z_callS (as := [.int (19 : Int32), .int (20 : Int32), .int (18 : Int32)]) (r1 := (some (.int v18))) (stk := [.int (32768 : Int32), .int a0]) (stk2 := [.int v18, .int (32768 : Int32), .int a0]) (st1 := st) (d' := 0) dX11_wordOf_314 xl_X11_47 (by decide) (Nat.le_trans (xsI (xsI xs0)) (by decide)) rfl rfl (S_X11_three n st (19 : Int32) (20 : Int32) (18 : Int32) v18 hv18) ?_
                            refine r_imul dX11_wordOf_317 ?_
                            refine r_bipush (v := (9 : Int32)) dX11_wordOf_318 (by decide) ?_
                            refine r_iconst (v := (3 : Int32)) dX11_wordOf_320 (by decide) ?_
                            refine r_bipush (v := (20 : Int32)) dX11_wordOf_321 (by decide) ?_
                            obtain ⟨v19, hv19, h⟩ := xb h
                            refine z_callS (as := [.int (9 : Int32), .int (3 : Int32), .int (20 : Int32)]) (r1 := (some (.int v19))) (stk := [.int ((32768 : Int32) * v18), .int a0]) (stk2 := [.int v19, .int ((32768 : Int32) * v18), .int a0]) (st1 := st) (d' := 0) dX11_wordOf_323 xl_X11_47 (by decide) (Nat.le_trans (xsI (xsI xs0)) (by decide)) rfl rfl (S_X11_three n st (9 : Int32) (3 : Int32) (20 : Int32) v19 hv19) ?_
                            refine r_iadd dX11_wordOf_326 ?_
                            refine r_icmp_ne (tgt := 333) dX11_wordOf_327 (by decide) (fun c => ?_) (fun c => ?_)
                            · replace h := (if_neg c).symm.trans h
                              refine r_iload_n (x := a0) dX11_wordOf_333 rfl ?_
                              refine r_iconst (v := (0 : Int32)) dX11_wordOf_334 (by decide) ?_
                              refine r_iconst (v := (1 : Int32)) dX11_wordOf_335 (by decide) ?_
                              refine r_bipush (v := (20 : Int32)) dX11_wordOf_336 (by decide) ?_
                              obtain ⟨v20, hv20, h⟩ := xb h
                              refine z_callS (as := [.int (0 : Int32), .int (1 : Int32), .int (20 : Int32)]) (r1 := (some (.int v20))) (stk := [.int a0]) (stk2 := [.int v20, .int a0]) (st1 := st) (d' := 0) dX11_wordOf_338 xl_X11_47 (by decide) (Nat.le_trans (xsI xs0) (by decide)) rfl rfl (S_X11_three n st (0 : Int32) (1 : Int32) (20 : Int32) v20 hv20) ?_
                              refine r_icmp_ne (tgt := 347) dX11_wordOf_341 (by decide) (fun c => ?_) (fun c => ?_)
                              · replace h := (if_neg c).symm.trans h
                                refine r_iload_n (x := a0) dX11_wordOf_347 rfl ?_
                                refine r_bipush (v := (32 : Int32)) dX11_wordOf_348 (by decide) ?_
                                refine r_bipush (v := (7 : Int32)) dX11_wordOf_350 (by decide) ?_
                                refine r_iconst (v := (1 : Int32)) dX11_wordOf_352 (by decide) ?_
                                refine r_bipush (v := (13 : Int32)) dX11_wordOf_353 (by decide) ?_
                                obtain ⟨v21, hv21, h⟩ := xb h
                                refine z_callS (as := [.int (7 : Int32), .int (1 : Int32), .int (13 : Int32)]) (r1 := (some (.int v21))) (stk := [.int (32 : Int32), .int a0]) (stk2 := [.int v21, .int (32 : Int32), .int a0]) (st1 := st) (d' := 0) dX11_wordOf_355 xl_X11_47 (by decide) (Nat.le_trans (xsI (xsI xs0)) (by decide)) rfl rfl (S_X11_three n st (7 : Int32) (1 : Int32) (13 : Int32) v21 hv21) ?_
                                refine r_imul dX11_wordOf_358 ?_
                                refine r_iconst (v := (5 : Int32)) dX11_wordOf_359 (by decide) ?_
                                refine r_iadd dX11_wordOf_360 ?_
                                obtain ⟨q22, hq22, h⟩ := xb h
                                have Jq22 : Rn mX11_wordOf 371 [] [.int q22] st (some (.int rv)) st 1 := by
                                  obtain rfl := Option.some.inj h
                                  exact r_ireturn dX11_wordOf_371 .int rfl rfl
                                refine r_icmp_ne (tgt := 369) dX11_wordOf_361 (by decide) (fun c => ?_) (fun c => ?_)
                                · replace hq22 := (if_neg c).symm.trans hq22
                                  refine r_bipush (v := (99 : Int32)) dX11_wordOf_369 (by decide) ?_
                                  obtain rfl := Option.some.inj hq22
                                  exact x_sub [] rfl Jq22
                                · replace hq22 := (if_pos c).symm.trans hq22
                                  refine r_bipush (v := (27 : Int32)) dX11_wordOf_364 (by decide) ?_
                                  refine r_goto (tgt := 371) dX11_wordOf_366 (by decide) ?_
                                  obtain rfl := Option.some.inj hq22
                                  exact x_sub [] rfl Jq22
                              · replace h := (if_pos c).symm.trans h
                                refine r_bipush (v := (26 : Int32)) dX11_wordOf_344 (by decide) ?_
                                obtain rfl := Option.some.inj h
                                exact r_ireturn dX11_wordOf_346 .int rfl rfl
                            · replace h := (if_pos c).symm.trans h
                              refine r_bipush (v := (25 : Int32)) dX11_wordOf_330 (by decide) ?_
                              obtain rfl := Option.some.inj h
                              exact r_ireturn dX11_wordOf_332 .int rfl rfl
                          · replace h := (if_pos c).symm.trans h
                            refine r_bipush (v := (24 : Int32)) dX11_wordOf_302 (by decide) ?_
                            obtain rfl := Option.some.inj h
                            exact r_ireturn dX11_wordOf_304 .int rfl rfl
                        · replace h := (if_pos c).symm.trans h
                          refine r_bipush (v := (23 : Int32)) dX11_wordOf_280 (by decide) ?_
                          obtain rfl := Option.some.inj h
                          exact r_ireturn dX11_wordOf_282 .int rfl rfl
                      · replace h := (if_pos c).symm.trans h
                        refine r_bipush (v := (22 : Int32)) dX11_wordOf_254 (by decide) ?_
                        obtain rfl := Option.some.inj h
                        exact r_ireturn dX11_wordOf_256 .int rfl rfl
                    · replace h := (if_pos c).symm.trans h
                      refine r_bipush (v := (21 : Int32)) dX11_wordOf_227 (by decide) ?_
                      obtain rfl := Option.some.inj h
                      exact r_ireturn dX11_wordOf_229 .int rfl rfl
                  · replace h := (if_pos c).symm.trans h
                    refine r_bipush (v := (17 : Int32)) dX11_wordOf_213 (by decide) ?_
                    obtain rfl := Option.some.inj h
                    exact r_ireturn dX11_wordOf_215 .int rfl rfl
                · replace h := (if_pos c).symm.trans h
                  refine r_bipush (v := (16 : Int32)) dX11_wordOf_185 (by decide) ?_
                  obtain rfl := Option.some.inj h
                  exact r_ireturn dX11_wordOf_187 .int rfl rfl
              · replace h := (if_pos c).symm.trans h
                refine r_bipush (v := (15 : Int32)) dX11_wordOf_159 (by decide) ?_
                obtain rfl := Option.some.inj h
                exact r_ireturn dX11_wordOf_161 .int rfl rfl
            · replace h := (if_pos c).symm.trans h
              refine r_bipush (v := (14 : Int32)) dX11_wordOf_137 (by decide) ?_
              obtain rfl := Option.some.inj h
              exact r_ireturn dX11_wordOf_139 .int rfl rfl
          · replace h := (if_pos c).symm.trans h
            refine r_bipush (v := (13 : Int32)) dX11_wordOf_116 (by decide) ?_
            obtain rfl := Option.some.inj h
            exact r_ireturn dX11_wordOf_118 .int rfl rfl
        · replace h := (if_pos c).symm.trans h
          refine r_bipush (v := (12 : Int32)) dX11_wordOf_89 (by decide) ?_
          obtain rfl := Option.some.inj h
          exact r_ireturn dX11_wordOf_91 .int rfl rfl
      · replace h := (if_pos c).symm.trans h
        refine r_bipush (v := (11 : Int32)) dX11_wordOf_62 (by decide) ?_
        obtain rfl := Option.some.inj h
        exact r_ireturn dX11_wordOf_64 .int rfl rfl
    · replace h := (if_pos c).symm.trans h
      refine r_iconst (v := (2 : Int32)) dX11_wordOf_44 (by decide) ?_
      obtain rfl := Option.some.inj h
      exact r_ireturn dX11_wordOf_45 .int rfl rfl
  · replace h := (if_pos c).symm.trans h
    refine r_iconst (v := (1 : Int32)) dX11_wordOf_25 (by decide) ?_
    obtain rfl := Option.some.inj h
    exact r_ireturn dX11_wordOf_26 .int rfl rfl
theorem S_X11_wordOf (n : Nat) (st : xS) (a0 : Int32) (rv : Int32) (h : F_X11_wordOf n st a0 = some rv) : Ct mX11_wordOf [.int a0] st (some (.int rv)) st 1 := by
  refine Ct.of (by decide) (by simp only [lgL_R, lgL_I, lgL_L, lgL_0]; decide) ?_
  try simp only [lvA_R]
  exact R_X11_wordOf n st a0 rv h
theorem R_X11_advance_L0 (n : Nat) {r : Option Value} {st' : xS} : ∀ (k : Nat) (st : xS) (a0 : Option Nat) (q : (xS)), F_X11_advance_L0 n k st a0 = some q → Rn mX11_advance 39 [(0, va_rf a0)] [] q r st' 2 → Rn mX11_advance 0 [(0, va_rf a0)] [] st r st' 2 := by
  intro k
  induction k with
  | zero => intro st a0 q h; cases h
  | succ k ih =>
    intro st a0 q h J
    unfold F_X11_advance_L0 at h
    refine x_aload_n (o := a0) dX11_advance_0 rfl ?_
    refine x_aload_n (o := a0) dX11_advance_1 rfl ?_
    obtain ⟨v1, hv1, h⟩ := xb h
    refine x_getI (o := a0) dX11_advance_2 xf_X11_51 hv1 ?_
    obtain ⟨q3, hq3, h⟩ := xb h
    obtain ⟨v2, hv2, h⟩ := xb h
    refine z_callV (as := [.int v1]) (o := a0) (r1 := (some (.int v2))) (stk := []) (stk2 := [.int v2]) (st1 := st) (d' := 0) dX11_advance_5 xl_X11_54 hq3 (by decide) (Nat.le_trans xs0 (by decide)) rfl rfl (S_X11_byteAt n st a0 v1 v2 hv2) ?_
    refine r_bipush (v := (10 : Int32)) dX11_advance_8 (by decide) ?_
    refine r_icmp_eq (tgt := 26) dX11_advance_10 (by decide) (fun c => ?_) (fun c => ?_)
    · replace h := (if_pos c).symm.trans h
      refine x_aload_n (o := a0) dX11_advance_26 rfl ?_
      refine x_dupR (o := a0) dX11_advance_27 ?_
      obtain ⟨v4, hv4, h⟩ := xb h
      refine x_getI (o := a0) dX11_advance_28 xf_X11_51 hv4 ?_
      refine r_iconst (v := (1 : Int32)) dX11_advance_31 (by decide) ?_
      refine r_iadd dX11_advance_32 ?_
      obtain ⟨s5, hs5, h⟩ := xb h
      refine x_putI (o := a0) dX11_advance_33 (xp_X11_51 _) hs5 ?_
      refine r_goto (tgt := 0) dX11_advance_36 (by decide) ?_
      exact x_sub [0] rfl (ih s5 a0 q h J)
    · replace h := (if_neg c).symm.trans h
      refine x_aload_n (o := a0) dX11_advance_13 rfl ?_
      refine x_aload_n (o := a0) dX11_advance_14 rfl ?_
      obtain ⟨v6, hv6, h⟩ := xb h
      refine x_getI (o := a0) dX11_advance_15 xf_X11_51 hv6 ?_
      obtain ⟨q8, hq8, h⟩ := xb h
      obtain ⟨v7, hv7, h⟩ := xb h
      refine z_callV (as := [.int v6]) (o := a0) (r1 := (some (.int v7))) (stk := []) (stk2 := [.int v7]) (st1 := st) (d' := 0) dX11_advance_18 xl_X11_54 hq8 (by decide) (Nat.le_trans xs0 (by decide)) rfl rfl (S_X11_byteAt n st a0 v6 v7 hv7) ?_
      refine r_bipush (v := (32 : Int32)) dX11_advance_21 (by decide) ?_
      refine r_icmp_ne (tgt := 39) dX11_advance_23 (by decide) (fun c => ?_) (fun c => ?_)
      · replace h := (if_neg c).symm.trans h
        obtain rfl := Option.some.inj h
        exact x_sub [0] rfl J
      · replace h := (if_pos c).symm.trans h
        refine x_aload_n (o := a0) dX11_advance_26 rfl ?_
        refine x_dupR (o := a0) dX11_advance_27 ?_
        obtain ⟨v9, hv9, h⟩ := xb h
        refine x_getI (o := a0) dX11_advance_28 xf_X11_51 hv9 ?_
        refine r_iconst (v := (1 : Int32)) dX11_advance_31 (by decide) ?_
        refine r_iadd dX11_advance_32 ?_
        obtain ⟨s10, hs10, h⟩ := xb h
        refine x_putI (o := a0) dX11_advance_33 (xp_X11_51 _) hs10 ?_
        refine r_goto (tgt := 0) dX11_advance_36 (by decide) ?_
        exact x_sub [0] rfl (ih s10 a0 q h J)
theorem R_X11_advance_L195 (n : Nat) {r : Option Value} {st' : xS} : ∀ (k : Nat) (st : xS) (a0 : Option Nat) (q : (xS)), F_X11_advance_L195 n k st a0 = some q → Rn mX11_advance 258 [(0, va_rf a0)] [] q r st' 2 → Rn mX11_advance 195 [(0, va_rf a0)] [] st r st' 2 := by
  intro k
  induction k with
  | zero => intro st a0 q h; cases h
  | succ k ih =>
    intro st a0 q h J
    unfold F_X11_advance_L195 at h
    refine x_aload_n (o := a0) dX11_advance_195 rfl ?_
    refine x_aload_n (o := a0) dX11_advance_196 rfl ?_
    obtain ⟨v24, hv24, h⟩ := xb h
    refine x_getI (o := a0) dX11_advance_197 xf_X11_51 hv24 ?_
    obtain ⟨q26, hq26, h⟩ := xb h
    obtain ⟨v25, hv25, h⟩ := xb h
    refine z_callV (as := [.int v24]) (o := a0) (r1 := (some (.int v25))) (stk := []) (stk2 := [.int v25]) (st1 := st) (d' := 0) dX11_advance_200 xl_X11_54 hq26 (by decide) (Nat.le_trans xs0 (by decide)) rfl rfl (S_X11_byteAt n st a0 v24 v25 hv25) ?_
    obtain ⟨v27, hv27, h⟩ := xb h
    refine z_callS (as := [.int v25]) (r1 := (some (.int v27))) (stk := []) (stk2 := [.int v27]) (st1 := st) (d' := 0) dX11_advance_203 xl_X11_74 (by decide) (Nat.le_trans xs0 (by decide)) rfl rfl (S_X11_isDigit n st v25 v27 hv27) ?_
    refine r_if_eq (tgt := 258) dX11_advance_206 (by decide) (fun c => ?_) (fun c => ?_)
    · replace h := (if_pos c).symm.trans h
      obtain rfl := Option.some.inj h
      exact x_sub [0] rfl J
    · replace h := (if_neg c).symm.trans h
      refine x_aload_n (o := a0) dX11_advance_209 rfl ?_
      obtain ⟨v28, hv28, h⟩ := xb h
      refine x_getI (o := a0) dX11_advance_210 xf_X11_51 hv28 ?_
      refine x_aload_n (o := a0) dX11_advance_213 rfl ?_
      obtain ⟨v29, hv29, h⟩ := xb h
      refine x_getI (o := a0) dX11_advance_214 xf_X11_58 hv29 ?_
      refine r_isub dX11_advance_217 ?_
      refine r_iconst (v := (4 : Int32)) dX11_advance_218 (by decide) ?_
      obtain ⟨q35, hq35, h⟩ := xb h
      have Jq35 : Rn mX11_advance 245 [(0, va_rf a0)] [] q35 r st' 2 := by
        refine x_aload_n (o := a0) dX11_advance_245 rfl ?_
        refine x_dupR (o := a0) dX11_advance_246 ?_
        obtain ⟨v36, hv36, h⟩ := xb h
        refine x_getI (o := a0) dX11_advance_247 xf_X11_51 hv36 ?_
        refine r_iconst (v := (1 : Int32)) dX11_advance_250 (by decide) ?_
        refine r_iadd dX11_advance_251 ?_
        obtain ⟨s37, hs37, h⟩ := xb h
        refine x_putI (o := a0) dX11_advance_252 (xp_X11_51 _) hs37 ?_
        refine r_goto (tgt := 195) dX11_advance_255 (by decide) ?_
        exact x_sub [0] rfl (ih s37 a0 q h J)
      refine r_icmp_ge (tgt := 245) dX11_advance_219 (by decide) (fun c => ?_) (fun c => ?_)
      · replace hq35 := (if_pos c).symm.trans hq35
        obtain rfl := Option.some.inj hq35
        exact x_sub [0] rfl Jq35
      · replace hq35 := (if_neg c).symm.trans hq35
        refine x_aload_n (o := a0) dX11_advance_222 rfl ?_
        refine r_bipush (v := (10 : Int32)) dX11_advance_223 (by decide) ?_
        refine x_aload_n (o := a0) dX11_advance_225 rfl ?_
        obtain ⟨v30, hv30, hq35⟩ := xb hq35
        refine x_getI (o := a0) dX11_advance_226 xf_X11_77 hv30 ?_
        refine r_imul dX11_advance_229 ?_
        refine x_aload_n (o := a0) dX11_advance_230 rfl ?_
        refine x_aload_n (o := a0) dX11_advance_231 rfl ?_
        obtain ⟨v31, hv31, hq35⟩ := xb hq35
        refine x_getI (o := a0) dX11_advance_232 xf_X11_51 hv31 ?_
        obtain ⟨q33, hq33, hq35⟩ := xb hq35
        obtain ⟨v32, hv32, hq35⟩ := xb hq35
        refine z_callV (as := [.int v31]) (o := a0) (r1 := (some (.int v32))) (stk := [.int ((10 : Int32) * v30), va_rf a0]) (stk2 := [.int v32, .int ((10 : Int32) * v30), va_rf a0]) (st1 := st) (d' := 0) dX11_advance_235 xl_X11_54 hq33 (by decide) (Nat.le_trans (xsI (xsA xs0)) (by decide)) rfl rfl (S_X11_byteAt n st a0 v31 v32 hv32) ?_
        refine r_iadd dX11_advance_238 ?_
        refine r_bipush (v := (48 : Int32)) dX11_advance_239 (by decide) ?_
        refine r_isub dX11_advance_241 ?_
        obtain ⟨s34, hs34, hq35⟩ := xb hq35
        refine x_putI (o := a0) dX11_advance_242 (xp_X11_77 _) hs34 ?_
        obtain rfl := Option.some.inj hq35
        exact x_sub [0] rfl Jq35
theorem R_X11_advance_L77 (n : Nat) {r : Option Value} {st' : xS} : ∀ (k : Nat) (st : xS) (a0 : Option Nat) (a2 : Int32) (q : (Int32 × xS)), F_X11_advance_L77 n k st a0 a2 = some q → Rn mX11_advance 135 [(0, va_rf a0), (2, .int q.1)] [] q.2 r st' 2 → Rn mX11_advance 77 [(0, va_rf a0), (2, .int a2)] [] st r st' 2 := by
  intro k
  induction k with
  | zero => intro st a0 a2 q h; cases h
  | succ k ih =>
    intro st a0 a2 q h J
    unfold F_X11_advance_L77 at h
    refine x_aload_n (o := a0) dX11_advance_77 rfl ?_
    refine x_aload_n (o := a0) dX11_advance_78 rfl ?_
    obtain ⟨v43, hv43, h⟩ := xb h
    refine x_getI (o := a0) dX11_advance_79 xf_X11_51 hv43 ?_
    obtain ⟨q45, hq45, h⟩ := xb h
    obtain ⟨v44, hv44, h⟩ := xb h
    refine z_callV (as := [.int v43]) (o := a0) (r1 := (some (.int v44))) (stk := []) (stk2 := [.int v44]) (st1 := st) (d' := 0) dX11_advance_82 xl_X11_54 hq45 (by decide) (Nat.le_trans xs0 (by decide)) rfl rfl (S_X11_byteAt n st a0 v43 v44 hv44) ?_
    obtain ⟨v46, hv46, h⟩ := xb h
    refine z_callS (as := [.int v44]) (r1 := (some (.int v46))) (stk := []) (stk2 := [.int v46]) (st1 := st) (d' := 0) dX11_advance_85 xl_X11_64 (by decide) (Nat.le_trans xs0 (by decide)) rfl rfl (S_X11_isLetter n st v44 v46 hv46) ?_
    refine r_if_eq (tgt := 135) dX11_advance_88 (by decide) (fun c => ?_) (fun c => ?_)
    · replace h := (if_pos c).symm.trans h
      obtain rfl := Option.some.inj h
      exact x_sub [0, 1] rfl J
    · replace h := (if_neg c).symm.trans h
      refine x_aload_n (o := a0) dX11_advance_91 rfl ?_
      obtain ⟨v47, hv47, h⟩ := xb h
      refine x_getI (o := a0) dX11_advance_92 xf_X11_51 hv47 ?_
      refine x_aload_n (o := a0) dX11_advance_95 rfl ?_
      obtain ⟨v48, hv48, h⟩ := xb h
      refine x_getI (o := a0) dX11_advance_96 xf_X11_58 hv48 ?_
      refine r_isub dX11_advance_99 ?_
      refine r_bipush (v := (6 : Int32)) dX11_advance_100 (by decide) ?_
      obtain ⟨q53, hq53, h⟩ := xb h
      have Jq53 : Rn mX11_advance 122 [(0, va_rf a0), (2, .int q53)] [] st r st' 2 := by
        refine x_aload_n (o := a0) dX11_advance_122 rfl ?_
        refine x_dupR (o := a0) dX11_advance_123 ?_
        obtain ⟨v54, hv54, h⟩ := xb h
        refine x_getI (o := a0) dX11_advance_124 xf_X11_51 hv54 ?_
        refine r_iconst (v := (1 : Int32)) dX11_advance_127 (by decide) ?_
        refine r_iadd dX11_advance_128 ?_
        obtain ⟨s55, hs55, h⟩ := xb h
        refine x_putI (o := a0) dX11_advance_129 (xp_X11_51 _) hs55 ?_
        refine r_goto (tgt := 77) dX11_advance_132 (by decide) ?_
        exact x_sub [0, 1] rfl (ih s55 a0 q53 q h J)
      refine r_icmp_ge (tgt := 122) dX11_advance_102 (by decide) (fun c => ?_) (fun c => ?_)
      · replace hq53 := (if_pos c).symm.trans hq53
        obtain rfl := Option.some.inj hq53
        exact x_sub [0, 1] rfl Jq53
      · replace hq53 := (if_neg c).symm.trans hq53
        refine r_bipush (v := (32 : Int32)) dX11_advance_105 (by decide) ?_
        refine r_iload_n (x := a2) dX11_advance_107 rfl ?_
        refine r_imul dX11_advance_108 ?_
        refine x_aload_n (o := a0) dX11_advance_109 rfl ?_
        refine x_aload_n (o := a0) dX11_advance_110 rfl ?_
        obtain ⟨v49, hv49, hq53⟩ := xb hq53
        refine x_getI (o := a0) dX11_advance_111 xf_X11_51 hv49 ?_
        obtain ⟨q51, hq51, hq53⟩ := xb hq53
        obtain ⟨v50, hv50, hq53⟩ := xb hq53
        refine z_callV (as := [.int v49]) (o := a0) (r1 := (some (.int v50))) (stk := [.int ((32 : Int32) * a2)]) (stk2 := [.int v50, .int ((32 : Int32) * a2)]) (st1 := st) (d' := 0) dX11_advance_114 xl_X11_54 hq51 (by decide) (Nat.le_trans (xsI xs0) (by decide)) rfl rfl (S_X11_byteAt n st a0 v49 v50 hv50) ?_
        refine r_iadd dX11_advance_117 ?_
        refine r_bipush (v := (96 : Int32)) dX11_advance_118 (by decide) ?_
        refine r_isub dX11_advance_120 ?_
        obtain ⟨v52, hv52, hq53⟩ := xb hq53
        refine x_eqI (Option.some.inj hv52) ?_
        refine r_istore_n (lv' := [(2, .int v52), (0, va_rf a0)]) (x := v52) dX11_advance_121 (by decide) rfl ?_
        obtain rfl := Option.some.inj hq53
        exact x_sub [1, 0] rfl Jq53
theorem R_X11_advance (n : Nat) (st : xS) (a0 : Option Nat) (st' : xS) (h : F_X11_advance n st a0 = some st') : Rn mX11_advance 0 [(0, va_rf a0)] [] st none st' 2 := by
  unfold F_X11_advance at h
  obtain ⟨q11, hq11, h⟩ := xb h
  have Jq11 : Rn mX11_advance 39 [(0, va_rf a0)] [] q11 none st' 2 := by
    refine x_aload_n (o := a0) dX11_advance_39 rfl ?_
    refine x_aload_n (o := a0) dX11_advance_40 rfl ?_
    obtain ⟨v12, hv12, h⟩ := xb h
    refine x_getI (o := a0) dX11_advance_41 xf_X11_51 hv12 ?_
    obtain ⟨s13, hs13, h⟩ := xb h
    refine x_putI (o := a0) dX11_advance_44 (xp_X11_58 _) hs13 ?_
    refine x_aload_n (o := a0) dX11_advance_47 rfl ?_
    refine x_aload_n (o := a0) dX11_advance_48 rfl ?_
    obtain ⟨v14, hv14, h⟩ := xb h
    refine x_getI (o := a0) dX11_advance_49 xf_X11_51 hv14 ?_
    obtain ⟨q16, hq16, h⟩ := xb h
    obtain ⟨v15, hv15, h⟩ := xb h
    refine z_callV (as := [.int v14]) (o := a0) (r1 := (some (.int v15))) (stk := []) (stk2 := [.int v15]) (st1 := s13) (d' := 0) dX11_advance_52 xl_X11_54 hq16 (by decide) (Nat.le_trans xs0 (by decide)) rfl rfl (S_X11_byteAt n s13 a0 v14 v15 hv15) ?_
    refine r_istore_n (lv' := [(1, .int v15), (0, va_rf a0)]) (x := v15) dX11_advance_55 (by decide) (congrArg (List.cons _) (xfY (xk1 0 1 _) rfl)) ?_
    refine r_iload_n (x := v15) dX11_advance_56 rfl ?_
    obtain ⟨q66, hq66, h⟩ := xb h
    have Jq66 : Rn mX11_advance 308 [] [] q66 none st' 2 := by
      obtain rfl := Option.some.inj h
      exact r_return dX11_advance_308 rfl
    refine r_if_ge (tgt := 68) dX11_advance_57 (by decide) (fun c => ?_) (fun c => ?_)
    · replace hq66 := (if_pos c).symm.trans hq66
      refine r_iload_n (x := v15) dX11_advance_68 rfl ?_
      obtain ⟨v17, hv17, hq66⟩ := xb hq66
      refine z_callS (as := [.int v15]) (r1 := (some (.int v17))) (stk := []) (stk2 := [.int v17]) (st1 := s13) (d' := 0) dX11_advance_69 xl_X11_64 (by decide) (Nat.le_trans xs0 (by decide)) rfl rfl (S_X11_isLetter n s13 v15 v17 hv17) ?_
      refine r_if_eq (tgt := 183) dX11_advance_72 (by decide) (fun c => ?_) (fun c => ?_)
      · replace hq66 := (if_pos c).symm.trans hq66
        refine r_iload_n (x := v15) dX11_advance_183 rfl ?_
        obtain ⟨v18, hv18, hq66⟩ := xb hq66
        refine z_callS (as := [.int v15]) (r1 := (some (.int v18))) (stk := []) (stk2 := [.int v18]) (st1 := s13) (d' := 0) dX11_advance_184 xl_X11_74 (by decide) (Nat.le_trans xs0 (by decide)) rfl rfl (S_X11_isDigit n s13 v15 v18 hv18) ?_
        refine r_if_eq (tgt := 283) dX11_advance_187 (by decide) (fun c => ?_) (fun c => ?_)
        · replace hq66 := (if_pos c).symm.trans hq66
          refine x_aload_n (o := a0) dX11_advance_283 rfl ?_
          refine x_dupR (o := a0) dX11_advance_284 ?_
          obtain ⟨v19, hv19, hq66⟩ := xb hq66
          refine x_getI (o := a0) dX11_advance_285 xf_X11_51 hv19 ?_
          refine r_iconst (v := (1 : Int32)) dX11_advance_288 (by decide) ?_
          refine r_iadd dX11_advance_289 ?_
          obtain ⟨s20, hs20, hq66⟩ := xb hq66
          refine x_putI (o := a0) dX11_advance_290 (xp_X11_51 _) hs20 ?_
          refine x_aload_n (o := a0) dX11_advance_293 rfl ?_
          refine r_iload_n (x := v15) dX11_advance_294 rfl ?_
          refine r_bipush (v := (59 : Int32)) dX11_advance_295 (by decide) ?_
          obtain ⟨q21, hq21, hq66⟩ := xb hq66
          have Jq21 : Rn mX11_advance 305 [] [.int q21, va_rf a0] s20 none st' 2 := by
            obtain ⟨s22, hs22, hq66⟩ := xb hq66
            refine x_putI (o := a0) dX11_advance_305 (xp_X11_61 _) hs22 ?_
            obtain rfl := Option.some.inj hq66
            exact x_sub [] rfl Jq66
          refine r_icmp_ne (tgt := 304) dX11_advance_297 (by decide) (fun c => ?_) (fun c => ?_)
          · replace hq21 := (if_neg c).symm.trans hq21
            refine r_iconst (v := (4 : Int32)) dX11_advance_304 (by decide) ?_
            obtain rfl := Option.some.inj hq21
            exact x_sub [] rfl Jq21
          · replace hq21 := (if_pos c).symm.trans hq21
            refine r_iconst (v := (2 : Int32)) dX11_advance_300 (by decide) ?_
            refine r_goto (tgt := 305) dX11_advance_301 (by decide) ?_
            obtain rfl := Option.some.inj hq21
            exact x_sub [] rfl Jq21
        · replace hq66 := (if_neg c).symm.trans hq66
          refine x_aload_n (o := a0) dX11_advance_190 rfl ?_
          refine r_iconst (v := (0 : Int32)) dX11_advance_191 (by decide) ?_
          obtain ⟨s23, hs23, hq66⟩ := xb hq66
          refine x_putI (o := a0) dX11_advance_192 (xp_X11_77 _) hs23 ?_
          obtain ⟨q38, hq38, hq66⟩ := xb hq66
          have Jq38 : Rn mX11_advance 258 [(0, va_rf a0)] [] q38 none st' 2 := by
            refine x_aload_n (o := a0) dX11_advance_258 rfl ?_
            refine x_aload_n (o := a0) dX11_advance_259 rfl ?_
            obtain ⟨v39, hv39, hq66⟩ := xb hq66
            refine x_getI (o := a0) dX11_advance_260 xf_X11_51 hv39 ?_
            refine x_aload_n (o := a0) dX11_advance_263 rfl ?_
            obtain ⟨v40, hv40, hq66⟩ := xb hq66
            refine x_getI (o := a0) dX11_advance_264 xf_X11_58 hv40 ?_
            refine r_isub dX11_advance_267 ?_
            refine r_iconst (v := (4 : Int32)) dX11_advance_268 (by decide) ?_
            obtain ⟨q41, hq41, hq66⟩ := xb hq66
            have Jq41 : Rn mX11_advance 277 [] [.int q41, va_rf a0] q38 none st' 2 := by
              obtain ⟨s42, hs42, hq66⟩ := xb hq66
              refine x_putI (o := a0) dX11_advance_277 (xp_X11_61 _) hs42 ?_
              refine r_goto (tgt := 308) dX11_advance_280 (by decide) ?_
              obtain rfl := Option.some.inj hq66
              exact x_sub [] rfl Jq66
            refine r_icmp_le (tgt := 276) dX11_advance_269 (by decide) (fun c => ?_) (fun c => ?_)
            · replace hq41 := (if_pos c).symm.trans hq41
              refine r_iconst (v := (1 : Int32)) dX11_advance_276 (by decide) ?_
              obtain rfl := Option.some.inj hq41
              exact x_sub [] rfl Jq41
            · replace hq41 := (if_neg c).symm.trans hq41
              refine r_iconst (v := (4 : Int32)) dX11_advance_272 (by decide) ?_
              refine r_goto (tgt := 277) dX11_advance_273 (by decide) ?_
              obtain rfl := Option.some.inj hq41
              exact x_sub [] rfl Jq41
          exact x_sub [1] rfl (R_X11_advance_L195 n n s23 a0 q38 hq38 Jq38)
      · replace hq66 := (if_neg c).symm.trans hq66
        refine r_iconst (v := (0 : Int32)) dX11_advance_75 (by decide) ?_
        refine r_istore_n (lv' := [(2, .int (0 : Int32)), (1, .int v15), (0, va_rf a0)]) (x := (0 : Int32)) dX11_advance_76 (by decide) rfl ?_
        obtain ⟨q56, hq56, hq66⟩ := xb hq66
        have Jq56 : Rn mX11_advance 135 [(0, va_rf a0), (2, .int q56.1)] [] q56.2 none st' 2 := by
          refine x_aload_n (o := a0) dX11_advance_135 rfl ?_
          refine x_aload_n (o := a0) dX11_advance_136 rfl ?_
          obtain ⟨v57, hv57, hq66⟩ := xb hq66
          refine x_getI (o := a0) dX11_advance_137 xf_X11_51 hv57 ?_
          refine x_aload_n (o := a0) dX11_advance_140 rfl ?_
          obtain ⟨v58, hv58, hq66⟩ := xb hq66
          refine x_getI (o := a0) dX11_advance_141 xf_X11_58 hv58 ?_
          refine r_isub dX11_advance_144 ?_
          refine r_bipush (v := (6 : Int32)) dX11_advance_145 (by decide) ?_
          obtain ⟨q60, hq60, hq66⟩ := xb hq66
          have Jq60 : Rn mX11_advance 159 [(0, va_rf a0)] [.int q60, va_rf a0] q56.2 none st' 2 := by
            obtain ⟨s61, hs61, hq66⟩ := xb hq66
            refine x_putI (o := a0) dX11_advance_159 (xp_X11_71 _) hs61 ?_
            refine x_aload_n (o := a0) dX11_advance_162 rfl ?_
            refine x_aload_n (o := a0) dX11_advance_163 rfl ?_
            obtain ⟨v62, hv62, hq66⟩ := xb hq66
            refine x_getI (o := a0) dX11_advance_164 xf_X11_71 hv62 ?_
            refine r_bipush (v := (99 : Int32)) dX11_advance_167 (by decide) ?_
            obtain ⟨q63, hq63, hq66⟩ := xb hq66
            have Jq63 : Rn mX11_advance 177 [] [.int q63, va_rf a0] s61 none st' 2 := by
              obtain ⟨s64, hs64, hq66⟩ := xb hq66
              refine x_putI (o := a0) dX11_advance_177 (xp_X11_61 _) hs64 ?_
              refine r_goto (tgt := 308) dX11_advance_180 (by decide) ?_
              obtain rfl := Option.some.inj hq66
              exact x_sub [] rfl Jq66
            refine r_icmp_ne (tgt := 176) dX11_advance_169 (by decide) (fun c => ?_) (fun c => ?_)
            · replace hq63 := (if_neg c).symm.trans hq63
              refine r_iconst (v := (3 : Int32)) dX11_advance_176 (by decide) ?_
              obtain rfl := Option.some.inj hq63
              exact x_sub [] rfl Jq63
            · replace hq63 := (if_pos c).symm.trans hq63
              refine r_iconst (v := (4 : Int32)) dX11_advance_172 (by decide) ?_
              refine r_goto (tgt := 177) dX11_advance_173 (by decide) ?_
              obtain rfl := Option.some.inj hq63
              exact x_sub [] rfl Jq63
          refine r_icmp_le (tgt := 155) dX11_advance_147 (by decide) (fun c => ?_) (fun c => ?_)
          · replace hq60 := (if_pos c).symm.trans hq60
            refine r_iload_n (x := q56.1) dX11_advance_155 rfl ?_
            obtain ⟨v59, hv59, hq60⟩ := xb hq60
            refine z_callS (as := [.int q56.1]) (r1 := (some (.int v59))) (stk := [va_rf a0]) (stk2 := [.int v59, va_rf a0]) (st1 := q56.2) (d' := 1) dX11_advance_156 xl_X11_68 (by decide) (Nat.le_trans (xsA xs0) (by decide)) rfl rfl (S_X11_wordOf n q56.2 q56.1 v59 hv59) ?_
            obtain rfl := Option.some.inj hq60
            exact x_sub [0] rfl Jq60
          · replace hq60 := (if_neg c).symm.trans hq60
            refine r_bipush (v := (99 : Int32)) dX11_advance_150 (by decide) ?_
            refine r_goto (tgt := 159) dX11_advance_152 (by decide) ?_
            obtain rfl := Option.some.inj hq60
            exact x_sub [0] rfl Jq60
        exact x_sub [2, 0] rfl (R_X11_advance_L77 n n s13 a0 (0 : Int32) q56 hq56 Jq56)
    · replace hq66 := (if_neg c).symm.trans hq66
      refine x_aload_n (o := a0) dX11_advance_60 rfl ?_
      refine r_iconst (v := (0 : Int32)) dX11_advance_61 (by decide) ?_
      obtain ⟨s65, hs65, hq66⟩ := xb hq66
      refine x_putI (o := a0) dX11_advance_62 (xp_X11_61 _) hs65 ?_
      refine r_goto (tgt := 308) dX11_advance_65 (by decide) ?_
      obtain rfl := Option.some.inj hq66
      exact x_sub [] rfl Jq66
  exact x_sub [0] rfl (R_X11_advance_L0 n n st a0 q11 hq11 Jq11)
theorem S_X11_advance (n : Nat) (st : xS) (a0 : Option Nat) (st' : xS) (h : F_X11_advance n st a0 = some st') : Ct mX11_advance [va_rf a0] st none st' 2 := by
  refine Ct.of (by decide) (by simp only [lgL_R, lgL_I, lgL_L, lgL_0]; decide) ?_
  try simp only [lvA_R]
  exact R_X11_advance n st a0 st' h
theorem R_X11_ends (n : Nat) (st : xS) (a0 : Option Nat) (st' : xS) (h : F_X11_ends n st a0 = some st') : Rn mX11_ends 0 [(0, va_rf a0)] [] st none st' 0 := by
  unfold F_X11_ends at h
  refine x_aload_n (o := a0) dX11_ends_0 rfl ?_
  obtain ⟨v1, hv1, h⟩ := xb h
  refine x_getI (o := a0) dX11_ends_1 xf_X11_80 hv1 ?_
  refine r_if_eq (tgt := 8) dX11_ends_4 (by decide) (fun c => ?_) (fun c => ?_)
  · replace h := (if_pos c).symm.trans h
    refine x_aload_n (o := a0) dX11_ends_8 rfl ?_
    refine r_iconst (v := (1 : Int32)) dX11_ends_9 (by decide) ?_
    obtain ⟨v3, hv3, h⟩ := xb h
    refine x_eqI (rz_inv2 hv3).1 ?_
    obtain ⟨s2, hs2, h⟩ := xb h
    refine x_putZ (o := a0) dX11_ends_10 (xp_X11_80 _) (rz_inv2 hv3).2 hs2 ?_
    refine x_aload_n (o := a0) dX11_ends_13 rfl ?_
    obtain ⟨v4, hv4, h⟩ := xb h
    refine x_getR (o := a0) dX11_ends_14 xf_X11_7 hv4 ?_
    refine r_iconst (v := (5 : Int32)) dX11_ends_17 (by decide) ?_
    refine r_iconst (v := (1 : Int32)) dX11_ends_18 (by decide) ?_
    obtain ⟨s5, hs5, h⟩ := xb h
    refine x_iastore (o := v4) dX11_ends_19 hs5 ?_
    refine x_aload_n (o := a0) dX11_ends_20 rfl ?_
    obtain ⟨v6, hv6, h⟩ := xb h
    refine x_getR (o := a0) dX11_ends_21 xf_X11_7 hv6 ?_
    refine r_bipush (v := (6 : Int32)) dX11_ends_24 (by decide) ?_
    refine x_aload_n (o := a0) dX11_ends_26 rfl ?_
    obtain ⟨v7, hv7, h⟩ := xb h
    refine x_getI (o := a0) dX11_ends_27 xf_X11_58 hv7 ?_
    obtain ⟨s8, hs8, h⟩ := xb h
    refine x_iastore (o := v6) dX11_ends_30 hs8 ?_
    obtain rfl := Option.some.inj h
    exact r_return dX11_ends_31 rfl
  · replace h := (if_neg c).symm.trans h
    obtain rfl := Option.some.inj h
    exact r_return dX11_ends_7 rfl
theorem S_X11_ends (n : Nat) (st : xS) (a0 : Option Nat) (st' : xS) (h : F_X11_ends n st a0 = some st') : Ct mX11_ends [va_rf a0] st none st' 0 := by
  refine Ct.of (by decide) (by simp only [lgL_R, lgL_I, lgL_L, lgL_0]; decide) ?_
  try simp only [lvA_R]
  exact R_X11_ends n st a0 st' h
theorem R_X11_also (n : Nat) (st : xS) (a0 : Option Nat) (a1 : Int32) (a2 : Int32) (st' : xS) (h : F_X11_also n st a0 a1 a2 = some st') : Rn mX11_also 0 [(0, va_rf a0), (1, .int a1), (2, .int a2)] [] st none st' 0 := by
  unfold F_X11_also at h
  refine x_aload_n (o := a0) dX11_also_0 rfl ?_
  obtain ⟨v1, hv1, h⟩ := xb h
  refine x_getI (o := a0) dX11_also_1 xf_X11_80 hv1 ?_
  refine r_if_ne (tgt := 48) dX11_also_4 (by decide) (fun c => ?_) (fun c => ?_)
  · replace h := (if_neg c).symm.trans h
    obtain rfl := Option.some.inj h
    exact r_return dX11_also_48 rfl
  · replace h := (if_pos c).symm.trans h
    refine x_aload_n (o := a0) dX11_also_7 rfl ?_
    obtain ⟨v2, hv2, h⟩ := xb h
    refine x_getR (o := a0) dX11_also_8 xf_X11_7 hv2 ?_
    refine r_iconst (v := (5 : Int32)) dX11_also_11 (by decide) ?_
    obtain ⟨v3, hv3, h⟩ := xb h
    refine x_iaload (o := v2) dX11_also_12 hv3 ?_
    refine r_if_eq (tgt := 49) dX11_also_13 (by decide) (fun c => ?_) (fun c => ?_)
    · replace h := (if_pos c).symm.trans h
      refine x_aload_n (o := a0) dX11_also_49 rfl ?_
      obtain ⟨v4, hv4, h⟩ := xb h
      refine x_getR (o := a0) dX11_also_50 xf_X11_7 hv4 ?_
      refine r_iconst (v := (5 : Int32)) dX11_also_53 (by decide) ?_
      refine r_iload_n (x := a1) dX11_also_54 rfl ?_
      obtain ⟨s5, hs5, h⟩ := xb h
      refine x_iastore (o := v4) dX11_also_55 hs5 ?_
      refine x_aload_n (o := a0) dX11_also_56 rfl ?_
      obtain ⟨v6, hv6, h⟩ := xb h
      refine x_getR (o := a0) dX11_also_57 xf_X11_7 hv6 ?_
      refine r_bipush (v := (6 : Int32)) dX11_also_60 (by decide) ?_
      refine r_iload_n (x := a2) dX11_also_62 rfl ?_
      obtain ⟨s7, hs7, h⟩ := xb h
      refine x_iastore (o := v6) dX11_also_63 hs7 ?_
      obtain rfl := Option.some.inj h
      exact r_return dX11_also_64 rfl
    · replace h := (if_neg c).symm.trans h
      refine x_aload_n (o := a0) dX11_also_16 rfl ?_
      obtain ⟨v8, hv8, h⟩ := xb h
      refine x_getR (o := a0) dX11_also_17 xf_X11_7 hv8 ?_
      refine r_bipush (v := (6 : Int32)) dX11_also_20 (by decide) ?_
      obtain ⟨v9, hv9, h⟩ := xb h
      refine x_iaload (o := v8) dX11_also_22 hv9 ?_
      refine r_iload_n (x := a2) dX11_also_23 rfl ?_
      refine r_icmp_lt (tgt := 48) dX11_also_24 (by decide) (fun c => ?_) (fun c => ?_)
      · replace h := (if_pos c).symm.trans h
        obtain rfl := Option.some.inj h
        exact r_return dX11_also_48 rfl
      · replace h := (if_neg c).symm.trans h
        refine x_aload_n (o := a0) dX11_also_27 rfl ?_
        obtain ⟨v10, hv10, h⟩ := xb h
        refine x_getR (o := a0) dX11_also_28 xf_X11_7 hv10 ?_
        refine r_bipush (v := (6 : Int32)) dX11_also_31 (by decide) ?_
        obtain ⟨v11, hv11, h⟩ := xb h
        refine x_iaload (o := v10) dX11_also_33 hv11 ?_
        refine r_iload_n (x := a2) dX11_also_34 rfl ?_
        refine r_icmp_ne (tgt := 49) dX11_also_35 (by decide) (fun c => ?_) (fun c => ?_)
        · replace h := (if_neg c).symm.trans h
          refine x_aload_n (o := a0) dX11_also_49 rfl ?_
          obtain ⟨v18, hv18, h⟩ := xb h
          refine x_getR (o := a0) dX11_also_50 xf_X11_7 hv18 ?_
          refine r_iconst (v := (5 : Int32)) dX11_also_53 (by decide) ?_
          refine r_iload_n (x := a1) dX11_also_54 rfl ?_
          obtain ⟨s19, hs19, h⟩ := xb h
          refine x_iastore (o := v18) dX11_also_55 hs19 ?_
          refine x_aload_n (o := a0) dX11_also_56 rfl ?_
          obtain ⟨v20, hv20, h⟩ := xb h
          refine x_getR (o := a0) dX11_also_57 xf_X11_7 hv20 ?_
          refine r_bipush (v := (6 : Int32)) dX11_also_60 (by decide) ?_
          refine r_iload_n (x := a2) dX11_also_62 rfl ?_
          obtain ⟨s21, hs21, h⟩ := xb h
          refine x_iastore (o := v20) dX11_also_63 hs21 ?_
          obtain rfl := Option.some.inj h
          exact r_return dX11_also_64 rfl
        · replace h := (if_pos c).symm.trans h
          refine x_aload_n (o := a0) dX11_also_38 rfl ?_
          obtain ⟨v12, hv12, h⟩ := xb h
          refine x_getR (o := a0) dX11_also_39 xf_X11_7 hv12 ?_
          refine r_iconst (v := (5 : Int32)) dX11_also_42 (by decide) ?_
          obtain ⟨v13, hv13, h⟩ := xb h
          refine x_iaload (o := v12) dX11_also_43 hv13 ?_
          refine r_iload_n (x := a1) dX11_also_44 rfl ?_
          refine r_icmp_gt (tgt := 49) dX11_also_45 (by decide) (fun c => ?_) (fun c => ?_)
          · replace h := (if_pos c).symm.trans h
            refine x_aload_n (o := a0) dX11_also_49 rfl ?_
            obtain ⟨v14, hv14, h⟩ := xb h
            refine x_getR (o := a0) dX11_also_50 xf_X11_7 hv14 ?_
            refine r_iconst (v := (5 : Int32)) dX11_also_53 (by decide) ?_
            refine r_iload_n (x := a1) dX11_also_54 rfl ?_
            obtain ⟨s15, hs15, h⟩ := xb h
            refine x_iastore (o := v14) dX11_also_55 hs15 ?_
            refine x_aload_n (o := a0) dX11_also_56 rfl ?_
            obtain ⟨v16, hv16, h⟩ := xb h
            refine x_getR (o := a0) dX11_also_57 xf_X11_7 hv16 ?_
            refine r_bipush (v := (6 : Int32)) dX11_also_60 (by decide) ?_
            refine r_iload_n (x := a2) dX11_also_62 rfl ?_
            obtain ⟨s17, hs17, h⟩ := xb h
            refine x_iastore (o := v16) dX11_also_63 hs17 ?_
            obtain rfl := Option.some.inj h
            exact r_return dX11_also_64 rfl
          · replace h := (if_neg c).symm.trans h
            obtain rfl := Option.some.inj h
            exact r_return dX11_also_48 rfl
theorem S_X11_also (n : Nat) (st : xS) (a0 : Option Nat) (a1 : Int32) (a2 : Int32) (st' : xS) (h : F_X11_also n st a0 a1 a2 = some st') : Ct mX11_also [va_rf a0, .int a1, .int a2] st none st' 0 := by
  refine Ct.of (by decide) (by simp only [lgL_R, lgL_I, lgL_L, lgL_0]; decide) ?_
  try simp only [lvA_R]
  exact R_X11_also n st a0 a1 a2 st' h
theorem R_X11_numbered (n : Nat) (st : xS) (a0 : Option Nat) (a1 : Int32) (a2 : Int32) (rv : Int32) (st' : xS) (h : F_X11_numbered n st a0 a1 a2 = some (rv, st')) : Rn mX11_numbered 0 [(0, va_rf a0), (1, .int a1), (2, .int a2)] [] st (some (.int rv)) st' 3 := by
  unfold F_X11_numbered at h
  refine x_aload_n (o := a0) dX11_numbered_0 rfl ?_
  obtain ⟨v1, hv1, h⟩ := xb h
  refine x_getI (o := a0) dX11_numbered_1 xf_X11_80 hv1 ?_
  refine r_if_ne (tgt := 15) dX11_numbered_4 (by decide) (fun c => ?_) (fun c => ?_)
  · replace h := (if_neg c).symm.trans h
    refine x_aload_n (o := a0) dX11_numbered_15 rfl ?_
    obtain ⟨q13, hq13, h⟩ := xb h
    obtain ⟨s12, hs12, h⟩ := xb h
    refine z_callV (as := []) (o := a0) (r1 := none) (stk := []) (stk2 := []) (st1 := s12) (d' := 0) dX11_numbered_16 xl_X11_84 hq13 (by decide) (Nat.le_trans xs0 (by decide)) rfl rfl (S_X11_ends n st a0  s12 hs12) ?_
    refine r_iconst (v := (-1 : Int32)) dX11_numbered_19 (by decide) ?_
    obtain ⟨rfl, rfl⟩ := Prod.mk.inj (Option.some.inj h)
    exact r_ireturn dX11_numbered_20 .int rfl rfl
  · replace h := (if_pos c).symm.trans h
    refine x_aload_n (o := a0) dX11_numbered_7 rfl ?_
    obtain ⟨v2, hv2, h⟩ := xb h
    refine x_getI (o := a0) dX11_numbered_8 xf_X11_61 hv2 ?_
    refine r_iconst (v := (1 : Int32)) dX11_numbered_11 (by decide) ?_
    refine r_icmp_eq (tgt := 21) dX11_numbered_12 (by decide) (fun c => ?_) (fun c => ?_)
    · replace h := (if_pos c).symm.trans h
      refine x_aload_n (o := a0) dX11_numbered_21 rfl ?_
      obtain ⟨v3, hv3, h⟩ := xb h
      refine x_getI (o := a0) dX11_numbered_22 xf_X11_77 hv3 ?_
      refine r_istore_n (lv' := [(3, .int v3), (0, va_rf a0), (1, .int a1), (2, .int a2)]) (x := v3) dX11_numbered_25 (by decide) rfl ?_
      refine x_aload_n (o := a0) dX11_numbered_26 rfl ?_
      obtain ⟨v4, hv4, h⟩ := xb h
      refine x_getI (o := a0) dX11_numbered_27 xf_X11_58 hv4 ?_
      refine r_istore (lv' := [(4, .int v4), (3, .int v3), (0, va_rf a0), (1, .int a1), (2, .int a2)]) (x := v4) dX11_numbered_30 (by decide) rfl ?_
      refine x_aload_n (o := a0) dX11_numbered_32 rfl ?_
      obtain ⟨q6, hq6, h⟩ := xb h
      obtain ⟨s5, hs5, h⟩ := xb h
      refine z_callV (as := []) (o := a0) (r1 := none) (stk := []) (stk2 := []) (st1 := s5) (d' := 2) dX11_numbered_33 xl_X11_87 hq6 (by decide) (Nat.le_trans xs0 (by decide)) rfl rfl (S_X11_advance n st a0  s5 hs5) ?_
      refine r_iload_n (x := v3) dX11_numbered_36 rfl ?_
      refine r_iload_n (x := a1) dX11_numbered_37 rfl ?_
      refine r_iload_n (x := a2) dX11_numbered_38 rfl ?_
      obtain ⟨v7, hv7, h⟩ := xb h
      refine z_callS (as := [.int v3, .int a1, .int a2]) (r1 := (some (.int v7))) (stk := []) (stk2 := [.int v7]) (st1 := s5) (d' := 0) dX11_numbered_39 xl_X11_90 (by decide) (Nat.le_trans xs0 (by decide)) rfl rfl (S_X11_isIn n s5 v3 a1 a2 v7 hv7) ?_
      refine r_if_eq (tgt := 47) dX11_numbered_42 (by decide) (fun c => ?_) (fun c => ?_)
      · replace h := (if_pos c).symm.trans h
        refine x_aload_n (o := a0) dX11_numbered_47 rfl ?_
        refine r_iconst (v := (2 : Int32)) dX11_numbered_48 (by decide) ?_
        refine r_iload (x := v4) dX11_numbered_49 rfl ?_
        obtain ⟨q9, hq9, h⟩ := xb h
        obtain ⟨s8, hs8, h⟩ := xb h
        refine z_callV (as := [.int (2 : Int32), .int v4]) (o := a0) (r1 := none) (stk := []) (stk2 := []) (st1 := s8) (d' := 0) dX11_numbered_51 xl_X11_94 hq9 (by decide) (Nat.le_trans xs0 (by decide)) rfl rfl (S_X11_also n s5 a0 (2 : Int32) v4 s8 hs8) ?_
        refine r_iconst (v := (-1 : Int32)) dX11_numbered_54 (by decide) ?_
        obtain ⟨rfl, rfl⟩ := Prod.mk.inj (Option.some.inj h)
        exact r_ireturn dX11_numbered_55 .int rfl rfl
      · replace h := (if_neg c).symm.trans h
        refine r_iload_n (x := v3) dX11_numbered_45 rfl ?_
        obtain ⟨rfl, rfl⟩ := Prod.mk.inj (Option.some.inj h)
        exact r_ireturn dX11_numbered_46 .int rfl rfl
    · replace h := (if_neg c).symm.trans h
      refine x_aload_n (o := a0) dX11_numbered_15 rfl ?_
      obtain ⟨q11, hq11, h⟩ := xb h
      obtain ⟨s10, hs10, h⟩ := xb h
      refine z_callV (as := []) (o := a0) (r1 := none) (stk := []) (stk2 := []) (st1 := s10) (d' := 0) dX11_numbered_16 xl_X11_84 hq11 (by decide) (Nat.le_trans xs0 (by decide)) rfl rfl (S_X11_ends n st a0  s10 hs10) ?_
      refine r_iconst (v := (-1 : Int32)) dX11_numbered_19 (by decide) ?_
      obtain ⟨rfl, rfl⟩ := Prod.mk.inj (Option.some.inj h)
      exact r_ireturn dX11_numbered_20 .int rfl rfl
theorem S_X11_numbered (n : Nat) (st : xS) (a0 : Option Nat) (a1 : Int32) (a2 : Int32) (rv : Int32) (st' : xS) (h : F_X11_numbered n st a0 a1 a2 = some (rv, st')) : Ct mX11_numbered [va_rf a0, .int a1, .int a2] st (some (.int rv)) st' 3 := by
  refine Ct.of (by decide) (by simp only [lgL_R, lgL_I, lgL_L, lgL_0]; decide) ?_
  try simp only [lvA_R]
  exact R_X11_numbered n st a0 a1 a2 rv st' h
theorem R_X11_another (n : Nat) (st : xS) (a0 : Option Nat) (a1 : Int32) (a2 : Int32) (a3 : Int32) (rv : Int32) (st' : xS) (h : F_X11_another n st a0 a1 a2 a3 = some (rv, st')) : Rn mX11_another 0 [(0, va_rf a0), (1, .int a1), (2, .int a2), (3, .int a3)] [] st (some (.int rv)) st' 4 := by
  unfold F_X11_another at h
  refine x_aload_n (o := a0) dX11_another_0 rfl ?_
  obtain ⟨v1, hv1, h⟩ := xb h
  refine x_getI (o := a0) dX11_another_1 xf_X11_58 hv1 ?_
  refine r_istore (lv' := [(4, .int v1), (0, va_rf a0), (1, .int a1), (2, .int a2), (3, .int a3)]) (x := v1) dX11_another_4 (by decide) rfl ?_
  refine x_aload_n (o := a0) dX11_another_6 rfl ?_
  refine r_iload_n (x := a1) dX11_another_7 rfl ?_
  refine r_iload_n (x := a2) dX11_another_8 rfl ?_
  obtain ⟨q3, hq3, h⟩ := xb h
  obtain ⟨p2, hp2, h⟩ := xb h
  refine z_callV (as := [.int a1, .int a2]) (o := a0) (r1 := (some (.int p2.1))) (stk := []) (stk2 := [.int p2.1]) (st1 := p2.2) (d' := 3) dX11_another_9 xl_X11_98 hq3 (by decide) (Nat.le_trans xs0 (by decide)) rfl rfl (S_X11_numbered n st a0 a1 a2 p2.1 p2.2 hp2) ?_
  refine r_istore (lv' := [(5, .int p2.1), (4, .int v1), (0, va_rf a0), (1, .int a1), (2, .int a2), (3, .int a3)]) (x := p2.1) dX11_another_12 (by decide) rfl ?_
  refine r_iload (x := p2.1) dX11_another_14 rfl ?_
  obtain ⟨q6, hq6, h⟩ := xb h
  have Jq6 : Rn mX11_another 32 [(5, .int p2.1)] [] q6 (some (.int rv)) st' 4 := by
    refine r_iload (x := p2.1) dX11_another_32 rfl ?_
    obtain ⟨rfl, rfl⟩ := Prod.mk.inj (Option.some.inj h)
    exact r_ireturn dX11_another_34 .int rfl rfl
  refine r_if_lt (tgt := 32) dX11_another_16 (by decide) (fun c => ?_) (fun c => ?_)
  · replace hq6 := (if_pos c).symm.trans hq6
    obtain rfl := Option.some.inj hq6
    exact x_sub [0] rfl Jq6
  · replace hq6 := (if_neg c).symm.trans hq6
    refine r_iload (x := p2.1) dX11_another_19 rfl ?_
    refine r_iload_n (x := a3) dX11_another_21 rfl ?_
    refine r_icmp_ne (tgt := 32) dX11_another_22 (by decide) (fun c => ?_) (fun c => ?_)
    · replace hq6 := (if_neg c).symm.trans hq6
      obtain rfl := Option.some.inj hq6
      exact x_sub [0] rfl Jq6
    · replace hq6 := (if_pos c).symm.trans hq6
      refine x_aload_n (o := a0) dX11_another_25 rfl ?_
      refine r_iconst (v := (2 : Int32)) dX11_another_26 (by decide) ?_
      refine r_iload (x := v1) dX11_another_27 rfl ?_
      obtain ⟨q5, hq5, hq6⟩ := xb hq6
      obtain ⟨s4, hs4, hq6⟩ := xb hq6
      refine z_callV (as := [.int (2 : Int32), .int v1]) (o := a0) (r1 := none) (stk := []) (stk2 := []) (st1 := s4) (d' := 0) dX11_another_29 xl_X11_94 hq5 (by decide) (Nat.le_trans xs0 (by decide)) rfl rfl (S_X11_also n p2.2 a0 (2 : Int32) v1 s4 hs4) ?_
      obtain rfl := Option.some.inj hq6
      exact x_sub [0] rfl Jq6
theorem S_X11_another (n : Nat) (st : xS) (a0 : Option Nat) (a1 : Int32) (a2 : Int32) (a3 : Int32) (rv : Int32) (st' : xS) (h : F_X11_another n st a0 a1 a2 a3 = some (rv, st')) : Ct mX11_another [va_rf a0, .int a1, .int a2, .int a3] st (some (.int rv)) st' 4 := by
  refine Ct.of (by decide) (by simp only [lgL_R, lgL_I, lgL_L, lgL_0]; decide) ?_
  try simp only [lvA_R]
  exact R_X11_another n st a0 a1 a2 a3 rv st' h
theorem R_X11_takes (n : Nat) (st : xS) (a0 : Option Nat) (a1 : Int32) (a2 : Int32) (rv : Int32) (st' : xS) (h : F_X11_takes n st a0 a1 a2 = some (rv, st')) : Rn mX11_takes 0 [(0, va_rf a0), (1, .int a1), (2, .int a2)] [] st (some (.int rv)) st' 3 := by
  unfold F_X11_takes at h
  refine x_aload_n (o := a0) dX11_takes_0 rfl ?_
  obtain ⟨v1, hv1, h⟩ := xb h
  refine x_getI (o := a0) dX11_takes_1 xf_X11_80 hv1 ?_
  refine r_if_ne (tgt := 27) dX11_takes_4 (by decide) (fun c => ?_) (fun c => ?_)
  · replace h := (if_neg c).symm.trans h
    refine x_aload_n (o := a0) dX11_takes_27 rfl ?_
    obtain ⟨q13, hq13, h⟩ := xb h
    obtain ⟨s12, hs12, h⟩ := xb h
    refine z_callV (as := []) (o := a0) (r1 := none) (stk := []) (stk2 := []) (st1 := s12) (d' := 0) dX11_takes_28 xl_X11_84 hq13 (by decide) (Nat.le_trans xs0 (by decide)) rfl rfl (S_X11_ends n st a0  s12 hs12) ?_
    refine r_iconst (v := (-1 : Int32)) dX11_takes_31 (by decide) ?_
    obtain ⟨rfl, rfl⟩ := Prod.mk.inj (Option.some.inj h)
    exact r_ireturn dX11_takes_32 .int rfl rfl
  · replace h := (if_pos c).symm.trans h
    refine x_aload_n (o := a0) dX11_takes_7 rfl ?_
    obtain ⟨v2, hv2, h⟩ := xb h
    refine x_getI (o := a0) dX11_takes_8 xf_X11_61 hv2 ?_
    refine r_iconst (v := (3 : Int32)) dX11_takes_11 (by decide) ?_
    refine r_icmp_ne (tgt := 27) dX11_takes_12 (by decide) (fun c => ?_) (fun c => ?_)
    · replace h := (if_neg c).symm.trans h
      refine x_aload_n (o := a0) dX11_takes_27 rfl ?_
      obtain ⟨q11, hq11, h⟩ := xb h
      obtain ⟨s10, hs10, h⟩ := xb h
      refine z_callV (as := []) (o := a0) (r1 := none) (stk := []) (stk2 := []) (st1 := s10) (d' := 0) dX11_takes_28 xl_X11_84 hq11 (by decide) (Nat.le_trans xs0 (by decide)) rfl rfl (S_X11_ends n st a0  s10 hs10) ?_
      refine r_iconst (v := (-1 : Int32)) dX11_takes_31 (by decide) ?_
      obtain ⟨rfl, rfl⟩ := Prod.mk.inj (Option.some.inj h)
      exact r_ireturn dX11_takes_32 .int rfl rfl
    · replace h := (if_pos c).symm.trans h
      refine x_aload_n (o := a0) dX11_takes_15 rfl ?_
      obtain ⟨v3, hv3, h⟩ := xb h
      refine x_getI (o := a0) dX11_takes_16 xf_X11_71 hv3 ?_
      refine r_iload_n (x := a1) dX11_takes_19 rfl ?_
      refine r_iload_n (x := a2) dX11_takes_20 rfl ?_
      obtain ⟨v4, hv4, h⟩ := xb h
      refine z_callS (as := [.int v3, .int a1, .int a2]) (r1 := (some (.int v4))) (stk := []) (stk2 := [.int v4]) (st1 := st) (d' := 0) dX11_takes_21 xl_X11_90 (by decide) (Nat.le_trans xs0 (by decide)) rfl rfl (S_X11_isIn n st v3 a1 a2 v4 hv4) ?_
      refine r_if_ne (tgt := 33) dX11_takes_24 (by decide) (fun c => ?_) (fun c => ?_)
      · replace h := (if_neg c).symm.trans h
        refine x_aload_n (o := a0) dX11_takes_33 rfl ?_
        obtain ⟨v7, hv7, h⟩ := xb h
        refine x_getI (o := a0) dX11_takes_34 xf_X11_71 hv7 ?_
        refine r_istore_n (lv' := [(3, .int v7), (0, va_rf a0), (1, .int a1), (2, .int a2)]) (x := v7) dX11_takes_37 (by decide) rfl ?_
        refine x_aload_n (o := a0) dX11_takes_38 rfl ?_
        obtain ⟨q9, hq9, h⟩ := xb h
        obtain ⟨s8, hs8, h⟩ := xb h
        refine z_callV (as := []) (o := a0) (r1 := none) (stk := []) (stk2 := []) (st1 := s8) (d' := 2) dX11_takes_39 xl_X11_87 hq9 (by decide) (Nat.le_trans xs0 (by decide)) rfl rfl (S_X11_advance n st a0  s8 hs8) ?_
        refine r_iload_n (x := v7) dX11_takes_42 rfl ?_
        obtain ⟨rfl, rfl⟩ := Prod.mk.inj (Option.some.inj h)
        exact r_ireturn dX11_takes_43 .int rfl rfl
      · replace h := (if_pos c).symm.trans h
        refine x_aload_n (o := a0) dX11_takes_27 rfl ?_
        obtain ⟨q6, hq6, h⟩ := xb h
        obtain ⟨s5, hs5, h⟩ := xb h
        refine z_callV (as := []) (o := a0) (r1 := none) (stk := []) (stk2 := []) (st1 := s5) (d' := 0) dX11_takes_28 xl_X11_84 hq6 (by decide) (Nat.le_trans xs0 (by decide)) rfl rfl (S_X11_ends n st a0  s5 hs5) ?_
        refine r_iconst (v := (-1 : Int32)) dX11_takes_31 (by decide) ?_
        obtain ⟨rfl, rfl⟩ := Prod.mk.inj (Option.some.inj h)
        exact r_ireturn dX11_takes_32 .int rfl rfl
theorem S_X11_takes (n : Nat) (st : xS) (a0 : Option Nat) (a1 : Int32) (a2 : Int32) (rv : Int32) (st' : xS) (h : F_X11_takes n st a0 a1 a2 = some (rv, st')) : Ct mX11_takes [va_rf a0, .int a1, .int a2] st (some (.int rv)) st' 3 := by
  refine Ct.of (by decide) (by simp only [lgL_R, lgL_I, lgL_L, lgL_0]; decide) ?_
  try simp only [lvA_R]
  exact R_X11_takes n st a0 a1 a2 rv st' h
theorem R_X11_endsLine (n : Nat) (st : xS) (a0 : Option Nat) (st' : xS) (h : F_X11_endsLine n st a0 = some st') : Rn mX11_endsLine 0 [(0, va_rf a0)] [] st none st' 3 := by
  unfold F_X11_endsLine at h
  refine x_aload_n (o := a0) dX11_endsLine_0 rfl ?_
  obtain ⟨v1, hv1, h⟩ := xb h
  refine x_getI (o := a0) dX11_endsLine_1 xf_X11_80 hv1 ?_
  obtain ⟨q9, hq9, h⟩ := xb h
  have Jq9 : Rn mX11_endsLine 26 [] [] q9 none st' 3 := by
    obtain rfl := Option.some.inj h
    exact r_return dX11_endsLine_26 rfl
  refine r_if_ne (tgt := 22) dX11_endsLine_4 (by decide) (fun c => ?_) (fun c => ?_)
  · replace hq9 := (if_neg c).symm.trans hq9
    refine x_aload_n (o := a0) dX11_endsLine_22 rfl ?_
    obtain ⟨q8, hq8, hq9⟩ := xb hq9
    obtain ⟨s7, hs7, hq9⟩ := xb hq9
    refine z_callV (as := []) (o := a0) (r1 := none) (stk := []) (stk2 := []) (st1 := s7) (d' := 0) dX11_endsLine_23 xl_X11_84 hq8 (by decide) (Nat.le_trans xs0 (by decide)) rfl rfl (S_X11_ends n st a0  s7 hs7) ?_
    obtain rfl := Option.some.inj hq9
    exact x_sub [] rfl Jq9
  · replace hq9 := (if_pos c).symm.trans hq9
    refine x_aload_n (o := a0) dX11_endsLine_7 rfl ?_
    obtain ⟨v2, hv2, hq9⟩ := xb hq9
    refine x_getI (o := a0) dX11_endsLine_8 xf_X11_61 hv2 ?_
    refine r_iconst (v := (2 : Int32)) dX11_endsLine_11 (by decide) ?_
    refine r_icmp_ne (tgt := 22) dX11_endsLine_12 (by decide) (fun c => ?_) (fun c => ?_)
    · replace hq9 := (if_neg c).symm.trans hq9
      refine x_aload_n (o := a0) dX11_endsLine_22 rfl ?_
      obtain ⟨q6, hq6, hq9⟩ := xb hq9
      obtain ⟨s5, hs5, hq9⟩ := xb hq9
      refine z_callV (as := []) (o := a0) (r1 := none) (stk := []) (stk2 := []) (st1 := s5) (d' := 0) dX11_endsLine_23 xl_X11_84 hq6 (by decide) (Nat.le_trans xs0 (by decide)) rfl rfl (S_X11_ends n st a0  s5 hs5) ?_
      obtain rfl := Option.some.inj hq9
      exact x_sub [] rfl Jq9
    · replace hq9 := (if_pos c).symm.trans hq9
      refine x_aload_n (o := a0) dX11_endsLine_15 rfl ?_
      obtain ⟨q4, hq4, hq9⟩ := xb hq9
      obtain ⟨s3, hs3, hq9⟩ := xb hq9
      refine z_callV (as := []) (o := a0) (r1 := none) (stk := []) (stk2 := []) (st1 := s3) (d' := 2) dX11_endsLine_16 xl_X11_87 hq4 (by decide) (Nat.le_trans xs0 (by decide)) rfl rfl (S_X11_advance n st a0  s3 hs3) ?_
      refine r_goto (tgt := 26) dX11_endsLine_19 (by decide) ?_
      obtain rfl := Option.some.inj hq9
      exact x_sub [] rfl Jq9
theorem S_X11_endsLine (n : Nat) (st : xS) (a0 : Option Nat) (st' : xS) (h : F_X11_endsLine n st a0 = some st') : Ct mX11_endsLine [va_rf a0] st none st' 3 := by
  refine Ct.of (by decide) (by simp only [lgL_R, lgL_I, lgL_L, lgL_0]; decide) ?_
  try simp only [lvA_R]
  exact R_X11_endsLine n st a0 st' h
theorem R_X11_leagueLine (n : Nat) (st : xS) (a0 : Option Nat) (st' : xS) (h : F_X11_leagueLine n st a0 = some st') : Rn mX11_leagueLine 0 [(0, va_rf a0)] [] st none st' 5 := by
  unfold F_X11_leagueLine at h
  refine x_aload_n (o := a0) dX11_leagueLine_0 rfl ?_
  obtain ⟨v1, hv1, h⟩ := xb h
  refine x_getI (o := a0) dX11_leagueLine_1 xf_X11_58 hv1 ?_
  refine r_istore_n (lv' := [(1, .int v1), (0, va_rf a0)]) (x := v1) dX11_leagueLine_4 (by decide) (congrArg (List.cons _) (xfY (xk1 0 1 _) rfl)) ?_
  refine x_aload_n (o := a0) dX11_leagueLine_5 rfl ?_
  obtain ⟨v2, hv2, h⟩ := xb h
  refine x_getI (o := a0) dX11_leagueLine_6 xf_X11_61 hv2 ?_
  refine r_iconst (v := (3 : Int32)) dX11_leagueLine_9 (by decide) ?_
  obtain ⟨q10, hq10, h⟩ := xb h
  have Jq10 : Rn mX11_leagueLine 39 [(0, va_rf a0), (1, .int v1)] [.int q10.1] q10.2 none st' 5 := by
    refine r_istore_n (lv' := [(2, .int q10.1), (0, va_rf a0), (1, .int v1)]) (x := q10.1) dX11_leagueLine_39 (by decide) rfl ?_
    refine r_iload_n (x := q10.1) dX11_leagueLine_40 rfl ?_
    refine r_iconst (v := (1 : Int32)) dX11_leagueLine_41 (by decide) ?_
    obtain ⟨q81, hq81, h⟩ := xb h
    have Jq81 : Rn mX11_leagueLine 360 [(0, va_rf a0)] [] q81 none st' 5 := by
      refine x_aload_n (o := a0) dX11_leagueLine_360 rfl ?_
      obtain ⟨q83, hq83, h⟩ := xb h
      obtain ⟨s82, hs82, h⟩ := xb h
      refine z_callV (as := []) (o := a0) (r1 := none) (stk := []) (stk2 := []) (st1 := s82) (d' := 3) dX11_leagueLine_361 xl_X11_108 hq83 (by decide) (Nat.le_trans xs0 (by decide)) rfl rfl (S_X11_endsLine n q81 a0  s82 hs82) ?_
      obtain rfl := Option.some.inj h
      exact r_return dX11_leagueLine_364 rfl
    refine r_icmp_ne (tgt := 159) dX11_leagueLine_42 (by decide) (fun c => ?_) (fun c => ?_)
    · replace hq81 := (if_neg c).symm.trans hq81
      refine r_iload_n (x := q10.1) dX11_leagueLine_159 rfl ?_
      refine r_iconst (v := (2 : Int32)) dX11_leagueLine_160 (by decide) ?_
      refine r_icmp_ne (tgt := 259) dX11_leagueLine_161 (by decide) (fun c => ?_) (fun c => ?_)
      · replace hq81 := (if_neg c).symm.trans hq81
        refine r_iload_n (x := q10.1) dX11_leagueLine_259 rfl ?_
        refine r_bipush (v := (13 : Int32)) dX11_leagueLine_260 (by decide) ?_
        refine r_icmp_ne (tgt := 360) dX11_leagueLine_262 (by decide) (fun c => ?_) (fun c => ?_)
        · replace hq81 := (if_neg c).symm.trans hq81
          obtain rfl := Option.some.inj hq81
          exact x_sub [1] rfl Jq81
        · replace hq81 := (if_pos c).symm.trans hq81
          refine x_aload_n (o := a0) dX11_leagueLine_265 rfl ?_
          refine r_iconst (v := (0 : Int32)) dX11_leagueLine_266 (by decide) ?_
          refine x_aload_n (o := a0) dX11_leagueLine_267 rfl ?_
          obtain ⟨v65, hv65, hq81⟩ := xb hq81
          refine x_getR (o := a0) dX11_leagueLine_268 xf_X11_17 hv65 ?_
          refine r_iconst (v := (0 : Int32)) dX11_leagueLine_271 (by decide) ?_
          obtain ⟨v66, hv66, hq81⟩ := xb hq81
          refine x_iaload (o := v65) dX11_leagueLine_272 hv66 ?_
          refine r_iconst (v := (1 : Int32)) dX11_leagueLine_273 (by decide) ?_
          refine r_isub dX11_leagueLine_274 ?_
          obtain ⟨q68, hq68, hq81⟩ := xb hq81
          obtain ⟨p67, hp67, hq81⟩ := xb hq81
          refine z_callV (as := [.int (0 : Int32), .int (v66 - (1 : Int32))]) (o := a0) (r1 := (some (.int p67.1))) (stk := []) (stk2 := [.int p67.1]) (st1 := p67.2) (d' := 3) dX11_leagueLine_275 xl_X11_98 hq68 (by decide) (Nat.le_trans xs0 (by decide)) rfl rfl (S_X11_numbered n q10.2 a0 (0 : Int32) (v66 - (1 : Int32)) p67.1 p67.2 hp67) ?_
          refine r_istore_n (lv' := [(3, .int p67.1), (2, .int q10.1), (0, va_rf a0), (1, .int v1)]) (x := p67.1) dX11_leagueLine_278 (by decide) rfl ?_
          refine x_aload_n (o := a0) dX11_leagueLine_279 rfl ?_
          refine r_iconst (v := (0 : Int32)) dX11_leagueLine_280 (by decide) ?_
          refine x_aload_n (o := a0) dX11_leagueLine_281 rfl ?_
          obtain ⟨v69, hv69, hq81⟩ := xb hq81
          refine x_getR (o := a0) dX11_leagueLine_282 xf_X11_17 hv69 ?_
          refine r_iconst (v := (0 : Int32)) dX11_leagueLine_285 (by decide) ?_
          obtain ⟨v70, hv70, hq81⟩ := xb hq81
          refine x_iaload (o := v69) dX11_leagueLine_286 hv70 ?_
          refine r_iconst (v := (1 : Int32)) dX11_leagueLine_287 (by decide) ?_
          refine r_isub dX11_leagueLine_288 ?_
          refine r_iload_n (x := p67.1) dX11_leagueLine_289 rfl ?_
          obtain ⟨q72, hq72, hq81⟩ := xb hq81
          obtain ⟨p71, hp71, hq81⟩ := xb hq81
          refine z_callV (as := [.int (0 : Int32), .int (v70 - (1 : Int32)), .int p67.1]) (o := a0) (r1 := (some (.int p71.1))) (stk := []) (stk2 := [.int p71.1]) (st1 := p71.2) (d' := 4) dX11_leagueLine_290 xl_X11_105 hq72 (by decide) (Nat.le_trans xs0 (by decide)) rfl rfl (S_X11_another n p67.2 a0 (0 : Int32) (v70 - (1 : Int32)) p67.1 p71.1 p71.2 hp71) ?_
          refine r_istore (lv' := [(4, .int p71.1), (3, .int p67.1), (2, .int q10.1), (0, va_rf a0), (1, .int v1)]) (x := p71.1) dX11_leagueLine_293 (by decide) rfl ?_
          refine x_aload_n (o := a0) dX11_leagueLine_295 rfl ?_
          refine r_iconst (v := (0 : Int32)) dX11_leagueLine_296 (by decide) ?_
          refine r_sipush (v := (9999 : Int32)) dX11_leagueLine_297 (by decide) ?_
          obtain ⟨q74, hq74, hq81⟩ := xb hq81
          obtain ⟨p73, hp73, hq81⟩ := xb hq81
          refine z_callV (as := [.int (0 : Int32), .int (9999 : Int32)]) (o := a0) (r1 := (some (.int p73.1))) (stk := []) (stk2 := [.int p73.1]) (st1 := p73.2) (d' := 3) dX11_leagueLine_300 xl_X11_98 hq74 (by decide) (Nat.le_trans xs0 (by decide)) rfl rfl (S_X11_numbered n p71.2 a0 (0 : Int32) (9999 : Int32) p73.1 p73.2 hp73) ?_
          refine r_istore (lv' := [(5, .int p73.1), (4, .int p71.1), (3, .int p67.1), (2, .int q10.1), (0, va_rf a0), (1, .int v1)]) (x := p73.1) dX11_leagueLine_303 (by decide) rfl ?_
          refine r_iload_n (x := p67.1) dX11_leagueLine_305 rfl ?_
          refine r_iconst (v := (0 : Int32)) dX11_leagueLine_306 (by decide) ?_
          refine r_bipush (v := (9 : Int32)) dX11_leagueLine_307 (by decide) ?_
          obtain ⟨v75, hv75, hq81⟩ := xb hq81
          refine z_callS (as := [.int p67.1, .int (0 : Int32), .int (9 : Int32)]) (r1 := (some (.int v75))) (stk := []) (stk2 := [.int v75]) (st1 := p73.2) (d' := 0) dX11_leagueLine_309 xl_X11_90 (by decide) (Nat.le_trans xs0 (by decide)) rfl rfl (S_X11_isIn n p73.2 p67.1 (0 : Int32) (9 : Int32) v75 hv75) ?_
          refine r_if_eq (tgt := 360) dX11_leagueLine_312 (by decide) (fun c => ?_) (fun c => ?_)
          · replace hq81 := (if_pos c).symm.trans hq81
            obtain rfl := Option.some.inj hq81
            exact x_sub [4] rfl Jq81
          · replace hq81 := (if_neg c).symm.trans hq81
            refine r_iload (x := p71.1) dX11_leagueLine_315 rfl ?_
            refine r_iconst (v := (0 : Int32)) dX11_leagueLine_317 (by decide) ?_
            refine r_bipush (v := (9 : Int32)) dX11_leagueLine_318 (by decide) ?_
            obtain ⟨v76, hv76, hq81⟩ := xb hq81
            refine z_callS (as := [.int p71.1, .int (0 : Int32), .int (9 : Int32)]) (r1 := (some (.int v76))) (stk := []) (stk2 := [.int v76]) (st1 := p73.2) (d' := 0) dX11_leagueLine_320 xl_X11_90 (by decide) (Nat.le_trans xs0 (by decide)) rfl rfl (S_X11_isIn n p73.2 p71.1 (0 : Int32) (9 : Int32) v76 hv76) ?_
            refine r_if_eq (tgt := 360) dX11_leagueLine_323 (by decide) (fun c => ?_) (fun c => ?_)
            · replace hq81 := (if_pos c).symm.trans hq81
              obtain rfl := Option.some.inj hq81
              exact x_sub [4] rfl Jq81
            · replace hq81 := (if_neg c).symm.trans hq81
              refine x_aload_n (o := a0) dX11_leagueLine_326 rfl ?_
              obtain ⟨v77, hv77, hq81⟩ := xb hq81
              refine x_getR (o := a0) dX11_leagueLine_327 xf_X11_17 hv77 ?_
              refine r_bipush (v := (50 : Int32)) dX11_leagueLine_330 (by decide) ?_
              refine r_bipush (v := (10 : Int32)) dX11_leagueLine_332 (by decide) ?_
              refine r_iload_n (x := p67.1) dX11_leagueLine_334 rfl ?_
              refine r_imul dX11_leagueLine_335 ?_
              refine r_iadd dX11_leagueLine_336 ?_
              refine r_iload (x := p71.1) dX11_leagueLine_337 rfl ?_
              refine r_iadd dX11_leagueLine_339 ?_
              refine r_iload (x := p73.1) dX11_leagueLine_340 rfl ?_
              obtain ⟨s78, hs78, hq81⟩ := xb hq81
              refine x_iastore (o := v77) dX11_leagueLine_342 hs78 ?_
              refine x_aload_n (o := a0) dX11_leagueLine_343 rfl ?_
              obtain ⟨v79, hv79, hq81⟩ := xb hq81
              refine x_getR (o := a0) dX11_leagueLine_344 xf_X11_17 hv79 ?_
              refine r_bipush (v := (50 : Int32)) dX11_leagueLine_347 (by decide) ?_
              refine r_bipush (v := (10 : Int32)) dX11_leagueLine_349 (by decide) ?_
              refine r_iload (x := p71.1) dX11_leagueLine_351 rfl ?_
              refine r_imul dX11_leagueLine_353 ?_
              refine r_iadd dX11_leagueLine_354 ?_
              refine r_iload_n (x := p67.1) dX11_leagueLine_355 rfl ?_
              refine r_iadd dX11_leagueLine_356 ?_
              refine r_iload (x := p73.1) dX11_leagueLine_357 rfl ?_
              obtain ⟨s80, hs80, hq81⟩ := xb hq81
              refine x_iastore (o := v79) dX11_leagueLine_359 hs80 ?_
              obtain rfl := Option.some.inj hq81
              exact x_sub [4] rfl Jq81
      · replace hq81 := (if_pos c).symm.trans hq81
        refine x_aload_n (o := a0) dX11_leagueLine_164 rfl ?_
        obtain ⟨v40, hv40, hq81⟩ := xb hq81
        refine x_getR (o := a0) dX11_leagueLine_165 xf_X11_17 hv40 ?_
        refine r_iconst (v := (1 : Int32)) dX11_leagueLine_168 (by decide) ?_
        obtain ⟨v41, hv41, hq81⟩ := xb hq81
        refine x_iaload (o := v40) dX11_leagueLine_169 hv41 ?_
        refine r_bipush (v := (8 : Int32)) dX11_leagueLine_170 (by decide) ?_
        obtain ⟨q44, hq44, hq81⟩ := xb hq81
        have Jq44 : Rn mX11_leagueLine 181 [(0, va_rf a0)] [] q44 none st' 5 := by
          refine x_aload_n (o := a0) dX11_leagueLine_181 rfl ?_
          refine r_iconst (v := (0 : Int32)) dX11_leagueLine_182 (by decide) ?_
          refine x_aload_n (o := a0) dX11_leagueLine_183 rfl ?_
          obtain ⟨v45, hv45, hq81⟩ := xb hq81
          refine x_getR (o := a0) dX11_leagueLine_184 xf_X11_17 hv45 ?_
          refine r_iconst (v := (0 : Int32)) dX11_leagueLine_187 (by decide) ?_
          obtain ⟨v46, hv46, hq81⟩ := xb hq81
          refine x_iaload (o := v45) dX11_leagueLine_188 hv46 ?_
          refine r_iconst (v := (1 : Int32)) dX11_leagueLine_189 (by decide) ?_
          refine r_isub dX11_leagueLine_190 ?_
          obtain ⟨q48, hq48, hq81⟩ := xb hq81
          obtain ⟨p47, hp47, hq81⟩ := xb hq81
          refine z_callV (as := [.int (0 : Int32), .int (v46 - (1 : Int32))]) (o := a0) (r1 := (some (.int p47.1))) (stk := []) (stk2 := [.int p47.1]) (st1 := p47.2) (d' := 3) dX11_leagueLine_191 xl_X11_98 hq48 (by decide) (Nat.le_trans xs0 (by decide)) rfl rfl (S_X11_numbered n q44 a0 (0 : Int32) (v46 - (1 : Int32)) p47.1 p47.2 hp47) ?_
          refine r_istore_n (lv' := [(3, .int p47.1), (0, va_rf a0)]) (x := p47.1) dX11_leagueLine_194 (by decide) rfl ?_
          refine x_aload_n (o := a0) dX11_leagueLine_195 rfl ?_
          refine r_iconst (v := (0 : Int32)) dX11_leagueLine_196 (by decide) ?_
          refine r_bipush (v := (50 : Int32)) dX11_leagueLine_197 (by decide) ?_
          obtain ⟨q50, hq50, hq81⟩ := xb hq81
          obtain ⟨p49, hp49, hq81⟩ := xb hq81
          refine z_callV (as := [.int (0 : Int32), .int (50 : Int32)]) (o := a0) (r1 := (some (.int p49.1))) (stk := []) (stk2 := [.int p49.1]) (st1 := p49.2) (d' := 3) dX11_leagueLine_199 xl_X11_98 hq50 (by decide) (Nat.le_trans xs0 (by decide)) rfl rfl (S_X11_numbered n p47.2 a0 (0 : Int32) (50 : Int32) p49.1 p49.2 hp49) ?_
          refine r_istore (lv' := [(4, .int p49.1), (3, .int p47.1), (0, va_rf a0)]) (x := p49.1) dX11_leagueLine_202 (by decide) rfl ?_
          refine x_aload_n (o := a0) dX11_leagueLine_204 rfl ?_
          obtain ⟨v51, hv51, hq81⟩ := xb hq81
          refine x_getR (o := a0) dX11_leagueLine_205 xf_X11_17 hv51 ?_
          refine r_iconst (v := (1 : Int32)) dX11_leagueLine_208 (by decide) ?_
          obtain ⟨v52, hv52, hq81⟩ := xb hq81
          refine x_iaload (o := v51) dX11_leagueLine_209 hv52 ?_
          refine r_bipush (v := (8 : Int32)) dX11_leagueLine_210 (by decide) ?_
          obtain ⟨q61, hq61, hq81⟩ := xb hq81
          have Jq61 : Rn mX11_leagueLine 246 [(0, va_rf a0)] [] q61 none st' 5 := by
            refine x_aload_n (o := a0) dX11_leagueLine_246 rfl ?_
            obtain ⟨v62, hv62, hq81⟩ := xb hq81
            refine x_getR (o := a0) dX11_leagueLine_247 xf_X11_17 hv62 ?_
            refine r_iconst (v := (1 : Int32)) dX11_leagueLine_250 (by decide) ?_
            refine r_dup2 dX11_leagueLine_251 rfl (xrf_cat _) ?_
            obtain ⟨v63, hv63, hq81⟩ := xb hq81
            refine x_iaload (o := v62) dX11_leagueLine_252 hv63 ?_
            refine r_iconst (v := (1 : Int32)) dX11_leagueLine_253 (by decide) ?_
            refine r_iadd dX11_leagueLine_254 ?_
            obtain ⟨s64, hs64, hq81⟩ := xb hq81
            refine x_iastore (o := v62) dX11_leagueLine_255 hs64 ?_
            refine r_goto (tgt := 360) dX11_leagueLine_256 (by decide) ?_
            obtain rfl := Option.some.inj hq81
            exact x_sub [0] rfl Jq81
          refine r_icmp_ge (tgt := 246) dX11_leagueLine_212 (by decide) (fun c => ?_) (fun c => ?_)
          · replace hq61 := (if_pos c).symm.trans hq61
            obtain rfl := Option.some.inj hq61
            exact x_sub [2] rfl Jq61
          · replace hq61 := (if_neg c).symm.trans hq61
            refine x_aload_n (o := a0) dX11_leagueLine_215 rfl ?_
            obtain ⟨v53, hv53, hq61⟩ := xb hq61
            refine x_getR (o := a0) dX11_leagueLine_216 xf_X11_17 hv53 ?_
            refine r_bipush (v := (32 : Int32)) dX11_leagueLine_219 (by decide) ?_
            refine x_aload_n (o := a0) dX11_leagueLine_221 rfl ?_
            obtain ⟨v54, hv54, hq61⟩ := xb hq61
            refine x_getR (o := a0) dX11_leagueLine_222 xf_X11_17 hv54 ?_
            refine r_iconst (v := (1 : Int32)) dX11_leagueLine_225 (by decide) ?_
            obtain ⟨v55, hv55, hq61⟩ := xb hq61
            refine x_iaload (o := v54) dX11_leagueLine_226 hv55 ?_
            refine r_iadd dX11_leagueLine_227 ?_
            refine r_iload_n (x := p47.1) dX11_leagueLine_228 rfl ?_
            obtain ⟨s56, hs56, hq61⟩ := xb hq61
            refine x_iastore (o := v53) dX11_leagueLine_229 hs56 ?_
            refine x_aload_n (o := a0) dX11_leagueLine_230 rfl ?_
            obtain ⟨v57, hv57, hq61⟩ := xb hq61
            refine x_getR (o := a0) dX11_leagueLine_231 xf_X11_17 hv57 ?_
            refine r_bipush (v := (40 : Int32)) dX11_leagueLine_234 (by decide) ?_
            refine x_aload_n (o := a0) dX11_leagueLine_236 rfl ?_
            obtain ⟨v58, hv58, hq61⟩ := xb hq61
            refine x_getR (o := a0) dX11_leagueLine_237 xf_X11_17 hv58 ?_
            refine r_iconst (v := (1 : Int32)) dX11_leagueLine_240 (by decide) ?_
            obtain ⟨v59, hv59, hq61⟩ := xb hq61
            refine x_iaload (o := v58) dX11_leagueLine_241 hv59 ?_
            refine r_iadd dX11_leagueLine_242 ?_
            refine r_iload (x := p49.1) dX11_leagueLine_243 rfl ?_
            obtain ⟨s60, hs60, hq61⟩ := xb hq61
            refine x_iastore (o := v57) dX11_leagueLine_245 hs60 ?_
            obtain rfl := Option.some.inj hq61
            exact x_sub [2] rfl Jq61
        refine r_icmp_lt (tgt := 181) dX11_leagueLine_172 (by decide) (fun c => ?_) (fun c => ?_)
        · replace hq44 := (if_pos c).symm.trans hq44
          obtain rfl := Option.some.inj hq44
          exact x_sub [1] rfl Jq44
        · replace hq44 := (if_neg c).symm.trans hq44
          refine x_aload_n (o := a0) dX11_leagueLine_175 rfl ?_
          refine r_iconst (v := (3 : Int32)) dX11_leagueLine_176 (by decide) ?_
          refine r_iload_n (x := v1) dX11_leagueLine_177 rfl ?_
          obtain ⟨q43, hq43, hq44⟩ := xb hq44
          obtain ⟨s42, hs42, hq44⟩ := xb hq44
          refine z_callV (as := [.int (3 : Int32), .int v1]) (o := a0) (r1 := none) (stk := []) (stk2 := []) (st1 := s42) (d' := 0) dX11_leagueLine_178 xl_X11_94 hq43 (by decide) (Nat.le_trans xs0 (by decide)) rfl rfl (S_X11_also n q10.2 a0 (3 : Int32) v1 s42 hs42) ?_
          obtain rfl := Option.some.inj hq44
          exact x_sub [1] rfl Jq44
    · replace hq81 := (if_pos c).symm.trans hq81
      refine x_aload_n (o := a0) dX11_leagueLine_45 rfl ?_
      obtain ⟨v11, hv11, hq81⟩ := xb hq81
      refine x_getR (o := a0) dX11_leagueLine_46 xf_X11_17 hv11 ?_
      refine r_iconst (v := (0 : Int32)) dX11_leagueLine_49 (by decide) ?_
      obtain ⟨v12, hv12, hq81⟩ := xb hq81
      refine x_iaload (o := v11) dX11_leagueLine_50 hv12 ?_
      refine r_bipush (v := (10 : Int32)) dX11_leagueLine_51 (by decide) ?_
      obtain ⟨q15, hq15, hq81⟩ := xb hq81
      have Jq15 : Rn mX11_leagueLine 62 [(0, va_rf a0)] [] q15 none st' 5 := by
        refine x_aload_n (o := a0) dX11_leagueLine_62 rfl ?_
        refine r_iconst (v := (0 : Int32)) dX11_leagueLine_63 (by decide) ?_
        refine r_bipush (v := (99 : Int32)) dX11_leagueLine_64 (by decide) ?_
        obtain ⟨q17, hq17, hq81⟩ := xb hq81
        obtain ⟨p16, hp16, hq81⟩ := xb hq81
        refine z_callV (as := [.int (0 : Int32), .int (99 : Int32)]) (o := a0) (r1 := (some (.int p16.1))) (stk := []) (stk2 := [.int p16.1]) (st1 := p16.2) (d' := 3) dX11_leagueLine_66 xl_X11_98 hq17 (by decide) (Nat.le_trans xs0 (by decide)) rfl rfl (S_X11_numbered n q15 a0 (0 : Int32) (99 : Int32) p16.1 p16.2 hp16) ?_
        refine r_istore_n (lv' := [(3, .int p16.1), (0, va_rf a0)]) (x := p16.1) dX11_leagueLine_69 (by decide) rfl ?_
        refine x_aload_n (o := a0) dX11_leagueLine_70 rfl ?_
        refine r_iconst (v := (0 : Int32)) dX11_leagueLine_71 (by decide) ?_
        refine r_bipush (v := (99 : Int32)) dX11_leagueLine_72 (by decide) ?_
        obtain ⟨q19, hq19, hq81⟩ := xb hq81
        obtain ⟨p18, hp18, hq81⟩ := xb hq81
        refine z_callV (as := [.int (0 : Int32), .int (99 : Int32)]) (o := a0) (r1 := (some (.int p18.1))) (stk := []) (stk2 := [.int p18.1]) (st1 := p18.2) (d' := 3) dX11_leagueLine_74 xl_X11_98 hq19 (by decide) (Nat.le_trans xs0 (by decide)) rfl rfl (S_X11_numbered n p16.2 a0 (0 : Int32) (99 : Int32) p18.1 p18.2 hp18) ?_
        refine r_istore (lv' := [(4, .int p18.1), (3, .int p16.1), (0, va_rf a0)]) (x := p18.1) dX11_leagueLine_77 (by decide) rfl ?_
        refine x_aload_n (o := a0) dX11_leagueLine_79 rfl ?_
        refine r_iconst (v := (0 : Int32)) dX11_leagueLine_80 (by decide) ?_
        refine r_sipush (v := (999 : Int32)) dX11_leagueLine_81 (by decide) ?_
        obtain ⟨q21, hq21, hq81⟩ := xb hq81
        obtain ⟨p20, hp20, hq81⟩ := xb hq81
        refine z_callV (as := [.int (0 : Int32), .int (999 : Int32)]) (o := a0) (r1 := (some (.int p20.1))) (stk := []) (stk2 := [.int p20.1]) (st1 := p20.2) (d' := 3) dX11_leagueLine_84 xl_X11_98 hq21 (by decide) (Nat.le_trans xs0 (by decide)) rfl rfl (S_X11_numbered n p18.2 a0 (0 : Int32) (999 : Int32) p20.1 p20.2 hp20) ?_
        refine r_istore (lv' := [(5, .int p20.1), (4, .int p18.1), (3, .int p16.1), (0, va_rf a0)]) (x := p20.1) dX11_leagueLine_87 (by decide) rfl ?_
        refine x_aload_n (o := a0) dX11_leagueLine_89 rfl ?_
        obtain ⟨v22, hv22, hq81⟩ := xb hq81
        refine x_getR (o := a0) dX11_leagueLine_90 xf_X11_17 hv22 ?_
        refine r_iconst (v := (0 : Int32)) dX11_leagueLine_93 (by decide) ?_
        obtain ⟨v23, hv23, hq81⟩ := xb hq81
        refine x_iaload (o := v22) dX11_leagueLine_94 hv23 ?_
        refine r_bipush (v := (10 : Int32)) dX11_leagueLine_95 (by decide) ?_
        obtain ⟨q36, hq36, hq81⟩ := xb hq81
        have Jq36 : Rn mX11_leagueLine 146 [(0, va_rf a0)] [] q36 none st' 5 := by
          refine x_aload_n (o := a0) dX11_leagueLine_146 rfl ?_
          obtain ⟨v37, hv37, hq81⟩ := xb hq81
          refine x_getR (o := a0) dX11_leagueLine_147 xf_X11_17 hv37 ?_
          refine r_iconst (v := (0 : Int32)) dX11_leagueLine_150 (by decide) ?_
          refine r_dup2 dX11_leagueLine_151 rfl (xrf_cat _) ?_
          obtain ⟨v38, hv38, hq81⟩ := xb hq81
          refine x_iaload (o := v37) dX11_leagueLine_152 hv38 ?_
          refine r_iconst (v := (1 : Int32)) dX11_leagueLine_153 (by decide) ?_
          refine r_iadd dX11_leagueLine_154 ?_
          obtain ⟨s39, hs39, hq81⟩ := xb hq81
          refine x_iastore (o := v37) dX11_leagueLine_155 hs39 ?_
          refine r_goto (tgt := 360) dX11_leagueLine_156 (by decide) ?_
          obtain rfl := Option.some.inj hq81
          exact x_sub [0] rfl Jq81
        refine r_icmp_ge (tgt := 146) dX11_leagueLine_97 (by decide) (fun c => ?_) (fun c => ?_)
        · replace hq36 := (if_pos c).symm.trans hq36
          obtain rfl := Option.some.inj hq36
          exact x_sub [3] rfl Jq36
        · replace hq36 := (if_neg c).symm.trans hq36
          refine x_aload_n (o := a0) dX11_leagueLine_100 rfl ?_
          obtain ⟨v24, hv24, hq36⟩ := xb hq36
          refine x_getR (o := a0) dX11_leagueLine_101 xf_X11_17 hv24 ?_
          refine r_iconst (v := (2 : Int32)) dX11_leagueLine_104 (by decide) ?_
          refine x_aload_n (o := a0) dX11_leagueLine_105 rfl ?_
          obtain ⟨v25, hv25, hq36⟩ := xb hq36
          refine x_getR (o := a0) dX11_leagueLine_106 xf_X11_17 hv25 ?_
          refine r_iconst (v := (0 : Int32)) dX11_leagueLine_109 (by decide) ?_
          obtain ⟨v26, hv26, hq36⟩ := xb hq36
          refine x_iaload (o := v25) dX11_leagueLine_110 hv26 ?_
          refine r_iadd dX11_leagueLine_111 ?_
          refine r_iload_n (x := p16.1) dX11_leagueLine_112 rfl ?_
          obtain ⟨s27, hs27, hq36⟩ := xb hq36
          refine x_iastore (o := v24) dX11_leagueLine_113 hs27 ?_
          refine x_aload_n (o := a0) dX11_leagueLine_114 rfl ?_
          obtain ⟨v28, hv28, hq36⟩ := xb hq36
          refine x_getR (o := a0) dX11_leagueLine_115 xf_X11_17 hv28 ?_
          refine r_bipush (v := (12 : Int32)) dX11_leagueLine_118 (by decide) ?_
          refine x_aload_n (o := a0) dX11_leagueLine_120 rfl ?_
          obtain ⟨v29, hv29, hq36⟩ := xb hq36
          refine x_getR (o := a0) dX11_leagueLine_121 xf_X11_17 hv29 ?_
          refine r_iconst (v := (0 : Int32)) dX11_leagueLine_124 (by decide) ?_
          obtain ⟨v30, hv30, hq36⟩ := xb hq36
          refine x_iaload (o := v29) dX11_leagueLine_125 hv30 ?_
          refine r_iadd dX11_leagueLine_126 ?_
          refine r_iload (x := p18.1) dX11_leagueLine_127 rfl ?_
          obtain ⟨s31, hs31, hq36⟩ := xb hq36
          refine x_iastore (o := v28) dX11_leagueLine_129 hs31 ?_
          refine x_aload_n (o := a0) dX11_leagueLine_130 rfl ?_
          obtain ⟨v32, hv32, hq36⟩ := xb hq36
          refine x_getR (o := a0) dX11_leagueLine_131 xf_X11_17 hv32 ?_
          refine r_bipush (v := (22 : Int32)) dX11_leagueLine_134 (by decide) ?_
          refine x_aload_n (o := a0) dX11_leagueLine_136 rfl ?_
          obtain ⟨v33, hv33, hq36⟩ := xb hq36
          refine x_getR (o := a0) dX11_leagueLine_137 xf_X11_17 hv33 ?_
          refine r_iconst (v := (0 : Int32)) dX11_leagueLine_140 (by decide) ?_
          obtain ⟨v34, hv34, hq36⟩ := xb hq36
          refine x_iaload (o := v33) dX11_leagueLine_141 hv34 ?_
          refine r_iadd dX11_leagueLine_142 ?_
          refine r_iload (x := p20.1) dX11_leagueLine_143 rfl ?_
          obtain ⟨s35, hs35, hq36⟩ := xb hq36
          refine x_iastore (o := v32) dX11_leagueLine_145 hs35 ?_
          obtain rfl := Option.some.inj hq36
          exact x_sub [3] rfl Jq36
      refine r_icmp_lt (tgt := 62) dX11_leagueLine_53 (by decide) (fun c => ?_) (fun c => ?_)
      · replace hq15 := (if_pos c).symm.trans hq15
        obtain rfl := Option.some.inj hq15
        exact x_sub [1] rfl Jq15
      · replace hq15 := (if_neg c).symm.trans hq15
        refine x_aload_n (o := a0) dX11_leagueLine_56 rfl ?_
        refine r_iconst (v := (3 : Int32)) dX11_leagueLine_57 (by decide) ?_
        refine r_iload_n (x := v1) dX11_leagueLine_58 rfl ?_
        obtain ⟨q14, hq14, hq15⟩ := xb hq15
        obtain ⟨s13, hs13, hq15⟩ := xb hq15
        refine z_callV (as := [.int (3 : Int32), .int v1]) (o := a0) (r1 := none) (stk := []) (stk2 := []) (st1 := s13) (d' := 0) dX11_leagueLine_59 xl_X11_94 hq14 (by decide) (Nat.le_trans xs0 (by decide)) rfl rfl (S_X11_also n q10.2 a0 (3 : Int32) v1 s13 hs13) ?_
        obtain rfl := Option.some.inj hq15
        exact x_sub [1] rfl Jq15
  refine r_icmp_ne (tgt := 33) dX11_leagueLine_10 (by decide) (fun c => ?_) (fun c => ?_)
  · replace hq10 := (if_neg c).symm.trans hq10
    refine x_aload_n (o := a0) dX11_leagueLine_33 rfl ?_
    refine r_iconst (v := (1 : Int32)) dX11_leagueLine_34 (by decide) ?_
    refine r_iconst (v := (2 : Int32)) dX11_leagueLine_35 (by decide) ?_
    obtain ⟨q9, hq9, hq10⟩ := xb hq10
    obtain ⟨p8, hp8, hq10⟩ := xb hq10
    refine z_callV (as := [.int (1 : Int32), .int (2 : Int32)]) (o := a0) (r1 := (some (.int p8.1))) (stk := []) (stk2 := [.int p8.1]) (st1 := p8.2) (d' := 3) dX11_leagueLine_36 xl_X11_102 hq9 (by decide) (Nat.le_trans xs0 (by decide)) rfl rfl (S_X11_takes n st a0 (1 : Int32) (2 : Int32) p8.1 p8.2 hp8) ?_
    obtain rfl := Option.some.inj hq10
    exact x_sub [1, 0] rfl Jq10
  · replace hq10 := (if_pos c).symm.trans hq10
    refine x_aload_n (o := a0) dX11_leagueLine_13 rfl ?_
    obtain ⟨v3, hv3, hq10⟩ := xb hq10
    refine x_getI (o := a0) dX11_leagueLine_14 xf_X11_71 hv3 ?_
    refine r_bipush (v := (13 : Int32)) dX11_leagueLine_17 (by decide) ?_
    refine r_icmp_ne (tgt := 33) dX11_leagueLine_19 (by decide) (fun c => ?_) (fun c => ?_)
    · replace hq10 := (if_neg c).symm.trans hq10
      refine x_aload_n (o := a0) dX11_leagueLine_33 rfl ?_
      refine r_iconst (v := (1 : Int32)) dX11_leagueLine_34 (by decide) ?_
      refine r_iconst (v := (2 : Int32)) dX11_leagueLine_35 (by decide) ?_
      obtain ⟨q7, hq7, hq10⟩ := xb hq10
      obtain ⟨p6, hp6, hq10⟩ := xb hq10
      refine z_callV (as := [.int (1 : Int32), .int (2 : Int32)]) (o := a0) (r1 := (some (.int p6.1))) (stk := []) (stk2 := [.int p6.1]) (st1 := p6.2) (d' := 3) dX11_leagueLine_36 xl_X11_102 hq7 (by decide) (Nat.le_trans xs0 (by decide)) rfl rfl (S_X11_takes n st a0 (1 : Int32) (2 : Int32) p6.1 p6.2 hp6) ?_
      obtain rfl := Option.some.inj hq10
      exact x_sub [1, 0] rfl Jq10
    · replace hq10 := (if_pos c).symm.trans hq10
      refine x_aload_n (o := a0) dX11_leagueLine_22 rfl ?_
      refine r_bipush (v := (13 : Int32)) dX11_leagueLine_23 (by decide) ?_
      refine r_bipush (v := (13 : Int32)) dX11_leagueLine_25 (by decide) ?_
      obtain ⟨q5, hq5, hq10⟩ := xb hq10
      obtain ⟨p4, hp4, hq10⟩ := xb hq10
      refine z_callV (as := [.int (13 : Int32), .int (13 : Int32)]) (o := a0) (r1 := (some (.int p4.1))) (stk := []) (stk2 := [.int p4.1]) (st1 := p4.2) (d' := 3) dX11_leagueLine_27 xl_X11_102 hq5 (by decide) (Nat.le_trans xs0 (by decide)) rfl rfl (S_X11_takes n st a0 (13 : Int32) (13 : Int32) p4.1 p4.2 hp4) ?_
      refine r_goto (tgt := 39) dX11_leagueLine_30 (by decide) ?_
      obtain rfl := Option.some.inj hq10
      exact x_sub [1, 0] rfl Jq10
theorem S_X11_leagueLine (n : Nat) (st : xS) (a0 : Option Nat) (st' : xS) (h : F_X11_leagueLine n st a0 = some st') : Ct mX11_leagueLine [va_rf a0] st none st' 5 := by
  refine Ct.of (by decide) (by simp only [lgL_R, lgL_I, lgL_L, lgL_0]; decide) ?_
  try simp only [lvA_R]
  exact R_X11_leagueLine n st a0 st' h
theorem R_X11_mostPer (n : Nat) (st : xS) (a0 : Int32) (rv : Int32) (h : F_X11_mostPer n st a0 = some rv) : Rn mX11_mostPer 0 [(0, .int a0)] [] st (some (.int rv)) st 0 := by
  unfold F_X11_mostPer at h
  refine r_iload_n (x := a0) dX11_mostPer_0 rfl ?_
  refine r_iconst (v := (1 : Int32)) dX11_mostPer_1 (by decide) ?_
  obtain ⟨q1, hq1, h⟩ := xb h
  have Jq1 : Rn mX11_mostPer 34 [] [.int q1] st (some (.int rv)) st 0 := by
    obtain rfl := Option.some.inj h
    exact r_ireturn dX11_mostPer_34 .int rfl rfl
  refine r_icmp_ne (tgt := 11) dX11_mostPer_2 (by decide) (fun c => ?_) (fun c => ?_)
  · replace hq1 := (if_neg c).symm.trans hq1
    refine r_iload_n (x := a0) dX11_mostPer_11 rfl ?_
    refine r_iconst (v := (2 : Int32)) dX11_mostPer_12 (by decide) ?_
    refine r_icmp_ne (tgt := 21) dX11_mostPer_13 (by decide) (fun c => ?_) (fun c => ?_)
    · replace hq1 := (if_neg c).symm.trans hq1
      refine r_iload_n (x := a0) dX11_mostPer_21 rfl ?_
      refine r_iconst (v := (5 : Int32)) dX11_mostPer_22 (by decide) ?_
      refine r_icmp_ne (tgt := 31) dX11_mostPer_23 (by decide) (fun c => ?_) (fun c => ?_)
      · replace hq1 := (if_neg c).symm.trans hq1
        refine r_sipush (v := (999 : Int32)) dX11_mostPer_31 (by decide) ?_
        obtain rfl := Option.some.inj hq1
        exact x_sub [] rfl Jq1
      · replace hq1 := (if_pos c).symm.trans hq1
        refine r_bipush (v := (99 : Int32)) dX11_mostPer_26 (by decide) ?_
        refine r_goto (tgt := 34) dX11_mostPer_28 (by decide) ?_
        obtain rfl := Option.some.inj hq1
        exact x_sub [] rfl Jq1
    · replace hq1 := (if_pos c).symm.trans hq1
      refine r_bipush (v := (30 : Int32)) dX11_mostPer_16 (by decide) ?_
      refine r_goto (tgt := 34) dX11_mostPer_18 (by decide) ?_
      obtain rfl := Option.some.inj hq1
      exact x_sub [] rfl Jq1
  · replace hq1 := (if_pos c).symm.trans hq1
    refine r_sipush (v := (9999 : Int32)) dX11_mostPer_5 (by decide) ?_
    refine r_goto (tgt := 34) dX11_mostPer_8 (by decide) ?_
    obtain rfl := Option.some.inj hq1
    exact x_sub [] rfl Jq1
theorem S_X11_mostPer (n : Nat) (st : xS) (a0 : Int32) (rv : Int32) (h : F_X11_mostPer n st a0 = some rv) : Ct mX11_mostPer [.int a0] st (some (.int rv)) st 0 := by
  refine Ct.of (by decide) (by simp only [lgL_R, lgL_I, lgL_L, lgL_0]; decide) ?_
  try simp only [lvA_R]
  exact R_X11_mostPer n st a0 rv h
theorem R_X11_lawLine (n : Nat) (st : xS) (a0 : Option Nat) (st' : xS) (h : F_X11_lawLine n st a0 = some st') : Rn mX11_lawLine 0 [(0, va_rf a0)] [] st none st' 4 := by
  unfold F_X11_lawLine at h
  refine x_aload_n (o := a0) dX11_lawLine_0 rfl ?_
  refine r_bipush (v := (11 : Int32)) dX11_lawLine_1 (by decide) ?_
  refine r_bipush (v := (17 : Int32)) dX11_lawLine_3 (by decide) ?_
  obtain ⟨q2, hq2, h⟩ := xb h
  obtain ⟨p1, hp1, h⟩ := xb h
  refine z_callV (as := [.int (11 : Int32), .int (17 : Int32)]) (o := a0) (r1 := (some (.int p1.1))) (stk := []) (stk2 := [.int p1.1]) (st1 := p1.2) (d' := 3) dX11_lawLine_5 xl_X11_102 hq2 (by decide) (Nat.le_trans xs0 (by decide)) rfl rfl (S_X11_takes n st a0 (11 : Int32) (17 : Int32) p1.1 p1.2 hp1) ?_
  refine r_istore_n (lv' := [(1, .int p1.1), (0, va_rf a0)]) (x := p1.1) dX11_lawLine_8 (by decide) (congrArg (List.cons _) (xfY (xk1 0 1 _) rfl)) ?_
  refine r_iload_n (x := p1.1) dX11_lawLine_9 rfl ?_
  refine r_bipush (v := (11 : Int32)) dX11_lawLine_10 (by decide) ?_
  obtain ⟨q17, hq17, h⟩ := xb h
  have Jq17 : Rn mX11_lawLine 79 [(0, va_rf a0)] [] q17 none st' 4 := by
    refine x_aload_n (o := a0) dX11_lawLine_79 rfl ?_
    obtain ⟨q19, hq19, h⟩ := xb h
    obtain ⟨s18, hs18, h⟩ := xb h
    refine z_callV (as := []) (o := a0) (r1 := none) (stk := []) (stk2 := []) (st1 := s18) (d' := 3) dX11_lawLine_80 xl_X11_108 hq19 (by decide) (Nat.le_trans xs0 (by decide)) rfl rfl (S_X11_endsLine n q17 a0  s18 hs18) ?_
    obtain rfl := Option.some.inj h
    exact r_return dX11_lawLine_83 rfl
  refine r_icmp_ne (tgt := 31) dX11_lawLine_12 (by decide) (fun c => ?_) (fun c => ?_)
  · replace hq17 := (if_neg c).symm.trans hq17
    refine r_iload_n (x := p1.1) dX11_lawLine_31 rfl ?_
    refine r_bipush (v := (11 : Int32)) dX11_lawLine_32 (by decide) ?_
    refine r_icmp_le (tgt := 79) dX11_lawLine_34 (by decide) (fun c => ?_) (fun c => ?_)
    · replace hq17 := (if_pos c).symm.trans hq17
      obtain rfl := Option.some.inj hq17
      exact x_sub [1] rfl Jq17
    · replace hq17 := (if_neg c).symm.trans hq17
      refine r_iload_n (x := p1.1) dX11_lawLine_37 rfl ?_
      refine r_bipush (v := (12 : Int32)) dX11_lawLine_38 (by decide) ?_
      refine r_isub dX11_lawLine_40 ?_
      obtain ⟨v7, hv7, hq17⟩ := xb hq17
      refine x_eqI (Option.some.inj hv7) ?_
      refine r_istore_n (lv' := [(2, .int v7), (1, .int p1.1), (0, va_rf a0)]) (x := v7) dX11_lawLine_41 (by decide) rfl ?_
      refine x_aload_n (o := a0) dX11_lawLine_42 rfl ?_
      obtain ⟨v8, hv8, hq17⟩ := xb hq17
      refine x_getR (o := a0) dX11_lawLine_43 xf_X11_17 hv8 ?_
      refine r_iconst (v := (1 : Int32)) dX11_lawLine_46 (by decide) ?_
      refine r_iload_n (x := v7) dX11_lawLine_47 rfl ?_
      refine r_iadd dX11_lawLine_48 ?_
      refine x_aload_n (o := a0) dX11_lawLine_49 rfl ?_
      refine r_iconst (v := (0 : Int32)) dX11_lawLine_50 (by decide) ?_
      refine r_bipush (v := (50 : Int32)) dX11_lawLine_51 (by decide) ?_
      obtain ⟨q10, hq10, hq17⟩ := xb hq17
      obtain ⟨p9, hp9, hq17⟩ := xb hq17
      refine z_callV (as := [.int (0 : Int32), .int (50 : Int32)]) (o := a0) (r1 := (some (.int p9.1))) (stk := [.int ((1 : Int32) + v7), va_rf v8]) (stk2 := [.int p9.1, .int ((1 : Int32) + v7), va_rf v8]) (st1 := p9.2) (d' := 3) dX11_lawLine_53 xl_X11_98 hq10 (by decide) (Nat.le_trans (xsI (xsA xs0)) (by decide)) rfl rfl (S_X11_numbered n p1.2 a0 (0 : Int32) (50 : Int32) p9.1 p9.2 hp9) ?_
      obtain ⟨s11, hs11, hq17⟩ := xb hq17
      refine x_iastore (o := v8) dX11_lawLine_56 hs11 ?_
      refine r_iload_n (x := v7) dX11_lawLine_57 rfl ?_
      refine r_if_le (tgt := 79) dX11_lawLine_58 (by decide) (fun c => ?_) (fun c => ?_)
      · replace hq17 := (if_pos c).symm.trans hq17
        obtain rfl := Option.some.inj hq17
        exact x_sub [2] rfl Jq17
      · replace hq17 := (if_neg c).symm.trans hq17
        refine x_aload_n (o := a0) dX11_lawLine_61 rfl ?_
        obtain ⟨v12, hv12, hq17⟩ := xb hq17
        refine x_getR (o := a0) dX11_lawLine_62 xf_X11_17 hv12 ?_
        refine r_bipush (v := (7 : Int32)) dX11_lawLine_65 (by decide) ?_
        refine r_iload_n (x := v7) dX11_lawLine_67 rfl ?_
        refine r_iadd dX11_lawLine_68 ?_
        refine x_aload_n (o := a0) dX11_lawLine_69 rfl ?_
        refine r_iconst (v := (1 : Int32)) dX11_lawLine_70 (by decide) ?_
        refine r_iload_n (x := v7) dX11_lawLine_71 rfl ?_
        obtain ⟨v13, hv13, hq17⟩ := xb hq17
        refine z_callS (as := [.int v7]) (r1 := (some (.int v13))) (stk := [.int (1 : Int32), va_rf a0, .int ((7 : Int32) + v7), va_rf v12]) (stk2 := [.int v13, .int (1 : Int32), va_rf a0, .int ((7 : Int32) + v7), va_rf v12]) (st1 := s11) (d' := 0) dX11_lawLine_72 xl_X11_111 (by decide) (Nat.le_trans (xsI (xsA (xsI (xsA xs0)))) (by decide)) rfl rfl (S_X11_mostPer n s11 v7 v13 hv13) ?_
        obtain ⟨q15, hq15, hq17⟩ := xb hq17
        obtain ⟨p14, hp14, hq17⟩ := xb hq17
        refine z_callV (as := [.int (1 : Int32), .int v13]) (o := a0) (r1 := (some (.int p14.1))) (stk := [.int ((7 : Int32) + v7), va_rf v12]) (stk2 := [.int p14.1, .int ((7 : Int32) + v7), va_rf v12]) (st1 := p14.2) (d' := 3) dX11_lawLine_75 xl_X11_98 hq15 (by decide) (Nat.le_trans (xsI (xsA xs0)) (by decide)) rfl rfl (S_X11_numbered n s11 a0 (1 : Int32) v13 p14.1 p14.2 hp14) ?_
        obtain ⟨s16, hs16, hq17⟩ := xb hq17
        refine x_iastore (o := v12) dX11_lawLine_78 hs16 ?_
        obtain rfl := Option.some.inj hq17
        exact x_sub [2] rfl Jq17
  · replace hq17 := (if_pos c).symm.trans hq17
    refine x_aload_n (o := a0) dX11_lawLine_15 rfl ?_
    obtain ⟨v3, hv3, hq17⟩ := xb hq17
    refine x_getR (o := a0) dX11_lawLine_16 xf_X11_17 hv3 ?_
    refine r_iconst (v := (0 : Int32)) dX11_lawLine_19 (by decide) ?_
    refine x_aload_n (o := a0) dX11_lawLine_20 rfl ?_
    refine r_iconst (v := (0 : Int32)) dX11_lawLine_21 (by decide) ?_
    refine r_bipush (v := (100 : Int32)) dX11_lawLine_22 (by decide) ?_
    obtain ⟨q5, hq5, hq17⟩ := xb hq17
    obtain ⟨p4, hp4, hq17⟩ := xb hq17
    refine z_callV (as := [.int (0 : Int32), .int (100 : Int32)]) (o := a0) (r1 := (some (.int p4.1))) (stk := [.int (0 : Int32), va_rf v3]) (stk2 := [.int p4.1, .int (0 : Int32), va_rf v3]) (st1 := p4.2) (d' := 3) dX11_lawLine_24 xl_X11_98 hq5 (by decide) (Nat.le_trans (xsI (xsA xs0)) (by decide)) rfl rfl (S_X11_numbered n p1.2 a0 (0 : Int32) (100 : Int32) p4.1 p4.2 hp4) ?_
    obtain ⟨s6, hs6, hq17⟩ := xb hq17
    refine x_iastore (o := v3) dX11_lawLine_27 hs6 ?_
    refine r_goto (tgt := 79) dX11_lawLine_28 (by decide) ?_
    obtain rfl := Option.some.inj hq17
    exact x_sub [1] rfl Jq17
theorem S_X11_lawLine (n : Nat) (st : xS) (a0 : Option Nat) (st' : xS) (h : F_X11_lawLine n st a0 = some st') : Ct mX11_lawLine [va_rf a0] st none st' 4 := by
  refine Ct.of (by decide) (by simp only [lgL_R, lgL_I, lgL_L, lgL_0]; decide) ?_
  try simp only [lvA_R]
  exact R_X11_lawLine n st a0 st' h
theorem R_X11_plans (n : Nat) (st : xS) (a0 : Option Nat) (a1 : Int32) (a2 : Int32) (rv : Option Nat) (st' : xS) (h : F_X11_plans n st a0 a1 a2 = some (rv, st')) : Rn mX11_plans 0 [(0, va_rf a0), (1, .int a1), (2, .int a2)] [] st (some (va_rf rv)) st' 0 := by
  unfold F_X11_plans at h
  refine x_aload_n (o := a0) dX11_plans_0 rfl ?_
  obtain ⟨v1, hv1, h⟩ := xb h
  refine x_getR (o := a0) dX11_plans_1 xf_X11_20 hv1 ?_
  refine r_iconst (v := (0 : Int32)) dX11_plans_4 (by decide) ?_
  refine r_iload_n (x := a1) dX11_plans_5 rfl ?_
  obtain ⟨s2, hs2, h⟩ := xb h
  refine x_iastore (o := v1) dX11_plans_6 hs2 ?_
  refine x_aload_n (o := a0) dX11_plans_7 rfl ?_
  obtain ⟨v3, hv3, h⟩ := xb h
  refine x_getR (o := a0) dX11_plans_8 xf_X11_20 hv3 ?_
  refine r_iconst (v := (1 : Int32)) dX11_plans_11 (by decide) ?_
  refine r_iload_n (x := a2) dX11_plans_12 rfl ?_
  obtain ⟨s4, hs4, h⟩ := xb h
  refine x_iastore (o := v3) dX11_plans_13 hs4 ?_
  refine x_aload_n (o := a0) dX11_plans_14 rfl ?_
  obtain ⟨v5, hv5, h⟩ := xb h
  refine x_getR (o := a0) dX11_plans_15 xf_X11_20 hv5 ?_
  refine r_iconst (v := (2 : Int32)) dX11_plans_18 (by decide) ?_
  refine x_aload_n (o := a0) dX11_plans_19 rfl ?_
  obtain ⟨v6, hv6, h⟩ := xb h
  refine x_getI (o := a0) dX11_plans_20 xf_X11_114 hv6 ?_
  obtain ⟨s7, hs7, h⟩ := xb h
  refine x_iastore (o := v5) dX11_plans_23 hs7 ?_
  refine x_aload_n (o := a0) dX11_plans_24 rfl ?_
  obtain ⟨v8, hv8, h⟩ := xb h
  refine x_getR (o := a0) dX11_plans_25 xf_X11_20 hv8 ?_
  refine r_iconst (v := (3 : Int32)) dX11_plans_28 (by decide) ?_
  refine x_aload_n (o := a0) dX11_plans_29 rfl ?_
  obtain ⟨v9, hv9, h⟩ := xb h
  refine x_getI (o := a0) dX11_plans_30 xf_X11_117 hv9 ?_
  obtain ⟨s10, hs10, h⟩ := xb h
  refine x_iastore (o := v8) dX11_plans_33 hs10 ?_
  refine x_aload_n (o := a0) dX11_plans_34 rfl ?_
  obtain ⟨v11, hv11, h⟩ := xb h
  refine x_getR (o := a0) dX11_plans_35 xf_X11_20 hv11 ?_
  refine r_iconst (v := (4 : Int32)) dX11_plans_38 (by decide) ?_
  refine x_aload_n (o := a0) dX11_plans_39 rfl ?_
  obtain ⟨v12, hv12, h⟩ := xb h
  refine x_getI (o := a0) dX11_plans_40 xf_X11_120 hv12 ?_
  obtain ⟨s13, hs13, h⟩ := xb h
  refine x_iastore (o := v11) dX11_plans_43 hs13 ?_
  refine x_aload_n (o := a0) dX11_plans_44 rfl ?_
  obtain ⟨v14, hv14, h⟩ := xb h
  refine x_getR (o := a0) dX11_plans_45 xf_X11_20 hv14 ?_
  refine r_iconst (v := (5 : Int32)) dX11_plans_48 (by decide) ?_
  refine x_aload_n (o := a0) dX11_plans_49 rfl ?_
  obtain ⟨v15, hv15, h⟩ := xb h
  refine x_getI (o := a0) dX11_plans_50 xf_X11_123 hv15 ?_
  obtain ⟨s16, hs16, h⟩ := xb h
  refine x_iastore (o := v14) dX11_plans_53 hs16 ?_
  refine x_aload_n (o := a0) dX11_plans_54 rfl ?_
  obtain ⟨v17, hv17, h⟩ := xb h
  refine x_getR (o := a0) dX11_plans_55 xf_X11_20 hv17 ?_
  obtain ⟨rfl, rfl⟩ := Prod.mk.inj (Option.some.inj h)
  exact x_areturn (o := v17) dX11_plans_58 _ rfl (Or.inr ⟨_, rfl⟩)
theorem S_X11_plans (n : Nat) (st : xS) (a0 : Option Nat) (a1 : Int32) (a2 : Int32) (rv : Option Nat) (st' : xS) (h : F_X11_plans n st a0 a1 a2 = some (rv, st')) : Ct mX11_plans [va_rf a0, .int a1, .int a2] st (some (va_rf rv)) st' 0 := by
  refine Ct.of (by decide) (by simp only [lgL_R, lgL_I, lgL_L, lgL_0]; decide) ?_
  try simp only [lvA_R]
  exact R_X11_plans n st a0 a1 a2 rv st' h
theorem R_X11_planLine_L172 (n : Nat) {r : Option Value} {st' : xS} : ∀ (k : Nat) (st : xS) (a0 : Option Nat) (a5 : Option Nat) (a6 : Int32) (q : (xS)), F_X11_planLine_L172 n k st a0 a5 a6 = some q → Rn mX11_planLine 220 [(0, va_rf a0)] [] q r st' 5 → Rn mX11_planLine 172 [(0, va_rf a0), (5, va_rf a5), (6, .int a6)] [] st r st' 5 := by
  intro k
  induction k with
  | zero => intro st a0 a5 a6 q h; cases h
  | succ k ih =>
    intro st a0 a5 a6 q h J
    unfold F_X11_planLine_L172 at h
    refine r_iload (x := a6) dX11_planLine_172 rfl ?_
    refine r_bipush (v := (6 : Int32)) dX11_planLine_174 (by decide) ?_
    refine r_icmp_ge (tgt := 220) dX11_planLine_176 (by decide) (fun c => ?_) (fun c => ?_)
    · replace h := (if_pos c).symm.trans h
      obtain rfl := Option.some.inj h
      exact x_sub [0] rfl J
    · replace h := (if_neg c).symm.trans h
      refine x_aload_n (o := a0) dX11_planLine_179 rfl ?_
      obtain ⟨v36, hv36, h⟩ := xb h
      refine x_getR (o := a0) dX11_planLine_180 xf_X11_17 hv36 ?_
      refine r_iconst (v := (0 : Int32)) dX11_planLine_183 (by decide) ?_
      obtain ⟨v37, hv37, h⟩ := xb h
      refine x_iaload (o := v36) dX11_planLine_184 hv37 ?_
      refine r_bipush (v := (40 : Int32)) dX11_planLine_185 (by decide) ?_
      refine r_icmp_ge (tgt := 220) dX11_planLine_187 (by decide) (fun c => ?_) (fun c => ?_)
      · replace h := (if_pos c).symm.trans h
        obtain rfl := Option.some.inj h
        exact x_sub [0] rfl J
      · replace h := (if_neg c).symm.trans h
        refine x_aload_n (o := a0) dX11_planLine_190 rfl ?_
        obtain ⟨v38, hv38, h⟩ := xb h
        refine x_getR (o := a0) dX11_planLine_191 xf_X11_17 hv38 ?_
        refine r_iconst (v := (1 : Int32)) dX11_planLine_194 (by decide) ?_
        refine r_bipush (v := (6 : Int32)) dX11_planLine_195 (by decide) ?_
        refine x_aload_n (o := a0) dX11_planLine_197 rfl ?_
        obtain ⟨v39, hv39, h⟩ := xb h
        refine x_getR (o := a0) dX11_planLine_198 xf_X11_17 hv39 ?_
        refine r_iconst (v := (0 : Int32)) dX11_planLine_201 (by decide) ?_
        obtain ⟨v40, hv40, h⟩ := xb h
        refine x_iaload (o := v39) dX11_planLine_202 hv40 ?_
        refine r_imul dX11_planLine_203 ?_
        refine r_iadd dX11_planLine_204 ?_
        refine r_iload (x := a6) dX11_planLine_205 rfl ?_
        refine r_iadd dX11_planLine_207 ?_
        refine x_aload (o := a5) dX11_planLine_208 rfl ?_
        refine r_iload (x := a6) dX11_planLine_210 rfl ?_
        obtain ⟨v41, hv41, h⟩ := xb h
        refine x_iaload (o := a5) dX11_planLine_212 hv41 ?_
        obtain ⟨s42, hs42, h⟩ := xb h
        refine x_iastore (o := v38) dX11_planLine_213 hs42 ?_
        obtain ⟨v43, hv43, h⟩ := xb h
        refine x_iinc (c := (1 : Int32)) (lv' := [(6, .int v43), (0, va_rf a0), (5, va_rf a5)]) (x := a6) (v := v43) dX11_planLine_214 rfl (by decide) (Option.some.inj hv43) (by decide) (congrArg (List.cons _) (xfY rfl (xfY (xk1 5 6 _) (xfN rfl rfl)))) ?_
        refine r_goto (tgt := 172) dX11_planLine_217 (by decide) ?_
        exact x_sub [1, 2, 0] rfl (ih s42 a0 a5 v43 q h J)
theorem R_X11_planLine (n : Nat) (st : xS) (a0 : Option Nat) (st' : xS) (h : F_X11_planLine n st a0 = some st') : Rn mX11_planLine 0 [(0, va_rf a0)] [] st none st' 5 := by
  unfold F_X11_planLine at h
  refine x_aload_n (o := a0) dX11_planLine_0 rfl ?_
  obtain ⟨v1, hv1, h⟩ := xb h
  refine x_getI (o := a0) dX11_planLine_1 xf_X11_58 hv1 ?_
  refine r_istore_n (lv' := [(1, .int v1), (0, va_rf a0)]) (x := v1) dX11_planLine_4 (by decide) (congrArg (List.cons _) (xfY (xk1 0 1 _) rfl)) ?_
  refine x_aload_n (o := a0) dX11_planLine_5 rfl ?_
  refine r_bipush (v := (21 : Int32)) dX11_planLine_6 (by decide) ?_
  refine r_bipush (v := (27 : Int32)) dX11_planLine_8 (by decide) ?_
  obtain ⟨q3, hq3, h⟩ := xb h
  obtain ⟨p2, hp2, h⟩ := xb h
  refine z_callV (as := [.int (21 : Int32), .int (27 : Int32)]) (o := a0) (r1 := (some (.int p2.1))) (stk := []) (stk2 := [.int p2.1]) (st1 := p2.2) (d' := 3) dX11_planLine_10 xl_X11_102 hq3 (by decide) (Nat.le_trans xs0 (by decide)) rfl rfl (S_X11_takes n st a0 (21 : Int32) (27 : Int32) p2.1 p2.2 hp2) ?_
  refine r_istore_n (lv' := [(2, .int p2.1), (1, .int v1), (0, va_rf a0)]) (x := p2.1) dX11_planLine_13 (by decide) rfl ?_
  refine r_iload_n (x := p2.1) dX11_planLine_14 rfl ?_
  refine r_bipush (v := (21 : Int32)) dX11_planLine_15 (by decide) ?_
  obtain ⟨q10, hq10, h⟩ := xb h
  have Jq10 : Rn mX11_planLine 48 [(0, va_rf a0), (1, .int v1), (2, .int p2.1)] [] q10 none st' 5 := by
    refine r_iload_n (x := p2.1) dX11_planLine_48 rfl ?_
    refine r_bipush (v := (22 : Int32)) dX11_planLine_49 (by decide) ?_
    obtain ⟨q15, hq15, h⟩ := xb h
    have Jq15 : Rn mX11_planLine 75 [(0, va_rf a0), (1, .int v1), (2, .int p2.1)] [] q15 none st' 5 := by
      refine r_iload_n (x := p2.1) dX11_planLine_75 rfl ?_
      refine r_bipush (v := (24 : Int32)) dX11_planLine_76 (by decide) ?_
      obtain ⟨q20, hq20, h⟩ := xb h
      have Jq20 : Rn mX11_planLine 102 [(0, va_rf a0), (1, .int v1), (2, .int p2.1)] [] q20 none st' 5 := by
        refine r_iload_n (x := p2.1) dX11_planLine_102 rfl ?_
        refine r_bipush (v := (26 : Int32)) dX11_planLine_103 (by decide) ?_
        obtain ⟨q24, hq24, h⟩ := xb h
        have Jq24 : Rn mX11_planLine 119 [(0, va_rf a0), (1, .int v1), (2, .int p2.1)] [] q24 none st' 5 := by
          refine r_iload_n (x := p2.1) dX11_planLine_119 rfl ?_
          refine r_bipush (v := (27 : Int32)) dX11_planLine_120 (by decide) ?_
          obtain ⟨q49, hq49, h⟩ := xb h
          have Jq49 : Rn mX11_planLine 235 [(0, va_rf a0)] [] q49 none st' 5 := by
            refine x_aload_n (o := a0) dX11_planLine_235 rfl ?_
            obtain ⟨q51, hq51, h⟩ := xb h
            obtain ⟨s50, hs50, h⟩ := xb h
            refine z_callV (as := []) (o := a0) (r1 := none) (stk := []) (stk2 := []) (st1 := s50) (d' := 3) dX11_planLine_236 xl_X11_108 hq51 (by decide) (Nat.le_trans xs0 (by decide)) rfl rfl (S_X11_endsLine n q49 a0  s50 hs50) ?_
            obtain rfl := Option.some.inj h
            exact r_return dX11_planLine_239 rfl
          refine r_icmp_ne (tgt := 235) dX11_planLine_122 (by decide) (fun c => ?_) (fun c => ?_)
          · replace hq49 := (if_neg c).symm.trans hq49
            obtain rfl := Option.some.inj hq49
            exact x_sub [0] rfl Jq49
          · replace hq49 := (if_pos c).symm.trans hq49
            refine x_aload_n (o := a0) dX11_planLine_125 rfl ?_
            obtain ⟨v25, hv25, hq49⟩ := xb hq49
            refine x_getR (o := a0) dX11_planLine_126 xf_X11_17 hv25 ?_
            refine r_iconst (v := (0 : Int32)) dX11_planLine_129 (by decide) ?_
            obtain ⟨v26, hv26, hq49⟩ := xb hq49
            refine x_iaload (o := v25) dX11_planLine_130 hv26 ?_
            refine r_bipush (v := (40 : Int32)) dX11_planLine_131 (by decide) ?_
            obtain ⟨q29, hq29, hq49⟩ := xb hq49
            have Jq29 : Rn mX11_planLine 142 [(0, va_rf a0)] [] q29 none st' 5 := by
              refine x_aload_n (o := a0) dX11_planLine_142 rfl ?_
              refine r_iconst (v := (0 : Int32)) dX11_planLine_143 (by decide) ?_
              refine r_bipush (v := (7 : Int32)) dX11_planLine_144 (by decide) ?_
              obtain ⟨q31, hq31, hq49⟩ := xb hq49
              obtain ⟨p30, hp30, hq49⟩ := xb hq49
              refine z_callV (as := [.int (0 : Int32), .int (7 : Int32)]) (o := a0) (r1 := (some (.int p30.1))) (stk := []) (stk2 := [.int p30.1]) (st1 := p30.2) (d' := 3) dX11_planLine_146 xl_X11_98 hq31 (by decide) (Nat.le_trans xs0 (by decide)) rfl rfl (S_X11_numbered n q29 a0 (0 : Int32) (7 : Int32) p30.1 p30.2 hp30) ?_
              refine r_istore_n (lv' := [(3, .int p30.1), (0, va_rf a0)]) (x := p30.1) dX11_planLine_149 (by decide) rfl ?_
              refine x_aload_n (o := a0) dX11_planLine_150 rfl ?_
              refine r_iconst (v := (0 : Int32)) dX11_planLine_151 (by decide) ?_
              refine r_bipush (v := (7 : Int32)) dX11_planLine_152 (by decide) ?_
              refine r_iload_n (x := p30.1) dX11_planLine_154 rfl ?_
              obtain ⟨q33, hq33, hq49⟩ := xb hq49
              obtain ⟨p32, hp32, hq49⟩ := xb hq49
              refine z_callV (as := [.int (0 : Int32), .int (7 : Int32), .int p30.1]) (o := a0) (r1 := (some (.int p32.1))) (stk := []) (stk2 := [.int p32.1]) (st1 := p32.2) (d' := 4) dX11_planLine_155 xl_X11_105 hq33 (by decide) (Nat.le_trans xs0 (by decide)) rfl rfl (S_X11_another n p30.2 a0 (0 : Int32) (7 : Int32) p30.1 p32.1 p32.2 hp32) ?_
              refine r_istore (lv' := [(4, .int p32.1), (3, .int p30.1), (0, va_rf a0)]) (x := p32.1) dX11_planLine_158 (by decide) rfl ?_
              refine x_aload_n (o := a0) dX11_planLine_160 rfl ?_
              refine r_iload_n (x := p30.1) dX11_planLine_161 rfl ?_
              refine r_iload (x := p32.1) dX11_planLine_162 rfl ?_
              obtain ⟨q35, hq35, hq49⟩ := xb hq49
              obtain ⟨p34, hp34, hq49⟩ := xb hq49
              refine z_callV (as := [.int p30.1, .int p32.1]) (o := a0) (r1 := (some (va_rf p34.1))) (stk := []) (stk2 := [va_rf p34.1]) (st1 := p34.2) (d' := 0) dX11_planLine_164 xl_X11_126 hq35 (by decide) (Nat.le_trans xs0 (by decide)) rfl rfl (S_X11_plans n p32.2 a0 p30.1 p32.1 p34.1 p34.2 hp34) ?_
              refine x_astore (lv' := [(5, va_rf p34.1), (4, .int p32.1), (3, .int p30.1), (0, va_rf a0)]) (o := p34.1) dX11_planLine_167 (by decide) rfl ?_
              refine r_iconst (v := (0 : Int32)) dX11_planLine_169 (by decide) ?_
              refine r_istore (lv' := [(6, .int (0 : Int32)), (5, va_rf p34.1), (4, .int p32.1), (3, .int p30.1), (0, va_rf a0)]) (x := (0 : Int32)) dX11_planLine_170 (by decide) (congrArg (List.cons _) (xfY (xk1 5 6 _) (xfY rfl (xfY rfl (xfY rfl rfl))))) ?_
              obtain ⟨q44, hq44, hq49⟩ := xb hq49
              have Jq44 : Rn mX11_planLine 220 [(0, va_rf a0)] [] q44 none st' 5 := by
                refine x_aload_n (o := a0) dX11_planLine_220 rfl ?_
                obtain ⟨v45, hv45, hq49⟩ := xb hq49
                refine x_getR (o := a0) dX11_planLine_221 xf_X11_17 hv45 ?_
                refine r_iconst (v := (0 : Int32)) dX11_planLine_224 (by decide) ?_
                refine r_dup2 dX11_planLine_225 rfl (xrf_cat _) ?_
                obtain ⟨v46, hv46, hq49⟩ := xb hq49
                refine x_iaload (o := v45) dX11_planLine_226 hv46 ?_
                refine r_iconst (v := (1 : Int32)) dX11_planLine_227 (by decide) ?_
                refine r_iadd dX11_planLine_228 ?_
                obtain ⟨s47, hs47, hq49⟩ := xb hq49
                refine x_iastore (o := v45) dX11_planLine_229 hs47 ?_
                refine x_aload_n (o := a0) dX11_planLine_230 rfl ?_
                refine r_iconst (v := (-1 : Int32)) dX11_planLine_231 (by decide) ?_
                obtain ⟨s48, hs48, hq49⟩ := xb hq49
                refine x_putI (o := a0) dX11_planLine_232 (xp_X11_123 _) hs48 ?_
                obtain rfl := Option.some.inj hq49
                exact x_sub [0] rfl Jq49
              exact x_sub [4, 1, 0] rfl (R_X11_planLine_L172 n n p34.2 a0 p34.1 (0 : Int32) q44 hq44 Jq44)
            refine r_icmp_lt (tgt := 142) dX11_planLine_133 (by decide) (fun c => ?_) (fun c => ?_)
            · replace hq29 := (if_pos c).symm.trans hq29
              obtain rfl := Option.some.inj hq29
              exact x_sub [0] rfl Jq29
            · replace hq29 := (if_neg c).symm.trans hq29
              refine x_aload_n (o := a0) dX11_planLine_136 rfl ?_
              refine r_iconst (v := (3 : Int32)) dX11_planLine_137 (by decide) ?_
              refine r_iload_n (x := v1) dX11_planLine_138 rfl ?_
              obtain ⟨q28, hq28, hq29⟩ := xb hq29
              obtain ⟨s27, hs27, hq29⟩ := xb hq29
              refine z_callV (as := [.int (3 : Int32), .int v1]) (o := a0) (r1 := none) (stk := []) (stk2 := []) (st1 := s27) (d' := 0) dX11_planLine_139 xl_X11_94 hq28 (by decide) (Nat.le_trans xs0 (by decide)) rfl rfl (S_X11_also n q24 a0 (3 : Int32) v1 s27 hs27) ?_
              obtain rfl := Option.some.inj hq29
              exact x_sub [0] rfl Jq29
        refine r_icmp_ne (tgt := 119) dX11_planLine_105 (by decide) (fun c => ?_) (fun c => ?_)
        · replace hq24 := (if_neg c).symm.trans hq24
          obtain rfl := Option.some.inj hq24
          exact x_sub [0, 1, 2] rfl Jq24
        · replace hq24 := (if_pos c).symm.trans hq24
          refine x_aload_n (o := a0) dX11_planLine_108 rfl ?_
          refine x_aload_n (o := a0) dX11_planLine_109 rfl ?_
          refine r_iconst (v := (0 : Int32)) dX11_planLine_110 (by decide) ?_
          refine r_bipush (v := (9 : Int32)) dX11_planLine_111 (by decide) ?_
          obtain ⟨q22, hq22, hq24⟩ := xb hq24
          obtain ⟨p21, hp21, hq24⟩ := xb hq24
          refine z_callV (as := [.int (0 : Int32), .int (9 : Int32)]) (o := a0) (r1 := (some (.int p21.1))) (stk := [va_rf a0]) (stk2 := [.int p21.1, va_rf a0]) (st1 := p21.2) (d' := 3) dX11_planLine_113 xl_X11_98 hq22 (by decide) (Nat.le_trans (xsA xs0) (by decide)) rfl rfl (S_X11_numbered n q20 a0 (0 : Int32) (9 : Int32) p21.1 p21.2 hp21) ?_
          obtain ⟨s23, hs23, hq24⟩ := xb hq24
          refine x_putI (o := a0) dX11_planLine_116 (xp_X11_123 _) hs23 ?_
          obtain rfl := Option.some.inj hq24
          exact x_sub [0, 1, 2] rfl Jq24
      refine r_icmp_eq (tgt := 87) dX11_planLine_78 (by decide) (fun c => ?_) (fun c => ?_)
      · replace hq20 := (if_pos c).symm.trans hq20
        refine x_aload_n (o := a0) dX11_planLine_87 rfl ?_
        refine r_iload_n (x := p2.1) dX11_planLine_88 rfl ?_
        refine r_bipush (v := (24 : Int32)) dX11_planLine_89 (by decide) ?_
        obtain ⟨q16, hq16, hq20⟩ := xb hq20
        have Jq16 : Rn mX11_planLine 99 [(0, va_rf a0), (1, .int v1), (2, .int p2.1)] [.int q16, va_rf a0] q15 none st' 5 := by
          obtain ⟨s17, hs17, hq20⟩ := xb hq20
          refine x_putI (o := a0) dX11_planLine_99 (xp_X11_120 _) hs17 ?_
          obtain rfl := Option.some.inj hq20
          exact x_sub [0, 1, 2] rfl Jq20
        refine r_icmp_ne (tgt := 98) dX11_planLine_91 (by decide) (fun c => ?_) (fun c => ?_)
        · replace hq16 := (if_neg c).symm.trans hq16
          refine r_iconst (v := (0 : Int32)) dX11_planLine_98 (by decide) ?_
          obtain rfl := Option.some.inj hq16
          exact x_sub [0, 1, 2] rfl Jq16
        · replace hq16 := (if_pos c).symm.trans hq16
          refine r_iconst (v := (1 : Int32)) dX11_planLine_94 (by decide) ?_
          refine r_goto (tgt := 99) dX11_planLine_95 (by decide) ?_
          obtain rfl := Option.some.inj hq16
          exact x_sub [0, 1, 2] rfl Jq16
      · replace hq20 := (if_neg c).symm.trans hq20
        refine r_iload_n (x := p2.1) dX11_planLine_81 rfl ?_
        refine r_bipush (v := (25 : Int32)) dX11_planLine_82 (by decide) ?_
        refine r_icmp_ne (tgt := 102) dX11_planLine_84 (by decide) (fun c => ?_) (fun c => ?_)
        · replace hq20 := (if_neg c).symm.trans hq20
          obtain rfl := Option.some.inj hq20
          exact x_sub [0, 1, 2] rfl Jq20
        · replace hq20 := (if_pos c).symm.trans hq20
          refine x_aload_n (o := a0) dX11_planLine_87 rfl ?_
          refine r_iload_n (x := p2.1) dX11_planLine_88 rfl ?_
          refine r_bipush (v := (24 : Int32)) dX11_planLine_89 (by decide) ?_
          obtain ⟨q18, hq18, hq20⟩ := xb hq20
          have Jq18 : Rn mX11_planLine 99 [(0, va_rf a0), (1, .int v1), (2, .int p2.1)] [.int q18, va_rf a0] q15 none st' 5 := by
            obtain ⟨s19, hs19, hq20⟩ := xb hq20
            refine x_putI (o := a0) dX11_planLine_99 (xp_X11_120 _) hs19 ?_
            obtain rfl := Option.some.inj hq20
            exact x_sub [0, 1, 2] rfl Jq20
          refine r_icmp_ne (tgt := 98) dX11_planLine_91 (by decide) (fun c => ?_) (fun c => ?_)
          · replace hq18 := (if_neg c).symm.trans hq18
            refine r_iconst (v := (0 : Int32)) dX11_planLine_98 (by decide) ?_
            obtain rfl := Option.some.inj hq18
            exact x_sub [0, 1, 2] rfl Jq18
          · replace hq18 := (if_pos c).symm.trans hq18
            refine r_iconst (v := (1 : Int32)) dX11_planLine_94 (by decide) ?_
            refine r_goto (tgt := 99) dX11_planLine_95 (by decide) ?_
            obtain rfl := Option.some.inj hq18
            exact x_sub [0, 1, 2] rfl Jq18
    refine r_icmp_eq (tgt := 60) dX11_planLine_51 (by decide) (fun c => ?_) (fun c => ?_)
    · replace hq15 := (if_pos c).symm.trans hq15
      refine x_aload_n (o := a0) dX11_planLine_60 rfl ?_
      refine r_iload_n (x := p2.1) dX11_planLine_61 rfl ?_
      refine r_bipush (v := (22 : Int32)) dX11_planLine_62 (by decide) ?_
      obtain ⟨q11, hq11, hq15⟩ := xb hq15
      have Jq11 : Rn mX11_planLine 72 [(0, va_rf a0), (1, .int v1), (2, .int p2.1)] [.int q11, va_rf a0] q10 none st' 5 := by
        obtain ⟨s12, hs12, hq15⟩ := xb hq15
        refine x_putI (o := a0) dX11_planLine_72 (xp_X11_117 _) hs12 ?_
        obtain rfl := Option.some.inj hq15
        exact x_sub [0, 1, 2] rfl Jq15
      refine r_icmp_ne (tgt := 71) dX11_planLine_64 (by decide) (fun c => ?_) (fun c => ?_)
      · replace hq11 := (if_neg c).symm.trans hq11
        refine r_iconst (v := (0 : Int32)) dX11_planLine_71 (by decide) ?_
        obtain rfl := Option.some.inj hq11
        exact x_sub [0, 1, 2] rfl Jq11
      · replace hq11 := (if_pos c).symm.trans hq11
        refine r_iconst (v := (1 : Int32)) dX11_planLine_67 (by decide) ?_
        refine r_goto (tgt := 72) dX11_planLine_68 (by decide) ?_
        obtain rfl := Option.some.inj hq11
        exact x_sub [0, 1, 2] rfl Jq11
    · replace hq15 := (if_neg c).symm.trans hq15
      refine r_iload_n (x := p2.1) dX11_planLine_54 rfl ?_
      refine r_bipush (v := (23 : Int32)) dX11_planLine_55 (by decide) ?_
      refine r_icmp_ne (tgt := 75) dX11_planLine_57 (by decide) (fun c => ?_) (fun c => ?_)
      · replace hq15 := (if_neg c).symm.trans hq15
        obtain rfl := Option.some.inj hq15
        exact x_sub [0, 1, 2] rfl Jq15
      · replace hq15 := (if_pos c).symm.trans hq15
        refine x_aload_n (o := a0) dX11_planLine_60 rfl ?_
        refine r_iload_n (x := p2.1) dX11_planLine_61 rfl ?_
        refine r_bipush (v := (22 : Int32)) dX11_planLine_62 (by decide) ?_
        obtain ⟨q13, hq13, hq15⟩ := xb hq15
        have Jq13 : Rn mX11_planLine 72 [(0, va_rf a0), (1, .int v1), (2, .int p2.1)] [.int q13, va_rf a0] q10 none st' 5 := by
          obtain ⟨s14, hs14, hq15⟩ := xb hq15
          refine x_putI (o := a0) dX11_planLine_72 (xp_X11_117 _) hs14 ?_
          obtain rfl := Option.some.inj hq15
          exact x_sub [0, 1, 2] rfl Jq15
        refine r_icmp_ne (tgt := 71) dX11_planLine_64 (by decide) (fun c => ?_) (fun c => ?_)
        · replace hq13 := (if_neg c).symm.trans hq13
          refine r_iconst (v := (0 : Int32)) dX11_planLine_71 (by decide) ?_
          obtain rfl := Option.some.inj hq13
          exact x_sub [0, 1, 2] rfl Jq13
        · replace hq13 := (if_pos c).symm.trans hq13
          refine r_iconst (v := (1 : Int32)) dX11_planLine_67 (by decide) ?_
          refine r_goto (tgt := 72) dX11_planLine_68 (by decide) ?_
          obtain rfl := Option.some.inj hq13
          exact x_sub [0, 1, 2] rfl Jq13
  refine r_icmp_ne (tgt := 48) dX11_planLine_17 (by decide) (fun c => ?_) (fun c => ?_)
  · replace hq10 := (if_neg c).symm.trans hq10
    obtain rfl := Option.some.inj hq10
    exact x_sub [2, 1, 0] rfl Jq10
  · replace hq10 := (if_pos c).symm.trans hq10
    refine x_aload_n (o := a0) dX11_planLine_20 rfl ?_
    refine x_aload_n (o := a0) dX11_planLine_21 rfl ?_
    obtain ⟨v4, hv4, hq10⟩ := xb hq10
    refine x_getI (o := a0) dX11_planLine_22 xf_X11_114 hv4 ?_
    refine r_sipush (v := (999 : Int32)) dX11_planLine_25 (by decide) ?_
    obtain ⟨q6, hq6, hq10⟩ := xb hq10
    obtain ⟨p5, hp5, hq10⟩ := xb hq10
    refine z_callV (as := [.int v4, .int (999 : Int32)]) (o := a0) (r1 := (some (.int p5.1))) (stk := []) (stk2 := [.int p5.1]) (st1 := p5.2) (d' := 3) dX11_planLine_28 xl_X11_98 hq6 (by decide) (Nat.le_trans xs0 (by decide)) rfl rfl (S_X11_numbered n p2.2 a0 v4 (999 : Int32) p5.1 p5.2 hp5) ?_
    refine r_istore_n (lv' := [(3, .int p5.1), (2, .int p2.1), (1, .int v1), (0, va_rf a0)]) (x := p5.1) dX11_planLine_31 (by decide) rfl ?_
    refine x_aload_n (o := a0) dX11_planLine_32 rfl ?_
    refine r_iload_n (x := p5.1) dX11_planLine_33 rfl ?_
    obtain ⟨q8, hq8, hq10⟩ := xb hq10
    have Jq8 : Rn mX11_planLine 45 [(0, va_rf a0), (1, .int v1), (2, .int p2.1)] [.int q8, va_rf a0] p5.2 none st' 5 := by
      obtain ⟨s9, hs9, hq10⟩ := xb hq10
      refine x_putI (o := a0) dX11_planLine_45 (xp_X11_114 _) hs9 ?_
      obtain rfl := Option.some.inj hq10
      exact x_sub [0, 1, 2] rfl Jq10
    refine r_if_ge (tgt := 44) dX11_planLine_34 (by decide) (fun c => ?_) (fun c => ?_)
    · replace hq8 := (if_pos c).symm.trans hq8
      refine r_iload_n (x := p5.1) dX11_planLine_44 rfl ?_
      obtain rfl := Option.some.inj hq8
      exact x_sub [3, 2, 1] rfl Jq8
    · replace hq8 := (if_neg c).symm.trans hq8
      refine x_aload_n (o := a0) dX11_planLine_37 rfl ?_
      obtain ⟨v7, hv7, hq8⟩ := xb hq8
      refine x_getI (o := a0) dX11_planLine_38 xf_X11_114 hv7 ?_
      refine r_goto (tgt := 45) dX11_planLine_41 (by decide) ?_
      obtain rfl := Option.some.inj hq8
      exact x_sub [3, 2, 1] rfl Jq8
theorem S_X11_planLine (n : Nat) (st : xS) (a0 : Option Nat) (st' : xS) (h : F_X11_planLine n st a0 = some st') : Ct mX11_planLine [va_rf a0] st none st' 5 := by
  refine Ct.of (by decide) (by simp only [lgL_R, lgL_I, lgL_L, lgL_0]; decide) ?_
  try simp only [lvA_R]
  exact R_X11_planLine n st a0 st' h
theorem R_X11_placeOf (n : Nat) (st : xS) (a0 : Int32) (a1 : Int32) (rv : Int32) (h : F_X11_placeOf n st a0 a1 = some rv) : Rn mX11_placeOf 0 [(0, .int a0), (1, .int a1)] [] st (some (.int rv)) st 0 := by
  unfold F_X11_placeOf at h
  refine r_iload_n (x := a0) dX11_placeOf_0 rfl ?_
  obtain ⟨q1, hq1, h⟩ := xb h
  have Jq1 : Rn mX11_placeOf 41 [] [.int q1] st (some (.int rv)) st 0 := by
    obtain rfl := Option.some.inj h
    exact r_ireturn dX11_placeOf_41 .int rfl rfl
  refine r_if_ne (tgt := 16) dX11_placeOf_1 (by decide) (fun c => ?_) (fun c => ?_)
  · replace hq1 := (if_neg c).symm.trans hq1
    refine r_iload_n (x := a0) dX11_placeOf_16 rfl ?_
    refine r_iconst (v := (1 : Int32)) dX11_placeOf_17 (by decide) ?_
    refine r_icmp_ne (tgt := 32) dX11_placeOf_18 (by decide) (fun c => ?_) (fun c => ?_)
    · replace hq1 := (if_neg c).symm.trans hq1
      refine r_sipush (v := (1002 : Int32)) dX11_placeOf_32 (by decide) ?_
      refine r_sipush (v := (242 : Int32)) dX11_placeOf_35 (by decide) ?_
      refine r_iload_n (x := a1) dX11_placeOf_38 rfl ?_
      refine r_imul dX11_placeOf_39 ?_
      refine r_iadd dX11_placeOf_40 ?_
      obtain rfl := Option.some.inj hq1
      exact x_sub [] rfl Jq1
    · replace hq1 := (if_pos c).symm.trans hq1
      refine r_sipush (v := (960 : Int32)) dX11_placeOf_21 (by decide) ?_
      refine r_bipush (v := (14 : Int32)) dX11_placeOf_24 (by decide) ?_
      refine r_iload_n (x := a1) dX11_placeOf_26 rfl ?_
      refine r_imul dX11_placeOf_27 ?_
      refine r_iadd dX11_placeOf_28 ?_
      refine r_goto (tgt := 41) dX11_placeOf_29 (by decide) ?_
      obtain rfl := Option.some.inj hq1
      exact x_sub [] rfl Jq1
  · replace hq1 := (if_pos c).symm.trans hq1
    refine r_sipush (v := (510 : Int32)) dX11_placeOf_4 (by decide) ?_
    refine r_sipush (v := (150 : Int32)) dX11_placeOf_7 (by decide) ?_
    refine r_iload_n (x := a1) dX11_placeOf_10 rfl ?_
    refine r_imul dX11_placeOf_11 ?_
    refine r_iadd dX11_placeOf_12 ?_
    refine r_goto (tgt := 41) dX11_placeOf_13 (by decide) ?_
    obtain rfl := Option.some.inj hq1
    exact x_sub [] rfl Jq1
theorem S_X11_placeOf (n : Nat) (st : xS) (a0 : Int32) (a1 : Int32) (rv : Int32) (h : F_X11_placeOf n st a0 a1 = some rv) : Ct mX11_placeOf [.int a0, .int a1] st (some (.int rv)) st 0 := by
  refine Ct.of (by decide) (by simp only [lgL_R, lgL_I, lgL_L, lgL_0]; decide) ?_
  try simp only [lvA_R]
  exact R_X11_placeOf n st a0 a1 rv h
theorem R_X11_sizeOf (n : Nat) (st : xS) (a0 : Int32) (rv : Int32) (h : F_X11_sizeOf n st a0 = some rv) : Rn mX11_sizeOf 0 [(0, .int a0)] [] st (some (.int rv)) st 0 := by
  unfold F_X11_sizeOf at h
  refine r_iload_n (x := a0) dX11_sizeOf_0 rfl ?_
  obtain ⟨q1, hq1, h⟩ := xb h
  have Jq1 : Rn mX11_sizeOf 23 [] [.int q1] st (some (.int rv)) st 0 := by
    obtain rfl := Option.some.inj h
    exact r_ireturn dX11_sizeOf_23 .int rfl rfl
  refine r_if_ne (tgt := 10) dX11_sizeOf_1 (by decide) (fun c => ?_) (fun c => ?_)
  · replace hq1 := (if_neg c).symm.trans hq1
    refine r_iload_n (x := a0) dX11_sizeOf_10 rfl ?_
    refine r_iconst (v := (1 : Int32)) dX11_sizeOf_11 (by decide) ?_
    refine r_icmp_ne (tgt := 20) dX11_sizeOf_12 (by decide) (fun c => ?_) (fun c => ?_)
    · replace hq1 := (if_neg c).symm.trans hq1
      refine r_sipush (v := (242 : Int32)) dX11_sizeOf_20 (by decide) ?_
      obtain rfl := Option.some.inj hq1
      exact x_sub [] rfl Jq1
    · replace hq1 := (if_pos c).symm.trans hq1
      refine r_bipush (v := (14 : Int32)) dX11_sizeOf_15 (by decide) ?_
      refine r_goto (tgt := 23) dX11_sizeOf_17 (by decide) ?_
      obtain rfl := Option.some.inj hq1
      exact x_sub [] rfl Jq1
  · replace hq1 := (if_pos c).symm.trans hq1
    refine r_sipush (v := (150 : Int32)) dX11_sizeOf_4 (by decide) ?_
    refine r_goto (tgt := 23) dX11_sizeOf_7 (by decide) ?_
    obtain rfl := Option.some.inj hq1
    exact x_sub [] rfl Jq1
theorem S_X11_sizeOf (n : Nat) (st : xS) (a0 : Int32) (rv : Int32) (h : F_X11_sizeOf n st a0 = some rv) : Ct mX11_sizeOf [.int a0] st (some (.int rv)) st 0 := by
  refine Ct.of (by decide) (by simp only [lgL_R, lgL_I, lgL_L, lgL_0]; decide) ?_
  try simp only [lvA_R]
  exact R_X11_sizeOf n st a0 rv h
theorem R_X11_isOf (n : Nat) (st : xS) (a0 : Option Nat) (a1 : Int32) (a2 : Int32) (rv : Int32) (h : F_X11_isOf n st a0 a1 a2 = some rv) : Rn mX11_isOf 0 [(0, va_rf a0), (1, .int a1), (2, .int a2)] [] st (some (.int rv)) st 1 := by
  unfold F_X11_isOf at h
  refine r_iload_n (x := a2) dX11_isOf_0 rfl ?_
  refine r_iconst (v := (0 : Int32)) dX11_isOf_1 (by decide) ?_
  refine x_aload_n (o := a0) dX11_isOf_2 rfl ?_
  obtain ⟨v1, hv1, h⟩ := xb h
  refine x_getR (o := a0) dX11_isOf_3 xf_X11_7 hv1 ?_
  refine r_iload_n (x := a1) dX11_isOf_6 rfl ?_
  obtain ⟨v2, hv2, h⟩ := xb h
  refine x_iaload (o := v1) dX11_isOf_7 hv2 ?_
  refine r_iconst (v := (1 : Int32)) dX11_isOf_8 (by decide) ?_
  refine r_isub dX11_isOf_9 ?_
  obtain ⟨v3, hv3, h⟩ := xb h
  refine z_callS (as := [.int a2, .int (0 : Int32), .int (v2 - (1 : Int32))]) (r1 := (some (.int v3))) (stk := []) (stk2 := [.int v3]) (st1 := st) (d' := 0) dX11_isOf_10 xl_X11_90 (by decide) (Nat.le_trans xs0 (by decide)) rfl rfl (S_X11_isIn n st a2 (0 : Int32) (v2 - (1 : Int32)) v3 hv3) ?_
  obtain ⟨v4, hv4, h⟩ := xb h
  refine x_eqI (rz_inv2 hv4).1 ?_
  obtain rfl := Option.some.inj h
  exact r_ireturn dX11_isOf_13 .boolean rfl (by rcases (rz_inv2 hv4).2 with e | e <;> rw [e] <;> rfl)
theorem S_X11_isOf (n : Nat) (st : xS) (a0 : Option Nat) (a1 : Int32) (a2 : Int32) (rv : Int32) (h : F_X11_isOf n st a0 a1 a2 = some rv) : Ct mX11_isOf [va_rf a0, .int a1, .int a2] st (some (.int rv)) st 1 := by
  refine Ct.of (by decide) (by simp only [lgL_R, lgL_I, lgL_L, lgL_0]; decide) ?_
  try simp only [lvA_R]
  exact R_X11_isOf n st a0 a1 a2 rv h
theorem R_X11_begins_L12 (n : Nat) {r : Option Value} {st' : xS} : ∀ (k : Nat) (st : xS) (a0 : Option Nat) (a1 : Int32) (a2 : Int32) (q : (xS)), F_X11_begins_L12 n k st a0 a1 a2 = some q → Rn mX11_begins 32 [(0, va_rf a0), (1, .int a1)] [] q r st' 3 → Rn mX11_begins 12 [(0, va_rf a0), (1, .int a1), (2, .int a2)] [] st r st' 3 := by
  intro k
  induction k with
  | zero => intro st a0 a1 a2 q h; cases h
  | succ k ih =>
    intro st a0 a1 a2 q h J
    unfold F_X11_begins_L12 at h
    refine r_iload_n (x := a2) dX11_begins_12 rfl ?_
    refine r_sipush (v := (242 : Int32)) dX11_begins_13 (by decide) ?_
    refine r_icmp_ge (tgt := 32) dX11_begins_16 (by decide) (fun c => ?_) (fun c => ?_)
    · replace h := (if_pos c).symm.trans h
      obtain rfl := Option.some.inj h
      exact x_sub [0, 1] rfl J
    · replace h := (if_neg c).symm.trans h
      refine x_aload_n (o := a0) dX11_begins_19 rfl ?_
      obtain ⟨v4, hv4, h⟩ := xb h
      refine x_getR (o := a0) dX11_begins_20 xf_X11_17 hv4 ?_
      refine r_iload_n (x := a2) dX11_begins_23 rfl ?_
      refine r_iconst (v := (0 : Int32)) dX11_begins_24 (by decide) ?_
      obtain ⟨s5, hs5, h⟩ := xb h
      refine x_iastore (o := v4) dX11_begins_25 hs5 ?_
      obtain ⟨v6, hv6, h⟩ := xb h
      refine x_iinc (c := (1 : Int32)) (lv' := [(2, .int v6), (0, va_rf a0), (1, .int a1)]) (x := a2) (v := v6) dX11_begins_26 rfl (by decide) (Option.some.inj hv6) (by decide) rfl ?_
      refine r_goto (tgt := 12) dX11_begins_29 (by decide) ?_
      exact x_sub [1, 2, 0] rfl (ih s5 a0 a1 v6 q h J)
theorem R_X11_begins_L47 (n : Nat) {r : Option Value} {st' : xS} : ∀ (k : Nat) (st : xS) (a0 : Option Nat) (a2 : Int32) (q : (xS)), F_X11_begins_L47 n k st a0 a2 = some q → Rn mX11_begins 69 [(0, va_rf a0)] [] q r st' 3 → Rn mX11_begins 47 [(0, va_rf a0), (2, .int a2)] [] st r st' 3 := by
  intro k
  induction k with
  | zero => intro st a0 a2 q h; cases h
  | succ k ih =>
    intro st a0 a2 q h J
    unfold F_X11_begins_L47 at h
    refine r_iload_n (x := a2) dX11_begins_47 rfl ?_
    refine r_bipush (v := (6 : Int32)) dX11_begins_48 (by decide) ?_
    refine r_icmp_ge (tgt := 69) dX11_begins_50 (by decide) (fun c => ?_) (fun c => ?_)
    · replace h := (if_pos c).symm.trans h
      obtain rfl := Option.some.inj h
      exact x_sub [0] rfl J
    · replace h := (if_neg c).symm.trans h
      refine x_aload_n (o := a0) dX11_begins_53 rfl ?_
      obtain ⟨v10, hv10, h⟩ := xb h
      refine x_getR (o := a0) dX11_begins_54 xf_X11_17 hv10 ?_
      refine r_bipush (v := (7 : Int32)) dX11_begins_57 (by decide) ?_
      refine r_iload_n (x := a2) dX11_begins_59 rfl ?_
      refine r_iadd dX11_begins_60 ?_
      refine r_iconst (v := (1 : Int32)) dX11_begins_61 (by decide) ?_
      obtain ⟨s11, hs11, h⟩ := xb h
      refine x_iastore (o := v10) dX11_begins_62 hs11 ?_
      obtain ⟨v12, hv12, h⟩ := xb h
      refine x_iinc (c := (1 : Int32)) (lv' := [(2, .int v12), (0, va_rf a0)]) (x := a2) (v := v12) dX11_begins_63 rfl (by decide) (Option.some.inj hv12) (by decide) rfl ?_
      refine r_goto (tgt := 47) dX11_begins_66 (by decide) ?_
      exact x_sub [1, 0] rfl (ih s11 a0 v12 q h J)
theorem R_X11_begins (n : Nat) (st : xS) (a0 : Option Nat) (a1 : Int32) (st' : xS) (h : F_X11_begins n st a0 a1 = some st') : Rn mX11_begins 0 [(0, va_rf a0), (1, .int a1)] [] st none st' 3 := by
  unfold F_X11_begins at h
  refine x_aload_n (o := a0) dX11_begins_0 rfl ?_
  refine r_iconst (v := (0 : Int32)) dX11_begins_1 (by decide) ?_
  obtain ⟨s1, hs1, h⟩ := xb h
  refine x_putI (o := a0) dX11_begins_2 (xp_X11_51 _) hs1 ?_
  refine x_aload_n (o := a0) dX11_begins_5 rfl ?_
  refine r_iconst (v := (0 : Int32)) dX11_begins_6 (by decide) ?_
  obtain ⟨v3, hv3, h⟩ := xb h
  refine x_eqI (rz_inv2 hv3).1 ?_
  obtain ⟨s2, hs2, h⟩ := xb h
  refine x_putZ (o := a0) dX11_begins_7 (xp_X11_80 _) (rz_inv2 hv3).2 hs2 ?_
  refine r_iconst (v := (0 : Int32)) dX11_begins_10 (by decide) ?_
  refine r_istore_n (lv' := [(2, .int (0 : Int32)), (0, va_rf a0), (1, .int a1)]) (x := (0 : Int32)) dX11_begins_11 (by decide) rfl ?_
  obtain ⟨q7, hq7, h⟩ := xb h
  have Jq7 : Rn mX11_begins 32 [(0, va_rf a0), (1, .int a1)] [] q7 none st' 3 := by
    refine r_iload_n (x := a1) dX11_begins_32 rfl ?_
    refine r_iconst (v := (1 : Int32)) dX11_begins_33 (by decide) ?_
    obtain ⟨q14, hq14, h⟩ := xb h
    have Jq14 : Rn mX11_begins 69 [(0, va_rf a0)] [] q14 none st' 3 := by
      refine x_aload_n (o := a0) dX11_begins_69 rfl ?_
      refine r_iconst (v := (0 : Int32)) dX11_begins_70 (by decide) ?_
      obtain ⟨s15, hs15, h⟩ := xb h
      refine x_putI (o := a0) dX11_begins_71 (xp_X11_114 _) hs15 ?_
      refine x_aload_n (o := a0) dX11_begins_74 rfl ?_
      refine r_iconst (v := (1 : Int32)) dX11_begins_75 (by decide) ?_
      obtain ⟨s16, hs16, h⟩ := xb h
      refine x_putI (o := a0) dX11_begins_76 (xp_X11_117 _) hs16 ?_
      refine x_aload_n (o := a0) dX11_begins_79 rfl ?_
      refine r_iconst (v := (0 : Int32)) dX11_begins_80 (by decide) ?_
      obtain ⟨s17, hs17, h⟩ := xb h
      refine x_putI (o := a0) dX11_begins_81 (xp_X11_120 _) hs17 ?_
      refine x_aload_n (o := a0) dX11_begins_84 rfl ?_
      refine r_iconst (v := (-1 : Int32)) dX11_begins_85 (by decide) ?_
      obtain ⟨s18, hs18, h⟩ := xb h
      refine x_putI (o := a0) dX11_begins_86 (xp_X11_123 _) hs18 ?_
      refine x_aload_n (o := a0) dX11_begins_89 rfl ?_
      obtain ⟨q20, hq20, h⟩ := xb h
      obtain ⟨s19, hs19, h⟩ := xb h
      refine z_callV (as := []) (o := a0) (r1 := none) (stk := []) (stk2 := []) (st1 := s19) (d' := 2) dX11_begins_90 xl_X11_87 hq20 (by decide) (Nat.le_trans xs0 (by decide)) rfl rfl (S_X11_advance n s18 a0  s19 hs19) ?_
      obtain rfl := Option.some.inj h
      exact r_return dX11_begins_93 rfl
    refine r_icmp_ne (tgt := 69) dX11_begins_34 (by decide) (fun c => ?_) (fun c => ?_)
    · replace hq14 := (if_neg c).symm.trans hq14
      obtain rfl := Option.some.inj hq14
      exact x_sub [0] rfl Jq14
    · replace hq14 := (if_pos c).symm.trans hq14
      refine x_aload_n (o := a0) dX11_begins_37 rfl ?_
      obtain ⟨v8, hv8, hq14⟩ := xb hq14
      refine x_getR (o := a0) dX11_begins_38 xf_X11_17 hv8 ?_
      refine r_iconst (v := (0 : Int32)) dX11_begins_41 (by decide) ?_
      refine r_bipush (v := (30 : Int32)) dX11_begins_42 (by decide) ?_
      obtain ⟨s9, hs9, hq14⟩ := xb hq14
      refine x_iastore (o := v8) dX11_begins_44 hs9 ?_
      refine r_iconst (v := (1 : Int32)) dX11_begins_45 (by decide) ?_
      refine r_istore_n (lv' := [(2, .int (1 : Int32)), (0, va_rf a0), (1, .int a1)]) (x := (1 : Int32)) dX11_begins_46 (by decide) rfl ?_
      obtain ⟨q13, hq13, hq14⟩ := xb hq14
      have Jq13 : Rn mX11_begins 69 [(0, va_rf a0)] [] q13 none st' 3 := by
        obtain rfl := Option.some.inj hq14
        exact x_sub [0] rfl Jq14
      exact x_sub [1, 0] rfl (R_X11_begins_L47 n n s9 a0 (1 : Int32) q13 hq13 Jq13)
  exact x_sub [1, 2, 0] rfl (R_X11_begins_L12 n n s2 a0 a1 (0 : Int32) q7 hq7 Jq7)
theorem S_X11_begins (n : Nat) (st : xS) (a0 : Option Nat) (a1 : Int32) (st' : xS) (h : F_X11_begins n st a0 a1 = some st') : Ct mX11_begins [va_rf a0, .int a1] st none st' 3 := by
  refine Ct.of (by decide) (by simp only [lgL_R, lgL_I, lgL_L, lgL_0]; decide) ?_
  try simp only [lvA_R]
  exact R_X11_begins n st a0 a1 st' h
theorem R_X11_text_L76 (n : Nat) {r : Option Value} {st' : xS} : ∀ (k : Nat) (st : xS) (a0 : Option Nat) (a1 : Int32) (a2 : Int32) (q : (xS)), F_X11_text_L76 n k st a0 a1 a2 = some q → Rn mX11_text 120 [(0, va_rf a0), (1, .int a1), (2, .int a2)] [] q r st' 6 → Rn mX11_text 76 [(0, va_rf a0), (1, .int a1), (2, .int a2)] [] st r st' 6 := by
  intro k
  induction k with
  | zero => intro st a0 a1 a2 q h; cases h
  | succ k ih =>
    intro st a0 a1 a2 q h J
    unfold F_X11_text_L76 at h
    refine x_aload_n (o := a0) dX11_text_76 rfl ?_
    obtain ⟨v15, hv15, h⟩ := xb h
    refine x_getI (o := a0) dX11_text_77 xf_X11_80 hv15 ?_
    refine r_if_ne (tgt := 120) dX11_text_80 (by decide) (fun c => ?_) (fun c => ?_)
    · replace h := (if_neg c).symm.trans h
      obtain rfl := Option.some.inj h
      exact x_sub [0, 1, 2] rfl J
    · replace h := (if_pos c).symm.trans h
      refine x_aload_n (o := a0) dX11_text_83 rfl ?_
      obtain ⟨v16, hv16, h⟩ := xb h
      refine x_getI (o := a0) dX11_text_84 xf_X11_61 hv16 ?_
      refine r_if_eq (tgt := 120) dX11_text_87 (by decide) (fun c => ?_) (fun c => ?_)
      · replace h := (if_pos c).symm.trans h
        obtain rfl := Option.some.inj h
        exact x_sub [0, 1, 2] rfl J
      · replace h := (if_neg c).symm.trans h
        refine r_iload_n (x := a1) dX11_text_90 rfl ?_
        refine r_if_ne (tgt := 101) dX11_text_91 (by decide) (fun c => ?_) (fun c => ?_)
        · replace h := (if_neg c).symm.trans h
          refine r_iload_n (x := a1) dX11_text_101 rfl ?_
          refine r_iconst (v := (1 : Int32)) dX11_text_102 (by decide) ?_
          refine r_icmp_ne (tgt := 113) dX11_text_103 (by decide) (fun c => ?_) (fun c => ?_)
          · replace h := (if_neg c).symm.trans h
            refine x_aload_n (o := a0) dX11_text_113 rfl ?_
            obtain ⟨q22, hq22, h⟩ := xb h
            obtain ⟨s21, hs21, h⟩ := xb h
            refine z_callV (as := []) (o := a0) (r1 := none) (stk := []) (stk2 := []) (st1 := s21) (d' := 5) dX11_text_114 xl_X11_144 hq22 (by decide) (Nat.le_trans xs0 (by decide)) rfl rfl (S_X11_planLine n st a0  s21 hs21) ?_
            refine r_goto (tgt := 76) dX11_text_117 (by decide) ?_
            exact x_sub [0, 1, 2] rfl (ih s21 a0 a1 a2 q h J)
          · replace h := (if_pos c).symm.trans h
            refine x_aload_n (o := a0) dX11_text_106 rfl ?_
            obtain ⟨q20, hq20, h⟩ := xb h
            obtain ⟨s19, hs19, h⟩ := xb h
            refine z_callV (as := []) (o := a0) (r1 := none) (stk := []) (stk2 := []) (st1 := s19) (d' := 4) dX11_text_107 xl_X11_141 hq20 (by decide) (Nat.le_trans xs0 (by decide)) rfl rfl (S_X11_lawLine n st a0  s19 hs19) ?_
            refine r_goto (tgt := 76) dX11_text_110 (by decide) ?_
            exact x_sub [0, 1, 2] rfl (ih s19 a0 a1 a2 q h J)
        · replace h := (if_pos c).symm.trans h
          refine x_aload_n (o := a0) dX11_text_94 rfl ?_
          obtain ⟨q18, hq18, h⟩ := xb h
          obtain ⟨s17, hs17, h⟩ := xb h
          refine z_callV (as := []) (o := a0) (r1 := none) (stk := []) (stk2 := []) (st1 := s17) (d' := 5) dX11_text_95 xl_X11_138 hq18 (by decide) (Nat.le_trans xs0 (by decide)) rfl rfl (S_X11_leagueLine n st a0  s17 hs17) ?_
          refine r_goto (tgt := 76) dX11_text_98 (by decide) ?_
          exact x_sub [0, 1, 2] rfl (ih s17 a0 a1 a2 q h J)
theorem R_X11_text_L165 (n : Nat) {r : Option Value} {st' : xS} : ∀ (k : Nat) (st : xS) (a0 : Option Nat) (a1 : Int32) (a3 : Int32) (a4 : Int32) (q : (xS)), F_X11_text_L165 n k st a0 a1 a3 a4 = some q → Rn mX11_text 200 [(3, .int a3)] [] q r st' 6 → Rn mX11_text 165 [(0, va_rf a0), (1, .int a1), (3, .int a3), (4, .int a4)] [] st r st' 6 := by
  intro k
  induction k with
  | zero => intro st a0 a1 a3 a4 q h; cases h
  | succ k ih =>
    intro st a0 a1 a3 a4 q h J
    unfold F_X11_text_L165 at h
    refine r_iload (x := a4) dX11_text_165 rfl ?_
    refine r_iload_n (x := a1) dX11_text_167 rfl ?_
    obtain ⟨v33, hv33, h⟩ := xb h
    refine z_callS (as := [.int a1]) (r1 := (some (.int v33))) (stk := [.int a4]) (stk2 := [.int v33, .int a4]) (st1 := st) (d' := 0) dX11_text_168 xl_X11_147 (by decide) (Nat.le_trans (xsI xs0) (by decide)) rfl rfl (S_X11_sizeOf n st a1 v33 hv33) ?_
    refine r_icmp_ge (tgt := 200) dX11_text_171 (by decide) (fun c => ?_) (fun c => ?_)
    · replace h := (if_pos c).symm.trans h
      obtain rfl := Option.some.inj h
      exact x_sub [2] rfl J
    · replace h := (if_neg c).symm.trans h
      refine x_aload_n (o := a0) dX11_text_174 rfl ?_
      obtain ⟨v34, hv34, h⟩ := xb h
      refine x_getR (o := a0) dX11_text_175 xf_X11_7 hv34 ?_
      refine r_iload_n (x := a1) dX11_text_178 rfl ?_
      refine r_iload_n (x := a3) dX11_text_179 rfl ?_
      obtain ⟨v35, hv35, h⟩ := xb h
      refine z_callS (as := [.int a1, .int a3]) (r1 := (some (.int v35))) (stk := [va_rf v34]) (stk2 := [.int v35, va_rf v34]) (st1 := st) (d' := 0) dX11_text_180 xl_X11_150 (by decide) (Nat.le_trans (xsA xs0) (by decide)) rfl rfl (S_X11_placeOf n st a1 a3 v35 hv35) ?_
      refine r_iload (x := a4) dX11_text_183 rfl ?_
      refine r_iadd dX11_text_185 ?_
      refine x_aload_n (o := a0) dX11_text_186 rfl ?_
      obtain ⟨v36, hv36, h⟩ := xb h
      refine x_getR (o := a0) dX11_text_187 xf_X11_17 hv36 ?_
      refine r_iload (x := a4) dX11_text_190 rfl ?_
      obtain ⟨v37, hv37, h⟩ := xb h
      refine x_iaload (o := v36) dX11_text_192 hv37 ?_
      obtain ⟨s38, hs38, h⟩ := xb h
      refine x_iastore (o := v34) dX11_text_193 hs38 ?_
      obtain ⟨v39, hv39, h⟩ := xb h
      refine x_iinc (c := (1 : Int32)) (lv' := [(4, .int v39), (0, va_rf a0), (1, .int a1), (3, .int a3)]) (x := a4) (v := v39) dX11_text_194 rfl (by decide) (Option.some.inj hv39) (by decide) rfl ?_
      refine r_goto (tgt := 165) dX11_text_197 (by decide) ?_
      exact x_sub [1, 2, 3, 0] rfl (ih s38 a0 a1 a3 v39 q h J)
theorem R_X11_text (n : Nat) (st : xS) (a0 : Option Nat) (a1 : Int32) (a2 : Int32) (rv : Int32) (st' : xS) (h : F_X11_text n st a0 a1 a2 = some (rv, st')) : Rn mX11_text 0 [(0, va_rf a0), (1, .int a1), (2, .int a2)] [] st (some (.int rv)) st' 6 := by
  unfold F_X11_text at h
  refine x_aload_n (o := a0) dX11_text_0 rfl ?_
  refine x_aload_n (o := a0) dX11_text_1 rfl ?_
  obtain ⟨v1, hv1, h⟩ := xb h
  refine x_getR (o := a0) dX11_text_2 xf_X11_7 hv1 ?_
  refine r_iconst (v := (4 : Int32)) dX11_text_5 (by decide) ?_
  obtain ⟨v2, hv2, h⟩ := xb h
  refine x_iaload (o := v1) dX11_text_6 hv2 ?_
  obtain ⟨s3, hs3, h⟩ := xb h
  refine x_putI (o := a0) dX11_text_7 (xp_X11_43 _) hs3 ?_
  refine x_aload_n (o := a0) dX11_text_10 rfl ?_
  obtain ⟨v4, hv4, h⟩ := xb h
  refine x_getR (o := a0) dX11_text_11 xf_X11_7 hv4 ?_
  refine r_iconst (v := (4 : Int32)) dX11_text_14 (by decide) ?_
  refine r_iconst (v := (0 : Int32)) dX11_text_15 (by decide) ?_
  obtain ⟨s5, hs5, h⟩ := xb h
  refine x_iastore (o := v4) dX11_text_16 hs5 ?_
  refine x_aload_n (o := a0) dX11_text_17 rfl ?_
  obtain ⟨v6, hv6, h⟩ := xb h
  refine x_getR (o := a0) dX11_text_18 xf_X11_7 hv6 ?_
  refine r_iconst (v := (5 : Int32)) dX11_text_21 (by decide) ?_
  refine r_iconst (v := (0 : Int32)) dX11_text_22 (by decide) ?_
  obtain ⟨s7, hs7, h⟩ := xb h
  refine x_iastore (o := v6) dX11_text_23 hs7 ?_
  refine x_aload_n (o := a0) dX11_text_24 rfl ?_
  obtain ⟨v8, hv8, h⟩ := xb h
  refine x_getR (o := a0) dX11_text_25 xf_X11_7 hv8 ?_
  refine r_bipush (v := (6 : Int32)) dX11_text_28 (by decide) ?_
  refine r_iconst (v := (-1 : Int32)) dX11_text_30 (by decide) ?_
  obtain ⟨s9, hs9, h⟩ := xb h
  refine x_iastore (o := v8) dX11_text_31 hs9 ?_
  refine r_iload_n (x := a1) dX11_text_32 rfl ?_
  refine r_iconst (v := (0 : Int32)) dX11_text_33 (by decide) ?_
  refine r_iconst (v := (2 : Int32)) dX11_text_34 (by decide) ?_
  obtain ⟨v10, hv10, h⟩ := xb h
  refine z_callS (as := [.int a1, .int (0 : Int32), .int (2 : Int32)]) (r1 := (some (.int v10))) (stk := []) (stk2 := [.int v10]) (st1 := s9) (d' := 0) dX11_text_35 xl_X11_90 (by decide) (Nat.le_trans xs0 (by decide)) rfl rfl (S_X11_isIn n s9 a1 (0 : Int32) (2 : Int32) v10 hv10) ?_
  refine r_if_eq (tgt := 68) dX11_text_38 (by decide) (fun c => ?_) (fun c => ?_)
  · replace h := (if_pos c).symm.trans h
    refine r_bipush (v := (-2 : Int32)) dX11_text_68 (by decide) ?_
    obtain ⟨rfl, rfl⟩ := Prod.mk.inj (Option.some.inj h)
    exact r_ireturn dX11_text_70 .int rfl rfl
  · replace h := (if_neg c).symm.trans h
    refine r_iload_n (x := a2) dX11_text_41 rfl ?_
    refine r_iconst (v := (-1 : Int32)) dX11_text_42 (by decide) ?_
    refine r_icmp_ne (tgt := 59) dX11_text_43 (by decide) (fun c => ?_) (fun c => ?_)
    · replace h := (if_neg c).symm.trans h
      refine x_aload_n (o := a0) dX11_text_59 rfl ?_
      refine r_iload_n (x := a1) dX11_text_60 rfl ?_
      refine r_iload_n (x := a2) dX11_text_61 rfl ?_
      obtain ⟨q42, hq42, h⟩ := xb h
      obtain ⟨v41, hv41, h⟩ := xb h
      refine z_callV (as := [.int a1, .int a2]) (o := a0) (r1 := (some (.int v41))) (stk := []) (stk2 := [.int v41]) (st1 := s9) (d' := 1) dX11_text_62 xl_X11_130 hq42 (by decide) (Nat.le_trans xs0 (by decide)) rfl rfl (S_X11_isOf n s9 a0 a1 a2 v41 hv41) ?_
      refine r_if_ne (tgt := 71) dX11_text_65 (by decide) (fun c => ?_) (fun c => ?_)
      · replace h := (if_neg c).symm.trans h
        refine x_aload_n (o := a0) dX11_text_71 rfl ?_
        refine r_iload_n (x := a1) dX11_text_72 rfl ?_
        obtain ⟨q44, hq44, h⟩ := xb h
        obtain ⟨s43, hs43, h⟩ := xb h
        refine z_callV (as := [.int a1]) (o := a0) (r1 := none) (stk := []) (stk2 := []) (st1 := s43) (d' := 3) dX11_text_73 xl_X11_134 hq44 (by decide) (Nat.le_trans xs0 (by decide)) rfl rfl (S_X11_begins n s9 a0 a1 s43 hs43) ?_
        obtain ⟨q45, hq45, h⟩ := xb h
        have Jq45 : Rn mX11_text 120 [(0, va_rf a0), (1, .int a1), (2, .int a2)] [] q45 (some (.int rv)) st' 6 := by
          refine x_aload_n (o := a0) dX11_text_120 rfl ?_
          obtain ⟨v46, hv46, h⟩ := xb h
          refine x_getR (o := a0) dX11_text_121 xf_X11_7 hv46 ?_
          refine r_iconst (v := (5 : Int32)) dX11_text_124 (by decide) ?_
          obtain ⟨v47, hv47, h⟩ := xb h
          refine x_iaload (o := v46) dX11_text_125 hv47 ?_
          refine r_if_eq (tgt := 131) dX11_text_126 (by decide) (fun c => ?_) (fun c => ?_)
          · replace h := (if_pos c).symm.trans h
            refine r_iload_n (x := a2) dX11_text_131 rfl ?_
            refine r_iconst (v := (-1 : Int32)) dX11_text_132 (by decide) ?_
            obtain ⟨q50, hq50, h⟩ := xb h
            have Jq50 : Rn mX11_text 146 [(0, va_rf a0), (1, .int a1), (2, .int a2)] [.int q50] q45 (some (.int rv)) st' 6 := by
              refine r_istore_n (lv' := [(3, .int q50), (0, va_rf a0), (1, .int a1), (2, .int a2)]) (x := q50) dX11_text_146 (by decide) rfl ?_
              refine r_iload_n (x := a2) dX11_text_147 rfl ?_
              refine r_iconst (v := (-1 : Int32)) dX11_text_148 (by decide) ?_
              obtain ⟨q54, hq54, h⟩ := xb h
              have Jq54 : Rn mX11_text 162 [(0, va_rf a0), (1, .int a1), (3, .int q50)] [] q54 (some (.int rv)) st' 6 := by
                refine r_iconst (v := (0 : Int32)) dX11_text_162 (by decide) ?_
                refine r_istore (lv' := [(4, .int (0 : Int32)), (0, va_rf a0), (1, .int a1), (3, .int q50)]) (x := (0 : Int32)) dX11_text_163 (by decide) rfl ?_
                obtain ⟨q55, hq55, h⟩ := xb h
                have Jq55 : Rn mX11_text 200 [(3, .int q50)] [] q55 (some (.int rv)) st' 6 := by
                  refine r_iload_n (x := q50) dX11_text_200 rfl ?_
                  obtain ⟨rfl, rfl⟩ := Prod.mk.inj (Option.some.inj h)
                  exact r_ireturn dX11_text_201 .int rfl rfl
                exact x_sub [1, 2, 3, 0] rfl (R_X11_text_L165 n n q54 a0 a1 q50 (0 : Int32) q55 hq55 Jq55)
              refine r_icmp_ne (tgt := 162) dX11_text_149 (by decide) (fun c => ?_) (fun c => ?_)
              · replace hq54 := (if_neg c).symm.trans hq54
                obtain rfl := Option.some.inj hq54
                exact x_sub [1, 2, 0] rfl Jq54
              · replace hq54 := (if_pos c).symm.trans hq54
                refine x_aload_n (o := a0) dX11_text_152 rfl ?_
                obtain ⟨v51, hv51, hq54⟩ := xb hq54
                refine x_getR (o := a0) dX11_text_153 xf_X11_7 hv51 ?_
                refine r_iload_n (x := a1) dX11_text_156 rfl ?_
                refine r_dup2 dX11_text_157 rfl (xrf_cat _) ?_
                obtain ⟨v52, hv52, hq54⟩ := xb hq54
                refine x_iaload (o := v51) dX11_text_158 hv52 ?_
                refine r_iconst (v := (1 : Int32)) dX11_text_159 (by decide) ?_
                refine r_iadd dX11_text_160 ?_
                obtain ⟨s53, hs53, hq54⟩ := xb hq54
                refine x_iastore (o := v51) dX11_text_161 hs53 ?_
                obtain rfl := Option.some.inj hq54
                exact x_sub [1, 2, 0] rfl Jq54
            refine r_icmp_ne (tgt := 145) dX11_text_133 (by decide) (fun c => ?_) (fun c => ?_)
            · replace hq50 := (if_neg c).symm.trans hq50
              refine r_iload_n (x := a2) dX11_text_145 rfl ?_
              obtain rfl := Option.some.inj hq50
              exact x_sub [0, 1, 2] rfl Jq50
            · replace hq50 := (if_pos c).symm.trans hq50
              refine x_aload_n (o := a0) dX11_text_136 rfl ?_
              obtain ⟨v48, hv48, hq50⟩ := xb hq50
              refine x_getR (o := a0) dX11_text_137 xf_X11_7 hv48 ?_
              refine r_iload_n (x := a1) dX11_text_140 rfl ?_
              obtain ⟨v49, hv49, hq50⟩ := xb hq50
              refine x_iaload (o := v48) dX11_text_141 hv49 ?_
              refine r_goto (tgt := 146) dX11_text_142 (by decide) ?_
              obtain rfl := Option.some.inj hq50
              exact x_sub [0, 1, 2] rfl Jq50
          · replace h := (if_neg c).symm.trans h
            refine r_iconst (v := (-1 : Int32)) dX11_text_129 (by decide) ?_
            obtain ⟨rfl, rfl⟩ := Prod.mk.inj (Option.some.inj h)
            exact r_ireturn dX11_text_130 .int rfl rfl
        exact x_sub [0, 1, 2] rfl (R_X11_text_L76 n n s43 a0 a1 a2 q45 hq45 Jq45)
      · replace h := (if_pos c).symm.trans h
        refine r_bipush (v := (-2 : Int32)) dX11_text_68 (by decide) ?_
        obtain ⟨rfl, rfl⟩ := Prod.mk.inj (Option.some.inj h)
        exact r_ireturn dX11_text_70 .int rfl rfl
    · replace h := (if_pos c).symm.trans h
      refine x_aload_n (o := a0) dX11_text_46 rfl ?_
      obtain ⟨v11, hv11, h⟩ := xb h
      refine x_getR (o := a0) dX11_text_47 xf_X11_7 hv11 ?_
      refine r_iload_n (x := a1) dX11_text_50 rfl ?_
      obtain ⟨v12, hv12, h⟩ := xb h
      refine x_iaload (o := v11) dX11_text_51 hv12 ?_
      refine r_iconst (v := (3 : Int32)) dX11_text_52 (by decide) ?_
      refine r_icmp_lt (tgt := 71) dX11_text_53 (by decide) (fun c => ?_) (fun c => ?_)
      · replace h := (if_pos c).symm.trans h
        refine x_aload_n (o := a0) dX11_text_71 rfl ?_
        refine r_iload_n (x := a1) dX11_text_72 rfl ?_
        obtain ⟨q14, hq14, h⟩ := xb h
        obtain ⟨s13, hs13, h⟩ := xb h
        refine z_callV (as := [.int a1]) (o := a0) (r1 := none) (stk := []) (stk2 := []) (st1 := s13) (d' := 3) dX11_text_73 xl_X11_134 hq14 (by decide) (Nat.le_trans xs0 (by decide)) rfl rfl (S_X11_begins n s9 a0 a1 s13 hs13) ?_
        obtain ⟨q23, hq23, h⟩ := xb h
        have Jq23 : Rn mX11_text 120 [(0, va_rf a0), (1, .int a1), (2, .int a2)] [] q23 (some (.int rv)) st' 6 := by
          refine x_aload_n (o := a0) dX11_text_120 rfl ?_
          obtain ⟨v24, hv24, h⟩ := xb h
          refine x_getR (o := a0) dX11_text_121 xf_X11_7 hv24 ?_
          refine r_iconst (v := (5 : Int32)) dX11_text_124 (by decide) ?_
          obtain ⟨v25, hv25, h⟩ := xb h
          refine x_iaload (o := v24) dX11_text_125 hv25 ?_
          refine r_if_eq (tgt := 131) dX11_text_126 (by decide) (fun c => ?_) (fun c => ?_)
          · replace h := (if_pos c).symm.trans h
            refine r_iload_n (x := a2) dX11_text_131 rfl ?_
            refine r_iconst (v := (-1 : Int32)) dX11_text_132 (by decide) ?_
            obtain ⟨q28, hq28, h⟩ := xb h
            have Jq28 : Rn mX11_text 146 [(0, va_rf a0), (1, .int a1), (2, .int a2)] [.int q28] q23 (some (.int rv)) st' 6 := by
              refine r_istore_n (lv' := [(3, .int q28), (0, va_rf a0), (1, .int a1), (2, .int a2)]) (x := q28) dX11_text_146 (by decide) rfl ?_
              refine r_iload_n (x := a2) dX11_text_147 rfl ?_
              refine r_iconst (v := (-1 : Int32)) dX11_text_148 (by decide) ?_
              obtain ⟨q32, hq32, h⟩ := xb h
              have Jq32 : Rn mX11_text 162 [(0, va_rf a0), (1, .int a1), (3, .int q28)] [] q32 (some (.int rv)) st' 6 := by
                refine r_iconst (v := (0 : Int32)) dX11_text_162 (by decide) ?_
                refine r_istore (lv' := [(4, .int (0 : Int32)), (0, va_rf a0), (1, .int a1), (3, .int q28)]) (x := (0 : Int32)) dX11_text_163 (by decide) rfl ?_
                obtain ⟨q40, hq40, h⟩ := xb h
                have Jq40 : Rn mX11_text 200 [(3, .int q28)] [] q40 (some (.int rv)) st' 6 := by
                  refine r_iload_n (x := q28) dX11_text_200 rfl ?_
                  obtain ⟨rfl, rfl⟩ := Prod.mk.inj (Option.some.inj h)
                  exact r_ireturn dX11_text_201 .int rfl rfl
                exact x_sub [1, 2, 3, 0] rfl (R_X11_text_L165 n n q32 a0 a1 q28 (0 : Int32) q40 hq40 Jq40)
              refine r_icmp_ne (tgt := 162) dX11_text_149 (by decide) (fun c => ?_) (fun c => ?_)
              · replace hq32 := (if_neg c).symm.trans hq32
                obtain rfl := Option.some.inj hq32
                exact x_sub [1, 2, 0] rfl Jq32
              · replace hq32 := (if_pos c).symm.trans hq32
                refine x_aload_n (o := a0) dX11_text_152 rfl ?_
                obtain ⟨v29, hv29, hq32⟩ := xb hq32
                refine x_getR (o := a0) dX11_text_153 xf_X11_7 hv29 ?_
                refine r_iload_n (x := a1) dX11_text_156 rfl ?_
                refine r_dup2 dX11_text_157 rfl (xrf_cat _) ?_
                obtain ⟨v30, hv30, hq32⟩ := xb hq32
                refine x_iaload (o := v29) dX11_text_158 hv30 ?_
                refine r_iconst (v := (1 : Int32)) dX11_text_159 (by decide) ?_
                refine r_iadd dX11_text_160 ?_
                obtain ⟨s31, hs31, hq32⟩ := xb hq32
                refine x_iastore (o := v29) dX11_text_161 hs31 ?_
                obtain rfl := Option.some.inj hq32
                exact x_sub [1, 2, 0] rfl Jq32
            refine r_icmp_ne (tgt := 145) dX11_text_133 (by decide) (fun c => ?_) (fun c => ?_)
            · replace hq28 := (if_neg c).symm.trans hq28
              refine r_iload_n (x := a2) dX11_text_145 rfl ?_
              obtain rfl := Option.some.inj hq28
              exact x_sub [0, 1, 2] rfl Jq28
            · replace hq28 := (if_pos c).symm.trans hq28
              refine x_aload_n (o := a0) dX11_text_136 rfl ?_
              obtain ⟨v26, hv26, hq28⟩ := xb hq28
              refine x_getR (o := a0) dX11_text_137 xf_X11_7 hv26 ?_
              refine r_iload_n (x := a1) dX11_text_140 rfl ?_
              obtain ⟨v27, hv27, hq28⟩ := xb hq28
              refine x_iaload (o := v26) dX11_text_141 hv27 ?_
              refine r_goto (tgt := 146) dX11_text_142 (by decide) ?_
              obtain rfl := Option.some.inj hq28
              exact x_sub [0, 1, 2] rfl Jq28
          · replace h := (if_neg c).symm.trans h
            refine r_iconst (v := (-1 : Int32)) dX11_text_129 (by decide) ?_
            obtain ⟨rfl, rfl⟩ := Prod.mk.inj (Option.some.inj h)
            exact r_ireturn dX11_text_130 .int rfl rfl
        exact x_sub [0, 1, 2] rfl (R_X11_text_L76 n n s13 a0 a1 a2 q23 hq23 Jq23)
      · replace h := (if_neg c).symm.trans h
        refine r_goto (tgt := 68) dX11_text_56 (by decide) ?_
        refine r_bipush (v := (-2 : Int32)) dX11_text_68 (by decide) ?_
        obtain ⟨rfl, rfl⟩ := Prod.mk.inj (Option.some.inj h)
        exact r_ireturn dX11_text_70 .int rfl rfl
theorem S_X11_text (n : Nat) (st : xS) (a0 : Option Nat) (a1 : Int32) (a2 : Int32) (rv : Int32) (st' : xS) (h : F_X11_text n st a0 a1 a2 = some (rv, st')) : Ct mX11_text [va_rf a0, .int a1, .int a2] st (some (.int rv)) st' 6 := by
  refine Ct.of (by decide) (by simp only [lgL_R, lgL_I, lgL_L, lgL_0]; decide) ?_
  try simp only [lvA_R]
  exact R_X11_text n st a0 a1 a2 rv st' h
theorem R_X11_fault (n : Nat) (st : xS) (a0 : Option Nat) (a1 : Int32) (rv : Int32) (h : F_X11_fault n st a0 a1 = some rv) : Rn mX11_fault 0 [(0, va_rf a0), (1, .int a1)] [] st (some (.int rv)) st 0 := by
  unfold F_X11_fault at h
  refine r_iload_n (x := a1) dX11_fault_0 rfl ?_
  obtain ⟨q5, hq5, h⟩ := xb h
  have Jq5 : Rn mX11_fault 29 [] [.int q5] st (some (.int rv)) st 0 := by
    obtain rfl := Option.some.inj h
    exact r_ireturn dX11_fault_29 .int rfl rfl
  refine r_if_ne (tgt := 13) dX11_fault_1 (by decide) (fun c => ?_) (fun c => ?_)
  · replace hq5 := (if_neg c).symm.trans hq5
    refine r_iload_n (x := a1) dX11_fault_13 rfl ?_
    refine r_iconst (v := (1 : Int32)) dX11_fault_14 (by decide) ?_
    refine r_icmp_ne (tgt := 28) dX11_fault_15 (by decide) (fun c => ?_) (fun c => ?_)
    · replace hq5 := (if_neg c).symm.trans hq5
      refine r_iconst (v := (-1 : Int32)) dX11_fault_28 (by decide) ?_
      obtain rfl := Option.some.inj hq5
      exact x_sub [] rfl Jq5
    · replace hq5 := (if_pos c).symm.trans hq5
      refine x_aload_n (o := a0) dX11_fault_18 rfl ?_
      obtain ⟨v3, hv3, hq5⟩ := xb hq5
      refine x_getR (o := a0) dX11_fault_19 xf_X11_7 hv3 ?_
      refine r_bipush (v := (6 : Int32)) dX11_fault_22 (by decide) ?_
      obtain ⟨v4, hv4, hq5⟩ := xb hq5
      refine x_iaload (o := v3) dX11_fault_24 hv4 ?_
      refine r_goto (tgt := 29) dX11_fault_25 (by decide) ?_
      obtain rfl := Option.some.inj hq5
      exact x_sub [] rfl Jq5
  · replace hq5 := (if_pos c).symm.trans hq5
    refine x_aload_n (o := a0) dX11_fault_4 rfl ?_
    obtain ⟨v1, hv1, hq5⟩ := xb hq5
    refine x_getR (o := a0) dX11_fault_5 xf_X11_7 hv1 ?_
    refine r_iconst (v := (5 : Int32)) dX11_fault_8 (by decide) ?_
    obtain ⟨v2, hv2, hq5⟩ := xb hq5
    refine x_iaload (o := v1) dX11_fault_9 hv2 ?_
    refine r_goto (tgt := 29) dX11_fault_10 (by decide) ?_
    obtain rfl := Option.some.inj hq5
    exact x_sub [] rfl Jq5
theorem S_X11_fault (n : Nat) (st : xS) (a0 : Option Nat) (a1 : Int32) (rv : Int32) (h : F_X11_fault n st a0 a1 = some rv) : Ct mX11_fault [va_rf a0, .int a1] st (some (.int rv)) st 0 := by
  refine Ct.of (by decide) (by simp only [lgL_R, lgL_I, lgL_L, lgL_0]; decide) ?_
  try simp only [lvA_R]
  exact R_X11_fault n st a0 a1 rv h
theorem R_X11_league (n : Nat) (st : xS) (a0 : Option Nat) (a1 : Int32) (a2 : Int32) (rv : Int32) (h : F_X11_league n st a0 a1 a2 = some rv) : Rn mX11_league 0 [(0, va_rf a0), (1, .int a1), (2, .int a2)] [] st (some (.int rv)) st 2 := by
  unfold F_X11_league at h
  refine x_aload_n (o := a0) dX11_league_0 rfl ?_
  refine r_iconst (v := (0 : Int32)) dX11_league_1 (by decide) ?_
  refine r_iload_n (x := a1) dX11_league_2 rfl ?_
  obtain ⟨q2, hq2, h⟩ := xb h
  obtain ⟨v1, hv1, h⟩ := xb h
  refine z_callV (as := [.int (0 : Int32), .int a1]) (o := a0) (r1 := (some (.int v1))) (stk := []) (stk2 := [.int v1]) (st1 := st) (d' := 1) dX11_league_3 xl_X11_130 hq2 (by decide) (Nat.le_trans xs0 (by decide)) rfl rfl (S_X11_isOf n st a0 (0 : Int32) a1 v1 hv1) ?_
  refine r_if_ne (tgt := 11) dX11_league_6 (by decide) (fun c => ?_) (fun c => ?_)
  · replace h := (if_neg c).symm.trans h
    refine r_iconst (v := (0 : Int32)) dX11_league_11 (by decide) ?_
    refine r_iload_n (x := a1) dX11_league_12 rfl ?_
    obtain ⟨v3, hv3, h⟩ := xb h
    refine z_callS (as := [.int (0 : Int32), .int a1]) (r1 := (some (.int v3))) (stk := []) (stk2 := [.int v3]) (st1 := st) (d' := 0) dX11_league_13 xl_X11_150 (by decide) (Nat.le_trans xs0 (by decide)) rfl rfl (S_X11_placeOf n st (0 : Int32) a1 v3 hv3) ?_
    refine r_istore_n (lv' := [(3, .int v3), (0, va_rf a0), (1, .int a1), (2, .int a2)]) (x := v3) dX11_league_16 (by decide) rfl ?_
    refine r_iload_n (x := a2) dX11_league_17 rfl ?_
    refine r_iconst (v := (0 : Int32)) dX11_league_18 (by decide) ?_
    refine r_iconst (v := (1 : Int32)) dX11_league_19 (by decide) ?_
    obtain ⟨v4, hv4, h⟩ := xb h
    refine z_callS (as := [.int a2, .int (0 : Int32), .int (1 : Int32)]) (r1 := (some (.int v4))) (stk := []) (stk2 := [.int v4]) (st1 := st) (d' := 0) dX11_league_20 xl_X11_90 (by decide) (Nat.le_trans xs0 (by decide)) rfl rfl (S_X11_isIn n st a2 (0 : Int32) (1 : Int32) v4 hv4) ?_
    refine r_if_eq (tgt := 35) dX11_league_23 (by decide) (fun c => ?_) (fun c => ?_)
    · replace h := (if_pos c).symm.trans h
      refine r_iload_n (x := a2) dX11_league_35 rfl ?_
      refine r_bipush (v := (10 : Int32)) dX11_league_36 (by decide) ?_
      obtain ⟨v5, hv5, h⟩ := xb h
      refine x_irem dX11_league_38 hv5 ?_
      refine r_istore (lv' := [(4, .int v5), (3, .int v3), (0, va_rf a0), (1, .int a1), (2, .int a2)]) (x := v5) dX11_league_39 (by decide) rfl ?_
      refine r_iload_n (x := a2) dX11_league_41 rfl ?_
      refine r_bipush (v := (10 : Int32)) dX11_league_42 (by decide) ?_
      refine r_bipush (v := (39 : Int32)) dX11_league_44 (by decide) ?_
      obtain ⟨v6, hv6, h⟩ := xb h
      refine z_callS (as := [.int a2, .int (10 : Int32), .int (39 : Int32)]) (r1 := (some (.int v6))) (stk := []) (stk2 := [.int v6]) (st1 := st) (d' := 0) dX11_league_46 xl_X11_90 (by decide) (Nat.le_trans xs0 (by decide)) rfl rfl (S_X11_isIn n st a2 (10 : Int32) (39 : Int32) v6 hv6) ?_
      refine r_if_eq (tgt := 101) dX11_league_49 (by decide) (fun c => ?_) (fun c => ?_)
      · replace h := (if_pos c).symm.trans h
        refine r_iload_n (x := a2) dX11_league_101 rfl ?_
        refine r_bipush (v := (40 : Int32)) dX11_league_102 (by decide) ?_
        refine r_bipush (v := (59 : Int32)) dX11_league_104 (by decide) ?_
        obtain ⟨v7, hv7, h⟩ := xb h
        refine z_callS (as := [.int a2, .int (40 : Int32), .int (59 : Int32)]) (r1 := (some (.int v7))) (stk := []) (stk2 := [.int v7]) (st1 := st) (d' := 0) dX11_league_106 xl_X11_90 (by decide) (Nat.le_trans xs0 (by decide)) rfl rfl (S_X11_isIn n st a2 (40 : Int32) (59 : Int32) v7 hv7) ?_
        obtain ⟨q13, hq13, h⟩ := xb h
        have Jq13 : Rn mX11_league 152 [] [.int q13] st (some (.int rv)) st 2 := by
          obtain rfl := Option.some.inj h
          exact r_ireturn dX11_league_152 .int rfl rfl
        refine r_if_eq (tgt := 151) dX11_league_109 (by decide) (fun c => ?_) (fun c => ?_)
        · replace hq13 := (if_pos c).symm.trans hq13
          refine r_iconst (v := (-1 : Int32)) dX11_league_151 (by decide) ?_
          obtain rfl := Option.some.inj hq13
          exact x_sub [] rfl Jq13
        · replace hq13 := (if_neg c).symm.trans hq13
          refine r_iload (x := v5) dX11_league_112 rfl ?_
          refine x_aload_n (o := a0) dX11_league_114 rfl ?_
          obtain ⟨v8, hv8, hq13⟩ := xb hq13
          refine x_getR (o := a0) dX11_league_115 xf_X11_7 hv8 ?_
          refine r_iload_n (x := v3) dX11_league_118 rfl ?_
          refine r_iconst (v := (1 : Int32)) dX11_league_119 (by decide) ?_
          refine r_iadd dX11_league_120 ?_
          obtain ⟨v9, hv9, hq13⟩ := xb hq13
          refine x_iaload (o := v8) dX11_league_121 hv9 ?_
          refine r_icmp_ge (tgt := 151) dX11_league_122 (by decide) (fun c => ?_) (fun c => ?_)
          · replace hq13 := (if_pos c).symm.trans hq13
            refine r_iconst (v := (-1 : Int32)) dX11_league_151 (by decide) ?_
            obtain rfl := Option.some.inj hq13
            exact x_sub [] rfl Jq13
          · replace hq13 := (if_neg c).symm.trans hq13
            refine x_aload_n (o := a0) dX11_league_125 rfl ?_
            obtain ⟨v10, hv10, hq13⟩ := xb hq13
            refine x_getR (o := a0) dX11_league_126 xf_X11_7 hv10 ?_
            refine r_iload_n (x := v3) dX11_league_129 rfl ?_
            refine r_iload_n (x := a2) dX11_league_130 rfl ?_
            refine r_bipush (v := (50 : Int32)) dX11_league_131 (by decide) ?_
            obtain ⟨q11, hq11, hq13⟩ := xb hq13
            have Jq11 : Rn mX11_league 143 [(4, .int v5)] [.int q11, .int v3, va_rf v10] st (some (.int rv)) st 2 := by
              refine r_iadd dX11_league_143 ?_
              refine r_iload (x := v5) dX11_league_144 rfl ?_
              refine r_iadd dX11_league_146 ?_
              obtain ⟨v12, hv12, hq13⟩ := xb hq13
              refine x_iaload (o := v10) dX11_league_147 hv12 ?_
              refine r_goto (tgt := 152) dX11_league_148 (by decide) ?_
              obtain rfl := Option.some.inj hq13
              exact x_sub [] rfl Jq13
            refine r_icmp_ge (tgt := 141) dX11_league_133 (by decide) (fun c => ?_) (fun c => ?_)
            · replace hq11 := (if_pos c).symm.trans hq11
              refine r_bipush (v := (40 : Int32)) dX11_league_141 (by decide) ?_
              obtain rfl := Option.some.inj hq11
              exact x_sub [0] rfl Jq11
            · replace hq11 := (if_neg c).symm.trans hq11
              refine r_bipush (v := (32 : Int32)) dX11_league_136 (by decide) ?_
              refine r_goto (tgt := 143) dX11_league_138 (by decide) ?_
              obtain rfl := Option.some.inj hq11
              exact x_sub [0] rfl Jq11
      · replace h := (if_neg c).symm.trans h
        refine r_iload (x := v5) dX11_league_52 rfl ?_
        refine x_aload_n (o := a0) dX11_league_54 rfl ?_
        obtain ⟨v14, hv14, h⟩ := xb h
        refine x_getR (o := a0) dX11_league_55 xf_X11_7 hv14 ?_
        refine r_iload_n (x := v3) dX11_league_58 rfl ?_
        obtain ⟨v15, hv15, h⟩ := xb h
        refine x_iaload (o := v14) dX11_league_59 hv15 ?_
        obtain ⟨q19, hq19, h⟩ := xb h
        have Jq19 : Rn mX11_league 100 [] [.int q19] st (some (.int rv)) st 2 := by
          obtain rfl := Option.some.inj h
          exact r_ireturn dX11_league_100 .int rfl rfl
        refine r_icmp_lt (tgt := 67) dX11_league_60 (by decide) (fun c => ?_) (fun c => ?_)
        · replace hq19 := (if_pos c).symm.trans hq19
          refine x_aload_n (o := a0) dX11_league_67 rfl ?_
          obtain ⟨v16, hv16, hq19⟩ := xb hq19
          refine x_getR (o := a0) dX11_league_68 xf_X11_7 hv16 ?_
          refine r_iload_n (x := v3) dX11_league_71 rfl ?_
          refine r_iload_n (x := a2) dX11_league_72 rfl ?_
          refine r_bipush (v := (20 : Int32)) dX11_league_73 (by decide) ?_
          obtain ⟨q17, hq17, hq19⟩ := xb hq19
          have Jq17 : Rn mX11_league 95 [(4, .int v5)] [.int q17, .int v3, va_rf v16] st (some (.int rv)) st 2 := by
            refine r_iadd dX11_league_95 ?_
            refine r_iload (x := v5) dX11_league_96 rfl ?_
            refine r_iadd dX11_league_98 ?_
            obtain ⟨v18, hv18, hq19⟩ := xb hq19
            refine x_iaload (o := v16) dX11_league_99 hv18 ?_
            obtain rfl := Option.some.inj hq19
            exact x_sub [] rfl Jq19
          refine r_icmp_ge (tgt := 82) dX11_league_75 (by decide) (fun c => ?_) (fun c => ?_)
          · replace hq17 := (if_pos c).symm.trans hq17
            refine r_iload_n (x := a2) dX11_league_82 rfl ?_
            refine r_bipush (v := (30 : Int32)) dX11_league_83 (by decide) ?_
            refine r_icmp_ge (tgt := 93) dX11_league_85 (by decide) (fun c => ?_) (fun c => ?_)
            · replace hq17 := (if_pos c).symm.trans hq17
              refine r_bipush (v := (22 : Int32)) dX11_league_93 (by decide) ?_
              obtain rfl := Option.some.inj hq17
              exact x_sub [0] rfl Jq17
            · replace hq17 := (if_neg c).symm.trans hq17
              refine r_bipush (v := (12 : Int32)) dX11_league_88 (by decide) ?_
              refine r_goto (tgt := 95) dX11_league_90 (by decide) ?_
              obtain rfl := Option.some.inj hq17
              exact x_sub [0] rfl Jq17
          · replace hq17 := (if_neg c).symm.trans hq17
            refine r_iconst (v := (2 : Int32)) dX11_league_78 (by decide) ?_
            refine r_goto (tgt := 95) dX11_league_79 (by decide) ?_
            obtain rfl := Option.some.inj hq17
            exact x_sub [0] rfl Jq17
        · replace hq19 := (if_neg c).symm.trans hq19
          refine r_iconst (v := (-1 : Int32)) dX11_league_63 (by decide) ?_
          refine r_goto (tgt := 100) dX11_league_64 (by decide) ?_
          obtain rfl := Option.some.inj hq19
          exact x_sub [] rfl Jq19
    · replace h := (if_neg c).symm.trans h
      refine x_aload_n (o := a0) dX11_league_26 rfl ?_
      obtain ⟨v20, hv20, h⟩ := xb h
      refine x_getR (o := a0) dX11_league_27 xf_X11_7 hv20 ?_
      refine r_iload_n (x := v3) dX11_league_30 rfl ?_
      refine r_iload_n (x := a2) dX11_league_31 rfl ?_
      refine r_iadd dX11_league_32 ?_
      obtain ⟨v21, hv21, h⟩ := xb h
      refine x_iaload (o := v20) dX11_league_33 hv21 ?_
      obtain rfl := Option.some.inj h
      exact r_ireturn dX11_league_34 .int rfl rfl
  · replace h := (if_pos c).symm.trans h
    refine r_iconst (v := (-1 : Int32)) dX11_league_9 (by decide) ?_
    obtain rfl := Option.some.inj h
    exact r_ireturn dX11_league_10 .int rfl rfl
theorem S_X11_league (n : Nat) (st : xS) (a0 : Option Nat) (a1 : Int32) (a2 : Int32) (rv : Int32) (h : F_X11_league n st a0 a1 a2 = some rv) : Ct mX11_league [va_rf a0, .int a1, .int a2] st (some (.int rv)) st 2 := by
  refine Ct.of (by decide) (by simp only [lgL_R, lgL_I, lgL_L, lgL_0]; decide) ?_
  try simp only [lvA_R]
  exact R_X11_league n st a0 a1 a2 rv h

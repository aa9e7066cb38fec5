/-! printed by a program: the methods run as their functions say -/
theorem R_L_law_L18 (n : Nat) (rv : Int32) (st' : xS) : ∀ (k : Nat) (st : xS) (a0 : Option Nat) (a1 : Option Nat) (a2 : Option Nat) (a3 : Int32), F_L_law_L18 n k st a0 a1 a2 a3 = some (rv, st') → Rn mL_law 18 [(0, va_rf a0), (1, va_rf a1), (2, va_rf a2), (3, .int a3)] [] st (some (.int rv)) st' 13 := by
  intro k
  induction k with
  | zero => intro st a0 a1 a2 a3 h; cases h
  | succ k ih =>
    intro st a0 a1 a2 a3 h
    unfold F_L_law_L18 at h
    refine r_iload_n (x := a3) dL_law_18 rfl ?_
    refine x_aload_n (o := a0) dL_law_19 rfl ?_
    obtain ⟨v9, hv9, h⟩ := xb h
    refine x_alen (o := a0) dL_law_20 hv9 ?_
    refine r_bipush (v := (9 : Int32)) dL_law_21 (by decide) ?_
    refine r_isub dL_law_23 ?_
    refine r_icmp_gt (tgt := 2518) dL_law_24 (by decide) (fun c => ?_) (fun c => ?_)
    · replace h := (if_pos c).symm.trans h
      refine r_iconst (v := (1 : Int32)) dL_law_2518 (by decide) ?_
      obtain ⟨v10, hv10, h⟩ := xb h
      refine x_eqI (rz_inv2 hv10).1 ?_
      obtain ⟨rfl, rfl⟩ := Prod.mk.inj (Option.some.inj h)
      exact r_ireturn dL_law_2519 .boolean rfl (by rcases (rz_inv2 hv10).2 with e | e <;> rw [e] <;> rfl)
    · replace h := (if_neg c).symm.trans h
      refine x_aload_n (o := a0) dL_law_27 rfl ?_
      refine r_iload_n (x := a3) dL_law_28 rfl ?_
      obtain ⟨v11, hv11, h⟩ := xb h
      refine x_iaload (o := a0) dL_law_29 hv11 ?_
      refine r_bipush (v := (63 : Int32)) dL_law_30 (by decide) ?_
      refine r_iand dL_law_32 ?_
      by_cases c0 : (v11 &&& (63 : Int32)) = (0 : Int32)
      · replace h := (if_pos c0).symm.trans h
        refine r_tableIn (off := 199) (tgt := 232) dL_law_33 (by rw [c0]; decide) (by rw [c0]; decide) (by rw [c0]; rfl) (by decide) ?_
        refine x_aload_n (o := a1) dL_law_232 rfl ?_
        refine x_aload_n (o := a0) dL_law_233 rfl ?_
        refine r_iload_n (x := a3) dL_law_234 rfl ?_
        refine r_iconst (v := (1 : Int32)) dL_law_235 (by decide) ?_
        refine r_iadd dL_law_236 ?_
        obtain ⟨v12, hv12, h⟩ := xb h
        refine x_iaload (o := a0) dL_law_237 hv12 ?_
        refine x_aload_n (o := a0) dL_law_238 rfl ?_
        refine r_iload_n (x := a3) dL_law_239 rfl ?_
        refine r_iconst (v := (2 : Int32)) dL_law_240 (by decide) ?_
        refine r_iadd dL_law_241 ?_
        obtain ⟨v13, hv13, h⟩ := xb h
        refine x_iaload (o := a0) dL_law_242 hv13 ?_
        refine x_aload_n (o := a0) dL_law_243 rfl ?_
        refine r_iload_n (x := a3) dL_law_244 rfl ?_
        refine r_iconst (v := (3 : Int32)) dL_law_245 (by decide) ?_
        refine r_iadd dL_law_246 ?_
        obtain ⟨v14, hv14, h⟩ := xb h
        refine x_iaload (o := a0) dL_law_247 hv14 ?_
        refine x_aload_n (o := a0) dL_law_248 rfl ?_
        refine r_iload_n (x := a3) dL_law_249 rfl ?_
        refine r_iconst (v := (4 : Int32)) dL_law_250 (by decide) ?_
        refine r_iadd dL_law_251 ?_
        obtain ⟨v15, hv15, h⟩ := xb h
        refine x_iaload (o := a0) dL_law_252 hv15 ?_
        refine x_aload_n (o := a0) dL_law_253 rfl ?_
        refine r_iload_n (x := a3) dL_law_254 rfl ?_
        refine r_iconst (v := (5 : Int32)) dL_law_255 (by decide) ?_
        refine r_iadd dL_law_256 ?_
        obtain ⟨v16, hv16, h⟩ := xb h
        refine x_iaload (o := a0) dL_law_257 hv16 ?_
        obtain ⟨q18, hq18, h⟩ := xb h
        obtain ⟨p17, hp17, h⟩ := xb h
        refine z_callV (as := [.int v12, .int v13, .int v14, .int v15, .int v16]) (o := a1) (r1 := (some (.int p17.1))) (stk := []) (stk2 := [.int p17.1]) (st1 := p17.2) (d' := 1) dL_law_258 xl_L_13 hq18 (by decide) (Nat.le_trans xs0 (by decide)) rfl rfl (S_X10_feed n st a1 v12 v13 v14 v15 v16 p17.1 p17.2 hp17) ?_
        refine x_aload_n (o := a2) dL_law_261 rfl ?_
        refine x_aload_n (o := a0) dL_law_262 rfl ?_
        refine r_iload_n (x := a3) dL_law_263 rfl ?_
        refine r_iconst (v := (1 : Int32)) dL_law_264 (by decide) ?_
        refine r_iadd dL_law_265 ?_
        obtain ⟨v19, hv19, h⟩ := xb h
        refine x_iaload (o := a0) dL_law_266 hv19 ?_
        refine x_aload_n (o := a0) dL_law_267 rfl ?_
        refine r_iload_n (x := a3) dL_law_268 rfl ?_
        refine r_iconst (v := (2 : Int32)) dL_law_269 (by decide) ?_
        refine r_iadd dL_law_270 ?_
        obtain ⟨v20, hv20, h⟩ := xb h
        refine x_iaload (o := a0) dL_law_271 hv20 ?_
        refine x_aload_n (o := a0) dL_law_272 rfl ?_
        refine r_iload_n (x := a3) dL_law_273 rfl ?_
        refine r_iconst (v := (3 : Int32)) dL_law_274 (by decide) ?_
        refine r_iadd dL_law_275 ?_
        obtain ⟨v21, hv21, h⟩ := xb h
        refine x_iaload (o := a0) dL_law_276 hv21 ?_
        refine x_aload_n (o := a0) dL_law_277 rfl ?_
        refine r_iload_n (x := a3) dL_law_278 rfl ?_
        refine r_iconst (v := (4 : Int32)) dL_law_279 (by decide) ?_
        refine r_iadd dL_law_280 ?_
        obtain ⟨v22, hv22, h⟩ := xb h
        refine x_iaload (o := a0) dL_law_281 hv22 ?_
        refine x_aload_n (o := a0) dL_law_282 rfl ?_
        refine r_iload_n (x := a3) dL_law_283 rfl ?_
        refine r_iconst (v := (5 : Int32)) dL_law_284 (by decide) ?_
        refine r_iadd dL_law_285 ?_
        obtain ⟨v23, hv23, h⟩ := xb h
        refine x_iaload (o := a0) dL_law_286 hv23 ?_
        obtain ⟨q25, hq25, h⟩ := xb h
        obtain ⟨p24, hp24, h⟩ := xb h
        refine z_callV (as := [.int v19, .int v20, .int v21, .int v22, .int v23]) (o := a2) (r1 := (some (.int p24.1))) (stk := [.int p17.1]) (stk2 := [.int p24.1, .int p17.1]) (st1 := p24.2) (d' := 0) dL_law_287 xl_L_17 hq25 (by decide) (Nat.le_trans (xsI xs0) (by decide)) rfl rfl (S_X11_feed n p17.2 a2 v19 v20 v21 v22 v23 p24.1 p24.2 hp24) ?_
        refine r_icmp_eq (tgt := 2512) dL_law_290 (by decide) (fun c => ?_) (fun c => ?_)
        · replace h := (if_pos c).symm.trans h
          obtain ⟨v26, hv26, h⟩ := xb h
          refine x_iinc (c := (9 : Int32)) (lv' := [(3, .int v26), (0, va_rf a0), (1, va_rf a1), (2, va_rf a2)]) (x := a3) (v := v26) dL_law_2512 rfl (by decide) (Option.some.inj hv26) (by decide) (congrArg (List.cons _) (xfY rfl (xfY rfl (xfY (xk1 2 3 _) (xfN rfl rfl))))) ?_
          refine r_goto (tgt := 18) dL_law_2515 (by decide) ?_
          exact x_sub [1, 2, 3, 0] rfl (ih p24.2 a0 a1 a2 v26 h)
        · replace h := (if_neg c).symm.trans h
          refine r_iconst (v := (0 : Int32)) dL_law_293 (by decide) ?_
          obtain ⟨v27, hv27, h⟩ := xb h
          refine x_eqI (rz_inv2 hv27).1 ?_
          obtain ⟨rfl, rfl⟩ := Prod.mk.inj (Option.some.inj h)
          exact r_ireturn dL_law_294 .boolean rfl (by rcases (rz_inv2 hv27).2 with e | e <;> rw [e] <;> rfl)
      replace h := (if_neg c0).symm.trans h
      by_cases c1 : (v11 &&& (63 : Int32)) = (1 : Int32)
      · replace h := (if_pos c1).symm.trans h
        refine r_tableIn (off := 262) (tgt := 295) dL_law_33 (by rw [c1]; decide) (by rw [c1]; decide) (by rw [c1]; rfl) (by decide) ?_
        refine x_aload_n (o := a1) dL_law_295 rfl ?_
        refine x_aload_n (o := a0) dL_law_296 rfl ?_
        refine r_iload_n (x := a3) dL_law_297 rfl ?_
        refine r_iconst (v := (1 : Int32)) dL_law_298 (by decide) ?_
        refine r_iadd dL_law_299 ?_
        obtain ⟨v28, hv28, h⟩ := xb h
        refine x_iaload (o := a0) dL_law_300 hv28 ?_
        obtain ⟨q30, hq30, h⟩ := xb h
        obtain ⟨p29, hp29, h⟩ := xb h
        refine z_callV (as := [.int v28]) (o := a1) (r1 := (some (.int p29.1))) (stk := []) (stk2 := [.int p29.1]) (st1 := p29.2) (d' := 0) dL_law_301 xl_L_18 hq30 (by decide) (Nat.le_trans xs0 (by decide)) rfl rfl (S_X10_end n st a1 v28 p29.1 p29.2 hp29) ?_
        refine x_aload_n (o := a2) dL_law_304 rfl ?_
        refine x_aload_n (o := a0) dL_law_305 rfl ?_
        refine r_iload_n (x := a3) dL_law_306 rfl ?_
        refine r_iconst (v := (1 : Int32)) dL_law_307 (by decide) ?_
        refine r_iadd dL_law_308 ?_
        obtain ⟨v31, hv31, h⟩ := xb h
        refine x_iaload (o := a0) dL_law_309 hv31 ?_
        obtain ⟨q33, hq33, h⟩ := xb h
        obtain ⟨p32, hp32, h⟩ := xb h
        refine z_callV (as := [.int v31]) (o := a2) (r1 := (some (.int p32.1))) (stk := [.int p29.1]) (stk2 := [.int p32.1, .int p29.1]) (st1 := p32.2) (d' := 0) dL_law_310 xl_L_22 hq33 (by decide) (Nat.le_trans (xsI xs0) (by decide)) rfl rfl (S_X11_end n p29.2 a2 v31 p32.1 p32.2 hp32) ?_
        refine r_icmp_eq (tgt := 2512) dL_law_313 (by decide) (fun c => ?_) (fun c => ?_)
        · replace h := (if_pos c).symm.trans h
          obtain ⟨v34, hv34, h⟩ := xb h
          refine x_iinc (c := (9 : Int32)) (lv' := [(3, .int v34), (0, va_rf a0), (1, va_rf a1), (2, va_rf a2)]) (x := a3) (v := v34) dL_law_2512 rfl (by decide) (Option.some.inj hv34) (by decide) (congrArg (List.cons _) (xfY rfl (xfY rfl (xfY (xk1 2 3 _) (xfN rfl rfl))))) ?_
          refine r_goto (tgt := 18) dL_law_2515 (by decide) ?_
          exact x_sub [1, 2, 3, 0] rfl (ih p32.2 a0 a1 a2 v34 h)
        · replace h := (if_neg c).symm.trans h
          refine r_iconst (v := (0 : Int32)) dL_law_316 (by decide) ?_
          obtain ⟨v35, hv35, h⟩ := xb h
          refine x_eqI (rz_inv2 hv35).1 ?_
          obtain ⟨rfl, rfl⟩ := Prod.mk.inj (Option.some.inj h)
          exact r_ireturn dL_law_317 .boolean rfl (by rcases (rz_inv2 hv35).2 with e | e <;> rw [e] <;> rfl)
      replace h := (if_neg c1).symm.trans h
      by_cases c2 : (v11 &&& (63 : Int32)) = (2 : Int32)
      · replace h := (if_pos c2).symm.trans h
        refine r_tableIn (off := 285) (tgt := 318) dL_law_33 (by rw [c2]; decide) (by rw [c2]; decide) (by rw [c2]; rfl) (by decide) ?_
        refine x_aload_n (o := a1) dL_law_318 rfl ?_
        refine x_aload_n (o := a0) dL_law_319 rfl ?_
        refine r_iload_n (x := a3) dL_law_320 rfl ?_
        refine r_iconst (v := (1 : Int32)) dL_law_321 (by decide) ?_
        refine r_iadd dL_law_322 ?_
        obtain ⟨v36, hv36, h⟩ := xb h
        refine x_iaload (o := a0) dL_law_323 hv36 ?_
        refine x_aload_n (o := a0) dL_law_324 rfl ?_
        refine r_iload_n (x := a3) dL_law_325 rfl ?_
        refine r_iconst (v := (2 : Int32)) dL_law_326 (by decide) ?_
        refine r_iadd dL_law_327 ?_
        obtain ⟨v37, hv37, h⟩ := xb h
        refine x_iaload (o := a0) dL_law_328 hv37 ?_
        obtain ⟨q39, hq39, h⟩ := xb h
        obtain ⟨p38, hp38, h⟩ := xb h
        refine z_callV (as := [.int v36, .int v37]) (o := a1) (r1 := (some (.int p38.1))) (stk := []) (stk2 := [.int p38.1]) (st1 := p38.2) (d' := 12) dL_law_329 xl_L_23 hq39 (by decide) (Nat.le_trans xs0 (by decide)) rfl rfl (S_X10_text n st a1 v36 v37 p38.1 p38.2 hp38) ?_
        refine x_aload_n (o := a2) dL_law_332 rfl ?_
        refine x_aload_n (o := a0) dL_law_333 rfl ?_
        refine r_iload_n (x := a3) dL_law_334 rfl ?_
        refine r_iconst (v := (1 : Int32)) dL_law_335 (by decide) ?_
        refine r_iadd dL_law_336 ?_
        obtain ⟨v40, hv40, h⟩ := xb h
        refine x_iaload (o := a0) dL_law_337 hv40 ?_
        refine x_aload_n (o := a0) dL_law_338 rfl ?_
        refine r_iload_n (x := a3) dL_law_339 rfl ?_
        refine r_iconst (v := (2 : Int32)) dL_law_340 (by decide) ?_
        refine r_iadd dL_law_341 ?_
        obtain ⟨v41, hv41, h⟩ := xb h
        refine x_iaload (o := a0) dL_law_342 hv41 ?_
        obtain ⟨q43, hq43, h⟩ := xb h
        obtain ⟨p42, hp42, h⟩ := xb h
        refine z_callV (as := [.int v40, .int v41]) (o := a2) (r1 := (some (.int p42.1))) (stk := [.int p38.1]) (stk2 := [.int p42.1, .int p38.1]) (st1 := p42.2) (d' := 6) dL_law_343 xl_L_27 hq43 (by decide) (Nat.le_trans (xsI xs0) (by decide)) rfl rfl (S_X11_text n p38.2 a2 v40 v41 p42.1 p42.2 hp42) ?_
        refine r_icmp_eq (tgt := 2512) dL_law_346 (by decide) (fun c => ?_) (fun c => ?_)
        · replace h := (if_pos c).symm.trans h
          obtain ⟨v44, hv44, h⟩ := xb h
          refine x_iinc (c := (9 : Int32)) (lv' := [(3, .int v44), (0, va_rf a0), (1, va_rf a1), (2, va_rf a2)]) (x := a3) (v := v44) dL_law_2512 rfl (by decide) (Option.some.inj hv44) (by decide) (congrArg (List.cons _) (xfY rfl (xfY rfl (xfY (xk1 2 3 _) (xfN rfl rfl))))) ?_
          refine r_goto (tgt := 18) dL_law_2515 (by decide) ?_
          exact x_sub [1, 2, 3, 0] rfl (ih p42.2 a0 a1 a2 v44 h)
        · replace h := (if_neg c).symm.trans h
          refine r_iconst (v := (0 : Int32)) dL_law_349 (by decide) ?_
          obtain ⟨v45, hv45, h⟩ := xb h
          refine x_eqI (rz_inv2 hv45).1 ?_
          obtain ⟨rfl, rfl⟩ := Prod.mk.inj (Option.some.inj h)
          exact r_ireturn dL_law_350 .boolean rfl (by rcases (rz_inv2 hv45).2 with e | e <;> rw [e] <;> rfl)
      replace h := (if_neg c2).symm.trans h
      by_cases c3 : (v11 &&& (63 : Int32)) = (3 : Int32)
      · replace h := (if_pos c3).symm.trans h
        refine r_tableIn (off := 318) (tgt := 351) dL_law_33 (by rw [c3]; decide) (by rw [c3]; decide) (by rw [c3]; rfl) (by decide) ?_
        refine x_aload_n (o := a1) dL_law_351 rfl ?_
        refine x_aload_n (o := a0) dL_law_352 rfl ?_
        refine r_iload_n (x := a3) dL_law_353 rfl ?_
        refine r_iconst (v := (1 : Int32)) dL_law_354 (by decide) ?_
        refine r_iadd dL_law_355 ?_
        obtain ⟨v46, hv46, h⟩ := xb h
        refine x_iaload (o := a0) dL_law_356 hv46 ?_
        obtain ⟨q48, hq48, h⟩ := xb h
        obtain ⟨v47, hv47, h⟩ := xb h
        refine z_callV (as := [.int v46]) (o := a1) (r1 := (some (.int v47))) (stk := []) (stk2 := [.int v47]) (st1 := st) (d' := 0) dL_law_357 xl_L_28 hq48 (by decide) (Nat.le_trans xs0 (by decide)) rfl rfl (S_X10_fault n st a1 v46 v47 hv47) ?_
        refine x_aload_n (o := a2) dL_law_360 rfl ?_
        refine x_aload_n (o := a0) dL_law_361 rfl ?_
        refine r_iload_n (x := a3) dL_law_362 rfl ?_
        refine r_iconst (v := (1 : Int32)) dL_law_363 (by decide) ?_
        refine r_iadd dL_law_364 ?_
        obtain ⟨v49, hv49, h⟩ := xb h
        refine x_iaload (o := a0) dL_law_365 hv49 ?_
        obtain ⟨q51, hq51, h⟩ := xb h
        obtain ⟨v50, hv50, h⟩ := xb h
        refine z_callV (as := [.int v49]) (o := a2) (r1 := (some (.int v50))) (stk := [.int v47]) (stk2 := [.int v50, .int v47]) (st1 := st) (d' := 0) dL_law_366 xl_L_31 hq51 (by decide) (Nat.le_trans (xsI xs0) (by decide)) rfl rfl (S_X11_fault n st a2 v49 v50 hv50) ?_
        refine r_icmp_eq (tgt := 2512) dL_law_369 (by decide) (fun c => ?_) (fun c => ?_)
        · replace h := (if_pos c).symm.trans h
          obtain ⟨v52, hv52, h⟩ := xb h
          refine x_iinc (c := (9 : Int32)) (lv' := [(3, .int v52), (0, va_rf a0), (1, va_rf a1), (2, va_rf a2)]) (x := a3) (v := v52) dL_law_2512 rfl (by decide) (Option.some.inj hv52) (by decide) (congrArg (List.cons _) (xfY rfl (xfY rfl (xfY (xk1 2 3 _) (xfN rfl rfl))))) ?_
          refine r_goto (tgt := 18) dL_law_2515 (by decide) ?_
          exact x_sub [1, 2, 3, 0] rfl (ih st a0 a1 a2 v52 h)
        · replace h := (if_neg c).symm.trans h
          refine r_iconst (v := (0 : Int32)) dL_law_372 (by decide) ?_
          obtain ⟨v53, hv53, h⟩ := xb h
          refine x_eqI (rz_inv2 hv53).1 ?_
          obtain ⟨rfl, rfl⟩ := Prod.mk.inj (Option.some.inj h)
          exact r_ireturn dL_law_373 .boolean rfl (by rcases (rz_inv2 hv53).2 with e | e <;> rw [e] <;> rfl)
      replace h := (if_neg c3).symm.trans h
      by_cases c4 : (v11 &&& (63 : Int32)) = (4 : Int32)
      · replace h := (if_pos c4).symm.trans h
        refine r_tableIn (off := 341) (tgt := 374) dL_law_33 (by rw [c4]; decide) (by rw [c4]; decide) (by rw [c4]; rfl) (by decide) ?_
        refine x_aload_n (o := a1) dL_law_374 rfl ?_
        refine x_aload_n (o := a0) dL_law_375 rfl ?_
        refine r_iload_n (x := a3) dL_law_376 rfl ?_
        refine r_iconst (v := (1 : Int32)) dL_law_377 (by decide) ?_
        refine r_iadd dL_law_378 ?_
        obtain ⟨v54, hv54, h⟩ := xb h
        refine x_iaload (o := a0) dL_law_379 hv54 ?_
        refine x_aload_n (o := a0) dL_law_380 rfl ?_
        refine r_iload_n (x := a3) dL_law_381 rfl ?_
        refine r_iconst (v := (2 : Int32)) dL_law_382 (by decide) ?_
        refine r_iadd dL_law_383 ?_
        obtain ⟨v55, hv55, h⟩ := xb h
        refine x_iaload (o := a0) dL_law_384 hv55 ?_
        obtain ⟨q57, hq57, h⟩ := xb h
        obtain ⟨v56, hv56, h⟩ := xb h
        refine z_callV (as := [.int v54, .int v55]) (o := a1) (r1 := (some (.int v56))) (stk := []) (stk2 := [.int v56]) (st1 := st) (d' := 2) dL_law_385 xl_L_32 hq57 (by decide) (Nat.le_trans xs0 (by decide)) rfl rfl (S_X10_league n st a1 v54 v55 v56 hv56) ?_
        refine x_aload_n (o := a2) dL_law_388 rfl ?_
        refine x_aload_n (o := a0) dL_law_389 rfl ?_
        refine r_iload_n (x := a3) dL_law_390 rfl ?_
        refine r_iconst (v := (1 : Int32)) dL_law_391 (by decide) ?_
        refine r_iadd dL_law_392 ?_
        obtain ⟨v58, hv58, h⟩ := xb h
        refine x_iaload (o := a0) dL_law_393 hv58 ?_
        refine x_aload_n (o := a0) dL_law_394 rfl ?_
        refine r_iload_n (x := a3) dL_law_395 rfl ?_
        refine r_iconst (v := (2 : Int32)) dL_law_396 (by decide) ?_
        refine r_iadd dL_law_397 ?_
        obtain ⟨v59, hv59, h⟩ := xb h
        refine x_iaload (o := a0) dL_law_398 hv59 ?_
        obtain ⟨q61, hq61, h⟩ := xb h
        obtain ⟨v60, hv60, h⟩ := xb h
        refine z_callV (as := [.int v58, .int v59]) (o := a2) (r1 := (some (.int v60))) (stk := [.int v56]) (stk2 := [.int v60, .int v56]) (st1 := st) (d' := 2) dL_law_399 xl_L_35 hq61 (by decide) (Nat.le_trans (xsI xs0) (by decide)) rfl rfl (S_X11_league n st a2 v58 v59 v60 hv60) ?_
        refine r_icmp_eq (tgt := 2512) dL_law_402 (by decide) (fun c => ?_) (fun c => ?_)
        · replace h := (if_pos c).symm.trans h
          obtain ⟨v62, hv62, h⟩ := xb h
          refine x_iinc (c := (9 : Int32)) (lv' := [(3, .int v62), (0, va_rf a0), (1, va_rf a1), (2, va_rf a2)]) (x := a3) (v := v62) dL_law_2512 rfl (by decide) (Option.some.inj hv62) (by decide) (congrArg (List.cons _) (xfY rfl (xfY rfl (xfY (xk1 2 3 _) (xfN rfl rfl))))) ?_
          refine r_goto (tgt := 18) dL_law_2515 (by decide) ?_
          exact x_sub [1, 2, 3, 0] rfl (ih st a0 a1 a2 v62 h)
        · replace h := (if_neg c).symm.trans h
          refine r_iconst (v := (0 : Int32)) dL_law_405 (by decide) ?_
          obtain ⟨v63, hv63, h⟩ := xb h
          refine x_eqI (rz_inv2 hv63).1 ?_
          obtain ⟨rfl, rfl⟩ := Prod.mk.inj (Option.some.inj h)
          exact r_ireturn dL_law_406 .boolean rfl (by rcases (rz_inv2 hv63).2 with e | e <;> rw [e] <;> rfl)
      replace h := (if_neg c4).symm.trans h
      by_cases c5 : (v11 &&& (63 : Int32)) = (5 : Int32)
      · replace h := (if_pos c5).symm.trans h
        refine r_tableIn (off := 374) (tgt := 407) dL_law_33 (by rw [c5]; decide) (by rw [c5]; decide) (by rw [c5]; rfl) (by decide) ?_
        refine x_aload_n (o := a1) dL_law_407 rfl ?_
        refine x_aload_n (o := a0) dL_law_408 rfl ?_
        refine r_iload_n (x := a3) dL_law_409 rfl ?_
        refine r_iconst (v := (1 : Int32)) dL_law_410 (by decide) ?_
        refine r_iadd dL_law_411 ?_
        obtain ⟨v64, hv64, h⟩ := xb h
        refine x_iaload (o := a0) dL_law_412 hv64 ?_
        refine x_aload_n (o := a0) dL_law_413 rfl ?_
        refine r_iload_n (x := a3) dL_law_414 rfl ?_
        refine r_iconst (v := (2 : Int32)) dL_law_415 (by decide) ?_
        refine r_iadd dL_law_416 ?_
        obtain ⟨v65, hv65, h⟩ := xb h
        refine x_iaload (o := a0) dL_law_417 hv65 ?_
        refine x_aload_n (o := a0) dL_law_418 rfl ?_
        refine r_iload_n (x := a3) dL_law_419 rfl ?_
        refine r_iconst (v := (3 : Int32)) dL_law_420 (by decide) ?_
        refine r_iadd dL_law_421 ?_
        obtain ⟨v66, hv66, h⟩ := xb h
        refine x_iaload (o := a0) dL_law_422 hv66 ?_
        obtain ⟨q68, hq68, h⟩ := xb h
        obtain ⟨v67, hv67, h⟩ := xb h
        refine z_callV (as := [.int v64, .int v65, .int v66]) (o := a1) (r1 := (some (.int v67))) (stk := []) (stk2 := [.int v67]) (st1 := st) (d' := 2) dL_law_423 xl_L_36 hq68 (by decide) (Nat.le_trans xs0 (by decide)) rfl rfl (S_X10_miles n st a1 v64 v65 v66 v67 hv67) ?_
        refine x_aload_n (o := a2) dL_law_426 rfl ?_
        refine x_aload_n (o := a0) dL_law_427 rfl ?_
        refine r_iload_n (x := a3) dL_law_428 rfl ?_
        refine r_iconst (v := (1 : Int32)) dL_law_429 (by decide) ?_
        refine r_iadd dL_law_430 ?_
        obtain ⟨v69, hv69, h⟩ := xb h
        refine x_iaload (o := a0) dL_law_431 hv69 ?_
        refine x_aload_n (o := a0) dL_law_432 rfl ?_
        refine r_iload_n (x := a3) dL_law_433 rfl ?_
        refine r_iconst (v := (2 : Int32)) dL_law_434 (by decide) ?_
        refine r_iadd dL_law_435 ?_
        obtain ⟨v70, hv70, h⟩ := xb h
        refine x_iaload (o := a0) dL_law_436 hv70 ?_
        refine x_aload_n (o := a0) dL_law_437 rfl ?_
        refine r_iload_n (x := a3) dL_law_438 rfl ?_
        refine r_iconst (v := (3 : Int32)) dL_law_439 (by decide) ?_
        refine r_iadd dL_law_440 ?_
        obtain ⟨v71, hv71, h⟩ := xb h
        refine x_iaload (o := a0) dL_law_441 hv71 ?_
        obtain ⟨q73, hq73, h⟩ := xb h
        obtain ⟨v72, hv72, h⟩ := xb h
        refine z_callV (as := [.int v69, .int v70, .int v71]) (o := a2) (r1 := (some (.int v72))) (stk := [.int v67]) (stk2 := [.int v72, .int v67]) (st1 := st) (d' := 2) dL_law_442 xl_L_40 hq73 (by decide) (Nat.le_trans (xsI xs0) (by decide)) rfl rfl (S_X11_miles n st a2 v69 v70 v71 v72 hv72) ?_
        refine r_icmp_eq (tgt := 2512) dL_law_445 (by decide) (fun c => ?_) (fun c => ?_)
        · replace h := (if_pos c).symm.trans h
          obtain ⟨v74, hv74, h⟩ := xb h
          refine x_iinc (c := (9 : Int32)) (lv' := [(3, .int v74), (0, va_rf a0), (1, va_rf a1), (2, va_rf a2)]) (x := a3) (v := v74) dL_law_2512 rfl (by decide) (Option.some.inj hv74) (by decide) (congrArg (List.cons _) (xfY rfl (xfY rfl (xfY (xk1 2 3 _) (xfN rfl rfl))))) ?_
          refine r_goto (tgt := 18) dL_law_2515 (by decide) ?_
          exact x_sub [1, 2, 3, 0] rfl (ih st a0 a1 a2 v74 h)
        · replace h := (if_neg c).symm.trans h
          refine r_iconst (v := (0 : Int32)) dL_law_448 (by decide) ?_
          obtain ⟨v75, hv75, h⟩ := xb h
          refine x_eqI (rz_inv2 hv75).1 ?_
          obtain ⟨rfl, rfl⟩ := Prod.mk.inj (Option.some.inj h)
          exact r_ireturn dL_law_449 .boolean rfl (by rcases (rz_inv2 hv75).2 with e | e <;> rw [e] <;> rfl)
      replace h := (if_neg c5).symm.trans h
      by_cases c6 : (v11 &&& (63 : Int32)) = (6 : Int32)
      · replace h := (if_pos c6).symm.trans h
        refine r_tableIn (off := 417) (tgt := 450) dL_law_33 (by rw [c6]; decide) (by rw [c6]; decide) (by rw [c6]; rfl) (by decide) ?_
        refine x_aload_n (o := a1) dL_law_450 rfl ?_
        refine x_aload_n (o := a0) dL_law_451 rfl ?_
        refine r_iload_n (x := a3) dL_law_452 rfl ?_
        refine r_iconst (v := (1 : Int32)) dL_law_453 (by decide) ?_
        refine r_iadd dL_law_454 ?_
        obtain ⟨v76, hv76, h⟩ := xb h
        refine x_iaload (o := a0) dL_law_455 hv76 ?_
        refine x_aload_n (o := a0) dL_law_456 rfl ?_
        refine r_iload_n (x := a3) dL_law_457 rfl ?_
        refine r_iconst (v := (2 : Int32)) dL_law_458 (by decide) ?_
        refine r_iadd dL_law_459 ?_
        obtain ⟨v77, hv77, h⟩ := xb h
        refine x_iaload (o := a0) dL_law_460 hv77 ?_
        obtain ⟨q79, hq79, h⟩ := xb h
        obtain ⟨v78, hv78, h⟩ := xb h
        refine z_callV (as := [.int v76, .int v77]) (o := a1) (r1 := (some (.int v78))) (stk := []) (stk2 := [.int v78]) (st1 := st) (d' := 2) dL_law_461 xl_L_41 hq79 (by decide) (Nat.le_trans xs0 (by decide)) rfl rfl (S_X10_law n st a1 v76 v77 v78 hv78) ?_
        refine x_aload_n (o := a2) dL_law_464 rfl ?_
        refine x_aload_n (o := a0) dL_law_465 rfl ?_
        refine r_iload_n (x := a3) dL_law_466 rfl ?_
        refine r_iconst (v := (1 : Int32)) dL_law_467 (by decide) ?_
        refine r_iadd dL_law_468 ?_
        obtain ⟨v80, hv80, h⟩ := xb h
        refine x_iaload (o := a0) dL_law_469 hv80 ?_
        refine x_aload_n (o := a0) dL_law_470 rfl ?_
        refine r_iload_n (x := a3) dL_law_471 rfl ?_
        refine r_iconst (v := (2 : Int32)) dL_law_472 (by decide) ?_
        refine r_iadd dL_law_473 ?_
        obtain ⟨v81, hv81, h⟩ := xb h
        refine x_iaload (o := a0) dL_law_474 hv81 ?_
        obtain ⟨q83, hq83, h⟩ := xb h
        obtain ⟨v82, hv82, h⟩ := xb h
        refine z_callV (as := [.int v80, .int v81]) (o := a2) (r1 := (some (.int v82))) (stk := [.int v78]) (stk2 := [.int v82, .int v78]) (st1 := st) (d' := 2) dL_law_475 xl_L_44 hq83 (by decide) (Nat.le_trans (xsI xs0) (by decide)) rfl rfl (S_X11_law n st a2 v80 v81 v82 hv82) ?_
        refine r_icmp_eq (tgt := 2512) dL_law_478 (by decide) (fun c => ?_) (fun c => ?_)
        · replace h := (if_pos c).symm.trans h
          obtain ⟨v84, hv84, h⟩ := xb h
          refine x_iinc (c := (9 : Int32)) (lv' := [(3, .int v84), (0, va_rf a0), (1, va_rf a1), (2, va_rf a2)]) (x := a3) (v := v84) dL_law_2512 rfl (by decide) (Option.some.inj hv84) (by decide) (congrArg (List.cons _) (xfY rfl (xfY rfl (xfY (xk1 2 3 _) (xfN rfl rfl))))) ?_
          refine r_goto (tgt := 18) dL_law_2515 (by decide) ?_
          exact x_sub [1, 2, 3, 0] rfl (ih st a0 a1 a2 v84 h)
        · replace h := (if_neg c).symm.trans h
          refine r_iconst (v := (0 : Int32)) dL_law_481 (by decide) ?_
          obtain ⟨v85, hv85, h⟩ := xb h
          refine x_eqI (rz_inv2 hv85).1 ?_
          obtain ⟨rfl, rfl⟩ := Prod.mk.inj (Option.some.inj h)
          exact r_ireturn dL_law_482 .boolean rfl (by rcases (rz_inv2 hv85).2 with e | e <;> rw [e] <;> rfl)
      replace h := (if_neg c6).symm.trans h
      by_cases c7 : (v11 &&& (63 : Int32)) = (7 : Int32)
      · replace h := (if_pos c7).symm.trans h
        refine r_tableIn (off := 450) (tgt := 483) dL_law_33 (by rw [c7]; decide) (by rw [c7]; decide) (by rw [c7]; rfl) (by decide) ?_
        refine x_aload_n (o := a1) dL_law_483 rfl ?_
        refine x_aload_n (o := a0) dL_law_484 rfl ?_
        refine r_iload_n (x := a3) dL_law_485 rfl ?_
        refine r_iconst (v := (1 : Int32)) dL_law_486 (by decide) ?_
        refine r_iadd dL_law_487 ?_
        obtain ⟨v86, hv86, h⟩ := xb h
        refine x_iaload (o := a0) dL_law_488 hv86 ?_
        refine x_aload_n (o := a0) dL_law_489 rfl ?_
        refine r_iload_n (x := a3) dL_law_490 rfl ?_
        refine r_iconst (v := (2 : Int32)) dL_law_491 (by decide) ?_
        refine r_iadd dL_law_492 ?_
        obtain ⟨v87, hv87, h⟩ := xb h
        refine x_iaload (o := a0) dL_law_493 hv87 ?_
        refine x_aload_n (o := a0) dL_law_494 rfl ?_
        refine r_iload_n (x := a3) dL_law_495 rfl ?_
        refine r_iconst (v := (3 : Int32)) dL_law_496 (by decide) ?_
        refine r_iadd dL_law_497 ?_
        obtain ⟨v88, hv88, h⟩ := xb h
        refine x_iaload (o := a0) dL_law_498 hv88 ?_
        obtain ⟨q90, hq90, h⟩ := xb h
        obtain ⟨v89, hv89, h⟩ := xb h
        refine z_callV (as := [.int v86, .int v87, .int v88]) (o := a1) (r1 := (some (.int v89))) (stk := []) (stk2 := [.int v89]) (st1 := st) (d' := 2) dL_law_499 xl_L_45 hq90 (by decide) (Nat.le_trans xs0 (by decide)) rfl rfl (S_X10_plan n st a1 v86 v87 v88 v89 hv89) ?_
        refine x_aload_n (o := a2) dL_law_502 rfl ?_
        refine x_aload_n (o := a0) dL_law_503 rfl ?_
        refine r_iload_n (x := a3) dL_law_504 rfl ?_
        refine r_iconst (v := (1 : Int32)) dL_law_505 (by decide) ?_
        refine r_iadd dL_law_506 ?_
        obtain ⟨v91, hv91, h⟩ := xb h
        refine x_iaload (o := a0) dL_law_507 hv91 ?_
        refine x_aload_n (o := a0) dL_law_508 rfl ?_
        refine r_iload_n (x := a3) dL_law_509 rfl ?_
        refine r_iconst (v := (2 : Int32)) dL_law_510 (by decide) ?_
        refine r_iadd dL_law_511 ?_
        obtain ⟨v92, hv92, h⟩ := xb h
        refine x_iaload (o := a0) dL_law_512 hv92 ?_
        refine x_aload_n (o := a0) dL_law_513 rfl ?_
        refine r_iload_n (x := a3) dL_law_514 rfl ?_
        refine r_iconst (v := (3 : Int32)) dL_law_515 (by decide) ?_
        refine r_iadd dL_law_516 ?_
        obtain ⟨v93, hv93, h⟩ := xb h
        refine x_iaload (o := a0) dL_law_517 hv93 ?_
        obtain ⟨q95, hq95, h⟩ := xb h
        obtain ⟨v94, hv94, h⟩ := xb h
        refine z_callV (as := [.int v91, .int v92, .int v93]) (o := a2) (r1 := (some (.int v94))) (stk := [.int v89]) (stk2 := [.int v94, .int v89]) (st1 := st) (d' := 2) dL_law_518 xl_L_48 hq95 (by decide) (Nat.le_trans (xsI xs0) (by decide)) rfl rfl (S_X11_plan n st a2 v91 v92 v93 v94 hv94) ?_
        refine r_icmp_eq (tgt := 2512) dL_law_521 (by decide) (fun c => ?_) (fun c => ?_)
        · replace h := (if_pos c).symm.trans h
          obtain ⟨v96, hv96, h⟩ := xb h
          refine x_iinc (c := (9 : Int32)) (lv' := [(3, .int v96), (0, va_rf a0), (1, va_rf a1), (2, va_rf a2)]) (x := a3) (v := v96) dL_law_2512 rfl (by decide) (Option.some.inj hv96) (by decide) (congrArg (List.cons _) (xfY rfl (xfY rfl (xfY (xk1 2 3 _) (xfN rfl rfl))))) ?_
          refine r_goto (tgt := 18) dL_law_2515 (by decide) ?_
          exact x_sub [1, 2, 3, 0] rfl (ih st a0 a1 a2 v96 h)
        · replace h := (if_neg c).symm.trans h
          refine r_iconst (v := (0 : Int32)) dL_law_524 (by decide) ?_
          obtain ⟨v97, hv97, h⟩ := xb h
          refine x_eqI (rz_inv2 hv97).1 ?_
          obtain ⟨rfl, rfl⟩ := Prod.mk.inj (Option.some.inj h)
          exact r_ireturn dL_law_525 .boolean rfl (by rcases (rz_inv2 hv97).2 with e | e <;> rw [e] <;> rfl)
      replace h := (if_neg c7).symm.trans h
      by_cases c8 : (v11 &&& (63 : Int32)) = (8 : Int32)
      · replace h := (if_pos c8).symm.trans h
        refine r_tableIn (off := 493) (tgt := 526) dL_law_33 (by rw [c8]; decide) (by rw [c8]; decide) (by rw [c8]; rfl) (by decide) ?_
        refine x_aload_n (o := a1) dL_law_526 rfl ?_
        refine x_aload_n (o := a0) dL_law_527 rfl ?_
        refine r_iload_n (x := a3) dL_law_528 rfl ?_
        refine r_iconst (v := (1 : Int32)) dL_law_529 (by decide) ?_
        refine r_iadd dL_law_530 ?_
        obtain ⟨v98, hv98, h⟩ := xb h
        refine x_iaload (o := a0) dL_law_531 hv98 ?_
        refine x_aload_n (o := a0) dL_law_532 rfl ?_
        refine r_iload_n (x := a3) dL_law_533 rfl ?_
        refine r_iconst (v := (2 : Int32)) dL_law_534 (by decide) ?_
        refine r_iadd dL_law_535 ?_
        obtain ⟨v99, hv99, h⟩ := xb h
        refine x_iaload (o := a0) dL_law_536 hv99 ?_
        obtain ⟨q101, hq101, h⟩ := xb h
        obtain ⟨p100, hp100, h⟩ := xb h
        refine z_callV (as := [.int v98, .int v99]) (o := a1) (r1 := (some (.int p100.1))) (stk := []) (stk2 := [.int p100.1]) (st1 := p100.2) (d' := 2) dL_law_537 xl_L_49 hq101 (by decide) (Nat.le_trans xs0 (by decide)) rfl rfl (S_X10_goes n st a1 v98 v99 p100.1 p100.2 hp100) ?_
        refine x_aload_n (o := a2) dL_law_540 rfl ?_
        refine x_aload_n (o := a0) dL_law_541 rfl ?_
        refine r_iload_n (x := a3) dL_law_542 rfl ?_
        refine r_iconst (v := (1 : Int32)) dL_law_543 (by decide) ?_
        refine r_iadd dL_law_544 ?_
        obtain ⟨v102, hv102, h⟩ := xb h
        refine x_iaload (o := a0) dL_law_545 hv102 ?_
        refine x_aload_n (o := a0) dL_law_546 rfl ?_
        refine r_iload_n (x := a3) dL_law_547 rfl ?_
        refine r_iconst (v := (2 : Int32)) dL_law_548 (by decide) ?_
        refine r_iadd dL_law_549 ?_
        obtain ⟨v103, hv103, h⟩ := xb h
        refine x_iaload (o := a0) dL_law_550 hv103 ?_
        obtain ⟨q105, hq105, h⟩ := xb h
        obtain ⟨v104, hv104, h⟩ := xb h
        refine z_callV (as := [.int v102, .int v103]) (o := a2) (r1 := (some (.int v104))) (stk := [.int p100.1]) (stk2 := [.int v104, .int p100.1]) (st1 := p100.2) (d' := 2) dL_law_551 xl_L_53 hq105 (by decide) (Nat.le_trans (xsI xs0) (by decide)) rfl rfl (S_X11_goes n p100.2 a2 v102 v103 v104 hv104) ?_
        refine r_icmp_eq (tgt := 2512) dL_law_554 (by decide) (fun c => ?_) (fun c => ?_)
        · replace h := (if_pos c).symm.trans h
          obtain ⟨v106, hv106, h⟩ := xb h
          refine x_iinc (c := (9 : Int32)) (lv' := [(3, .int v106), (0, va_rf a0), (1, va_rf a1), (2, va_rf a2)]) (x := a3) (v := v106) dL_law_2512 rfl (by decide) (Option.some.inj hv106) (by decide) (congrArg (List.cons _) (xfY rfl (xfY rfl (xfY (xk1 2 3 _) (xfN rfl rfl))))) ?_
          refine r_goto (tgt := 18) dL_law_2515 (by decide) ?_
          exact x_sub [1, 2, 3, 0] rfl (ih p100.2 a0 a1 a2 v106 h)
        · replace h := (if_neg c).symm.trans h
          refine r_iconst (v := (0 : Int32)) dL_law_557 (by decide) ?_
          obtain ⟨v107, hv107, h⟩ := xb h
          refine x_eqI (rz_inv2 hv107).1 ?_
          obtain ⟨rfl, rfl⟩ := Prod.mk.inj (Option.some.inj h)
          exact r_ireturn dL_law_558 .boolean rfl (by rcases (rz_inv2 hv107).2 with e | e <;> rw [e] <;> rfl)
      replace h := (if_neg c8).symm.trans h
      by_cases c9 : (v11 &&& (63 : Int32)) = (9 : Int32)
      · replace h := (if_pos c9).symm.trans h
        refine r_tableIn (off := 526) (tgt := 559) dL_law_33 (by rw [c9]; decide) (by rw [c9]; decide) (by rw [c9]; rfl) (by decide) ?_
        refine x_aload_n (o := a1) dL_law_559 rfl ?_
        refine x_aload_n (o := a0) dL_law_560 rfl ?_
        refine r_iload_n (x := a3) dL_law_561 rfl ?_
        refine r_iconst (v := (1 : Int32)) dL_law_562 (by decide) ?_
        refine r_iadd dL_law_563 ?_
        obtain ⟨v108, hv108, h⟩ := xb h
        refine x_iaload (o := a0) dL_law_564 hv108 ?_
        refine x_aload_n (o := a0) dL_law_565 rfl ?_
        refine r_iload_n (x := a3) dL_law_566 rfl ?_
        refine r_iconst (v := (2 : Int32)) dL_law_567 (by decide) ?_
        refine r_iadd dL_law_568 ?_
        obtain ⟨v109, hv109, h⟩ := xb h
        refine x_iaload (o := a0) dL_law_569 hv109 ?_
        refine x_aload_n (o := a0) dL_law_570 rfl ?_
        refine r_iload_n (x := a3) dL_law_571 rfl ?_
        refine r_iconst (v := (3 : Int32)) dL_law_572 (by decide) ?_
        refine r_iadd dL_law_573 ?_
        obtain ⟨v110, hv110, h⟩ := xb h
        refine x_iaload (o := a0) dL_law_574 hv110 ?_
        refine x_aload_n (o := a0) dL_law_575 rfl ?_
        refine r_iload_n (x := a3) dL_law_576 rfl ?_
        refine r_iconst (v := (4 : Int32)) dL_law_577 (by decide) ?_
        refine r_iadd dL_law_578 ?_
        obtain ⟨v111, hv111, h⟩ := xb h
        refine x_iaload (o := a0) dL_law_579 hv111 ?_
        refine x_aload_n (o := a0) dL_law_580 rfl ?_
        refine r_iload_n (x := a3) dL_law_581 rfl ?_
        refine r_iconst (v := (5 : Int32)) dL_law_582 (by decide) ?_
        refine r_iadd dL_law_583 ?_
        obtain ⟨v112, hv112, h⟩ := xb h
        refine x_iaload (o := a0) dL_law_584 hv112 ?_
        obtain ⟨q114, hq114, h⟩ := xb h
        obtain ⟨p113, hp113, h⟩ := xb h
        refine z_callV (as := [.int v108, .int v109, .int v110, .int v111, .int v112]) (o := a1) (r1 := (some (.int p113.1))) (stk := []) (stk2 := [.int p113.1]) (st1 := p113.2) (d' := 5) dL_law_585 xl_L_54 hq114 (by decide) (Nat.le_trans xs0 (by decide)) rfl rfl (S_X10_worth n st a1 v108 v109 v110 v111 v112 p113.1 p113.2 hp113) ?_
        refine x_aload_n (o := a2) dL_law_588 rfl ?_
        refine x_aload_n (o := a0) dL_law_589 rfl ?_
        refine r_iload_n (x := a3) dL_law_590 rfl ?_
        refine r_iconst (v := (1 : Int32)) dL_law_591 (by decide) ?_
        refine r_iadd dL_law_592 ?_
        obtain ⟨v115, hv115, h⟩ := xb h
        refine x_iaload (o := a0) dL_law_593 hv115 ?_
        refine x_aload_n (o := a0) dL_law_594 rfl ?_
        refine r_iload_n (x := a3) dL_law_595 rfl ?_
        refine r_iconst (v := (2 : Int32)) dL_law_596 (by decide) ?_
        refine r_iadd dL_law_597 ?_
        obtain ⟨v116, hv116, h⟩ := xb h
        refine x_iaload (o := a0) dL_law_598 hv116 ?_
        refine x_aload_n (o := a0) dL_law_599 rfl ?_
        refine r_iload_n (x := a3) dL_law_600 rfl ?_
        refine r_iconst (v := (3 : Int32)) dL_law_601 (by decide) ?_
        refine r_iadd dL_law_602 ?_
        obtain ⟨v117, hv117, h⟩ := xb h
        refine x_iaload (o := a0) dL_law_603 hv117 ?_
        refine x_aload_n (o := a0) dL_law_604 rfl ?_
        refine r_iload_n (x := a3) dL_law_605 rfl ?_
        refine r_iconst (v := (4 : Int32)) dL_law_606 (by decide) ?_
        refine r_iadd dL_law_607 ?_
        obtain ⟨v118, hv118, h⟩ := xb h
        refine x_iaload (o := a0) dL_law_608 hv118 ?_
        refine x_aload_n (o := a0) dL_law_609 rfl ?_
        refine r_iload_n (x := a3) dL_law_610 rfl ?_
        refine r_iconst (v := (5 : Int32)) dL_law_611 (by decide) ?_
        refine r_iadd dL_law_612 ?_
        obtain ⟨v119, hv119, h⟩ := xb h
        refine x_iaload (o := a0) dL_law_613 hv119 ?_
        obtain ⟨q121, hq121, h⟩ := xb h
        obtain ⟨v120, hv120, h⟩ := xb h
        refine z_callV (as := [.int v115, .int v116, .int v117, .int v118, .int v119]) (o := a2) (r1 := (some (.int v120))) (stk := [.int p113.1]) (stk2 := [.int v120, .int p113.1]) (st1 := p113.2) (d' := 8) dL_law_614 xl_L_57 hq121 (by decide) (Nat.le_trans (xsI xs0) (by decide)) rfl rfl (S_X11_worth n p113.2 a2 v115 v116 v117 v118 v119 v120 hv120) ?_
        refine r_icmp_eq (tgt := 2512) dL_law_617 (by decide) (fun c => ?_) (fun c => ?_)
        · replace h := (if_pos c).symm.trans h
          obtain ⟨v122, hv122, h⟩ := xb h
          refine x_iinc (c := (9 : Int32)) (lv' := [(3, .int v122), (0, va_rf a0), (1, va_rf a1), (2, va_rf a2)]) (x := a3) (v := v122) dL_law_2512 rfl (by decide) (Option.some.inj hv122) (by decide) (congrArg (List.cons _) (xfY rfl (xfY rfl (xfY (xk1 2 3 _) (xfN rfl rfl))))) ?_
          refine r_goto (tgt := 18) dL_law_2515 (by decide) ?_
          exact x_sub [1, 2, 3, 0] rfl (ih p113.2 a0 a1 a2 v122 h)
        · replace h := (if_neg c).symm.trans h
          refine r_iconst (v := (0 : Int32)) dL_law_620 (by decide) ?_
          obtain ⟨v123, hv123, h⟩ := xb h
          refine x_eqI (rz_inv2 hv123).1 ?_
          obtain ⟨rfl, rfl⟩ := Prod.mk.inj (Option.some.inj h)
          exact r_ireturn dL_law_621 .boolean rfl (by rcases (rz_inv2 hv123).2 with e | e <;> rw [e] <;> rfl)
      replace h := (if_neg c9).symm.trans h
      by_cases c10 : (v11 &&& (63 : Int32)) = (10 : Int32)
      · replace h := (if_pos c10).symm.trans h
        refine r_tableIn (off := 589) (tgt := 622) dL_law_33 (by rw [c10]; decide) (by rw [c10]; decide) (by rw [c10]; rfl) (by decide) ?_
        refine x_aload_n (o := a1) dL_law_622 rfl ?_
        refine x_aload_n (o := a0) dL_law_623 rfl ?_
        refine r_iload_n (x := a3) dL_law_624 rfl ?_
        refine r_iconst (v := (1 : Int32)) dL_law_625 (by decide) ?_
        refine r_iadd dL_law_626 ?_
        obtain ⟨v124, hv124, h⟩ := xb h
        refine x_iaload (o := a0) dL_law_627 hv124 ?_
        refine x_aload_n (o := a0) dL_law_628 rfl ?_
        refine r_iload_n (x := a3) dL_law_629 rfl ?_
        refine r_iconst (v := (2 : Int32)) dL_law_630 (by decide) ?_
        refine r_iadd dL_law_631 ?_
        obtain ⟨v125, hv125, h⟩ := xb h
        refine x_iaload (o := a0) dL_law_632 hv125 ?_
        refine x_aload_n (o := a0) dL_law_633 rfl ?_
        refine r_iload_n (x := a3) dL_law_634 rfl ?_
        refine r_iconst (v := (3 : Int32)) dL_law_635 (by decide) ?_
        refine r_iadd dL_law_636 ?_
        obtain ⟨v126, hv126, h⟩ := xb h
        refine x_iaload (o := a0) dL_law_637 hv126 ?_
        refine x_aload_n (o := a0) dL_law_638 rfl ?_
        refine r_iload_n (x := a3) dL_law_639 rfl ?_
        refine r_iconst (v := (4 : Int32)) dL_law_640 (by decide) ?_
        refine r_iadd dL_law_641 ?_
        obtain ⟨v127, hv127, h⟩ := xb h
        refine x_iaload (o := a0) dL_law_642 hv127 ?_
        refine x_aload_n (o := a0) dL_law_643 rfl ?_
        refine r_iload_n (x := a3) dL_law_644 rfl ?_
        refine r_iconst (v := (5 : Int32)) dL_law_645 (by decide) ?_
        refine r_iadd dL_law_646 ?_
        obtain ⟨v128, hv128, h⟩ := xb h
        refine x_iaload (o := a0) dL_law_647 hv128 ?_
        obtain ⟨q130, hq130, h⟩ := xb h
        obtain ⟨p129, hp129, h⟩ := xb h
        refine z_callV (as := [.int v124, .int v125, .int v126, .int v127, .int v128]) (o := a1) (r1 := (some (.long p129.1))) (stk := []) (stk2 := [.long p129.1]) (st1 := p129.2) (d' := 5) dL_law_648 xl_L_58 hq130 (by decide) (Nat.le_trans xs0 (by decide)) rfl rfl (S_X10_chance n st a1 v124 v125 v126 v127 v128 p129.1 p129.2 hp129) ?_
        refine x_aload_n (o := a2) dL_law_651 rfl ?_
        refine x_aload_n (o := a0) dL_law_652 rfl ?_
        refine r_iload_n (x := a3) dL_law_653 rfl ?_
        refine r_iconst (v := (1 : Int32)) dL_law_654 (by decide) ?_
        refine r_iadd dL_law_655 ?_
        obtain ⟨v131, hv131, h⟩ := xb h
        refine x_iaload (o := a0) dL_law_656 hv131 ?_
        refine x_aload_n (o := a0) dL_law_657 rfl ?_
        refine r_iload_n (x := a3) dL_law_658 rfl ?_
        refine r_iconst (v := (2 : Int32)) dL_law_659 (by decide) ?_
        refine r_iadd dL_law_660 ?_
        obtain ⟨v132, hv132, h⟩ := xb h
        refine x_iaload (o := a0) dL_law_661 hv132 ?_
        refine x_aload_n (o := a0) dL_law_662 rfl ?_
        refine r_iload_n (x := a3) dL_law_663 rfl ?_
        refine r_iconst (v := (3 : Int32)) dL_law_664 (by decide) ?_
        refine r_iadd dL_law_665 ?_
        obtain ⟨v133, hv133, h⟩ := xb h
        refine x_iaload (o := a0) dL_law_666 hv133 ?_
        refine x_aload_n (o := a0) dL_law_667 rfl ?_
        refine r_iload_n (x := a3) dL_law_668 rfl ?_
        refine r_iconst (v := (4 : Int32)) dL_law_669 (by decide) ?_
        refine r_iadd dL_law_670 ?_
        obtain ⟨v134, hv134, h⟩ := xb h
        refine x_iaload (o := a0) dL_law_671 hv134 ?_
        refine x_aload_n (o := a0) dL_law_672 rfl ?_
        refine r_iload_n (x := a3) dL_law_673 rfl ?_
        refine r_iconst (v := (5 : Int32)) dL_law_674 (by decide) ?_
        refine r_iadd dL_law_675 ?_
        obtain ⟨v135, hv135, h⟩ := xb h
        refine x_iaload (o := a0) dL_law_676 hv135 ?_
        obtain ⟨q137, hq137, h⟩ := xb h
        obtain ⟨v136, hv136, h⟩ := xb h
        refine z_callV (as := [.int v131, .int v132, .int v133, .int v134, .int v135]) (o := a2) (r1 := (some (.long v136))) (stk := [.long p129.1]) (stk2 := [.long v136, .long p129.1]) (st1 := p129.2) (d' := 10) dL_law_677 xl_L_62 hq137 (by decide) (Nat.le_trans (xsJ xs0) (by decide)) rfl rfl (S_X11_chance n p129.2 a2 v131 v132 v133 v134 v135 v136 hv136) ?_
        refine r_lcmp dL_law_680 ?_
        refine r_if_eq (tgt := 2512) dL_law_681 (by decide) (fun c => ?_) (fun c => ?_)
        · replace h := (if_pos c).symm.trans h
          obtain ⟨v138, hv138, h⟩ := xb h
          refine x_iinc (c := (9 : Int32)) (lv' := [(3, .int v138), (0, va_rf a0), (1, va_rf a1), (2, va_rf a2)]) (x := a3) (v := v138) dL_law_2512 rfl (by decide) (Option.some.inj hv138) (by decide) (congrArg (List.cons _) (xfY rfl (xfY rfl (xfY (xk1 2 3 _) (xfN rfl rfl))))) ?_
          refine r_goto (tgt := 18) dL_law_2515 (by decide) ?_
          exact x_sub [1, 2, 3, 0] rfl (ih p129.2 a0 a1 a2 v138 h)
        · replace h := (if_neg c).symm.trans h
          refine r_iconst (v := (0 : Int32)) dL_law_684 (by decide) ?_
          obtain ⟨v139, hv139, h⟩ := xb h
          refine x_eqI (rz_inv2 hv139).1 ?_
          obtain ⟨rfl, rfl⟩ := Prod.mk.inj (Option.some.inj h)
          exact r_ireturn dL_law_685 .boolean rfl (by rcases (rz_inv2 hv139).2 with e | e <;> rw [e] <;> rfl)
      replace h := (if_neg c10).symm.trans h
      by_cases c11 : (v11 &&& (63 : Int32)) = (11 : Int32)
      · replace h := (if_pos c11).symm.trans h
        refine r_tableIn (off := 653) (tgt := 686) dL_law_33 (by rw [c11]; decide) (by rw [c11]; decide) (by rw [c11]; rfl) (by decide) ?_
        refine x_aload_n (o := a1) dL_law_686 rfl ?_
        refine x_aload_n (o := a0) dL_law_687 rfl ?_
        refine r_iload_n (x := a3) dL_law_688 rfl ?_
        refine r_iconst (v := (1 : Int32)) dL_law_689 (by decide) ?_
        refine r_iadd dL_law_690 ?_
        obtain ⟨v140, hv140, h⟩ := xb h
        refine x_iaload (o := a0) dL_law_691 hv140 ?_
        refine x_aload_n (o := a0) dL_law_692 rfl ?_
        refine r_iload_n (x := a3) dL_law_693 rfl ?_
        refine r_iconst (v := (2 : Int32)) dL_law_694 (by decide) ?_
        refine r_iadd dL_law_695 ?_
        obtain ⟨v141, hv141, h⟩ := xb h
        refine x_iaload (o := a0) dL_law_696 hv141 ?_
        refine x_aload_n (o := a0) dL_law_697 rfl ?_
        refine r_iload_n (x := a3) dL_law_698 rfl ?_
        refine r_iconst (v := (3 : Int32)) dL_law_699 (by decide) ?_
        refine r_iadd dL_law_700 ?_
        obtain ⟨v142, hv142, h⟩ := xb h
        refine x_iaload (o := a0) dL_law_701 hv142 ?_
        refine x_aload_n (o := a0) dL_law_702 rfl ?_
        refine r_iload_n (x := a3) dL_law_703 rfl ?_
        refine r_iconst (v := (4 : Int32)) dL_law_704 (by decide) ?_
        refine r_iadd dL_law_705 ?_
        obtain ⟨v143, hv143, h⟩ := xb h
        refine x_iaload (o := a0) dL_law_706 hv143 ?_
        refine x_aload_n (o := a0) dL_law_707 rfl ?_
        refine r_iload_n (x := a3) dL_law_708 rfl ?_
        refine r_iconst (v := (5 : Int32)) dL_law_709 (by decide) ?_
        refine r_iadd dL_law_710 ?_
        obtain ⟨v144, hv144, h⟩ := xb h
        refine x_iaload (o := a0) dL_law_711 hv144 ?_
        obtain ⟨q146, hq146, h⟩ := xb h
        obtain ⟨p145, hp145, h⟩ := xb h
        refine z_callV (as := [.int v140, .int v141, .int v142, .int v143, .int v144]) (o := a1) (r1 := (some (.int p145.1))) (stk := []) (stk2 := [.int p145.1]) (st1 := p145.2) (d' := 5) dL_law_712 xl_L_63 hq146 (by decide) (Nat.le_trans xs0 (by decide)) rfl rfl (S_X10_play n st a1 v140 v141 v142 v143 v144 p145.1 p145.2 hp145) ?_
        refine x_aload_n (o := a2) dL_law_715 rfl ?_
        refine x_aload_n (o := a0) dL_law_716 rfl ?_
        refine r_iload_n (x := a3) dL_law_717 rfl ?_
        refine r_iconst (v := (1 : Int32)) dL_law_718 (by decide) ?_
        refine r_iadd dL_law_719 ?_
        obtain ⟨v147, hv147, h⟩ := xb h
        refine x_iaload (o := a0) dL_law_720 hv147 ?_
        refine x_aload_n (o := a0) dL_law_721 rfl ?_
        refine r_iload_n (x := a3) dL_law_722 rfl ?_
        refine r_iconst (v := (2 : Int32)) dL_law_723 (by decide) ?_
        refine r_iadd dL_law_724 ?_
        obtain ⟨v148, hv148, h⟩ := xb h
        refine x_iaload (o := a0) dL_law_725 hv148 ?_
        refine x_aload_n (o := a0) dL_law_726 rfl ?_
        refine r_iload_n (x := a3) dL_law_727 rfl ?_
        refine r_iconst (v := (3 : Int32)) dL_law_728 (by decide) ?_
        refine r_iadd dL_law_729 ?_
        obtain ⟨v149, hv149, h⟩ := xb h
        refine x_iaload (o := a0) dL_law_730 hv149 ?_
        refine x_aload_n (o := a0) dL_law_731 rfl ?_
        refine r_iload_n (x := a3) dL_law_732 rfl ?_
        refine r_iconst (v := (4 : Int32)) dL_law_733 (by decide) ?_
        refine r_iadd dL_law_734 ?_
        obtain ⟨v150, hv150, h⟩ := xb h
        refine x_iaload (o := a0) dL_law_735 hv150 ?_
        refine x_aload_n (o := a0) dL_law_736 rfl ?_
        refine r_iload_n (x := a3) dL_law_737 rfl ?_
        refine r_iconst (v := (5 : Int32)) dL_law_738 (by decide) ?_
        refine r_iadd dL_law_739 ?_
        obtain ⟨v151, hv151, h⟩ := xb h
        refine x_iaload (o := a0) dL_law_740 hv151 ?_
        obtain ⟨q153, hq153, h⟩ := xb h
        obtain ⟨p152, hp152, h⟩ := xb h
        refine z_callV (as := [.int v147, .int v148, .int v149, .int v150, .int v151]) (o := a2) (r1 := (some (.int p152.1))) (stk := [.int p145.1]) (stk2 := [.int p152.1, .int p145.1]) (st1 := p152.2) (d' := 8) dL_law_741 xl_L_66 hq153 (by decide) (Nat.le_trans (xsI xs0) (by decide)) rfl rfl (S_X11_play n p145.2 a2 v147 v148 v149 v150 v151 p152.1 p152.2 hp152) ?_
        refine r_icmp_eq (tgt := 2512) dL_law_744 (by decide) (fun c => ?_) (fun c => ?_)
        · replace h := (if_pos c).symm.trans h
          obtain ⟨v154, hv154, h⟩ := xb h
          refine x_iinc (c := (9 : Int32)) (lv' := [(3, .int v154), (0, va_rf a0), (1, va_rf a1), (2, va_rf a2)]) (x := a3) (v := v154) dL_law_2512 rfl (by decide) (Option.some.inj hv154) (by decide) (congrArg (List.cons _) (xfY rfl (xfY rfl (xfY (xk1 2 3 _) (xfN rfl rfl))))) ?_
          refine r_goto (tgt := 18) dL_law_2515 (by decide) ?_
          exact x_sub [1, 2, 3, 0] rfl (ih p152.2 a0 a1 a2 v154 h)
        · replace h := (if_neg c).symm.trans h
          refine r_iconst (v := (0 : Int32)) dL_law_747 (by decide) ?_
          obtain ⟨v155, hv155, h⟩ := xb h
          refine x_eqI (rz_inv2 hv155).1 ?_
          obtain ⟨rfl, rfl⟩ := Prod.mk.inj (Option.some.inj h)
          exact r_ireturn dL_law_748 .boolean rfl (by rcases (rz_inv2 hv155).2 with e | e <;> rw [e] <;> rfl)
      replace h := (if_neg c11).symm.trans h
      by_cases c12 : (v11 &&& (63 : Int32)) = (12 : Int32)
      · replace h := (if_pos c12).symm.trans h
        refine r_tableIn (off := 716) (tgt := 749) dL_law_33 (by rw [c12]; decide) (by rw [c12]; decide) (by rw [c12]; rfl) (by decide) ?_
        refine x_aload_n (o := a1) dL_law_749 rfl ?_
        refine x_aload_n (o := a0) dL_law_750 rfl ?_
        refine r_iload_n (x := a3) dL_law_751 rfl ?_
        refine r_iconst (v := (1 : Int32)) dL_law_752 (by decide) ?_
        refine r_iadd dL_law_753 ?_
        obtain ⟨v156, hv156, h⟩ := xb h
        refine x_iaload (o := a0) dL_law_754 hv156 ?_
        refine x_aload_n (o := a0) dL_law_755 rfl ?_
        refine r_iload_n (x := a3) dL_law_756 rfl ?_
        refine r_iconst (v := (2 : Int32)) dL_law_757 (by decide) ?_
        refine r_iadd dL_law_758 ?_
        obtain ⟨v157, hv157, h⟩ := xb h
        refine x_iaload (o := a0) dL_law_759 hv157 ?_
        refine x_aload_n (o := a0) dL_law_760 rfl ?_
        refine r_iload_n (x := a3) dL_law_761 rfl ?_
        refine r_iconst (v := (3 : Int32)) dL_law_762 (by decide) ?_
        refine r_iadd dL_law_763 ?_
        obtain ⟨v158, hv158, h⟩ := xb h
        refine x_iaload (o := a0) dL_law_764 hv158 ?_
        refine x_aload_n (o := a0) dL_law_765 rfl ?_
        refine r_iload_n (x := a3) dL_law_766 rfl ?_
        refine r_iconst (v := (4 : Int32)) dL_law_767 (by decide) ?_
        refine r_iadd dL_law_768 ?_
        obtain ⟨v159, hv159, h⟩ := xb h
        refine x_iaload (o := a0) dL_law_769 hv159 ?_
        refine x_aload_n (o := a0) dL_law_770 rfl ?_
        refine r_iload_n (x := a3) dL_law_771 rfl ?_
        refine r_iconst (v := (5 : Int32)) dL_law_772 (by decide) ?_
        refine r_iadd dL_law_773 ?_
        obtain ⟨v160, hv160, h⟩ := xb h
        refine x_iaload (o := a0) dL_law_774 hv160 ?_
        refine x_aload_n (o := a0) dL_law_775 rfl ?_
        refine r_iload_n (x := a3) dL_law_776 rfl ?_
        refine r_bipush (v := (6 : Int32)) dL_law_777 (by decide) ?_
        refine r_iadd dL_law_779 ?_
        obtain ⟨v161, hv161, h⟩ := xb h
        refine x_iaload (o := a0) dL_law_780 hv161 ?_
        refine x_aload_n (o := a0) dL_law_781 rfl ?_
        refine r_iload_n (x := a3) dL_law_782 rfl ?_
        refine r_bipush (v := (7 : Int32)) dL_law_783 (by decide) ?_
        refine r_iadd dL_law_785 ?_
        obtain ⟨v162, hv162, h⟩ := xb h
        refine x_iaload (o := a0) dL_law_786 hv162 ?_
        refine x_aload_n (o := a0) dL_law_787 rfl ?_
        refine r_iload_n (x := a3) dL_law_788 rfl ?_
        refine r_bipush (v := (8 : Int32)) dL_law_789 (by decide) ?_
        refine r_iadd dL_law_791 ?_
        obtain ⟨v163, hv163, h⟩ := xb h
        refine x_iaload (o := a0) dL_law_792 hv163 ?_
        obtain ⟨q165, hq165, h⟩ := xb h
        obtain ⟨p164, hp164, h⟩ := xb h
        refine z_callV (as := [.int v156, .int v157, .int v158, .int v159, .int v160, .int v161, .int v162, .int v163]) (o := a1) (r1 := (some (.int p164.1))) (stk := []) (stk2 := [.int p164.1]) (st1 := p164.2) (d' := 3) dL_law_793 xl_L_67 hq165 (by decide) (Nat.le_trans xs0 (by decide)) rfl rfl (S_X10_note n st a1 v156 v157 v158 v159 v160 v161 v162 v163 p164.1 p164.2 hp164) ?_
        refine x_aload_n (o := a2) dL_law_796 rfl ?_
        refine x_aload_n (o := a0) dL_law_797 rfl ?_
        refine r_iload_n (x := a3) dL_law_798 rfl ?_
        refine r_iconst (v := (1 : Int32)) dL_law_799 (by decide) ?_
        refine r_iadd dL_law_800 ?_
        obtain ⟨v166, hv166, h⟩ := xb h
        refine x_iaload (o := a0) dL_law_801 hv166 ?_
        refine x_aload_n (o := a0) dL_law_802 rfl ?_
        refine r_iload_n (x := a3) dL_law_803 rfl ?_
        refine r_iconst (v := (2 : Int32)) dL_law_804 (by decide) ?_
        refine r_iadd dL_law_805 ?_
        obtain ⟨v167, hv167, h⟩ := xb h
        refine x_iaload (o := a0) dL_law_806 hv167 ?_
        refine x_aload_n (o := a0) dL_law_807 rfl ?_
        refine r_iload_n (x := a3) dL_law_808 rfl ?_
        refine r_iconst (v := (3 : Int32)) dL_law_809 (by decide) ?_
        refine r_iadd dL_law_810 ?_
        obtain ⟨v168, hv168, h⟩ := xb h
        refine x_iaload (o := a0) dL_law_811 hv168 ?_
        refine x_aload_n (o := a0) dL_law_812 rfl ?_
        refine r_iload_n (x := a3) dL_law_813 rfl ?_
        refine r_iconst (v := (4 : Int32)) dL_law_814 (by decide) ?_
        refine r_iadd dL_law_815 ?_
        obtain ⟨v169, hv169, h⟩ := xb h
        refine x_iaload (o := a0) dL_law_816 hv169 ?_
        refine x_aload_n (o := a0) dL_law_817 rfl ?_
        refine r_iload_n (x := a3) dL_law_818 rfl ?_
        refine r_iconst (v := (5 : Int32)) dL_law_819 (by decide) ?_
        refine r_iadd dL_law_820 ?_
        obtain ⟨v170, hv170, h⟩ := xb h
        refine x_iaload (o := a0) dL_law_821 hv170 ?_
        refine x_aload_n (o := a0) dL_law_822 rfl ?_
        refine r_iload_n (x := a3) dL_law_823 rfl ?_
        refine r_bipush (v := (6 : Int32)) dL_law_824 (by decide) ?_
        refine r_iadd dL_law_826 ?_
        obtain ⟨v171, hv171, h⟩ := xb h
        refine x_iaload (o := a0) dL_law_827 hv171 ?_
        refine x_aload_n (o := a0) dL_law_828 rfl ?_
        refine r_iload_n (x := a3) dL_law_829 rfl ?_
        refine r_bipush (v := (7 : Int32)) dL_law_830 (by decide) ?_
        refine r_iadd dL_law_832 ?_
        obtain ⟨v172, hv172, h⟩ := xb h
        refine x_iaload (o := a0) dL_law_833 hv172 ?_
        refine x_aload_n (o := a0) dL_law_834 rfl ?_
        refine r_iload_n (x := a3) dL_law_835 rfl ?_
        refine r_bipush (v := (8 : Int32)) dL_law_836 (by decide) ?_
        refine r_iadd dL_law_838 ?_
        obtain ⟨v173, hv173, h⟩ := xb h
        refine x_iaload (o := a0) dL_law_839 hv173 ?_
        obtain ⟨q175, hq175, h⟩ := xb h
        obtain ⟨p174, hp174, h⟩ := xb h
        refine z_callV (as := [.int v166, .int v167, .int v168, .int v169, .int v170, .int v171, .int v172, .int v173]) (o := a2) (r1 := (some (.int p174.1))) (stk := [.int p164.1]) (stk2 := [.int p174.1, .int p164.1]) (st1 := p174.2) (d' := 1) dL_law_840 xl_L_71 hq175 (by decide) (Nat.le_trans (xsI xs0) (by decide)) rfl rfl (S_X11_note n p164.2 a2 v166 v167 v168 v169 v170 v171 v172 v173 p174.1 p174.2 hp174) ?_
        refine r_icmp_eq (tgt := 2512) dL_law_843 (by decide) (fun c => ?_) (fun c => ?_)
        · replace h := (if_pos c).symm.trans h
          obtain ⟨v176, hv176, h⟩ := xb h
          refine x_iinc (c := (9 : Int32)) (lv' := [(3, .int v176), (0, va_rf a0), (1, va_rf a1), (2, va_rf a2)]) (x := a3) (v := v176) dL_law_2512 rfl (by decide) (Option.some.inj hv176) (by decide) (congrArg (List.cons _) (xfY rfl (xfY rfl (xfY (xk1 2 3 _) (xfN rfl rfl))))) ?_
          refine r_goto (tgt := 18) dL_law_2515 (by decide) ?_
          exact x_sub [1, 2, 3, 0] rfl (ih p174.2 a0 a1 a2 v176 h)
        · replace h := (if_neg c).symm.trans h
          refine r_iconst (v := (0 : Int32)) dL_law_846 (by decide) ?_
          obtain ⟨v177, hv177, h⟩ := xb h
          refine x_eqI (rz_inv2 hv177).1 ?_
          obtain ⟨rfl, rfl⟩ := Prod.mk.inj (Option.some.inj h)
          exact r_ireturn dL_law_847 .boolean rfl (by rcases (rz_inv2 hv177).2 with e | e <;> rw [e] <;> rfl)
      replace h := (if_neg c12).symm.trans h
      by_cases c13 : (v11 &&& (63 : Int32)) = (13 : Int32)
      · replace h := (if_pos c13).symm.trans h
        refine r_tableIn (off := 815) (tgt := 848) dL_law_33 (by rw [c13]; decide) (by rw [c13]; decide) (by rw [c13]; rfl) (by decide) ?_
        refine x_aload_n (o := a1) dL_law_848 rfl ?_
        refine x_aload_n (o := a0) dL_law_849 rfl ?_
        refine r_iload_n (x := a3) dL_law_850 rfl ?_
        refine r_iconst (v := (1 : Int32)) dL_law_851 (by decide) ?_
        refine r_iadd dL_law_852 ?_
        obtain ⟨v178, hv178, h⟩ := xb h
        refine x_iaload (o := a0) dL_law_853 hv178 ?_
        refine x_aload_n (o := a0) dL_law_854 rfl ?_
        refine r_iload_n (x := a3) dL_law_855 rfl ?_
        refine r_iconst (v := (2 : Int32)) dL_law_856 (by decide) ?_
        refine r_iadd dL_law_857 ?_
        obtain ⟨v179, hv179, h⟩ := xb h
        refine x_iaload (o := a0) dL_law_858 hv179 ?_
        obtain ⟨q181, hq181, h⟩ := xb h
        obtain ⟨v180, hv180, h⟩ := xb h
        refine z_callV (as := [.int v178, .int v179]) (o := a1) (r1 := (some (.int v180))) (stk := []) (stk2 := [.int v180]) (st1 := st) (d' := 2) dL_law_859 xl_L_72 hq181 (by decide) (Nat.le_trans xs0 (by decide)) rfl rfl (S_X10_noted n st a1 v178 v179 v180 hv180) ?_
        refine x_aload_n (o := a2) dL_law_862 rfl ?_
        refine x_aload_n (o := a0) dL_law_863 rfl ?_
        refine r_iload_n (x := a3) dL_law_864 rfl ?_
        refine r_iconst (v := (1 : Int32)) dL_law_865 (by decide) ?_
        refine r_iadd dL_law_866 ?_
        obtain ⟨v182, hv182, h⟩ := xb h
        refine x_iaload (o := a0) dL_law_867 hv182 ?_
        refine x_aload_n (o := a0) dL_law_868 rfl ?_
        refine r_iload_n (x := a3) dL_law_869 rfl ?_
        refine r_iconst (v := (2 : Int32)) dL_law_870 (by decide) ?_
        refine r_iadd dL_law_871 ?_
        obtain ⟨v183, hv183, h⟩ := xb h
        refine x_iaload (o := a0) dL_law_872 hv183 ?_
        obtain ⟨q185, hq185, h⟩ := xb h
        obtain ⟨v184, hv184, h⟩ := xb h
        refine z_callV (as := [.int v182, .int v183]) (o := a2) (r1 := (some (.int v184))) (stk := [.int v180]) (stk2 := [.int v184, .int v180]) (st1 := st) (d' := 1) dL_law_873 xl_L_75 hq185 (by decide) (Nat.le_trans (xsI xs0) (by decide)) rfl rfl (S_X11_noted n st a2 v182 v183 v184 hv184) ?_
        refine r_icmp_eq (tgt := 2512) dL_law_876 (by decide) (fun c => ?_) (fun c => ?_)
        · replace h := (if_pos c).symm.trans h
          obtain ⟨v186, hv186, h⟩ := xb h
          refine x_iinc (c := (9 : Int32)) (lv' := [(3, .int v186), (0, va_rf a0), (1, va_rf a1), (2, va_rf a2)]) (x := a3) (v := v186) dL_law_2512 rfl (by decide) (Option.some.inj hv186) (by decide) (congrArg (List.cons _) (xfY rfl (xfY rfl (xfY (xk1 2 3 _) (xfN rfl rfl))))) ?_
          refine r_goto (tgt := 18) dL_law_2515 (by decide) ?_
          exact x_sub [1, 2, 3, 0] rfl (ih st a0 a1 a2 v186 h)
        · replace h := (if_neg c).symm.trans h
          refine r_iconst (v := (0 : Int32)) dL_law_879 (by decide) ?_
          obtain ⟨v187, hv187, h⟩ := xb h
          refine x_eqI (rz_inv2 hv187).1 ?_
          obtain ⟨rfl, rfl⟩ := Prod.mk.inj (Option.some.inj h)
          exact r_ireturn dL_law_880 .boolean rfl (by rcases (rz_inv2 hv187).2 with e | e <;> rw [e] <;> rfl)
      replace h := (if_neg c13).symm.trans h
      by_cases c14 : (v11 &&& (63 : Int32)) = (14 : Int32)
      · replace h := (if_pos c14).symm.trans h
        refine r_tableIn (off := 848) (tgt := 881) dL_law_33 (by rw [c14]; decide) (by rw [c14]; decide) (by rw [c14]; rfl) (by decide) ?_
        refine x_aload_n (o := a1) dL_law_881 rfl ?_
        refine x_aload_n (o := a0) dL_law_882 rfl ?_
        refine r_iload_n (x := a3) dL_law_883 rfl ?_
        refine r_iconst (v := (1 : Int32)) dL_law_884 (by decide) ?_
        refine r_iadd dL_law_885 ?_
        obtain ⟨v188, hv188, h⟩ := xb h
        refine x_iaload (o := a0) dL_law_886 hv188 ?_
        refine x_aload_n (o := a0) dL_law_887 rfl ?_
        refine r_iload_n (x := a3) dL_law_888 rfl ?_
        refine r_iconst (v := (2 : Int32)) dL_law_889 (by decide) ?_
        refine r_iadd dL_law_890 ?_
        obtain ⟨v189, hv189, h⟩ := xb h
        refine x_iaload (o := a0) dL_law_891 hv189 ?_
        refine x_aload_n (o := a0) dL_law_892 rfl ?_
        refine r_iload_n (x := a3) dL_law_893 rfl ?_
        refine r_iconst (v := (3 : Int32)) dL_law_894 (by decide) ?_
        refine r_iadd dL_law_895 ?_
        obtain ⟨v190, hv190, h⟩ := xb h
        refine x_iaload (o := a0) dL_law_896 hv190 ?_
        obtain ⟨q192, hq192, h⟩ := xb h
        obtain ⟨p191, hp191, h⟩ := xb h
        refine z_callV (as := [.int v188, .int v189, .int v190]) (o := a1) (r1 := (some (.int p191.1))) (stk := []) (stk2 := [.int p191.1]) (st1 := p191.2) (d' := 5) dL_law_897 xl_L_76 hq192 (by decide) (Nat.le_trans xs0 (by decide)) rfl rfl (S_X10_sum n st a1 v188 v189 v190 p191.1 p191.2 hp191) ?_
        refine x_aload_n (o := a2) dL_law_900 rfl ?_
        refine x_aload_n (o := a0) dL_law_901 rfl ?_
        refine r_iload_n (x := a3) dL_law_902 rfl ?_
        refine r_iconst (v := (1 : Int32)) dL_law_903 (by decide) ?_
        refine r_iadd dL_law_904 ?_
        obtain ⟨v193, hv193, h⟩ := xb h
        refine x_iaload (o := a0) dL_law_905 hv193 ?_
        refine x_aload_n (o := a0) dL_law_906 rfl ?_
        refine r_iload_n (x := a3) dL_law_907 rfl ?_
        refine r_iconst (v := (2 : Int32)) dL_law_908 (by decide) ?_
        refine r_iadd dL_law_909 ?_
        obtain ⟨v194, hv194, h⟩ := xb h
        refine x_iaload (o := a0) dL_law_910 hv194 ?_
        refine x_aload_n (o := a0) dL_law_911 rfl ?_
        refine r_iload_n (x := a3) dL_law_912 rfl ?_
        refine r_iconst (v := (3 : Int32)) dL_law_913 (by decide) ?_
        refine r_iadd dL_law_914 ?_
        obtain ⟨v195, hv195, h⟩ := xb h
        refine x_iaload (o := a0) dL_law_915 hv195 ?_
        obtain ⟨q197, hq197, h⟩ := xb h
        obtain ⟨v196, hv196, h⟩ := xb h
        refine z_callV (as := [.int v193, .int v194, .int v195]) (o := a2) (r1 := (some (.int v196))) (stk := [.int p191.1]) (stk2 := [.int v196, .int p191.1]) (st1 := p191.2) (d' := 2) dL_law_916 xl_L_79 hq197 (by decide) (Nat.le_trans (xsI xs0) (by decide)) rfl rfl (S_X11_sum n p191.2 a2 v193 v194 v195 v196 hv196) ?_
        refine r_icmp_eq (tgt := 2512) dL_law_919 (by decide) (fun c => ?_) (fun c => ?_)
        · replace h := (if_pos c).symm.trans h
          obtain ⟨v198, hv198, h⟩ := xb h
          refine x_iinc (c := (9 : Int32)) (lv' := [(3, .int v198), (0, va_rf a0), (1, va_rf a1), (2, va_rf a2)]) (x := a3) (v := v198) dL_law_2512 rfl (by decide) (Option.some.inj hv198) (by decide) (congrArg (List.cons _) (xfY rfl (xfY rfl (xfY (xk1 2 3 _) (xfN rfl rfl))))) ?_
          refine r_goto (tgt := 18) dL_law_2515 (by decide) ?_
          exact x_sub [1, 2, 3, 0] rfl (ih p191.2 a0 a1 a2 v198 h)
        · replace h := (if_neg c).symm.trans h
          refine r_iconst (v := (0 : Int32)) dL_law_922 (by decide) ?_
          obtain ⟨v199, hv199, h⟩ := xb h
          refine x_eqI (rz_inv2 hv199).1 ?_
          obtain ⟨rfl, rfl⟩ := Prod.mk.inj (Option.some.inj h)
          exact r_ireturn dL_law_923 .boolean rfl (by rcases (rz_inv2 hv199).2 with e | e <;> rw [e] <;> rfl)
      replace h := (if_neg c14).symm.trans h
      by_cases c15 : (v11 &&& (63 : Int32)) = (15 : Int32)
      · replace h := (if_pos c15).symm.trans h
        refine r_tableIn (off := 891) (tgt := 924) dL_law_33 (by rw [c15]; decide) (by rw [c15]; decide) (by rw [c15]; rfl) (by decide) ?_
        refine x_aload_n (o := a1) dL_law_924 rfl ?_
        refine x_aload_n (o := a0) dL_law_925 rfl ?_
        refine r_iload_n (x := a3) dL_law_926 rfl ?_
        refine r_iconst (v := (1 : Int32)) dL_law_927 (by decide) ?_
        refine r_iadd dL_law_928 ?_
        obtain ⟨v200, hv200, h⟩ := xb h
        refine x_iaload (o := a0) dL_law_929 hv200 ?_
        refine x_aload_n (o := a0) dL_law_930 rfl ?_
        refine r_iload_n (x := a3) dL_law_931 rfl ?_
        refine r_iconst (v := (2 : Int32)) dL_law_932 (by decide) ?_
        refine r_iadd dL_law_933 ?_
        obtain ⟨v201, hv201, h⟩ := xb h
        refine x_iaload (o := a0) dL_law_934 hv201 ?_
        refine x_aload_n (o := a0) dL_law_935 rfl ?_
        refine r_iload_n (x := a3) dL_law_936 rfl ?_
        refine r_iconst (v := (3 : Int32)) dL_law_937 (by decide) ?_
        refine r_iadd dL_law_938 ?_
        obtain ⟨v202, hv202, h⟩ := xb h
        refine x_iaload (o := a0) dL_law_939 hv202 ?_
        obtain ⟨q204, hq204, h⟩ := xb h
        obtain ⟨p203, hp203, h⟩ := xb h
        refine z_callV (as := [.int v200, .int v201, .int v202]) (o := a1) (r1 := (some (.int p203.1))) (stk := []) (stk2 := [.int p203.1]) (st1 := p203.2) (d' := 4) dL_law_940 xl_L_80 hq204 (by decide) (Nat.le_trans xs0 (by decide)) rfl rfl (S_X10_table n st a1 v200 v201 v202 p203.1 p203.2 hp203) ?_
        refine x_aload_n (o := a2) dL_law_943 rfl ?_
        refine x_aload_n (o := a0) dL_law_944 rfl ?_
        refine r_iload_n (x := a3) dL_law_945 rfl ?_
        refine r_iconst (v := (1 : Int32)) dL_law_946 (by decide) ?_
        refine r_iadd dL_law_947 ?_
        obtain ⟨v205, hv205, h⟩ := xb h
        refine x_iaload (o := a0) dL_law_948 hv205 ?_
        refine x_aload_n (o := a0) dL_law_949 rfl ?_
        refine r_iload_n (x := a3) dL_law_950 rfl ?_
        refine r_iconst (v := (2 : Int32)) dL_law_951 (by decide) ?_
        refine r_iadd dL_law_952 ?_
        obtain ⟨v206, hv206, h⟩ := xb h
        refine x_iaload (o := a0) dL_law_953 hv206 ?_
        refine x_aload_n (o := a0) dL_law_954 rfl ?_
        refine r_iload_n (x := a3) dL_law_955 rfl ?_
        refine r_iconst (v := (3 : Int32)) dL_law_956 (by decide) ?_
        refine r_iadd dL_law_957 ?_
        obtain ⟨v207, hv207, h⟩ := xb h
        refine x_iaload (o := a0) dL_law_958 hv207 ?_
        obtain ⟨q209, hq209, h⟩ := xb h
        obtain ⟨v208, hv208, h⟩ := xb h
        refine z_callV (as := [.int v205, .int v206, .int v207]) (o := a2) (r1 := (some (.int v208))) (stk := [.int p203.1]) (stk2 := [.int v208, .int p203.1]) (st1 := p203.2) (d' := 4) dL_law_959 xl_L_83 hq209 (by decide) (Nat.le_trans (xsI xs0) (by decide)) rfl rfl (S_X11_table n p203.2 a2 v205 v206 v207 v208 hv208) ?_
        refine r_icmp_eq (tgt := 2512) dL_law_962 (by decide) (fun c => ?_) (fun c => ?_)
        · replace h := (if_pos c).symm.trans h
          obtain ⟨v210, hv210, h⟩ := xb h
          refine x_iinc (c := (9 : Int32)) (lv' := [(3, .int v210), (0, va_rf a0), (1, va_rf a1), (2, va_rf a2)]) (x := a3) (v := v210) dL_law_2512 rfl (by decide) (Option.some.inj hv210) (by decide) (congrArg (List.cons _) (xfY rfl (xfY rfl (xfY (xk1 2 3 _) (xfN rfl rfl))))) ?_
          refine r_goto (tgt := 18) dL_law_2515 (by decide) ?_
          exact x_sub [1, 2, 3, 0] rfl (ih p203.2 a0 a1 a2 v210 h)
        · replace h := (if_neg c).symm.trans h
          refine r_iconst (v := (0 : Int32)) dL_law_965 (by decide) ?_
          obtain ⟨v211, hv211, h⟩ := xb h
          refine x_eqI (rz_inv2 hv211).1 ?_
          obtain ⟨rfl, rfl⟩ := Prod.mk.inj (Option.some.inj h)
          exact r_ireturn dL_law_966 .boolean rfl (by rcases (rz_inv2 hv211).2 with e | e <;> rw [e] <;> rfl)
      replace h := (if_neg c15).symm.trans h
      by_cases c16 : (v11 &&& (63 : Int32)) = (16 : Int32)
      · replace h := (if_pos c16).symm.trans h
        refine r_tableIn (off := 934) (tgt := 967) dL_law_33 (by rw [c16]; decide) (by rw [c16]; decide) (by rw [c16]; rfl) (by decide) ?_
        refine x_aload_n (o := a1) dL_law_967 rfl ?_
        refine x_aload_n (o := a0) dL_law_968 rfl ?_
        refine r_iload_n (x := a3) dL_law_969 rfl ?_
        refine r_iconst (v := (1 : Int32)) dL_law_970 (by decide) ?_
        refine r_iadd dL_law_971 ?_
        obtain ⟨v212, hv212, h⟩ := xb h
        refine x_iaload (o := a0) dL_law_972 hv212 ?_
        refine x_aload_n (o := a0) dL_law_973 rfl ?_
        refine r_iload_n (x := a3) dL_law_974 rfl ?_
        refine r_iconst (v := (2 : Int32)) dL_law_975 (by decide) ?_
        refine r_iadd dL_law_976 ?_
        obtain ⟨v213, hv213, h⟩ := xb h
        refine x_iaload (o := a0) dL_law_977 hv213 ?_
        refine x_aload_n (o := a0) dL_law_978 rfl ?_
        refine r_iload_n (x := a3) dL_law_979 rfl ?_
        refine r_iconst (v := (3 : Int32)) dL_law_980 (by decide) ?_
        refine r_iadd dL_law_981 ?_
        obtain ⟨v214, hv214, h⟩ := xb h
        refine x_iaload (o := a0) dL_law_982 hv214 ?_
        obtain ⟨q216, hq216, h⟩ := xb h
        obtain ⟨p215, hp215, h⟩ := xb h
        refine z_callV (as := [.int v212, .int v213, .int v214]) (o := a1) (r1 := (some (.int p215.1))) (stk := []) (stk2 := [.int p215.1]) (st1 := p215.2) (d' := 4) dL_law_983 xl_L_84 hq216 (by decide) (Nat.le_trans xs0 (by decide)) rfl rfl (S_X10_points n st a1 v212 v213 v214 p215.1 p215.2 hp215) ?_
        refine x_aload_n (o := a2) dL_law_986 rfl ?_
        refine x_aload_n (o := a0) dL_law_987 rfl ?_
        refine r_iload_n (x := a3) dL_law_988 rfl ?_
        refine r_iconst (v := (1 : Int32)) dL_law_989 (by decide) ?_
        refine r_iadd dL_law_990 ?_
        obtain ⟨v217, hv217, h⟩ := xb h
        refine x_iaload (o := a0) dL_law_991 hv217 ?_
        refine x_aload_n (o := a0) dL_law_992 rfl ?_
        refine r_iload_n (x := a3) dL_law_993 rfl ?_
        refine r_iconst (v := (2 : Int32)) dL_law_994 (by decide) ?_
        refine r_iadd dL_law_995 ?_
        obtain ⟨v218, hv218, h⟩ := xb h
        refine x_iaload (o := a0) dL_law_996 hv218 ?_
        refine x_aload_n (o := a0) dL_law_997 rfl ?_
        refine r_iload_n (x := a3) dL_law_998 rfl ?_
        refine r_iconst (v := (3 : Int32)) dL_law_999 (by decide) ?_
        refine r_iadd dL_law_1000 ?_
        obtain ⟨v219, hv219, h⟩ := xb h
        refine x_iaload (o := a0) dL_law_1001 hv219 ?_
        obtain ⟨q221, hq221, h⟩ := xb h
        obtain ⟨v220, hv220, h⟩ := xb h
        refine z_callV (as := [.int v217, .int v218, .int v219]) (o := a2) (r1 := (some (.int v220))) (stk := [.int p215.1]) (stk2 := [.int v220, .int p215.1]) (st1 := p215.2) (d' := 3) dL_law_1002 xl_L_87 hq221 (by decide) (Nat.le_trans (xsI xs0) (by decide)) rfl rfl (S_X11_points n p215.2 a2 v217 v218 v219 v220 hv220) ?_
        refine r_icmp_eq (tgt := 2512) dL_law_1005 (by decide) (fun c => ?_) (fun c => ?_)
        · replace h := (if_pos c).symm.trans h
          obtain ⟨v222, hv222, h⟩ := xb h
          refine x_iinc (c := (9 : Int32)) (lv' := [(3, .int v222), (0, va_rf a0), (1, va_rf a1), (2, va_rf a2)]) (x := a3) (v := v222) dL_law_2512 rfl (by decide) (Option.some.inj hv222) (by decide) (congrArg (List.cons _) (xfY rfl (xfY rfl (xfY (xk1 2 3 _) (xfN rfl rfl))))) ?_
          refine r_goto (tgt := 18) dL_law_2515 (by decide) ?_
          exact x_sub [1, 2, 3, 0] rfl (ih p215.2 a0 a1 a2 v222 h)
        · replace h := (if_neg c).symm.trans h
          refine r_iconst (v := (0 : Int32)) dL_law_1008 (by decide) ?_
          obtain ⟨v223, hv223, h⟩ := xb h
          refine x_eqI (rz_inv2 hv223).1 ?_
          obtain ⟨rfl, rfl⟩ := Prod.mk.inj (Option.some.inj h)
          exact r_ireturn dL_law_1009 .boolean rfl (by rcases (rz_inv2 hv223).2 with e | e <;> rw [e] <;> rfl)
      replace h := (if_neg c16).symm.trans h
      by_cases c17 : (v11 &&& (63 : Int32)) = (17 : Int32)
      · replace h := (if_pos c17).symm.trans h
        refine r_tableIn (off := 977) (tgt := 1010) dL_law_33 (by rw [c17]; decide) (by rw [c17]; decide) (by rw [c17]; rfl) (by decide) ?_
        refine x_aload_n (o := a1) dL_law_1010 rfl ?_
        refine x_aload_n (o := a0) dL_law_1011 rfl ?_
        refine r_iload_n (x := a3) dL_law_1012 rfl ?_
        refine r_iconst (v := (1 : Int32)) dL_law_1013 (by decide) ?_
        refine r_iadd dL_law_1014 ?_
        obtain ⟨v224, hv224, h⟩ := xb h
        refine x_iaload (o := a0) dL_law_1015 hv224 ?_
        refine x_aload_n (o := a0) dL_law_1016 rfl ?_
        refine r_iload_n (x := a3) dL_law_1017 rfl ?_
        refine r_iconst (v := (2 : Int32)) dL_law_1018 (by decide) ?_
        refine r_iadd dL_law_1019 ?_
        obtain ⟨v225, hv225, h⟩ := xb h
        refine x_iaload (o := a0) dL_law_1020 hv225 ?_
        refine x_aload_n (o := a0) dL_law_1021 rfl ?_
        refine r_iload_n (x := a3) dL_law_1022 rfl ?_
        refine r_iconst (v := (3 : Int32)) dL_law_1023 (by decide) ?_
        refine r_iadd dL_law_1024 ?_
        obtain ⟨v226, hv226, h⟩ := xb h
        refine x_iaload (o := a0) dL_law_1025 hv226 ?_
        obtain ⟨q227, hq227, h⟩ := xb h
        have Jq227 : Rn mL_law 1034 [(0, va_rf a0), (1, va_rf a1), (2, va_rf a2), (3, .int a3)] [.int q227, .int v225, .int v224, va_rf a1] st (some (.int rv)) st' 13 := by
          obtain ⟨q229, hq229, h⟩ := xb h
          obtain ⟨p228, hp228, h⟩ := xb h
          refine z_callV (as := [.int v224, .int v225, .int q227]) (o := a1) (r1 := (some (.int p228.1))) (stk := []) (stk2 := [.int p228.1]) (st1 := p228.2) (d' := 5) dL_law_1034 xl_L_88 hq229 (by decide) (Nat.le_trans xs0 (by decide)) rfl rfl (S_X10_alone n st a1 v224 v225 q227 p228.1 p228.2 hp228) ?_
          refine x_aload_n (o := a2) dL_law_1037 rfl ?_
          refine x_aload_n (o := a0) dL_law_1038 rfl ?_
          refine r_iload_n (x := a3) dL_law_1039 rfl ?_
          refine r_iconst (v := (1 : Int32)) dL_law_1040 (by decide) ?_
          refine r_iadd dL_law_1041 ?_
          obtain ⟨v230, hv230, h⟩ := xb h
          refine x_iaload (o := a0) dL_law_1042 hv230 ?_
          refine x_aload_n (o := a0) dL_law_1043 rfl ?_
          refine r_iload_n (x := a3) dL_law_1044 rfl ?_
          refine r_iconst (v := (2 : Int32)) dL_law_1045 (by decide) ?_
          refine r_iadd dL_law_1046 ?_
          obtain ⟨v231, hv231, h⟩ := xb h
          refine x_iaload (o := a0) dL_law_1047 hv231 ?_
          refine x_aload_n (o := a0) dL_law_1048 rfl ?_
          refine r_iload_n (x := a3) dL_law_1049 rfl ?_
          refine r_iconst (v := (3 : Int32)) dL_law_1050 (by decide) ?_
          refine r_iadd dL_law_1051 ?_
          obtain ⟨v232, hv232, h⟩ := xb h
          refine x_iaload (o := a0) dL_law_1052 hv232 ?_
          obtain ⟨q233, hq233, h⟩ := xb h
          have Jq233 : Rn mL_law 1061 [(0, va_rf a0), (1, va_rf a1), (2, va_rf a2), (3, .int a3)] [.int q233, .int v231, .int v230, va_rf a2, .int p228.1] p228.2 (some (.int rv)) st' 13 := by
            obtain ⟨q235, hq235, h⟩ := xb h
            obtain ⟨p234, hp234, h⟩ := xb h
            refine z_callV (as := [.int v230, .int v231, .int q233]) (o := a2) (r1 := (some (.int p234.1))) (stk := [.int p228.1]) (stk2 := [.int p234.1, .int p228.1]) (st1 := p234.2) (d' := 2) dL_law_1061 xl_L_92 hq235 (by decide) (Nat.le_trans (xsI xs0) (by decide)) rfl rfl (S_X11_alone n p228.2 a2 v230 v231 q233 p234.1 p234.2 hp234) ?_
            refine r_icmp_eq (tgt := 2512) dL_law_1064 (by decide) (fun c => ?_) (fun c => ?_)
            · replace h := (if_pos c).symm.trans h
              obtain ⟨v236, hv236, h⟩ := xb h
              refine x_iinc (c := (9 : Int32)) (lv' := [(3, .int v236), (0, va_rf a0), (1, va_rf a1), (2, va_rf a2)]) (x := a3) (v := v236) dL_law_2512 rfl (by decide) (Option.some.inj hv236) (by decide) (congrArg (List.cons _) (xfY rfl (xfY rfl (xfY (xk1 2 3 _) (xfN rfl rfl))))) ?_
              refine r_goto (tgt := 18) dL_law_2515 (by decide) ?_
              exact x_sub [1, 2, 3, 0] rfl (ih p234.2 a0 a1 a2 v236 h)
            · replace h := (if_neg c).symm.trans h
              refine r_iconst (v := (0 : Int32)) dL_law_1067 (by decide) ?_
              obtain ⟨v237, hv237, h⟩ := xb h
              refine x_eqI (rz_inv2 hv237).1 ?_
              obtain ⟨rfl, rfl⟩ := Prod.mk.inj (Option.some.inj h)
              exact r_ireturn dL_law_1068 .boolean rfl (by rcases (rz_inv2 hv237).2 with e | e <;> rw [e] <;> rfl)
          refine r_if_eq (tgt := 1060) dL_law_1053 (by decide) (fun c => ?_) (fun c => ?_)
          · replace hq233 := (if_pos c).symm.trans hq233
            refine r_iconst (v := (0 : Int32)) dL_law_1060 (by decide) ?_
            obtain rfl := Option.some.inj hq233
            exact x_sub [0, 1, 2, 3] rfl Jq233
          · replace hq233 := (if_neg c).symm.trans hq233
            refine r_iconst (v := (1 : Int32)) dL_law_1056 (by decide) ?_
            refine r_goto (tgt := 1061) dL_law_1057 (by decide) ?_
            obtain rfl := Option.some.inj hq233
            exact x_sub [0, 1, 2, 3] rfl Jq233
        refine r_if_eq (tgt := 1033) dL_law_1026 (by decide) (fun c => ?_) (fun c => ?_)
        · replace hq227 := (if_pos c).symm.trans hq227
          refine r_iconst (v := (0 : Int32)) dL_law_1033 (by decide) ?_
          obtain rfl := Option.some.inj hq227
          exact x_sub [0, 1, 2, 3] rfl Jq227
        · replace hq227 := (if_neg c).symm.trans hq227
          refine r_iconst (v := (1 : Int32)) dL_law_1029 (by decide) ?_
          refine r_goto (tgt := 1034) dL_law_1030 (by decide) ?_
          obtain rfl := Option.some.inj hq227
          exact x_sub [0, 1, 2, 3] rfl Jq227
      replace h := (if_neg c17).symm.trans h
      by_cases c18 : (v11 &&& (63 : Int32)) = (18 : Int32)
      · replace h := (if_pos c18).symm.trans h
        refine r_tableIn (off := 1036) (tgt := 1069) dL_law_33 (by rw [c18]; decide) (by rw [c18]; decide) (by rw [c18]; rfl) (by decide) ?_
        refine x_aload_n (o := a1) dL_law_1069 rfl ?_
        refine x_aload_n (o := a0) dL_law_1070 rfl ?_
        refine r_iload_n (x := a3) dL_law_1071 rfl ?_
        refine r_iconst (v := (1 : Int32)) dL_law_1072 (by decide) ?_
        refine r_iadd dL_law_1073 ?_
        obtain ⟨v238, hv238, h⟩ := xb h
        refine x_iaload (o := a0) dL_law_1074 hv238 ?_
        refine x_aload_n (o := a0) dL_law_1075 rfl ?_
        refine r_iload_n (x := a3) dL_law_1076 rfl ?_
        refine r_iconst (v := (2 : Int32)) dL_law_1077 (by decide) ?_
        refine r_iadd dL_law_1078 ?_
        obtain ⟨v239, hv239, h⟩ := xb h
        refine x_iaload (o := a0) dL_law_1079 hv239 ?_
        refine x_aload_n (o := a0) dL_law_1080 rfl ?_
        refine r_iload_n (x := a3) dL_law_1081 rfl ?_
        refine r_iconst (v := (3 : Int32)) dL_law_1082 (by decide) ?_
        refine r_iadd dL_law_1083 ?_
        obtain ⟨v240, hv240, h⟩ := xb h
        refine x_iaload (o := a0) dL_law_1084 hv240 ?_
        refine x_aload_n (o := a0) dL_law_1085 rfl ?_
        refine r_iload_n (x := a3) dL_law_1086 rfl ?_
        refine r_iconst (v := (4 : Int32)) dL_law_1087 (by decide) ?_
        refine r_iadd dL_law_1088 ?_
        obtain ⟨v241, hv241, h⟩ := xb h
        refine x_iaload (o := a0) dL_law_1089 hv241 ?_
        obtain ⟨q242, hq242, h⟩ := xb h
        have Jq242 : Rn mL_law 1098 [(0, va_rf a0), (1, va_rf a1), (2, va_rf a2), (3, .int a3)] [.int q242, .int v240, .int v239, .int v238, va_rf a1] st (some (.int rv)) st' 13 := by
          obtain ⟨q244, hq244, h⟩ := xb h
          obtain ⟨p243, hp243, h⟩ := xb h
          refine z_callV (as := [.int v238, .int v239, .int v240, .int q242]) (o := a1) (r1 := (some (.long p243.1))) (stk := []) (stk2 := [.long p243.1]) (st1 := p243.2) (d' := 5) dL_law_1098 xl_L_93 hq244 (by decide) (Nat.le_trans xs0 (by decide)) rfl rfl (S_X10_both n st a1 v238 v239 v240 q242 p243.1 p243.2 hp243) ?_
          refine x_aload_n (o := a2) dL_law_1101 rfl ?_
          refine x_aload_n (o := a0) dL_law_1102 rfl ?_
          refine r_iload_n (x := a3) dL_law_1103 rfl ?_
          refine r_iconst (v := (1 : Int32)) dL_law_1104 (by decide) ?_
          refine r_iadd dL_law_1105 ?_
          obtain ⟨v245, hv245, h⟩ := xb h
          refine x_iaload (o := a0) dL_law_1106 hv245 ?_
          refine x_aload_n (o := a0) dL_law_1107 rfl ?_
          refine r_iload_n (x := a3) dL_law_1108 rfl ?_
          refine r_iconst (v := (2 : Int32)) dL_law_1109 (by decide) ?_
          refine r_iadd dL_law_1110 ?_
          obtain ⟨v246, hv246, h⟩ := xb h
          refine x_iaload (o := a0) dL_law_1111 hv246 ?_
          refine x_aload_n (o := a0) dL_law_1112 rfl ?_
          refine r_iload_n (x := a3) dL_law_1113 rfl ?_
          refine r_iconst (v := (3 : Int32)) dL_law_1114 (by decide) ?_
          refine r_iadd dL_law_1115 ?_
          obtain ⟨v247, hv247, h⟩ := xb h
          refine x_iaload (o := a0) dL_law_1116 hv247 ?_
          refine x_aload_n (o := a0) dL_law_1117 rfl ?_
          refine r_iload_n (x := a3) dL_law_1118 rfl ?_
          refine r_iconst (v := (4 : Int32)) dL_law_1119 (by decide) ?_
          refine r_iadd dL_law_1120 ?_
          obtain ⟨v248, hv248, h⟩ := xb h
          refine x_iaload (o := a0) dL_law_1121 hv248 ?_
          obtain ⟨q249, hq249, h⟩ := xb h
          have Jq249 : Rn mL_law 1130 [(0, va_rf a0), (1, va_rf a1), (2, va_rf a2), (3, .int a3)] [.int q249, .int v247, .int v246, .int v245, va_rf a2, .long p243.1] p243.2 (some (.int rv)) st' 13 := by
            obtain ⟨q251, hq251, h⟩ := xb h
            obtain ⟨p250, hp250, h⟩ := xb h
            refine z_callV (as := [.int v245, .int v246, .int v247, .int q249]) (o := a2) (r1 := (some (.long p250.1))) (stk := [.long p243.1]) (stk2 := [.long p250.1, .long p243.1]) (st1 := p250.2) (d' := 5) dL_law_1130 xl_L_97 hq251 (by decide) (Nat.le_trans (xsJ xs0) (by decide)) rfl rfl (S_X11_both n p243.2 a2 v245 v246 v247 q249 p250.1 p250.2 hp250) ?_
            refine r_lcmp dL_law_1133 ?_
            refine r_if_eq (tgt := 2512) dL_law_1134 (by decide) (fun c => ?_) (fun c => ?_)
            · replace h := (if_pos c).symm.trans h
              obtain ⟨v252, hv252, h⟩ := xb h
              refine x_iinc (c := (9 : Int32)) (lv' := [(3, .int v252), (0, va_rf a0), (1, va_rf a1), (2, va_rf a2)]) (x := a3) (v := v252) dL_law_2512 rfl (by decide) (Option.some.inj hv252) (by decide) (congrArg (List.cons _) (xfY rfl (xfY rfl (xfY (xk1 2 3 _) (xfN rfl rfl))))) ?_
              refine r_goto (tgt := 18) dL_law_2515 (by decide) ?_
              exact x_sub [1, 2, 3, 0] rfl (ih p250.2 a0 a1 a2 v252 h)
            · replace h := (if_neg c).symm.trans h
              refine r_iconst (v := (0 : Int32)) dL_law_1137 (by decide) ?_
              obtain ⟨v253, hv253, h⟩ := xb h
              refine x_eqI (rz_inv2 hv253).1 ?_
              obtain ⟨rfl, rfl⟩ := Prod.mk.inj (Option.some.inj h)
              exact r_ireturn dL_law_1138 .boolean rfl (by rcases (rz_inv2 hv253).2 with e | e <;> rw [e] <;> rfl)
          refine r_if_eq (tgt := 1129) dL_law_1122 (by decide) (fun c => ?_) (fun c => ?_)
          · replace hq249 := (if_pos c).symm.trans hq249
            refine r_iconst (v := (0 : Int32)) dL_law_1129 (by decide) ?_
            obtain rfl := Option.some.inj hq249
            exact x_sub [0, 1, 2, 3] rfl Jq249
          · replace hq249 := (if_neg c).symm.trans hq249
            refine r_iconst (v := (1 : Int32)) dL_law_1125 (by decide) ?_
            refine r_goto (tgt := 1130) dL_law_1126 (by decide) ?_
            obtain rfl := Option.some.inj hq249
            exact x_sub [0, 1, 2, 3] rfl Jq249
        refine r_if_eq (tgt := 1097) dL_law_1090 (by decide) (fun c => ?_) (fun c => ?_)
        · replace hq242 := (if_pos c).symm.trans hq242
          refine r_iconst (v := (0 : Int32)) dL_law_1097 (by decide) ?_
          obtain rfl := Option.some.inj hq242
          exact x_sub [0, 1, 2, 3] rfl Jq242
        · replace hq242 := (if_neg c).symm.trans hq242
          refine r_iconst (v := (1 : Int32)) dL_law_1093 (by decide) ?_
          refine r_goto (tgt := 1098) dL_law_1094 (by decide) ?_
          obtain rfl := Option.some.inj hq242
          exact x_sub [0, 1, 2, 3] rfl Jq242
      replace h := (if_neg c18).symm.trans h
      by_cases c19 : (v11 &&& (63 : Int32)) = (19 : Int32)
      · replace h := (if_pos c19).symm.trans h
        refine r_tableIn (off := 1106) (tgt := 1139) dL_law_33 (by rw [c19]; decide) (by rw [c19]; decide) (by rw [c19]; rfl) (by decide) ?_
        refine x_aload_n (o := a1) dL_law_1139 rfl ?_
        refine x_aload_n (o := a0) dL_law_1140 rfl ?_
        refine r_iload_n (x := a3) dL_law_1141 rfl ?_
        refine r_iconst (v := (1 : Int32)) dL_law_1142 (by decide) ?_
        refine r_iadd dL_law_1143 ?_
        obtain ⟨v254, hv254, h⟩ := xb h
        refine x_iaload (o := a0) dL_law_1144 hv254 ?_
        refine x_aload_n (o := a0) dL_law_1145 rfl ?_
        refine r_iload_n (x := a3) dL_law_1146 rfl ?_
        refine r_iconst (v := (2 : Int32)) dL_law_1147 (by decide) ?_
        refine r_iadd dL_law_1148 ?_
        obtain ⟨v255, hv255, h⟩ := xb h
        refine x_iaload (o := a0) dL_law_1149 hv255 ?_
        refine x_aload_n (o := a0) dL_law_1150 rfl ?_
        refine r_iload_n (x := a3) dL_law_1151 rfl ?_
        refine r_iconst (v := (3 : Int32)) dL_law_1152 (by decide) ?_
        refine r_iadd dL_law_1153 ?_
        obtain ⟨v256, hv256, h⟩ := xb h
        refine x_iaload (o := a0) dL_law_1154 hv256 ?_
        obtain ⟨q257, hq257, h⟩ := xb h
        have Jq257 : Rn mL_law 1163 [(0, va_rf a0), (1, va_rf a1), (2, va_rf a2), (3, .int a3)] [.int q257, .int v255, .int v254, va_rf a1] st (some (.int rv)) st' 13 := by
          obtain ⟨q259, hq259, h⟩ := xb h
          obtain ⟨p258, hp258, h⟩ := xb h
          refine z_callV (as := [.int v254, .int v255, .int q257]) (o := a1) (r1 := (some (.long p258.1))) (stk := []) (stk2 := [.long p258.1]) (st1 := p258.2) (d' := 5) dL_law_1163 xl_L_98 hq259 (by decide) (Nat.le_trans xs0 (by decide)) rfl rfl (S_X10_off n st a1 v254 v255 q257 p258.1 p258.2 hp258) ?_
          refine x_aload_n (o := a2) dL_law_1166 rfl ?_
          refine x_aload_n (o := a0) dL_law_1167 rfl ?_
          refine r_iload_n (x := a3) dL_law_1168 rfl ?_
          refine r_iconst (v := (1 : Int32)) dL_law_1169 (by decide) ?_
          refine r_iadd dL_law_1170 ?_
          obtain ⟨v260, hv260, h⟩ := xb h
          refine x_iaload (o := a0) dL_law_1171 hv260 ?_
          refine x_aload_n (o := a0) dL_law_1172 rfl ?_
          refine r_iload_n (x := a3) dL_law_1173 rfl ?_
          refine r_iconst (v := (2 : Int32)) dL_law_1174 (by decide) ?_
          refine r_iadd dL_law_1175 ?_
          obtain ⟨v261, hv261, h⟩ := xb h
          refine x_iaload (o := a0) dL_law_1176 hv261 ?_
          refine x_aload_n (o := a0) dL_law_1177 rfl ?_
          refine r_iload_n (x := a3) dL_law_1178 rfl ?_
          refine r_iconst (v := (3 : Int32)) dL_law_1179 (by decide) ?_
          refine r_iadd dL_law_1180 ?_
          obtain ⟨v262, hv262, h⟩ := xb h
          refine x_iaload (o := a0) dL_law_1181 hv262 ?_
          obtain ⟨q263, hq263, h⟩ := xb h
          have Jq263 : Rn mL_law 1190 [(0, va_rf a0), (1, va_rf a1), (2, va_rf a2), (3, .int a3)] [.int q263, .int v261, .int v260, va_rf a2, .long p258.1] p258.2 (some (.int rv)) st' 13 := by
            obtain ⟨q265, hq265, h⟩ := xb h
            obtain ⟨p264, hp264, h⟩ := xb h
            refine z_callV (as := [.int v260, .int v261, .int q263]) (o := a2) (r1 := (some (.long p264.1))) (stk := [.long p258.1]) (stk2 := [.long p264.1, .long p258.1]) (st1 := p264.2) (d' := 5) dL_law_1190 xl_L_102 hq265 (by decide) (Nat.le_trans (xsJ xs0) (by decide)) rfl rfl (S_X11_off n p258.2 a2 v260 v261 q263 p264.1 p264.2 hp264) ?_
            refine r_lcmp dL_law_1193 ?_
            refine r_if_eq (tgt := 2512) dL_law_1194 (by decide) (fun c => ?_) (fun c => ?_)
            · replace h := (if_pos c).symm.trans h
              obtain ⟨v266, hv266, h⟩ := xb h
              refine x_iinc (c := (9 : Int32)) (lv' := [(3, .int v266), (0, va_rf a0), (1, va_rf a1), (2, va_rf a2)]) (x := a3) (v := v266) dL_law_2512 rfl (by decide) (Option.some.inj hv266) (by decide) (congrArg (List.cons _) (xfY rfl (xfY rfl (xfY (xk1 2 3 _) (xfN rfl rfl))))) ?_
              refine r_goto (tgt := 18) dL_law_2515 (by decide) ?_
              exact x_sub [1, 2, 3, 0] rfl (ih p264.2 a0 a1 a2 v266 h)
            · replace h := (if_neg c).symm.trans h
              refine r_iconst (v := (0 : Int32)) dL_law_1197 (by decide) ?_
              obtain ⟨v267, hv267, h⟩ := xb h
              refine x_eqI (rz_inv2 hv267).1 ?_
              obtain ⟨rfl, rfl⟩ := Prod.mk.inj (Option.some.inj h)
              exact r_ireturn dL_law_1198 .boolean rfl (by rcases (rz_inv2 hv267).2 with e | e <;> rw [e] <;> rfl)
          refine r_if_eq (tgt := 1189) dL_law_1182 (by decide) (fun c => ?_) (fun c => ?_)
          · replace hq263 := (if_pos c).symm.trans hq263
            refine r_iconst (v := (0 : Int32)) dL_law_1189 (by decide) ?_
            obtain rfl := Option.some.inj hq263
            exact x_sub [0, 1, 2, 3] rfl Jq263
          · replace hq263 := (if_neg c).symm.trans hq263
            refine r_iconst (v := (1 : Int32)) dL_law_1185 (by decide) ?_
            refine r_goto (tgt := 1190) dL_law_1186 (by decide) ?_
            obtain rfl := Option.some.inj hq263
            exact x_sub [0, 1, 2, 3] rfl Jq263
        refine r_if_eq (tgt := 1162) dL_law_1155 (by decide) (fun c => ?_) (fun c => ?_)
        · replace hq257 := (if_pos c).symm.trans hq257
          refine r_iconst (v := (0 : Int32)) dL_law_1162 (by decide) ?_
          obtain rfl := Option.some.inj hq257
          exact x_sub [0, 1, 2, 3] rfl Jq257
        · replace hq257 := (if_neg c).symm.trans hq257
          refine r_iconst (v := (1 : Int32)) dL_law_1158 (by decide) ?_
          refine r_goto (tgt := 1163) dL_law_1159 (by decide) ?_
          obtain rfl := Option.some.inj hq257
          exact x_sub [0, 1, 2, 3] rfl Jq257
      replace h := (if_neg c19).symm.trans h
      by_cases c20 : (v11 &&& (63 : Int32)) = (20 : Int32)
      · replace h := (if_pos c20).symm.trans h
        refine r_tableIn (off := 1166) (tgt := 1199) dL_law_33 (by rw [c20]; decide) (by rw [c20]; decide) (by rw [c20]; rfl) (by decide) ?_
        refine x_aload_n (o := a1) dL_law_1199 rfl ?_
        refine x_aload_n (o := a0) dL_law_1200 rfl ?_
        refine r_iload_n (x := a3) dL_law_1201 rfl ?_
        refine r_iconst (v := (1 : Int32)) dL_law_1202 (by decide) ?_
        refine r_iadd dL_law_1203 ?_
        obtain ⟨v268, hv268, h⟩ := xb h
        refine x_iaload (o := a0) dL_law_1204 hv268 ?_
        refine x_aload_n (o := a0) dL_law_1205 rfl ?_
        refine r_iload_n (x := a3) dL_law_1206 rfl ?_
        refine r_iconst (v := (2 : Int32)) dL_law_1207 (by decide) ?_
        refine r_iadd dL_law_1208 ?_
        obtain ⟨v269, hv269, h⟩ := xb h
        refine x_iaload (o := a0) dL_law_1209 hv269 ?_
        refine x_aload_n (o := a0) dL_law_1210 rfl ?_
        refine r_iload_n (x := a3) dL_law_1211 rfl ?_
        refine r_iconst (v := (3 : Int32)) dL_law_1212 (by decide) ?_
        refine r_iadd dL_law_1213 ?_
        obtain ⟨v270, hv270, h⟩ := xb h
        refine x_iaload (o := a0) dL_law_1214 hv270 ?_
        refine x_aload_n (o := a0) dL_law_1215 rfl ?_
        refine r_iload_n (x := a3) dL_law_1216 rfl ?_
        refine r_iconst (v := (4 : Int32)) dL_law_1217 (by decide) ?_
        refine r_iadd dL_law_1218 ?_
        obtain ⟨v271, hv271, h⟩ := xb h
        refine x_iaload (o := a0) dL_law_1219 hv271 ?_
        obtain ⟨q272, hq272, h⟩ := xb h
        have Jq272 : Rn mL_law 1228 [(0, va_rf a0), (1, va_rf a1), (2, va_rf a2), (3, .int a3)] [.int q272, .int v270, .int v269, .int v268, va_rf a1] st (some (.int rv)) st' 13 := by
          obtain ⟨q274, hq274, h⟩ := xb h
          obtain ⟨p273, hp273, h⟩ := xb h
          refine z_callV (as := [.int v268, .int v269, .int v270, .int q272]) (o := a1) (r1 := (some (.int p273.1))) (stk := []) (stk2 := [.int p273.1]) (st1 := p273.2) (d' := 4) dL_law_1228 xl_L_103 hq274 (by decide) (Nat.le_trans xs0 (by decide)) rfl rfl (S_X10_people n st a1 v268 v269 v270 q272 p273.1 p273.2 hp273) ?_
          refine x_aload_n (o := a2) dL_law_1231 rfl ?_
          refine x_aload_n (o := a0) dL_law_1232 rfl ?_
          refine r_iload_n (x := a3) dL_law_1233 rfl ?_
          refine r_iconst (v := (1 : Int32)) dL_law_1234 (by decide) ?_
          refine r_iadd dL_law_1235 ?_
          obtain ⟨v275, hv275, h⟩ := xb h
          refine x_iaload (o := a0) dL_law_1236 hv275 ?_
          refine x_aload_n (o := a0) dL_law_1237 rfl ?_
          refine r_iload_n (x := a3) dL_law_1238 rfl ?_
          refine r_iconst (v := (2 : Int32)) dL_law_1239 (by decide) ?_
          refine r_iadd dL_law_1240 ?_
          obtain ⟨v276, hv276, h⟩ := xb h
          refine x_iaload (o := a0) dL_law_1241 hv276 ?_
          refine x_aload_n (o := a0) dL_law_1242 rfl ?_
          refine r_iload_n (x := a3) dL_law_1243 rfl ?_
          refine r_iconst (v := (3 : Int32)) dL_law_1244 (by decide) ?_
          refine r_iadd dL_law_1245 ?_
          obtain ⟨v277, hv277, h⟩ := xb h
          refine x_iaload (o := a0) dL_law_1246 hv277 ?_
          refine x_aload_n (o := a0) dL_law_1247 rfl ?_
          refine r_iload_n (x := a3) dL_law_1248 rfl ?_
          refine r_iconst (v := (4 : Int32)) dL_law_1249 (by decide) ?_
          refine r_iadd dL_law_1250 ?_
          obtain ⟨v278, hv278, h⟩ := xb h
          refine x_iaload (o := a0) dL_law_1251 hv278 ?_
          obtain ⟨q279, hq279, h⟩ := xb h
          have Jq279 : Rn mL_law 1260 [(0, va_rf a0), (1, va_rf a1), (2, va_rf a2), (3, .int a3)] [.int q279, .int v277, .int v276, .int v275, va_rf a2, .int p273.1] p273.2 (some (.int rv)) st' 13 := by
            obtain ⟨q281, hq281, h⟩ := xb h
            obtain ⟨p280, hp280, h⟩ := xb h
            refine z_callV (as := [.int v275, .int v276, .int v277, .int q279]) (o := a2) (r1 := (some (.int p280.1))) (stk := [.int p273.1]) (stk2 := [.int p280.1, .int p273.1]) (st1 := p280.2) (d' := 3) dL_law_1260 xl_L_107 hq281 (by decide) (Nat.le_trans (xsI xs0) (by decide)) rfl rfl (S_X11_people n p273.2 a2 v275 v276 v277 q279 p280.1 p280.2 hp280) ?_
            refine r_icmp_eq (tgt := 2512) dL_law_1263 (by decide) (fun c => ?_) (fun c => ?_)
            · replace h := (if_pos c).symm.trans h
              obtain ⟨v282, hv282, h⟩ := xb h
              refine x_iinc (c := (9 : Int32)) (lv' := [(3, .int v282), (0, va_rf a0), (1, va_rf a1), (2, va_rf a2)]) (x := a3) (v := v282) dL_law_2512 rfl (by decide) (Option.some.inj hv282) (by decide) (congrArg (List.cons _) (xfY rfl (xfY rfl (xfY (xk1 2 3 _) (xfN rfl rfl))))) ?_
              refine r_goto (tgt := 18) dL_law_2515 (by decide) ?_
              exact x_sub [1, 2, 3, 0] rfl (ih p280.2 a0 a1 a2 v282 h)
            · replace h := (if_neg c).symm.trans h
              refine r_iconst (v := (0 : Int32)) dL_law_1266 (by decide) ?_
              obtain ⟨v283, hv283, h⟩ := xb h
              refine x_eqI (rz_inv2 hv283).1 ?_
              obtain ⟨rfl, rfl⟩ := Prod.mk.inj (Option.some.inj h)
              exact r_ireturn dL_law_1267 .boolean rfl (by rcases (rz_inv2 hv283).2 with e | e <;> rw [e] <;> rfl)
          refine r_if_eq (tgt := 1259) dL_law_1252 (by decide) (fun c => ?_) (fun c => ?_)
          · replace hq279 := (if_pos c).symm.trans hq279
            refine r_iconst (v := (0 : Int32)) dL_law_1259 (by decide) ?_
            obtain rfl := Option.some.inj hq279
            exact x_sub [0, 1, 2, 3] rfl Jq279
          · replace hq279 := (if_neg c).symm.trans hq279
            refine r_iconst (v := (1 : Int32)) dL_law_1255 (by decide) ?_
            refine r_goto (tgt := 1260) dL_law_1256 (by decide) ?_
            obtain rfl := Option.some.inj hq279
            exact x_sub [0, 1, 2, 3] rfl Jq279
        refine r_if_eq (tgt := 1227) dL_law_1220 (by decide) (fun c => ?_) (fun c => ?_)
        · replace hq272 := (if_pos c).symm.trans hq272
          refine r_iconst (v := (0 : Int32)) dL_law_1227 (by decide) ?_
          obtain rfl := Option.some.inj hq272
          exact x_sub [0, 1, 2, 3] rfl Jq272
        · replace hq272 := (if_neg c).symm.trans hq272
          refine r_iconst (v := (1 : Int32)) dL_law_1223 (by decide) ?_
          refine r_goto (tgt := 1228) dL_law_1224 (by decide) ?_
          obtain rfl := Option.some.inj hq272
          exact x_sub [0, 1, 2, 3] rfl Jq272
      replace h := (if_neg c20).symm.trans h
      by_cases c21 : (v11 &&& (63 : Int32)) = (21 : Int32)
      · replace h := (if_pos c21).symm.trans h
        refine r_tableIn (off := 1235) (tgt := 1268) dL_law_33 (by rw [c21]; decide) (by rw [c21]; decide) (by rw [c21]; rfl) (by decide) ?_
        refine x_aload_n (o := a1) dL_law_1268 rfl ?_
        refine x_aload_n (o := a0) dL_law_1269 rfl ?_
        refine r_iload_n (x := a3) dL_law_1270 rfl ?_
        refine r_iconst (v := (1 : Int32)) dL_law_1271 (by decide) ?_
        refine r_iadd dL_law_1272 ?_
        obtain ⟨v284, hv284, h⟩ := xb h
        refine x_iaload (o := a0) dL_law_1273 hv284 ?_
        refine x_aload_n (o := a0) dL_law_1274 rfl ?_
        refine r_iload_n (x := a3) dL_law_1275 rfl ?_
        refine r_iconst (v := (2 : Int32)) dL_law_1276 (by decide) ?_
        refine r_iadd dL_law_1277 ?_
        obtain ⟨v285, hv285, h⟩ := xb h
        refine x_iaload (o := a0) dL_law_1278 hv285 ?_
        refine x_aload_n (o := a0) dL_law_1279 rfl ?_
        refine r_iload_n (x := a3) dL_law_1280 rfl ?_
        refine r_iconst (v := (3 : Int32)) dL_law_1281 (by decide) ?_
        refine r_iadd dL_law_1282 ?_
        obtain ⟨v286, hv286, h⟩ := xb h
        refine x_iaload (o := a0) dL_law_1283 hv286 ?_
        obtain ⟨q287, hq287, h⟩ := xb h
        have Jq287 : Rn mL_law 1292 [(0, va_rf a0), (1, va_rf a1), (2, va_rf a2), (3, .int a3)] [.int q287, .int v285, .int v284, va_rf a1] st (some (.int rv)) st' 13 := by
          obtain ⟨q289, hq289, h⟩ := xb h
          obtain ⟨p288, hp288, h⟩ := xb h
          refine z_callV (as := [.int v284, .int v285, .int q287]) (o := a1) (r1 := (some (.int p288.1))) (stk := []) (stk2 := [.int p288.1]) (st1 := p288.2) (d' := 4) dL_law_1292 xl_L_108 hq289 (by decide) (Nat.le_trans xs0 (by decide)) rfl rfl (S_X10_slope n st a1 v284 v285 q287 p288.1 p288.2 hp288) ?_
          refine x_aload_n (o := a2) dL_law_1295 rfl ?_
          refine x_aload_n (o := a0) dL_law_1296 rfl ?_
          refine r_iload_n (x := a3) dL_law_1297 rfl ?_
          refine r_iconst (v := (1 : Int32)) dL_law_1298 (by decide) ?_
          refine r_iadd dL_law_1299 ?_
          obtain ⟨v290, hv290, h⟩ := xb h
          refine x_iaload (o := a0) dL_law_1300 hv290 ?_
          refine x_aload_n (o := a0) dL_law_1301 rfl ?_
          refine r_iload_n (x := a3) dL_law_1302 rfl ?_
          refine r_iconst (v := (2 : Int32)) dL_law_1303 (by decide) ?_
          refine r_iadd dL_law_1304 ?_
          obtain ⟨v291, hv291, h⟩ := xb h
          refine x_iaload (o := a0) dL_law_1305 hv291 ?_
          refine x_aload_n (o := a0) dL_law_1306 rfl ?_
          refine r_iload_n (x := a3) dL_law_1307 rfl ?_
          refine r_iconst (v := (3 : Int32)) dL_law_1308 (by decide) ?_
          refine r_iadd dL_law_1309 ?_
          obtain ⟨v292, hv292, h⟩ := xb h
          refine x_iaload (o := a0) dL_law_1310 hv292 ?_
          obtain ⟨q293, hq293, h⟩ := xb h
          have Jq293 : Rn mL_law 1319 [(0, va_rf a0), (1, va_rf a1), (2, va_rf a2), (3, .int a3)] [.int q293, .int v291, .int v290, va_rf a2, .int p288.1] p288.2 (some (.int rv)) st' 13 := by
            obtain ⟨q295, hq295, h⟩ := xb h
            obtain ⟨v294, hv294, h⟩ := xb h
            refine z_callV (as := [.int v290, .int v291, .int q293]) (o := a2) (r1 := (some (.int v294))) (stk := [.int p288.1]) (stk2 := [.int v294, .int p288.1]) (st1 := p288.2) (d' := 2) dL_law_1319 xl_L_111 hq295 (by decide) (Nat.le_trans (xsI xs0) (by decide)) rfl rfl (S_X11_slope n p288.2 a2 v290 v291 q293 v294 hv294) ?_
            refine r_icmp_eq (tgt := 2512) dL_law_1322 (by decide) (fun c => ?_) (fun c => ?_)
            · replace h := (if_pos c).symm.trans h
              obtain ⟨v296, hv296, h⟩ := xb h
              refine x_iinc (c := (9 : Int32)) (lv' := [(3, .int v296), (0, va_rf a0), (1, va_rf a1), (2, va_rf a2)]) (x := a3) (v := v296) dL_law_2512 rfl (by decide) (Option.some.inj hv296) (by decide) (congrArg (List.cons _) (xfY rfl (xfY rfl (xfY (xk1 2 3 _) (xfN rfl rfl))))) ?_
              refine r_goto (tgt := 18) dL_law_2515 (by decide) ?_
              exact x_sub [1, 2, 3, 0] rfl (ih p288.2 a0 a1 a2 v296 h)
            · replace h := (if_neg c).symm.trans h
              refine r_iconst (v := (0 : Int32)) dL_law_1325 (by decide) ?_
              obtain ⟨v297, hv297, h⟩ := xb h
              refine x_eqI (rz_inv2 hv297).1 ?_
              obtain ⟨rfl, rfl⟩ := Prod.mk.inj (Option.some.inj h)
              exact r_ireturn dL_law_1326 .boolean rfl (by rcases (rz_inv2 hv297).2 with e | e <;> rw [e] <;> rfl)
          refine r_if_eq (tgt := 1318) dL_law_1311 (by decide) (fun c => ?_) (fun c => ?_)
          · replace hq293 := (if_pos c).symm.trans hq293
            refine r_iconst (v := (0 : Int32)) dL_law_1318 (by decide) ?_
            obtain rfl := Option.some.inj hq293
            exact x_sub [0, 1, 2, 3] rfl Jq293
          · replace hq293 := (if_neg c).symm.trans hq293
            refine r_iconst (v := (1 : Int32)) dL_law_1314 (by decide) ?_
            refine r_goto (tgt := 1319) dL_law_1315 (by decide) ?_
            obtain rfl := Option.some.inj hq293
            exact x_sub [0, 1, 2, 3] rfl Jq293
        refine r_if_eq (tgt := 1291) dL_law_1284 (by decide) (fun c => ?_) (fun c => ?_)
        · replace hq287 := (if_pos c).symm.trans hq287
          refine r_iconst (v := (0 : Int32)) dL_law_1291 (by decide) ?_
          obtain rfl := Option.some.inj hq287
          exact x_sub [0, 1, 2, 3] rfl Jq287
        · replace hq287 := (if_neg c).symm.trans hq287
          refine r_iconst (v := (1 : Int32)) dL_law_1287 (by decide) ?_
          refine r_goto (tgt := 1292) dL_law_1288 (by decide) ?_
          obtain rfl := Option.some.inj hq287
          exact x_sub [0, 1, 2, 3] rfl Jq287
      replace h := (if_neg c21).symm.trans h
      by_cases c22 : (v11 &&& (63 : Int32)) = (22 : Int32)
      · replace h := (if_pos c22).symm.trans h
        refine r_tableIn (off := 1294) (tgt := 1327) dL_law_33 (by rw [c22]; decide) (by rw [c22]; decide) (by rw [c22]; rfl) (by decide) ?_
        refine x_aload_n (o := a1) dL_law_1327 rfl ?_
        refine x_aload_n (o := a0) dL_law_1328 rfl ?_
        refine r_iload_n (x := a3) dL_law_1329 rfl ?_
        refine r_iconst (v := (1 : Int32)) dL_law_1330 (by decide) ?_
        refine r_iadd dL_law_1331 ?_
        obtain ⟨v298, hv298, h⟩ := xb h
        refine x_iaload (o := a0) dL_law_1332 hv298 ?_
        refine x_aload_n (o := a0) dL_law_1333 rfl ?_
        refine r_iload_n (x := a3) dL_law_1334 rfl ?_
        refine r_iconst (v := (2 : Int32)) dL_law_1335 (by decide) ?_
        refine r_iadd dL_law_1336 ?_
        obtain ⟨v299, hv299, h⟩ := xb h
        refine x_iaload (o := a0) dL_law_1337 hv299 ?_
        refine x_aload_n (o := a0) dL_law_1338 rfl ?_
        refine r_iload_n (x := a3) dL_law_1339 rfl ?_
        refine r_iconst (v := (3 : Int32)) dL_law_1340 (by decide) ?_
        refine r_iadd dL_law_1341 ?_
        obtain ⟨v300, hv300, h⟩ := xb h
        refine x_iaload (o := a0) dL_law_1342 hv300 ?_
        refine x_aload_n (o := a0) dL_law_1343 rfl ?_
        refine r_iload_n (x := a3) dL_law_1344 rfl ?_
        refine r_iconst (v := (4 : Int32)) dL_law_1345 (by decide) ?_
        refine r_iadd dL_law_1346 ?_
        obtain ⟨v301, hv301, h⟩ := xb h
        refine x_iaload (o := a0) dL_law_1347 hv301 ?_
        obtain ⟨q302, hq302, h⟩ := xb h
        have Jq302 : Rn mL_law 1356 [(0, va_rf a0), (1, va_rf a1), (2, va_rf a2), (3, .int a3)] [.int q302, .int v300, .int v299, .int v298, va_rf a1] st (some (.int rv)) st' 13 := by
          obtain ⟨q304, hq304, h⟩ := xb h
          obtain ⟨p303, hp303, h⟩ := xb h
          refine z_callV (as := [.int v298, .int v299, .int v300, .int q302]) (o := a1) (r1 := (some (.long p303.1))) (stk := []) (stk2 := [.long p303.1]) (st1 := p303.2) (d' := 4) dL_law_1356 xl_L_112 hq304 (by decide) (Nat.le_trans xs0 (by decide)) rfl rfl (S_X10_odds n st a1 v298 v299 v300 q302 p303.1 p303.2 hp303) ?_
          refine x_aload_n (o := a2) dL_law_1359 rfl ?_
          refine x_aload_n (o := a0) dL_law_1360 rfl ?_
          refine r_iload_n (x := a3) dL_law_1361 rfl ?_
          refine r_iconst (v := (1 : Int32)) dL_law_1362 (by decide) ?_
          refine r_iadd dL_law_1363 ?_
          obtain ⟨v305, hv305, h⟩ := xb h
          refine x_iaload (o := a0) dL_law_1364 hv305 ?_
          refine x_aload_n (o := a0) dL_law_1365 rfl ?_
          refine r_iload_n (x := a3) dL_law_1366 rfl ?_
          refine r_iconst (v := (2 : Int32)) dL_law_1367 (by decide) ?_
          refine r_iadd dL_law_1368 ?_
          obtain ⟨v306, hv306, h⟩ := xb h
          refine x_iaload (o := a0) dL_law_1369 hv306 ?_
          refine x_aload_n (o := a0) dL_law_1370 rfl ?_
          refine r_iload_n (x := a3) dL_law_1371 rfl ?_
          refine r_iconst (v := (3 : Int32)) dL_law_1372 (by decide) ?_
          refine r_iadd dL_law_1373 ?_
          obtain ⟨v307, hv307, h⟩ := xb h
          refine x_iaload (o := a0) dL_law_1374 hv307 ?_
          refine x_aload_n (o := a0) dL_law_1375 rfl ?_
          refine r_iload_n (x := a3) dL_law_1376 rfl ?_
          refine r_iconst (v := (4 : Int32)) dL_law_1377 (by decide) ?_
          refine r_iadd dL_law_1378 ?_
          obtain ⟨v308, hv308, h⟩ := xb h
          refine x_iaload (o := a0) dL_law_1379 hv308 ?_
          obtain ⟨q309, hq309, h⟩ := xb h
          have Jq309 : Rn mL_law 1388 [(0, va_rf a0), (1, va_rf a1), (2, va_rf a2), (3, .int a3)] [.int q309, .int v307, .int v306, .int v305, va_rf a2, .long p303.1] p303.2 (some (.int rv)) st' 13 := by
            obtain ⟨q311, hq311, h⟩ := xb h
            obtain ⟨p310, hp310, h⟩ := xb h
            refine z_callV (as := [.int v305, .int v306, .int v307, .int q309]) (o := a2) (r1 := (some (.long p310.1))) (stk := [.long p303.1]) (stk2 := [.long p310.1, .long p303.1]) (st1 := p310.2) (d' := 3) dL_law_1388 xl_L_115 hq311 (by decide) (Nat.le_trans (xsJ xs0) (by decide)) rfl rfl (S_X11_odds n p303.2 a2 v305 v306 v307 q309 p310.1 p310.2 hp310) ?_
            refine r_lcmp dL_law_1391 ?_
            refine r_if_eq (tgt := 2512) dL_law_1392 (by decide) (fun c => ?_) (fun c => ?_)
            · replace h := (if_pos c).symm.trans h
              obtain ⟨v312, hv312, h⟩ := xb h
              refine x_iinc (c := (9 : Int32)) (lv' := [(3, .int v312), (0, va_rf a0), (1, va_rf a1), (2, va_rf a2)]) (x := a3) (v := v312) dL_law_2512 rfl (by decide) (Option.some.inj hv312) (by decide) (congrArg (List.cons _) (xfY rfl (xfY rfl (xfY (xk1 2 3 _) (xfN rfl rfl))))) ?_
              refine r_goto (tgt := 18) dL_law_2515 (by decide) ?_
              exact x_sub [1, 2, 3, 0] rfl (ih p310.2 a0 a1 a2 v312 h)
            · replace h := (if_neg c).symm.trans h
              refine r_iconst (v := (0 : Int32)) dL_law_1395 (by decide) ?_
              obtain ⟨v313, hv313, h⟩ := xb h
              refine x_eqI (rz_inv2 hv313).1 ?_
              obtain ⟨rfl, rfl⟩ := Prod.mk.inj (Option.some.inj h)
              exact r_ireturn dL_law_1396 .boolean rfl (by rcases (rz_inv2 hv313).2 with e | e <;> rw [e] <;> rfl)
          refine r_if_eq (tgt := 1387) dL_law_1380 (by decide) (fun c => ?_) (fun c => ?_)
          · replace hq309 := (if_pos c).symm.trans hq309
            refine r_iconst (v := (0 : Int32)) dL_law_1387 (by decide) ?_
            obtain rfl := Option.some.inj hq309
            exact x_sub [0, 1, 2, 3] rfl Jq309
          · replace hq309 := (if_neg c).symm.trans hq309
            refine r_iconst (v := (1 : Int32)) dL_law_1383 (by decide) ?_
            refine r_goto (tgt := 1388) dL_law_1384 (by decide) ?_
            obtain rfl := Option.some.inj hq309
            exact x_sub [0, 1, 2, 3] rfl Jq309
        refine r_if_eq (tgt := 1355) dL_law_1348 (by decide) (fun c => ?_) (fun c => ?_)
        · replace hq302 := (if_pos c).symm.trans hq302
          refine r_iconst (v := (0 : Int32)) dL_law_1355 (by decide) ?_
          obtain rfl := Option.some.inj hq302
          exact x_sub [0, 1, 2, 3] rfl Jq302
        · replace hq302 := (if_neg c).symm.trans hq302
          refine r_iconst (v := (1 : Int32)) dL_law_1351 (by decide) ?_
          refine r_goto (tgt := 1356) dL_law_1352 (by decide) ?_
          obtain rfl := Option.some.inj hq302
          exact x_sub [0, 1, 2, 3] rfl Jq302
      replace h := (if_neg c22).symm.trans h
      by_cases c23 : (v11 &&& (63 : Int32)) = (23 : Int32)
      · replace h := (if_pos c23).symm.trans h
        refine r_tableIn (off := 1364) (tgt := 1397) dL_law_33 (by rw [c23]; decide) (by rw [c23]; decide) (by rw [c23]; rfl) (by decide) ?_
        refine x_aload_n (o := a1) dL_law_1397 rfl ?_
        refine x_aload_n (o := a0) dL_law_1398 rfl ?_
        refine r_iload_n (x := a3) dL_law_1399 rfl ?_
        refine r_iconst (v := (1 : Int32)) dL_law_1400 (by decide) ?_
        refine r_iadd dL_law_1401 ?_
        obtain ⟨v314, hv314, h⟩ := xb h
        refine x_iaload (o := a0) dL_law_1402 hv314 ?_
        refine x_aload_n (o := a0) dL_law_1403 rfl ?_
        refine r_iload_n (x := a3) dL_law_1404 rfl ?_
        refine r_iconst (v := (2 : Int32)) dL_law_1405 (by decide) ?_
        refine r_iadd dL_law_1406 ?_
        obtain ⟨v315, hv315, h⟩ := xb h
        refine x_iaload (o := a0) dL_law_1407 hv315 ?_
        refine x_aload_n (o := a0) dL_law_1408 rfl ?_
        refine r_iload_n (x := a3) dL_law_1409 rfl ?_
        refine r_iconst (v := (3 : Int32)) dL_law_1410 (by decide) ?_
        refine r_iadd dL_law_1411 ?_
        obtain ⟨v316, hv316, h⟩ := xb h
        refine x_iaload (o := a0) dL_law_1412 hv316 ?_
        obtain ⟨q318, hq318, h⟩ := xb h
        obtain ⟨p317, hp317, h⟩ := xb h
        refine z_callV (as := [.int v314, .int v315, .int v316]) (o := a1) (r1 := (some (.int p317.1))) (stk := []) (stk2 := [.int p317.1]) (st1 := p317.2) (d' := 3) dL_law_1413 xl_L_116 hq318 (by decide) (Nat.le_trans xs0 (by decide)) rfl rfl (S_X10_carded n st a1 v314 v315 v316 p317.1 p317.2 hp317) ?_
        refine x_aload_n (o := a2) dL_law_1416 rfl ?_
        refine x_aload_n (o := a0) dL_law_1417 rfl ?_
        refine r_iload_n (x := a3) dL_law_1418 rfl ?_
        refine r_iconst (v := (1 : Int32)) dL_law_1419 (by decide) ?_
        refine r_iadd dL_law_1420 ?_
        obtain ⟨v319, hv319, h⟩ := xb h
        refine x_iaload (o := a0) dL_law_1421 hv319 ?_
        refine x_aload_n (o := a0) dL_law_1422 rfl ?_
        refine r_iload_n (x := a3) dL_law_1423 rfl ?_
        refine r_iconst (v := (2 : Int32)) dL_law_1424 (by decide) ?_
        refine r_iadd dL_law_1425 ?_
        obtain ⟨v320, hv320, h⟩ := xb h
        refine x_iaload (o := a0) dL_law_1426 hv320 ?_
        refine x_aload_n (o := a0) dL_law_1427 rfl ?_
        refine r_iload_n (x := a3) dL_law_1428 rfl ?_
        refine r_iconst (v := (3 : Int32)) dL_law_1429 (by decide) ?_
        refine r_iadd dL_law_1430 ?_
        obtain ⟨v321, hv321, h⟩ := xb h
        refine x_iaload (o := a0) dL_law_1431 hv321 ?_
        obtain ⟨q323, hq323, h⟩ := xb h
        obtain ⟨v322, hv322, h⟩ := xb h
        refine z_callV (as := [.int v319, .int v320, .int v321]) (o := a2) (r1 := (some (.int v322))) (stk := [.int p317.1]) (stk2 := [.int v322, .int p317.1]) (st1 := p317.2) (d' := 2) dL_law_1432 xl_L_119 hq323 (by decide) (Nat.le_trans (xsI xs0) (by decide)) rfl rfl (S_X11_carded n p317.2 a2 v319 v320 v321 v322 hv322) ?_
        refine r_icmp_eq (tgt := 2512) dL_law_1435 (by decide) (fun c => ?_) (fun c => ?_)
        · replace h := (if_pos c).symm.trans h
          obtain ⟨v324, hv324, h⟩ := xb h
          refine x_iinc (c := (9 : Int32)) (lv' := [(3, .int v324), (0, va_rf a0), (1, va_rf a1), (2, va_rf a2)]) (x := a3) (v := v324) dL_law_2512 rfl (by decide) (Option.some.inj hv324) (by decide) (congrArg (List.cons _) (xfY rfl (xfY rfl (xfY (xk1 2 3 _) (xfN rfl rfl))))) ?_
          refine r_goto (tgt := 18) dL_law_2515 (by decide) ?_
          exact x_sub [1, 2, 3, 0] rfl (ih p317.2 a0 a1 a2 v324 h)
        · replace h := (if_neg c).symm.trans h
          refine r_iconst (v := (0 : Int32)) dL_law_1438 (by decide) ?_
          obtain ⟨v325, hv325, h⟩ := xb h
          refine x_eqI (rz_inv2 hv325).1 ?_
          obtain ⟨rfl, rfl⟩ := Prod.mk.inj (Option.some.inj h)
          exact r_ireturn dL_law_1439 .boolean rfl (by rcases (rz_inv2 hv325).2 with e | e <;> rw [e] <;> rfl)
      replace h := (if_neg c23).symm.trans h
      by_cases c24 : (v11 &&& (63 : Int32)) = (24 : Int32)
      · replace h := (if_pos c24).symm.trans h
        refine r_tableIn (off := 1407) (tgt := 1440) dL_law_33 (by rw [c24]; decide) (by rw [c24]; decide) (by rw [c24]; rfl) (by decide) ?_
        refine x_aload_n (o := a1) dL_law_1440 rfl ?_
        refine x_aload_n (o := a0) dL_law_1441 rfl ?_
        refine r_iload_n (x := a3) dL_law_1442 rfl ?_
        refine r_iconst (v := (1 : Int32)) dL_law_1443 (by decide) ?_
        refine r_iadd dL_law_1444 ?_
        obtain ⟨v326, hv326, h⟩ := xb h
        refine x_iaload (o := a0) dL_law_1445 hv326 ?_
        refine x_aload_n (o := a0) dL_law_1446 rfl ?_
        refine r_iload_n (x := a3) dL_law_1447 rfl ?_
        refine r_iconst (v := (2 : Int32)) dL_law_1448 (by decide) ?_
        refine r_iadd dL_law_1449 ?_
        obtain ⟨v327, hv327, h⟩ := xb h
        refine x_iaload (o := a0) dL_law_1450 hv327 ?_
        refine x_aload_n (o := a0) dL_law_1451 rfl ?_
        refine r_iload_n (x := a3) dL_law_1452 rfl ?_
        refine r_iconst (v := (3 : Int32)) dL_law_1453 (by decide) ?_
        refine r_iadd dL_law_1454 ?_
        obtain ⟨v328, hv328, h⟩ := xb h
        refine x_iaload (o := a0) dL_law_1455 hv328 ?_
        refine x_aload_n (o := a0) dL_law_1456 rfl ?_
        refine r_iload_n (x := a3) dL_law_1457 rfl ?_
        refine r_iconst (v := (4 : Int32)) dL_law_1458 (by decide) ?_
        refine r_iadd dL_law_1459 ?_
        obtain ⟨v329, hv329, h⟩ := xb h
        refine x_iaload (o := a0) dL_law_1460 hv329 ?_
        obtain ⟨q330, hq330, h⟩ := xb h
        have Jq330 : Rn mL_law 1469 [(0, va_rf a0), (1, va_rf a1), (2, va_rf a2), (3, .int a3)] [.int q330, .int v328, .int v327, .int v326, va_rf a1] st (some (.int rv)) st' 13 := by
          obtain ⟨q332, hq332, h⟩ := xb h
          obtain ⟨p331, hp331, h⟩ := xb h
          refine z_callV (as := [.int v326, .int v327, .int v328, .int q330]) (o := a1) (r1 := (some (.int p331.1))) (stk := []) (stk2 := [.int p331.1]) (st1 := p331.2) (d' := 4) dL_law_1469 xl_L_120 hq332 (by decide) (Nat.le_trans xs0 (by decide)) rfl rfl (S_X10_longer n st a1 v326 v327 v328 q330 p331.1 p331.2 hp331) ?_
          refine x_aload_n (o := a2) dL_law_1472 rfl ?_
          refine x_aload_n (o := a0) dL_law_1473 rfl ?_
          refine r_iload_n (x := a3) dL_law_1474 rfl ?_
          refine r_iconst (v := (1 : Int32)) dL_law_1475 (by decide) ?_
          refine r_iadd dL_law_1476 ?_
          obtain ⟨v333, hv333, h⟩ := xb h
          refine x_iaload (o := a0) dL_law_1477 hv333 ?_
          refine x_aload_n (o := a0) dL_law_1478 rfl ?_
          refine r_iload_n (x := a3) dL_law_1479 rfl ?_
          refine r_iconst (v := (2 : Int32)) dL_law_1480 (by decide) ?_
          refine r_iadd dL_law_1481 ?_
          obtain ⟨v334, hv334, h⟩ := xb h
          refine x_iaload (o := a0) dL_law_1482 hv334 ?_
          refine x_aload_n (o := a0) dL_law_1483 rfl ?_
          refine r_iload_n (x := a3) dL_law_1484 rfl ?_
          refine r_iconst (v := (3 : Int32)) dL_law_1485 (by decide) ?_
          refine r_iadd dL_law_1486 ?_
          obtain ⟨v335, hv335, h⟩ := xb h
          refine x_iaload (o := a0) dL_law_1487 hv335 ?_
          refine x_aload_n (o := a0) dL_law_1488 rfl ?_
          refine r_iload_n (x := a3) dL_law_1489 rfl ?_
          refine r_iconst (v := (4 : Int32)) dL_law_1490 (by decide) ?_
          refine r_iadd dL_law_1491 ?_
          obtain ⟨v336, hv336, h⟩ := xb h
          refine x_iaload (o := a0) dL_law_1492 hv336 ?_
          obtain ⟨q337, hq337, h⟩ := xb h
          have Jq337 : Rn mL_law 1501 [(0, va_rf a0), (1, va_rf a1), (2, va_rf a2), (3, .int a3)] [.int q337, .int v335, .int v334, .int v333, va_rf a2, .int p331.1] p331.2 (some (.int rv)) st' 13 := by
            obtain ⟨q339, hq339, h⟩ := xb h
            obtain ⟨p338, hp338, h⟩ := xb h
            refine z_callV (as := [.int v333, .int v334, .int v335, .int q337]) (o := a2) (r1 := (some (.int p338.1))) (stk := [.int p331.1]) (stk2 := [.int p338.1, .int p331.1]) (st1 := p338.2) (d' := 3) dL_law_1501 xl_L_123 hq339 (by decide) (Nat.le_trans (xsI xs0) (by decide)) rfl rfl (S_X11_longer n p331.2 a2 v333 v334 v335 q337 p338.1 p338.2 hp338) ?_
            refine r_icmp_eq (tgt := 2512) dL_law_1504 (by decide) (fun c => ?_) (fun c => ?_)
            · replace h := (if_pos c).symm.trans h
              obtain ⟨v340, hv340, h⟩ := xb h
              refine x_iinc (c := (9 : Int32)) (lv' := [(3, .int v340), (0, va_rf a0), (1, va_rf a1), (2, va_rf a2)]) (x := a3) (v := v340) dL_law_2512 rfl (by decide) (Option.some.inj hv340) (by decide) (congrArg (List.cons _) (xfY rfl (xfY rfl (xfY (xk1 2 3 _) (xfN rfl rfl))))) ?_
              refine r_goto (tgt := 18) dL_law_2515 (by decide) ?_
              exact x_sub [1, 2, 3, 0] rfl (ih p338.2 a0 a1 a2 v340 h)
            · replace h := (if_neg c).symm.trans h
              refine r_iconst (v := (0 : Int32)) dL_law_1507 (by decide) ?_
              obtain ⟨v341, hv341, h⟩ := xb h
              refine x_eqI (rz_inv2 hv341).1 ?_
              obtain ⟨rfl, rfl⟩ := Prod.mk.inj (Option.some.inj h)
              exact r_ireturn dL_law_1508 .boolean rfl (by rcases (rz_inv2 hv341).2 with e | e <;> rw [e] <;> rfl)
          refine r_if_eq (tgt := 1500) dL_law_1493 (by decide) (fun c => ?_) (fun c => ?_)
          · replace hq337 := (if_pos c).symm.trans hq337
            refine r_iconst (v := (0 : Int32)) dL_law_1500 (by decide) ?_
            obtain rfl := Option.some.inj hq337
            exact x_sub [0, 1, 2, 3] rfl Jq337
          · replace hq337 := (if_neg c).symm.trans hq337
            refine r_iconst (v := (1 : Int32)) dL_law_1496 (by decide) ?_
            refine r_goto (tgt := 1501) dL_law_1497 (by decide) ?_
            obtain rfl := Option.some.inj hq337
            exact x_sub [0, 1, 2, 3] rfl Jq337
        refine r_if_eq (tgt := 1468) dL_law_1461 (by decide) (fun c => ?_) (fun c => ?_)
        · replace hq330 := (if_pos c).symm.trans hq330
          refine r_iconst (v := (0 : Int32)) dL_law_1468 (by decide) ?_
          obtain rfl := Option.some.inj hq330
          exact x_sub [0, 1, 2, 3] rfl Jq330
        · replace hq330 := (if_neg c).symm.trans hq330
          refine r_iconst (v := (1 : Int32)) dL_law_1464 (by decide) ?_
          refine r_goto (tgt := 1469) dL_law_1465 (by decide) ?_
          obtain rfl := Option.some.inj hq330
          exact x_sub [0, 1, 2, 3] rfl Jq330
      replace h := (if_neg c24).symm.trans h
      by_cases c25 : (v11 &&& (63 : Int32)) = (25 : Int32)
      · replace h := (if_pos c25).symm.trans h
        refine r_tableIn (off := 1476) (tgt := 1509) dL_law_33 (by rw [c25]; decide) (by rw [c25]; decide) (by rw [c25]; rfl) (by decide) ?_
        refine x_aload_n (o := a1) dL_law_1509 rfl ?_
        refine x_aload_n (o := a0) dL_law_1510 rfl ?_
        refine r_iload_n (x := a3) dL_law_1511 rfl ?_
        refine r_iconst (v := (1 : Int32)) dL_law_1512 (by decide) ?_
        refine r_iadd dL_law_1513 ?_
        obtain ⟨v342, hv342, h⟩ := xb h
        refine x_iaload (o := a0) dL_law_1514 hv342 ?_
        refine x_aload_n (o := a0) dL_law_1515 rfl ?_
        refine r_iload_n (x := a3) dL_law_1516 rfl ?_
        refine r_iconst (v := (2 : Int32)) dL_law_1517 (by decide) ?_
        refine r_iadd dL_law_1518 ?_
        obtain ⟨v343, hv343, h⟩ := xb h
        refine x_iaload (o := a0) dL_law_1519 hv343 ?_
        refine x_aload_n (o := a0) dL_law_1520 rfl ?_
        refine r_iload_n (x := a3) dL_law_1521 rfl ?_
        refine r_iconst (v := (3 : Int32)) dL_law_1522 (by decide) ?_
        refine r_iadd dL_law_1523 ?_
        obtain ⟨v344, hv344, h⟩ := xb h
        refine x_iaload (o := a0) dL_law_1524 hv344 ?_
        obtain ⟨q346, hq346, h⟩ := xb h
        obtain ⟨p345, hp345, h⟩ := xb h
        refine z_callV (as := [.int v342, .int v343, .int v344]) (o := a1) (r1 := (some (.int p345.1))) (stk := []) (stk2 := [.int p345.1]) (st1 := p345.2) (d' := 4) dL_law_1525 xl_L_124 hq346 (by decide) (Nat.le_trans xs0 (by decide)) rfl rfl (S_X10_fresh n st a1 v342 v343 v344 p345.1 p345.2 hp345) ?_
        refine x_aload_n (o := a2) dL_law_1528 rfl ?_
        refine x_aload_n (o := a0) dL_law_1529 rfl ?_
        refine r_iload_n (x := a3) dL_law_1530 rfl ?_
        refine r_iconst (v := (1 : Int32)) dL_law_1531 (by decide) ?_
        refine r_iadd dL_law_1532 ?_
        obtain ⟨v347, hv347, h⟩ := xb h
        refine x_iaload (o := a0) dL_law_1533 hv347 ?_
        refine x_aload_n (o := a0) dL_law_1534 rfl ?_
        refine r_iload_n (x := a3) dL_law_1535 rfl ?_
        refine r_iconst (v := (2 : Int32)) dL_law_1536 (by decide) ?_
        refine r_iadd dL_law_1537 ?_
        obtain ⟨v348, hv348, h⟩ := xb h
        refine x_iaload (o := a0) dL_law_1538 hv348 ?_
        refine x_aload_n (o := a0) dL_law_1539 rfl ?_
        refine r_iload_n (x := a3) dL_law_1540 rfl ?_
        refine r_iconst (v := (3 : Int32)) dL_law_1541 (by decide) ?_
        refine r_iadd dL_law_1542 ?_
        obtain ⟨v349, hv349, h⟩ := xb h
        refine x_iaload (o := a0) dL_law_1543 hv349 ?_
        obtain ⟨q351, hq351, h⟩ := xb h
        obtain ⟨p350, hp350, h⟩ := xb h
        refine z_callV (as := [.int v347, .int v348, .int v349]) (o := a2) (r1 := (some (.int p350.1))) (stk := [.int p345.1]) (stk2 := [.int p350.1, .int p345.1]) (st1 := p350.2) (d' := 3) dL_law_1544 xl_L_127 hq351 (by decide) (Nat.le_trans (xsI xs0) (by decide)) rfl rfl (S_X11_fresh n p345.2 a2 v347 v348 v349 p350.1 p350.2 hp350) ?_
        refine r_icmp_eq (tgt := 2512) dL_law_1547 (by decide) (fun c => ?_) (fun c => ?_)
        · replace h := (if_pos c).symm.trans h
          obtain ⟨v352, hv352, h⟩ := xb h
          refine x_iinc (c := (9 : Int32)) (lv' := [(3, .int v352), (0, va_rf a0), (1, va_rf a1), (2, va_rf a2)]) (x := a3) (v := v352) dL_law_2512 rfl (by decide) (Option.some.inj hv352) (by decide) (congrArg (List.cons _) (xfY rfl (xfY rfl (xfY (xk1 2 3 _) (xfN rfl rfl))))) ?_
          refine r_goto (tgt := 18) dL_law_2515 (by decide) ?_
          exact x_sub [1, 2, 3, 0] rfl (ih p350.2 a0 a1 a2 v352 h)
        · replace h := (if_neg c).symm.trans h
          refine r_iconst (v := (0 : Int32)) dL_law_1550 (by decide) ?_
          obtain ⟨v353, hv353, h⟩ := xb h
          refine x_eqI (rz_inv2 hv353).1 ?_
          obtain ⟨rfl, rfl⟩ := Prod.mk.inj (Option.some.inj h)
          exact r_ireturn dL_law_1551 .boolean rfl (by rcases (rz_inv2 hv353).2 with e | e <;> rw [e] <;> rfl)
      replace h := (if_neg c25).symm.trans h
      by_cases c26 : (v11 &&& (63 : Int32)) = (26 : Int32)
      · replace h := (if_pos c26).symm.trans h
        refine r_tableIn (off := 1519) (tgt := 1552) dL_law_33 (by rw [c26]; decide) (by rw [c26]; decide) (by rw [c26]; rfl) (by decide) ?_
        refine x_aload_n (o := a1) dL_law_1552 rfl ?_
        refine x_aload_n (o := a0) dL_law_1553 rfl ?_
        refine r_iload_n (x := a3) dL_law_1554 rfl ?_
        refine r_iconst (v := (1 : Int32)) dL_law_1555 (by decide) ?_
        refine r_iadd dL_law_1556 ?_
        obtain ⟨v354, hv354, h⟩ := xb h
        refine x_iaload (o := a0) dL_law_1557 hv354 ?_
        refine x_aload_n (o := a0) dL_law_1558 rfl ?_
        refine r_iload_n (x := a3) dL_law_1559 rfl ?_
        refine r_iconst (v := (2 : Int32)) dL_law_1560 (by decide) ?_
        refine r_iadd dL_law_1561 ?_
        obtain ⟨v355, hv355, h⟩ := xb h
        refine x_iaload (o := a0) dL_law_1562 hv355 ?_
        obtain ⟨q356, hq356, h⟩ := xb h
        have Jq356 : Rn mL_law 1571 [(0, va_rf a0), (1, va_rf a1), (2, va_rf a2), (3, .int a3)] [.int q356, .int v354, va_rf a1] st (some (.int rv)) st' 13 := by
          refine x_aload_n (o := a0) dL_law_1571 rfl ?_
          refine r_iload_n (x := a3) dL_law_1572 rfl ?_
          refine r_iconst (v := (3 : Int32)) dL_law_1573 (by decide) ?_
          refine r_iadd dL_law_1574 ?_
          obtain ⟨v357, hv357, h⟩ := xb h
          refine x_iaload (o := a0) dL_law_1575 hv357 ?_
          refine x_aload_n (o := a0) dL_law_1576 rfl ?_
          refine r_iload_n (x := a3) dL_law_1577 rfl ?_
          refine r_iconst (v := (4 : Int32)) dL_law_1578 (by decide) ?_
          refine r_iadd dL_law_1579 ?_
          obtain ⟨v358, hv358, h⟩ := xb h
          refine x_iaload (o := a0) dL_law_1580 hv358 ?_
          obtain ⟨q360, hq360, h⟩ := xb h
          obtain ⟨p359, hp359, h⟩ := xb h
          refine z_callV (as := [.int v354, .int q356, .int v357, .int v358]) (o := a1) (r1 := (some (.int p359.1))) (stk := []) (stk2 := [.int p359.1]) (st1 := p359.2) (d' := 2) dL_law_1581 xl_L_128 hq360 (by decide) (Nat.le_trans xs0 (by decide)) rfl rfl (S_X10_films n st a1 v354 q356 v357 v358 p359.1 p359.2 hp359) ?_
          refine x_aload_n (o := a2) dL_law_1584 rfl ?_
          refine x_aload_n (o := a0) dL_law_1585 rfl ?_
          refine r_iload_n (x := a3) dL_law_1586 rfl ?_
          refine r_iconst (v := (1 : Int32)) dL_law_1587 (by decide) ?_
          refine r_iadd dL_law_1588 ?_
          obtain ⟨v361, hv361, h⟩ := xb h
          refine x_iaload (o := a0) dL_law_1589 hv361 ?_
          refine x_aload_n (o := a0) dL_law_1590 rfl ?_
          refine r_iload_n (x := a3) dL_law_1591 rfl ?_
          refine r_iconst (v := (2 : Int32)) dL_law_1592 (by decide) ?_
          refine r_iadd dL_law_1593 ?_
          obtain ⟨v362, hv362, h⟩ := xb h
          refine x_iaload (o := a0) dL_law_1594 hv362 ?_
          obtain ⟨q363, hq363, h⟩ := xb h
          have Jq363 : Rn mL_law 1603 [(0, va_rf a0), (1, va_rf a1), (2, va_rf a2), (3, .int a3)] [.int q363, .int v361, va_rf a2, .int p359.1] p359.2 (some (.int rv)) st' 13 := by
            refine x_aload_n (o := a0) dL_law_1603 rfl ?_
            refine r_iload_n (x := a3) dL_law_1604 rfl ?_
            refine r_iconst (v := (3 : Int32)) dL_law_1605 (by decide) ?_
            refine r_iadd dL_law_1606 ?_
            obtain ⟨v364, hv364, h⟩ := xb h
            refine x_iaload (o := a0) dL_law_1607 hv364 ?_
            refine x_aload_n (o := a0) dL_law_1608 rfl ?_
            refine r_iload_n (x := a3) dL_law_1609 rfl ?_
            refine r_iconst (v := (4 : Int32)) dL_law_1610 (by decide) ?_
            refine r_iadd dL_law_1611 ?_
            obtain ⟨v365, hv365, h⟩ := xb h
            refine x_iaload (o := a0) dL_law_1612 hv365 ?_
            obtain ⟨q367, hq367, h⟩ := xb h
            obtain ⟨p366, hp366, h⟩ := xb h
            refine z_callV (as := [.int v361, .int q363, .int v364, .int v365]) (o := a2) (r1 := (some (.int p366.1))) (stk := [.int p359.1]) (stk2 := [.int p366.1, .int p359.1]) (st1 := p366.2) (d' := 1) dL_law_1613 xl_L_132 hq367 (by decide) (Nat.le_trans (xsI xs0) (by decide)) rfl rfl (S_X11_films n p359.2 a2 v361 q363 v364 v365 p366.1 p366.2 hp366) ?_
            refine r_icmp_eq (tgt := 2512) dL_law_1616 (by decide) (fun c => ?_) (fun c => ?_)
            · replace h := (if_pos c).symm.trans h
              obtain ⟨v368, hv368, h⟩ := xb h
              refine x_iinc (c := (9 : Int32)) (lv' := [(3, .int v368), (0, va_rf a0), (1, va_rf a1), (2, va_rf a2)]) (x := a3) (v := v368) dL_law_2512 rfl (by decide) (Option.some.inj hv368) (by decide) (congrArg (List.cons _) (xfY rfl (xfY rfl (xfY (xk1 2 3 _) (xfN rfl rfl))))) ?_
              refine r_goto (tgt := 18) dL_law_2515 (by decide) ?_
              exact x_sub [1, 2, 3, 0] rfl (ih p366.2 a0 a1 a2 v368 h)
            · replace h := (if_neg c).symm.trans h
              refine r_iconst (v := (0 : Int32)) dL_law_1619 (by decide) ?_
              obtain ⟨v369, hv369, h⟩ := xb h
              refine x_eqI (rz_inv2 hv369).1 ?_
              obtain ⟨rfl, rfl⟩ := Prod.mk.inj (Option.some.inj h)
              exact r_ireturn dL_law_1620 .boolean rfl (by rcases (rz_inv2 hv369).2 with e | e <;> rw [e] <;> rfl)
          refine r_if_eq (tgt := 1602) dL_law_1595 (by decide) (fun c => ?_) (fun c => ?_)
          · replace hq363 := (if_pos c).symm.trans hq363
            refine r_iconst (v := (0 : Int32)) dL_law_1602 (by decide) ?_
            obtain rfl := Option.some.inj hq363
            exact x_sub [0, 1, 2, 3] rfl Jq363
          · replace hq363 := (if_neg c).symm.trans hq363
            refine r_iconst (v := (1 : Int32)) dL_law_1598 (by decide) ?_
            refine r_goto (tgt := 1603) dL_law_1599 (by decide) ?_
            obtain rfl := Option.some.inj hq363
            exact x_sub [0, 1, 2, 3] rfl Jq363
        refine r_if_eq (tgt := 1570) dL_law_1563 (by decide) (fun c => ?_) (fun c => ?_)
        · replace hq356 := (if_pos c).symm.trans hq356
          refine r_iconst (v := (0 : Int32)) dL_law_1570 (by decide) ?_
          obtain rfl := Option.some.inj hq356
          exact x_sub [0, 1, 2, 3] rfl Jq356
        · replace hq356 := (if_neg c).symm.trans hq356
          refine r_iconst (v := (1 : Int32)) dL_law_1566 (by decide) ?_
          refine r_goto (tgt := 1571) dL_law_1567 (by decide) ?_
          obtain rfl := Option.some.inj hq356
          exact x_sub [0, 1, 2, 3] rfl Jq356
      replace h := (if_neg c26).symm.trans h
      by_cases c27 : (v11 &&& (63 : Int32)) = (27 : Int32)
      · replace h := (if_pos c27).symm.trans h
        refine r_tableIn (off := 1588) (tgt := 1621) dL_law_33 (by rw [c27]; decide) (by rw [c27]; decide) (by rw [c27]; rfl) (by decide) ?_
        refine x_aload_n (o := a1) dL_law_1621 rfl ?_
        refine x_aload_n (o := a0) dL_law_1622 rfl ?_
        refine r_iload_n (x := a3) dL_law_1623 rfl ?_
        refine r_iconst (v := (1 : Int32)) dL_law_1624 (by decide) ?_
        refine r_iadd dL_law_1625 ?_
        obtain ⟨v370, hv370, h⟩ := xb h
        refine x_iaload (o := a0) dL_law_1626 hv370 ?_
        refine x_aload_n (o := a0) dL_law_1627 rfl ?_
        refine r_iload_n (x := a3) dL_law_1628 rfl ?_
        refine r_iconst (v := (2 : Int32)) dL_law_1629 (by decide) ?_
        refine r_iadd dL_law_1630 ?_
        obtain ⟨v371, hv371, h⟩ := xb h
        refine x_iaload (o := a0) dL_law_1631 hv371 ?_
        obtain ⟨q372, hq372, h⟩ := xb h
        have Jq372 : Rn mL_law 1640 [(0, va_rf a0), (1, va_rf a1), (2, va_rf a2), (3, .int a3)] [.int q372, .int v370, va_rf a1] st (some (.int rv)) st' 13 := by
          obtain ⟨q374, hq374, h⟩ := xb h
          obtain ⟨v373, hv373, h⟩ := xb h
          refine z_callV (as := [.int v370, .int q372]) (o := a1) (r1 := (some (.long v373))) (stk := []) (stk2 := [.long v373]) (st1 := st) (d' := 3) dL_law_1640 xl_L_133 hq374 (by decide) (Nat.le_trans xs0 (by decide)) rfl rfl (S_X10_looser n st a1 v370 q372 v373 hv373) ?_
          refine x_aload_n (o := a2) dL_law_1643 rfl ?_
          refine x_aload_n (o := a0) dL_law_1644 rfl ?_
          refine r_iload_n (x := a3) dL_law_1645 rfl ?_
          refine r_iconst (v := (1 : Int32)) dL_law_1646 (by decide) ?_
          refine r_iadd dL_law_1647 ?_
          obtain ⟨v375, hv375, h⟩ := xb h
          refine x_iaload (o := a0) dL_law_1648 hv375 ?_
          refine x_aload_n (o := a0) dL_law_1649 rfl ?_
          refine r_iload_n (x := a3) dL_law_1650 rfl ?_
          refine r_iconst (v := (2 : Int32)) dL_law_1651 (by decide) ?_
          refine r_iadd dL_law_1652 ?_
          obtain ⟨v376, hv376, h⟩ := xb h
          refine x_iaload (o := a0) dL_law_1653 hv376 ?_
          obtain ⟨q377, hq377, h⟩ := xb h
          have Jq377 : Rn mL_law 1662 [(0, va_rf a0), (1, va_rf a1), (2, va_rf a2), (3, .int a3)] [.int q377, .int v375, va_rf a2, .long v373] st (some (.int rv)) st' 13 := by
            obtain ⟨q379, hq379, h⟩ := xb h
            obtain ⟨p378, hp378, h⟩ := xb h
            refine z_callV (as := [.int v375, .int q377]) (o := a2) (r1 := (some (.long p378.1))) (stk := [.long v373]) (stk2 := [.long p378.1, .long v373]) (st1 := p378.2) (d' := 2) dL_law_1662 xl_L_137 hq379 (by decide) (Nat.le_trans (xsJ xs0) (by decide)) rfl rfl (S_X11_looser n st a2 v375 q377 p378.1 p378.2 hp378) ?_
            refine r_lcmp dL_law_1665 ?_
            refine r_if_eq (tgt := 2512) dL_law_1666 (by decide) (fun c => ?_) (fun c => ?_)
            · replace h := (if_pos c).symm.trans h
              obtain ⟨v380, hv380, h⟩ := xb h
              refine x_iinc (c := (9 : Int32)) (lv' := [(3, .int v380), (0, va_rf a0), (1, va_rf a1), (2, va_rf a2)]) (x := a3) (v := v380) dL_law_2512 rfl (by decide) (Option.some.inj hv380) (by decide) (congrArg (List.cons _) (xfY rfl (xfY rfl (xfY (xk1 2 3 _) (xfN rfl rfl))))) ?_
              refine r_goto (tgt := 18) dL_law_2515 (by decide) ?_
              exact x_sub [1, 2, 3, 0] rfl (ih p378.2 a0 a1 a2 v380 h)
            · replace h := (if_neg c).symm.trans h
              refine r_iconst (v := (0 : Int32)) dL_law_1669 (by decide) ?_
              obtain ⟨v381, hv381, h⟩ := xb h
              refine x_eqI (rz_inv2 hv381).1 ?_
              obtain ⟨rfl, rfl⟩ := Prod.mk.inj (Option.some.inj h)
              exact r_ireturn dL_law_1670 .boolean rfl (by rcases (rz_inv2 hv381).2 with e | e <;> rw [e] <;> rfl)
          refine r_if_eq (tgt := 1661) dL_law_1654 (by decide) (fun c => ?_) (fun c => ?_)
          · replace hq377 := (if_pos c).symm.trans hq377
            refine r_iconst (v := (0 : Int32)) dL_law_1661 (by decide) ?_
            obtain rfl := Option.some.inj hq377
            exact x_sub [0, 1, 2, 3] rfl Jq377
          · replace hq377 := (if_neg c).symm.trans hq377
            refine r_iconst (v := (1 : Int32)) dL_law_1657 (by decide) ?_
            refine r_goto (tgt := 1662) dL_law_1658 (by decide) ?_
            obtain rfl := Option.some.inj hq377
            exact x_sub [0, 1, 2, 3] rfl Jq377
        refine r_if_eq (tgt := 1639) dL_law_1632 (by decide) (fun c => ?_) (fun c => ?_)
        · replace hq372 := (if_pos c).symm.trans hq372
          refine r_iconst (v := (0 : Int32)) dL_law_1639 (by decide) ?_
          obtain rfl := Option.some.inj hq372
          exact x_sub [0, 1, 2, 3] rfl Jq372
        · replace hq372 := (if_neg c).symm.trans hq372
          refine r_iconst (v := (1 : Int32)) dL_law_1635 (by decide) ?_
          refine r_goto (tgt := 1640) dL_law_1636 (by decide) ?_
          obtain rfl := Option.some.inj hq372
          exact x_sub [0, 1, 2, 3] rfl Jq372
      replace h := (if_neg c27).symm.trans h
      by_cases c28 : (v11 &&& (63 : Int32)) = (28 : Int32)
      · replace h := (if_pos c28).symm.trans h
        refine r_tableIn (off := 1638) (tgt := 1671) dL_law_33 (by rw [c28]; decide) (by rw [c28]; decide) (by rw [c28]; rfl) (by decide) ?_
        refine x_aload_n (o := a1) dL_law_1671 rfl ?_
        refine x_aload_n (o := a0) dL_law_1672 rfl ?_
        refine r_iload_n (x := a3) dL_law_1673 rfl ?_
        refine r_iconst (v := (1 : Int32)) dL_law_1674 (by decide) ?_
        refine r_iadd dL_law_1675 ?_
        obtain ⟨v382, hv382, h⟩ := xb h
        refine x_iaload (o := a0) dL_law_1676 hv382 ?_
        refine x_aload_n (o := a0) dL_law_1677 rfl ?_
        refine r_iload_n (x := a3) dL_law_1678 rfl ?_
        refine r_iconst (v := (2 : Int32)) dL_law_1679 (by decide) ?_
        refine r_iadd dL_law_1680 ?_
        obtain ⟨v383, hv383, h⟩ := xb h
        refine x_iaload (o := a0) dL_law_1681 hv383 ?_
        refine x_aload_n (o := a0) dL_law_1682 rfl ?_
        refine r_iload_n (x := a3) dL_law_1683 rfl ?_
        refine r_iconst (v := (3 : Int32)) dL_law_1684 (by decide) ?_
        refine r_iadd dL_law_1685 ?_
        obtain ⟨v384, hv384, h⟩ := xb h
        refine x_iaload (o := a0) dL_law_1686 hv384 ?_
        obtain ⟨q386, hq386, h⟩ := xb h
        obtain ⟨p385, hp385, h⟩ := xb h
        refine z_callV (as := [.int v382, .int v383, .int v384]) (o := a1) (r1 := (some (.int p385.1))) (stk := []) (stk2 := [.int p385.1]) (st1 := p385.2) (d' := 4) dL_law_1687 xl_L_138 hq386 (by decide) (Nat.le_trans xs0 (by decide)) rfl rfl (S_X10_had n st a1 v382 v383 v384 p385.1 p385.2 hp385) ?_
        refine x_aload_n (o := a2) dL_law_1690 rfl ?_
        refine x_aload_n (o := a0) dL_law_1691 rfl ?_
        refine r_iload_n (x := a3) dL_law_1692 rfl ?_
        refine r_iconst (v := (1 : Int32)) dL_law_1693 (by decide) ?_
        refine r_iadd dL_law_1694 ?_
        obtain ⟨v387, hv387, h⟩ := xb h
        refine x_iaload (o := a0) dL_law_1695 hv387 ?_
        refine x_aload_n (o := a0) dL_law_1696 rfl ?_
        refine r_iload_n (x := a3) dL_law_1697 rfl ?_
        refine r_iconst (v := (2 : Int32)) dL_law_1698 (by decide) ?_
        refine r_iadd dL_law_1699 ?_
        obtain ⟨v388, hv388, h⟩ := xb h
        refine x_iaload (o := a0) dL_law_1700 hv388 ?_
        refine x_aload_n (o := a0) dL_law_1701 rfl ?_
        refine r_iload_n (x := a3) dL_law_1702 rfl ?_
        refine r_iconst (v := (3 : Int32)) dL_law_1703 (by decide) ?_
        refine r_iadd dL_law_1704 ?_
        obtain ⟨v389, hv389, h⟩ := xb h
        refine x_iaload (o := a0) dL_law_1705 hv389 ?_
        obtain ⟨q391, hq391, h⟩ := xb h
        obtain ⟨v390, hv390, h⟩ := xb h
        refine z_callV (as := [.int v387, .int v388, .int v389]) (o := a2) (r1 := (some (.int v390))) (stk := [.int p385.1]) (stk2 := [.int v390, .int p385.1]) (st1 := p385.2) (d' := 3) dL_law_1706 xl_L_141 hq391 (by decide) (Nat.le_trans (xsI xs0) (by decide)) rfl rfl (S_X11_had n p385.2 a2 v387 v388 v389 v390 hv390) ?_
        refine r_icmp_eq (tgt := 2512) dL_law_1709 (by decide) (fun c => ?_) (fun c => ?_)
        · replace h := (if_pos c).symm.trans h
          obtain ⟨v392, hv392, h⟩ := xb h
          refine x_iinc (c := (9 : Int32)) (lv' := [(3, .int v392), (0, va_rf a0), (1, va_rf a1), (2, va_rf a2)]) (x := a3) (v := v392) dL_law_2512 rfl (by decide) (Option.some.inj hv392) (by decide) (congrArg (List.cons _) (xfY rfl (xfY rfl (xfY (xk1 2 3 _) (xfN rfl rfl))))) ?_
          refine r_goto (tgt := 18) dL_law_2515 (by decide) ?_
          exact x_sub [1, 2, 3, 0] rfl (ih p385.2 a0 a1 a2 v392 h)
        · replace h := (if_neg c).symm.trans h
          refine r_iconst (v := (0 : Int32)) dL_law_1712 (by decide) ?_
          obtain ⟨v393, hv393, h⟩ := xb h
          refine x_eqI (rz_inv2 hv393).1 ?_
          obtain ⟨rfl, rfl⟩ := Prod.mk.inj (Option.some.inj h)
          exact r_ireturn dL_law_1713 .boolean rfl (by rcases (rz_inv2 hv393).2 with e | e <;> rw [e] <;> rfl)
      replace h := (if_neg c28).symm.trans h
      by_cases c29 : (v11 &&& (63 : Int32)) = (29 : Int32)
      · replace h := (if_pos c29).symm.trans h
        refine r_tableIn (off := 1681) (tgt := 1714) dL_law_33 (by rw [c29]; decide) (by rw [c29]; decide) (by rw [c29]; rfl) (by decide) ?_
        refine x_aload_n (o := a1) dL_law_1714 rfl ?_
        refine x_aload_n (o := a0) dL_law_1715 rfl ?_
        refine r_iload_n (x := a3) dL_law_1716 rfl ?_
        refine r_iconst (v := (1 : Int32)) dL_law_1717 (by decide) ?_
        refine r_iadd dL_law_1718 ?_
        obtain ⟨v394, hv394, h⟩ := xb h
        refine x_iaload (o := a0) dL_law_1719 hv394 ?_
        refine x_aload_n (o := a0) dL_law_1720 rfl ?_
        refine r_iload_n (x := a3) dL_law_1721 rfl ?_
        refine r_iconst (v := (2 : Int32)) dL_law_1722 (by decide) ?_
        refine r_iadd dL_law_1723 ?_
        obtain ⟨v395, hv395, h⟩ := xb h
        refine x_iaload (o := a0) dL_law_1724 hv395 ?_
        refine x_aload_n (o := a0) dL_law_1725 rfl ?_
        refine r_iload_n (x := a3) dL_law_1726 rfl ?_
        refine r_iconst (v := (3 : Int32)) dL_law_1727 (by decide) ?_
        refine r_iadd dL_law_1728 ?_
        obtain ⟨v396, hv396, h⟩ := xb h
        refine x_iaload (o := a0) dL_law_1729 hv396 ?_
        refine x_aload_n (o := a0) dL_law_1730 rfl ?_
        refine r_iload_n (x := a3) dL_law_1731 rfl ?_
        refine r_iconst (v := (4 : Int32)) dL_law_1732 (by decide) ?_
        refine r_iadd dL_law_1733 ?_
        obtain ⟨v397, hv397, h⟩ := xb h
        refine x_iaload (o := a0) dL_law_1734 hv397 ?_
        obtain ⟨q399, hq399, h⟩ := xb h
        obtain ⟨p398, hp398, h⟩ := xb h
        refine z_callV (as := [.int v394, .int v395, .int v396, .int v397]) (o := a1) (r1 := (some (.int p398.1))) (stk := []) (stk2 := [.int p398.1]) (st1 := p398.2) (d' := 4) dL_law_1735 xl_L_142 hq399 (by decide) (Nat.le_trans xs0 (by decide)) rfl rfl (S_X10_fixed n st a1 v394 v395 v396 v397 p398.1 p398.2 hp398) ?_
        refine x_aload_n (o := a2) dL_law_1738 rfl ?_
        refine x_aload_n (o := a0) dL_law_1739 rfl ?_
        refine r_iload_n (x := a3) dL_law_1740 rfl ?_
        refine r_iconst (v := (1 : Int32)) dL_law_1741 (by decide) ?_
        refine r_iadd dL_law_1742 ?_
        obtain ⟨v400, hv400, h⟩ := xb h
        refine x_iaload (o := a0) dL_law_1743 hv400 ?_
        refine x_aload_n (o := a0) dL_law_1744 rfl ?_
        refine r_iload_n (x := a3) dL_law_1745 rfl ?_
        refine r_iconst (v := (2 : Int32)) dL_law_1746 (by decide) ?_
        refine r_iadd dL_law_1747 ?_
        obtain ⟨v401, hv401, h⟩ := xb h
        refine x_iaload (o := a0) dL_law_1748 hv401 ?_
        refine x_aload_n (o := a0) dL_law_1749 rfl ?_
        refine r_iload_n (x := a3) dL_law_1750 rfl ?_
        refine r_iconst (v := (3 : Int32)) dL_law_1751 (by decide) ?_
        refine r_iadd dL_law_1752 ?_
        obtain ⟨v402, hv402, h⟩ := xb h
        refine x_iaload (o := a0) dL_law_1753 hv402 ?_
        refine x_aload_n (o := a0) dL_law_1754 rfl ?_
        refine r_iload_n (x := a3) dL_law_1755 rfl ?_
        refine r_iconst (v := (4 : Int32)) dL_law_1756 (by decide) ?_
        refine r_iadd dL_law_1757 ?_
        obtain ⟨v403, hv403, h⟩ := xb h
        refine x_iaload (o := a0) dL_law_1758 hv403 ?_
        obtain ⟨q405, hq405, h⟩ := xb h
        obtain ⟨p404, hp404, h⟩ := xb h
        refine z_callV (as := [.int v400, .int v401, .int v402, .int v403]) (o := a2) (r1 := (some (.int p404.1))) (stk := [.int p398.1]) (stk2 := [.int p404.1, .int p398.1]) (st1 := p404.2) (d' := 3) dL_law_1759 xl_L_146 hq405 (by decide) (Nat.le_trans (xsI xs0) (by decide)) rfl rfl (S_X11_fixed n p398.2 a2 v400 v401 v402 v403 p404.1 p404.2 hp404) ?_
        refine r_icmp_eq (tgt := 2512) dL_law_1762 (by decide) (fun c => ?_) (fun c => ?_)
        · replace h := (if_pos c).symm.trans h
          obtain ⟨v406, hv406, h⟩ := xb h
          refine x_iinc (c := (9 : Int32)) (lv' := [(3, .int v406), (0, va_rf a0), (1, va_rf a1), (2, va_rf a2)]) (x := a3) (v := v406) dL_law_2512 rfl (by decide) (Option.some.inj hv406) (by decide) (congrArg (List.cons _) (xfY rfl (xfY rfl (xfY (xk1 2 3 _) (xfN rfl rfl))))) ?_
          refine r_goto (tgt := 18) dL_law_2515 (by decide) ?_
          exact x_sub [1, 2, 3, 0] rfl (ih p404.2 a0 a1 a2 v406 h)
        · replace h := (if_neg c).symm.trans h
          refine r_iconst (v := (0 : Int32)) dL_law_1765 (by decide) ?_
          obtain ⟨v407, hv407, h⟩ := xb h
          refine x_eqI (rz_inv2 hv407).1 ?_
          obtain ⟨rfl, rfl⟩ := Prod.mk.inj (Option.some.inj h)
          exact r_ireturn dL_law_1766 .boolean rfl (by rcases (rz_inv2 hv407).2 with e | e <;> rw [e] <;> rfl)
      replace h := (if_neg c29).symm.trans h
      by_cases c30 : (v11 &&& (63 : Int32)) = (30 : Int32)
      · replace h := (if_pos c30).symm.trans h
        refine r_tableIn (off := 1734) (tgt := 1767) dL_law_33 (by rw [c30]; decide) (by rw [c30]; decide) (by rw [c30]; rfl) (by decide) ?_
        refine x_aload_n (o := a1) dL_law_1767 rfl ?_
        refine x_aload_n (o := a0) dL_law_1768 rfl ?_
        refine r_iload_n (x := a3) dL_law_1769 rfl ?_
        refine r_iconst (v := (1 : Int32)) dL_law_1770 (by decide) ?_
        refine r_iadd dL_law_1771 ?_
        obtain ⟨v408, hv408, h⟩ := xb h
        refine x_iaload (o := a0) dL_law_1772 hv408 ?_
        refine x_aload_n (o := a0) dL_law_1773 rfl ?_
        refine r_iload_n (x := a3) dL_law_1774 rfl ?_
        refine r_iconst (v := (2 : Int32)) dL_law_1775 (by decide) ?_
        refine r_iadd dL_law_1776 ?_
        obtain ⟨v409, hv409, h⟩ := xb h
        refine x_iaload (o := a0) dL_law_1777 hv409 ?_
        refine x_aload_n (o := a0) dL_law_1778 rfl ?_
        refine r_iload_n (x := a3) dL_law_1779 rfl ?_
        refine r_iconst (v := (3 : Int32)) dL_law_1780 (by decide) ?_
        refine r_iadd dL_law_1781 ?_
        obtain ⟨v410, hv410, h⟩ := xb h
        refine x_iaload (o := a0) dL_law_1782 hv410 ?_
        obtain ⟨q412, hq412, h⟩ := xb h
        obtain ⟨p411, hp411, h⟩ := xb h
        refine z_callV (as := [.int v408, .int v409, .int v410]) (o := a1) (r1 := (some (.int p411.1))) (stk := []) (stk2 := [.int p411.1]) (st1 := p411.2) (d' := 4) dL_law_1783 xl_L_147 hq412 (by decide) (Nat.le_trans xs0 (by decide)) rfl rfl (S_X10_travel n st a1 v408 v409 v410 p411.1 p411.2 hp411) ?_
        refine x_aload_n (o := a2) dL_law_1786 rfl ?_
        refine x_aload_n (o := a0) dL_law_1787 rfl ?_
        refine r_iload_n (x := a3) dL_law_1788 rfl ?_
        refine r_iconst (v := (1 : Int32)) dL_law_1789 (by decide) ?_
        refine r_iadd dL_law_1790 ?_
        obtain ⟨v413, hv413, h⟩ := xb h
        refine x_iaload (o := a0) dL_law_1791 hv413 ?_
        refine x_aload_n (o := a0) dL_law_1792 rfl ?_
        refine r_iload_n (x := a3) dL_law_1793 rfl ?_
        refine r_iconst (v := (2 : Int32)) dL_law_1794 (by decide) ?_
        refine r_iadd dL_law_1795 ?_
        obtain ⟨v414, hv414, h⟩ := xb h
        refine x_iaload (o := a0) dL_law_1796 hv414 ?_
        refine x_aload_n (o := a0) dL_law_1797 rfl ?_
        refine r_iload_n (x := a3) dL_law_1798 rfl ?_
        refine r_iconst (v := (3 : Int32)) dL_law_1799 (by decide) ?_
        refine r_iadd dL_law_1800 ?_
        obtain ⟨v415, hv415, h⟩ := xb h
        refine x_iaload (o := a0) dL_law_1801 hv415 ?_
        obtain ⟨q417, hq417, h⟩ := xb h
        obtain ⟨v416, hv416, h⟩ := xb h
        refine z_callV (as := [.int v413, .int v414, .int v415]) (o := a2) (r1 := (some (.int v416))) (stk := [.int p411.1]) (stk2 := [.int v416, .int p411.1]) (st1 := p411.2) (d' := 4) dL_law_1802 xl_L_150 hq417 (by decide) (Nat.le_trans (xsI xs0) (by decide)) rfl rfl (S_X11_travel n p411.2 a2 v413 v414 v415 v416 hv416) ?_
        refine r_icmp_eq (tgt := 2512) dL_law_1805 (by decide) (fun c => ?_) (fun c => ?_)
        · replace h := (if_pos c).symm.trans h
          obtain ⟨v418, hv418, h⟩ := xb h
          refine x_iinc (c := (9 : Int32)) (lv' := [(3, .int v418), (0, va_rf a0), (1, va_rf a1), (2, va_rf a2)]) (x := a3) (v := v418) dL_law_2512 rfl (by decide) (Option.some.inj hv418) (by decide) (congrArg (List.cons _) (xfY rfl (xfY rfl (xfY (xk1 2 3 _) (xfN rfl rfl))))) ?_
          refine r_goto (tgt := 18) dL_law_2515 (by decide) ?_
          exact x_sub [1, 2, 3, 0] rfl (ih p411.2 a0 a1 a2 v418 h)
        · replace h := (if_neg c).symm.trans h
          refine r_iconst (v := (0 : Int32)) dL_law_1808 (by decide) ?_
          obtain ⟨v419, hv419, h⟩ := xb h
          refine x_eqI (rz_inv2 hv419).1 ?_
          obtain ⟨rfl, rfl⟩ := Prod.mk.inj (Option.some.inj h)
          exact r_ireturn dL_law_1809 .boolean rfl (by rcases (rz_inv2 hv419).2 with e | e <;> rw [e] <;> rfl)
      replace h := (if_neg c30).symm.trans h
      by_cases c31 : (v11 &&& (63 : Int32)) = (31 : Int32)
      · replace h := (if_pos c31).symm.trans h
        refine r_tableIn (off := 1777) (tgt := 1810) dL_law_33 (by rw [c31]; decide) (by rw [c31]; decide) (by rw [c31]; rfl) (by decide) ?_
        refine x_aload_n (o := a1) dL_law_1810 rfl ?_
        refine x_aload_n (o := a0) dL_law_1811 rfl ?_
        refine r_iload_n (x := a3) dL_law_1812 rfl ?_
        refine r_iconst (v := (1 : Int32)) dL_law_1813 (by decide) ?_
        refine r_iadd dL_law_1814 ?_
        obtain ⟨v420, hv420, h⟩ := xb h
        refine x_iaload (o := a0) dL_law_1815 hv420 ?_
        refine x_aload_n (o := a0) dL_law_1816 rfl ?_
        refine r_iload_n (x := a3) dL_law_1817 rfl ?_
        refine r_iconst (v := (2 : Int32)) dL_law_1818 (by decide) ?_
        refine r_iadd dL_law_1819 ?_
        obtain ⟨v421, hv421, h⟩ := xb h
        refine x_iaload (o := a0) dL_law_1820 hv421 ?_
        refine x_aload_n (o := a0) dL_law_1821 rfl ?_
        refine r_iload_n (x := a3) dL_law_1822 rfl ?_
        refine r_iconst (v := (3 : Int32)) dL_law_1823 (by decide) ?_
        refine r_iadd dL_law_1824 ?_
        obtain ⟨v422, hv422, h⟩ := xb h
        refine x_iaload (o := a0) dL_law_1825 hv422 ?_
        obtain ⟨q423, hq423, h⟩ := xb h
        have Jq423 : Rn mL_law 1834 [(0, va_rf a0), (1, va_rf a1), (2, va_rf a2), (3, .int a3)] [.int q423, .int v421, .int v420, va_rf a1] st (some (.int rv)) st' 13 := by
          obtain ⟨q425, hq425, h⟩ := xb h
          obtain ⟨v424, hv424, h⟩ := xb h
          refine z_callV (as := [.int v420, .int v421, .int q423]) (o := a1) (r1 := (some (.int v424))) (stk := []) (stk2 := [.int v424]) (st1 := st) (d' := 3) dL_law_1834 xl_L_151 hq425 (by decide) (Nat.le_trans xs0 (by decide)) rfl rfl (S_X10_runs n st a1 v420 v421 q423 v424 hv424) ?_
          refine x_aload_n (o := a2) dL_law_1837 rfl ?_
          refine x_aload_n (o := a0) dL_law_1838 rfl ?_
          refine r_iload_n (x := a3) dL_law_1839 rfl ?_
          refine r_iconst (v := (1 : Int32)) dL_law_1840 (by decide) ?_
          refine r_iadd dL_law_1841 ?_
          obtain ⟨v426, hv426, h⟩ := xb h
          refine x_iaload (o := a0) dL_law_1842 hv426 ?_
          refine x_aload_n (o := a0) dL_law_1843 rfl ?_
          refine r_iload_n (x := a3) dL_law_1844 rfl ?_
          refine r_iconst (v := (2 : Int32)) dL_law_1845 (by decide) ?_
          refine r_iadd dL_law_1846 ?_
          obtain ⟨v427, hv427, h⟩ := xb h
          refine x_iaload (o := a0) dL_law_1847 hv427 ?_
          refine x_aload_n (o := a0) dL_law_1848 rfl ?_
          refine r_iload_n (x := a3) dL_law_1849 rfl ?_
          refine r_iconst (v := (3 : Int32)) dL_law_1850 (by decide) ?_
          refine r_iadd dL_law_1851 ?_
          obtain ⟨v428, hv428, h⟩ := xb h
          refine x_iaload (o := a0) dL_law_1852 hv428 ?_
          obtain ⟨q429, hq429, h⟩ := xb h
          have Jq429 : Rn mL_law 1861 [(0, va_rf a0), (1, va_rf a1), (2, va_rf a2), (3, .int a3)] [.int q429, .int v427, .int v426, va_rf a2, .int v424] st (some (.int rv)) st' 13 := by
            obtain ⟨q431, hq431, h⟩ := xb h
            obtain ⟨v430, hv430, h⟩ := xb h
            refine z_callV (as := [.int v426, .int v427, .int q429]) (o := a2) (r1 := (some (.int v430))) (stk := [.int v424]) (stk2 := [.int v430, .int v424]) (st1 := st) (d' := 3) dL_law_1861 xl_L_154 hq431 (by decide) (Nat.le_trans (xsI xs0) (by decide)) rfl rfl (S_X11_runs n st a2 v426 v427 q429 v430 hv430) ?_
            refine r_icmp_eq (tgt := 2512) dL_law_1864 (by decide) (fun c => ?_) (fun c => ?_)
            · replace h := (if_pos c).symm.trans h
              obtain ⟨v432, hv432, h⟩ := xb h
              refine x_iinc (c := (9 : Int32)) (lv' := [(3, .int v432), (0, va_rf a0), (1, va_rf a1), (2, va_rf a2)]) (x := a3) (v := v432) dL_law_2512 rfl (by decide) (Option.some.inj hv432) (by decide) (congrArg (List.cons _) (xfY rfl (xfY rfl (xfY (xk1 2 3 _) (xfN rfl rfl))))) ?_
              refine r_goto (tgt := 18) dL_law_2515 (by decide) ?_
              exact x_sub [1, 2, 3, 0] rfl (ih st a0 a1 a2 v432 h)
            · replace h := (if_neg c).symm.trans h
              refine r_iconst (v := (0 : Int32)) dL_law_1867 (by decide) ?_
              obtain ⟨v433, hv433, h⟩ := xb h
              refine x_eqI (rz_inv2 hv433).1 ?_
              obtain ⟨rfl, rfl⟩ := Prod.mk.inj (Option.some.inj h)
              exact r_ireturn dL_law_1868 .boolean rfl (by rcases (rz_inv2 hv433).2 with e | e <;> rw [e] <;> rfl)
          refine r_if_eq (tgt := 1860) dL_law_1853 (by decide) (fun c => ?_) (fun c => ?_)
          · replace hq429 := (if_pos c).symm.trans hq429
            refine r_iconst (v := (0 : Int32)) dL_law_1860 (by decide) ?_
            obtain rfl := Option.some.inj hq429
            exact x_sub [0, 1, 2, 3] rfl Jq429
          · replace hq429 := (if_neg c).symm.trans hq429
            refine r_iconst (v := (1 : Int32)) dL_law_1856 (by decide) ?_
            refine r_goto (tgt := 1861) dL_law_1857 (by decide) ?_
            obtain rfl := Option.some.inj hq429
            exact x_sub [0, 1, 2, 3] rfl Jq429
        refine r_if_eq (tgt := 1833) dL_law_1826 (by decide) (fun c => ?_) (fun c => ?_)
        · replace hq423 := (if_pos c).symm.trans hq423
          refine r_iconst (v := (0 : Int32)) dL_law_1833 (by decide) ?_
          obtain rfl := Option.some.inj hq423
          exact x_sub [0, 1, 2, 3] rfl Jq423
        · replace hq423 := (if_neg c).symm.trans hq423
          refine r_iconst (v := (1 : Int32)) dL_law_1829 (by decide) ?_
          refine r_goto (tgt := 1834) dL_law_1830 (by decide) ?_
          obtain rfl := Option.some.inj hq423
          exact x_sub [0, 1, 2, 3] rfl Jq423
      replace h := (if_neg c31).symm.trans h
      by_cases c32 : (v11 &&& (63 : Int32)) = (32 : Int32)
      · replace h := (if_pos c32).symm.trans h
        refine r_tableIn (off := 1836) (tgt := 1869) dL_law_33 (by rw [c32]; decide) (by rw [c32]; decide) (by rw [c32]; rfl) (by decide) ?_
        refine x_aload_n (o := a1) dL_law_1869 rfl ?_
        refine x_aload_n (o := a0) dL_law_1870 rfl ?_
        refine r_iload_n (x := a3) dL_law_1871 rfl ?_
        refine r_iconst (v := (1 : Int32)) dL_law_1872 (by decide) ?_
        refine r_iadd dL_law_1873 ?_
        obtain ⟨v434, hv434, h⟩ := xb h
        refine x_iaload (o := a0) dL_law_1874 hv434 ?_
        refine x_aload_n (o := a0) dL_law_1875 rfl ?_
        refine r_iload_n (x := a3) dL_law_1876 rfl ?_
        refine r_iconst (v := (2 : Int32)) dL_law_1877 (by decide) ?_
        refine r_iadd dL_law_1878 ?_
        obtain ⟨v435, hv435, h⟩ := xb h
        refine x_iaload (o := a0) dL_law_1879 hv435 ?_
        refine x_aload_n (o := a0) dL_law_1880 rfl ?_
        refine r_iload_n (x := a3) dL_law_1881 rfl ?_
        refine r_iconst (v := (3 : Int32)) dL_law_1882 (by decide) ?_
        refine r_iadd dL_law_1883 ?_
        obtain ⟨v436, hv436, h⟩ := xb h
        refine x_iaload (o := a0) dL_law_1884 hv436 ?_
        obtain ⟨q438, hq438, h⟩ := xb h
        obtain ⟨p437, hp437, h⟩ := xb h
        refine z_callV (as := [.int v434, .int v435, .int v436]) (o := a1) (r1 := (some (.int p437.1))) (stk := []) (stk2 := [.int p437.1]) (st1 := p437.2) (d' := 3) dL_law_1885 xl_L_155 hq438 (by decide) (Nat.le_trans xs0 (by decide)) rfl rfl (S_X10_early n st a1 v434 v435 v436 p437.1 p437.2 hp437) ?_
        refine x_aload_n (o := a2) dL_law_1888 rfl ?_
        refine x_aload_n (o := a0) dL_law_1889 rfl ?_
        refine r_iload_n (x := a3) dL_law_1890 rfl ?_
        refine r_iconst (v := (1 : Int32)) dL_law_1891 (by decide) ?_
        refine r_iadd dL_law_1892 ?_
        obtain ⟨v439, hv439, h⟩ := xb h
        refine x_iaload (o := a0) dL_law_1893 hv439 ?_
        refine x_aload_n (o := a0) dL_law_1894 rfl ?_
        refine r_iload_n (x := a3) dL_law_1895 rfl ?_
        refine r_iconst (v := (2 : Int32)) dL_law_1896 (by decide) ?_
        refine r_iadd dL_law_1897 ?_
        obtain ⟨v440, hv440, h⟩ := xb h
        refine x_iaload (o := a0) dL_law_1898 hv440 ?_
        refine x_aload_n (o := a0) dL_law_1899 rfl ?_
        refine r_iload_n (x := a3) dL_law_1900 rfl ?_
        refine r_iconst (v := (3 : Int32)) dL_law_1901 (by decide) ?_
        refine r_iadd dL_law_1902 ?_
        obtain ⟨v441, hv441, h⟩ := xb h
        refine x_iaload (o := a0) dL_law_1903 hv441 ?_
        obtain ⟨q443, hq443, h⟩ := xb h
        obtain ⟨v442, hv442, h⟩ := xb h
        refine z_callV (as := [.int v439, .int v440, .int v441]) (o := a2) (r1 := (some (.int v442))) (stk := [.int p437.1]) (stk2 := [.int v442, .int p437.1]) (st1 := p437.2) (d' := 3) dL_law_1904 xl_L_158 hq443 (by decide) (Nat.le_trans (xsI xs0) (by decide)) rfl rfl (S_X11_early n p437.2 a2 v439 v440 v441 v442 hv442) ?_
        refine r_icmp_eq (tgt := 2512) dL_law_1907 (by decide) (fun c => ?_) (fun c => ?_)
        · replace h := (if_pos c).symm.trans h
          obtain ⟨v444, hv444, h⟩ := xb h
          refine x_iinc (c := (9 : Int32)) (lv' := [(3, .int v444), (0, va_rf a0), (1, va_rf a1), (2, va_rf a2)]) (x := a3) (v := v444) dL_law_2512 rfl (by decide) (Option.some.inj hv444) (by decide) (congrArg (List.cons _) (xfY rfl (xfY rfl (xfY (xk1 2 3 _) (xfN rfl rfl))))) ?_
          refine r_goto (tgt := 18) dL_law_2515 (by decide) ?_
          exact x_sub [1, 2, 3, 0] rfl (ih p437.2 a0 a1 a2 v444 h)
        · replace h := (if_neg c).symm.trans h
          refine r_iconst (v := (0 : Int32)) dL_law_1910 (by decide) ?_
          obtain ⟨v445, hv445, h⟩ := xb h
          refine x_eqI (rz_inv2 hv445).1 ?_
          obtain ⟨rfl, rfl⟩ := Prod.mk.inj (Option.some.inj h)
          exact r_ireturn dL_law_1911 .boolean rfl (by rcases (rz_inv2 hv445).2 with e | e <;> rw [e] <;> rfl)
      replace h := (if_neg c32).symm.trans h
      by_cases c33 : (v11 &&& (63 : Int32)) = (33 : Int32)
      · replace h := (if_pos c33).symm.trans h
        refine r_tableIn (off := 1879) (tgt := 1912) dL_law_33 (by rw [c33]; decide) (by rw [c33]; decide) (by rw [c33]; rfl) (by decide) ?_
        refine x_aload_n (o := a1) dL_law_1912 rfl ?_
        refine x_aload_n (o := a0) dL_law_1913 rfl ?_
        refine r_iload_n (x := a3) dL_law_1914 rfl ?_
        refine r_iconst (v := (1 : Int32)) dL_law_1915 (by decide) ?_
        refine r_iadd dL_law_1916 ?_
        obtain ⟨v446, hv446, h⟩ := xb h
        refine x_iaload (o := a0) dL_law_1917 hv446 ?_
        obtain ⟨q448, hq448, h⟩ := xb h
        obtain ⟨v447, hv447, h⟩ := xb h
        refine z_callV (as := [.int v446]) (o := a1) (r1 := (some (.int v447))) (stk := []) (stk2 := [.int v447]) (st1 := st) (d' := 3) dL_law_1918 xl_L_159 hq448 (by decide) (Nat.le_trans xs0 (by decide)) rfl rfl (S_X10_uneven n st a1 v446 v447 hv447) ?_
        refine x_aload_n (o := a2) dL_law_1921 rfl ?_
        refine x_aload_n (o := a0) dL_law_1922 rfl ?_
        refine r_iload_n (x := a3) dL_law_1923 rfl ?_
        refine r_iconst (v := (1 : Int32)) dL_law_1924 (by decide) ?_
        refine r_iadd dL_law_1925 ?_
        obtain ⟨v449, hv449, h⟩ := xb h
        refine x_iaload (o := a0) dL_law_1926 hv449 ?_
        obtain ⟨q451, hq451, h⟩ := xb h
        obtain ⟨v450, hv450, h⟩ := xb h
        refine z_callV (as := [.int v449]) (o := a2) (r1 := (some (.int v450))) (stk := [.int v447]) (stk2 := [.int v450, .int v447]) (st1 := st) (d' := 3) dL_law_1927 xl_L_162 hq451 (by decide) (Nat.le_trans (xsI xs0) (by decide)) rfl rfl (S_X11_uneven n st a2 v449 v450 hv450) ?_
        refine r_icmp_eq (tgt := 2512) dL_law_1930 (by decide) (fun c => ?_) (fun c => ?_)
        · replace h := (if_pos c).symm.trans h
          obtain ⟨v452, hv452, h⟩ := xb h
          refine x_iinc (c := (9 : Int32)) (lv' := [(3, .int v452), (0, va_rf a0), (1, va_rf a1), (2, va_rf a2)]) (x := a3) (v := v452) dL_law_2512 rfl (by decide) (Option.some.inj hv452) (by decide) (congrArg (List.cons _) (xfY rfl (xfY rfl (xfY (xk1 2 3 _) (xfN rfl rfl))))) ?_
          refine r_goto (tgt := 18) dL_law_2515 (by decide) ?_
          exact x_sub [1, 2, 3, 0] rfl (ih st a0 a1 a2 v452 h)
        · replace h := (if_neg c).symm.trans h
          refine r_iconst (v := (0 : Int32)) dL_law_1933 (by decide) ?_
          obtain ⟨v453, hv453, h⟩ := xb h
          refine x_eqI (rz_inv2 hv453).1 ?_
          obtain ⟨rfl, rfl⟩ := Prod.mk.inj (Option.some.inj h)
          exact r_ireturn dL_law_1934 .boolean rfl (by rcases (rz_inv2 hv453).2 with e | e <;> rw [e] <;> rfl)
      replace h := (if_neg c33).symm.trans h
      by_cases c34 : (v11 &&& (63 : Int32)) = (34 : Int32)
      · replace h := (if_pos c34).symm.trans h
        refine r_tableIn (off := 1902) (tgt := 1935) dL_law_33 (by rw [c34]; decide) (by rw [c34]; decide) (by rw [c34]; rfl) (by decide) ?_
        refine x_aload_n (o := a1) dL_law_1935 rfl ?_
        refine x_aload_n (o := a0) dL_law_1936 rfl ?_
        refine r_iload_n (x := a3) dL_law_1937 rfl ?_
        refine r_iconst (v := (1 : Int32)) dL_law_1938 (by decide) ?_
        refine r_iadd dL_law_1939 ?_
        obtain ⟨v454, hv454, h⟩ := xb h
        refine x_iaload (o := a0) dL_law_1940 hv454 ?_
        refine x_aload_n (o := a0) dL_law_1941 rfl ?_
        refine r_iload_n (x := a3) dL_law_1942 rfl ?_
        refine r_iconst (v := (2 : Int32)) dL_law_1943 (by decide) ?_
        refine r_iadd dL_law_1944 ?_
        obtain ⟨v455, hv455, h⟩ := xb h
        refine x_iaload (o := a0) dL_law_1945 hv455 ?_
        obtain ⟨q457, hq457, h⟩ := xb h
        obtain ⟨p456, hp456, h⟩ := xb h
        refine z_callV (as := [.int v454, .int v455]) (o := a1) (r1 := (some (.int p456.1))) (stk := []) (stk2 := [.int p456.1]) (st1 := p456.2) (d' := 4) dL_law_1946 xl_L_163 hq457 (by decide) (Nat.le_trans xs0 (by decide)) rfl rfl (S_X10_turned n st a1 v454 v455 p456.1 p456.2 hp456) ?_
        refine x_aload_n (o := a2) dL_law_1949 rfl ?_
        refine x_aload_n (o := a0) dL_law_1950 rfl ?_
        refine r_iload_n (x := a3) dL_law_1951 rfl ?_
        refine r_iconst (v := (1 : Int32)) dL_law_1952 (by decide) ?_
        refine r_iadd dL_law_1953 ?_
        obtain ⟨v458, hv458, h⟩ := xb h
        refine x_iaload (o := a0) dL_law_1954 hv458 ?_
        refine x_aload_n (o := a0) dL_law_1955 rfl ?_
        refine r_iload_n (x := a3) dL_law_1956 rfl ?_
        refine r_iconst (v := (2 : Int32)) dL_law_1957 (by decide) ?_
        refine r_iadd dL_law_1958 ?_
        obtain ⟨v459, hv459, h⟩ := xb h
        refine x_iaload (o := a0) dL_law_1959 hv459 ?_
        obtain ⟨q461, hq461, h⟩ := xb h
        obtain ⟨p460, hp460, h⟩ := xb h
        refine z_callV (as := [.int v458, .int v459]) (o := a2) (r1 := (some (.int p460.1))) (stk := [.int p456.1]) (stk2 := [.int p460.1, .int p456.1]) (st1 := p460.2) (d' := 5) dL_law_1960 xl_L_166 hq461 (by decide) (Nat.le_trans (xsI xs0) (by decide)) rfl rfl (S_X11_turned n p456.2 a2 v458 v459 p460.1 p460.2 hp460) ?_
        refine r_icmp_eq (tgt := 2512) dL_law_1963 (by decide) (fun c => ?_) (fun c => ?_)
        · replace h := (if_pos c).symm.trans h
          obtain ⟨v462, hv462, h⟩ := xb h
          refine x_iinc (c := (9 : Int32)) (lv' := [(3, .int v462), (0, va_rf a0), (1, va_rf a1), (2, va_rf a2)]) (x := a3) (v := v462) dL_law_2512 rfl (by decide) (Option.some.inj hv462) (by decide) (congrArg (List.cons _) (xfY rfl (xfY rfl (xfY (xk1 2 3 _) (xfN rfl rfl))))) ?_
          refine r_goto (tgt := 18) dL_law_2515 (by decide) ?_
          exact x_sub [1, 2, 3, 0] rfl (ih p460.2 a0 a1 a2 v462 h)
        · replace h := (if_neg c).symm.trans h
          refine r_iconst (v := (0 : Int32)) dL_law_1966 (by decide) ?_
          obtain ⟨v463, hv463, h⟩ := xb h
          refine x_eqI (rz_inv2 hv463).1 ?_
          obtain ⟨rfl, rfl⟩ := Prod.mk.inj (Option.some.inj h)
          exact r_ireturn dL_law_1967 .boolean rfl (by rcases (rz_inv2 hv463).2 with e | e <;> rw [e] <;> rfl)
      replace h := (if_neg c34).symm.trans h
      by_cases c35 : (v11 &&& (63 : Int32)) = (35 : Int32)
      · replace h := (if_pos c35).symm.trans h
        refine r_tableIn (off := 1935) (tgt := 1968) dL_law_33 (by rw [c35]; decide) (by rw [c35]; decide) (by rw [c35]; rfl) (by decide) ?_
        refine x_aload_n (o := a1) dL_law_1968 rfl ?_
        refine x_aload_n (o := a0) dL_law_1969 rfl ?_
        refine r_iload_n (x := a3) dL_law_1970 rfl ?_
        refine r_iconst (v := (1 : Int32)) dL_law_1971 (by decide) ?_
        refine r_iadd dL_law_1972 ?_
        obtain ⟨v464, hv464, h⟩ := xb h
        refine x_iaload (o := a0) dL_law_1973 hv464 ?_
        refine x_aload_n (o := a0) dL_law_1974 rfl ?_
        refine r_iload_n (x := a3) dL_law_1975 rfl ?_
        refine r_iconst (v := (2 : Int32)) dL_law_1976 (by decide) ?_
        refine r_iadd dL_law_1977 ?_
        obtain ⟨v465, hv465, h⟩ := xb h
        refine x_iaload (o := a0) dL_law_1978 hv465 ?_
        refine x_aload_n (o := a0) dL_law_1979 rfl ?_
        refine r_iload_n (x := a3) dL_law_1980 rfl ?_
        refine r_iconst (v := (3 : Int32)) dL_law_1981 (by decide) ?_
        refine r_iadd dL_law_1982 ?_
        obtain ⟨v466, hv466, h⟩ := xb h
        refine x_iaload (o := a0) dL_law_1983 hv466 ?_
        refine x_aload_n (o := a0) dL_law_1984 rfl ?_
        refine r_iload_n (x := a3) dL_law_1985 rfl ?_
        refine r_iconst (v := (4 : Int32)) dL_law_1986 (by decide) ?_
        refine r_iadd dL_law_1987 ?_
        obtain ⟨v467, hv467, h⟩ := xb h
        refine x_iaload (o := a0) dL_law_1988 hv467 ?_
        obtain ⟨q469, hq469, h⟩ := xb h
        obtain ⟨p468, hp468, h⟩ := xb h
        refine z_callV (as := [.int v464, .int v465, .int v466, .int v467]) (o := a1) (r1 := (some (.int p468.1))) (stk := []) (stk2 := [.int p468.1]) (st1 := p468.2) (d' := 6) dL_law_1989 xl_L_167 hq469 (by decide) (Nat.le_trans xs0 (by decide)) rfl rfl (S_X10_like n st a1 v464 v465 v466 v467 p468.1 p468.2 hp468) ?_
        refine x_aload_n (o := a2) dL_law_1992 rfl ?_
        refine x_aload_n (o := a0) dL_law_1993 rfl ?_
        refine r_iload_n (x := a3) dL_law_1994 rfl ?_
        refine r_iconst (v := (1 : Int32)) dL_law_1995 (by decide) ?_
        refine r_iadd dL_law_1996 ?_
        obtain ⟨v470, hv470, h⟩ := xb h
        refine x_iaload (o := a0) dL_law_1997 hv470 ?_
        refine x_aload_n (o := a0) dL_law_1998 rfl ?_
        refine r_iload_n (x := a3) dL_law_1999 rfl ?_
        refine r_iconst (v := (2 : Int32)) dL_law_2000 (by decide) ?_
        refine r_iadd dL_law_2001 ?_
        obtain ⟨v471, hv471, h⟩ := xb h
        refine x_iaload (o := a0) dL_law_2002 hv471 ?_
        refine x_aload_n (o := a0) dL_law_2003 rfl ?_
        refine r_iload_n (x := a3) dL_law_2004 rfl ?_
        refine r_iconst (v := (3 : Int32)) dL_law_2005 (by decide) ?_
        refine r_iadd dL_law_2006 ?_
        obtain ⟨v472, hv472, h⟩ := xb h
        refine x_iaload (o := a0) dL_law_2007 hv472 ?_
        refine x_aload_n (o := a0) dL_law_2008 rfl ?_
        refine r_iload_n (x := a3) dL_law_2009 rfl ?_
        refine r_iconst (v := (4 : Int32)) dL_law_2010 (by decide) ?_
        refine r_iadd dL_law_2011 ?_
        obtain ⟨v473, hv473, h⟩ := xb h
        refine x_iaload (o := a0) dL_law_2012 hv473 ?_
        obtain ⟨q475, hq475, h⟩ := xb h
        obtain ⟨v474, hv474, h⟩ := xb h
        refine z_callV (as := [.int v470, .int v471, .int v472, .int v473]) (o := a2) (r1 := (some (.int v474))) (stk := [.int p468.1]) (stk2 := [.int v474, .int p468.1]) (st1 := p468.2) (d' := 7) dL_law_2013 xl_L_170 hq475 (by decide) (Nat.le_trans (xsI xs0) (by decide)) rfl rfl (S_X11_like n p468.2 a2 v470 v471 v472 v473 v474 hv474) ?_
        refine r_icmp_eq (tgt := 2512) dL_law_2016 (by decide) (fun c => ?_) (fun c => ?_)
        · replace h := (if_pos c).symm.trans h
          obtain ⟨v476, hv476, h⟩ := xb h
          refine x_iinc (c := (9 : Int32)) (lv' := [(3, .int v476), (0, va_rf a0), (1, va_rf a1), (2, va_rf a2)]) (x := a3) (v := v476) dL_law_2512 rfl (by decide) (Option.some.inj hv476) (by decide) (congrArg (List.cons _) (xfY rfl (xfY rfl (xfY (xk1 2 3 _) (xfN rfl rfl))))) ?_
          refine r_goto (tgt := 18) dL_law_2515 (by decide) ?_
          exact x_sub [1, 2, 3, 0] rfl (ih p468.2 a0 a1 a2 v476 h)
        · replace h := (if_neg c).symm.trans h
          refine r_iconst (v := (0 : Int32)) dL_law_2019 (by decide) ?_
          obtain ⟨v477, hv477, h⟩ := xb h
          refine x_eqI (rz_inv2 hv477).1 ?_
          obtain ⟨rfl, rfl⟩ := Prod.mk.inj (Option.some.inj h)
          exact r_ireturn dL_law_2020 .boolean rfl (by rcases (rz_inv2 hv477).2 with e | e <;> rw [e] <;> rfl)
      replace h := (if_neg c35).symm.trans h
      by_cases c36 : (v11 &&& (63 : Int32)) = (36 : Int32)
      · replace h := (if_pos c36).symm.trans h
        refine r_tableIn (off := 1988) (tgt := 2021) dL_law_33 (by rw [c36]; decide) (by rw [c36]; decide) (by rw [c36]; rfl) (by decide) ?_
        refine x_aload_n (o := a1) dL_law_2021 rfl ?_
        refine x_aload_n (o := a0) dL_law_2022 rfl ?_
        refine r_iload_n (x := a3) dL_law_2023 rfl ?_
        refine r_iconst (v := (1 : Int32)) dL_law_2024 (by decide) ?_
        refine r_iadd dL_law_2025 ?_
        obtain ⟨v478, hv478, h⟩ := xb h
        refine x_iaload (o := a0) dL_law_2026 hv478 ?_
        refine x_aload_n (o := a0) dL_law_2027 rfl ?_
        refine r_iload_n (x := a3) dL_law_2028 rfl ?_
        refine r_iconst (v := (2 : Int32)) dL_law_2029 (by decide) ?_
        refine r_iadd dL_law_2030 ?_
        obtain ⟨v479, hv479, h⟩ := xb h
        refine x_iaload (o := a0) dL_law_2031 hv479 ?_
        refine x_aload_n (o := a0) dL_law_2032 rfl ?_
        refine r_iload_n (x := a3) dL_law_2033 rfl ?_
        refine r_iconst (v := (3 : Int32)) dL_law_2034 (by decide) ?_
        refine r_iadd dL_law_2035 ?_
        obtain ⟨v480, hv480, h⟩ := xb h
        refine x_iaload (o := a0) dL_law_2036 hv480 ?_
        refine x_aload_n (o := a0) dL_law_2037 rfl ?_
        refine r_iload_n (x := a3) dL_law_2038 rfl ?_
        refine r_iconst (v := (4 : Int32)) dL_law_2039 (by decide) ?_
        refine r_iadd dL_law_2040 ?_
        obtain ⟨v481, hv481, h⟩ := xb h
        refine x_iaload (o := a0) dL_law_2041 hv481 ?_
        obtain ⟨q483, hq483, h⟩ := xb h
        obtain ⟨p482, hp482, h⟩ := xb h
        refine z_callV (as := [.int v478, .int v479, .int v480, .int v481]) (o := a1) (r1 := (some (.int p482.1))) (stk := []) (stk2 := [.int p482.1]) (st1 := p482.2) (d' := 6) dL_law_2042 xl_L_171 hq483 (by decide) (Nat.le_trans xs0 (by decide)) rfl rfl (S_X10_single n st a1 v478 v479 v480 v481 p482.1 p482.2 hp482) ?_
        refine x_aload_n (o := a2) dL_law_2045 rfl ?_
        refine x_aload_n (o := a0) dL_law_2046 rfl ?_
        refine r_iload_n (x := a3) dL_law_2047 rfl ?_
        refine r_iconst (v := (1 : Int32)) dL_law_2048 (by decide) ?_
        refine r_iadd dL_law_2049 ?_
        obtain ⟨v484, hv484, h⟩ := xb h
        refine x_iaload (o := a0) dL_law_2050 hv484 ?_
        refine x_aload_n (o := a0) dL_law_2051 rfl ?_
        refine r_iload_n (x := a3) dL_law_2052 rfl ?_
        refine r_iconst (v := (2 : Int32)) dL_law_2053 (by decide) ?_
        refine r_iadd dL_law_2054 ?_
        obtain ⟨v485, hv485, h⟩ := xb h
        refine x_iaload (o := a0) dL_law_2055 hv485 ?_
        refine x_aload_n (o := a0) dL_law_2056 rfl ?_
        refine r_iload_n (x := a3) dL_law_2057 rfl ?_
        refine r_iconst (v := (3 : Int32)) dL_law_2058 (by decide) ?_
        refine r_iadd dL_law_2059 ?_
        obtain ⟨v486, hv486, h⟩ := xb h
        refine x_iaload (o := a0) dL_law_2060 hv486 ?_
        refine x_aload_n (o := a0) dL_law_2061 rfl ?_
        refine r_iload_n (x := a3) dL_law_2062 rfl ?_
        refine r_iconst (v := (4 : Int32)) dL_law_2063 (by decide) ?_
        refine r_iadd dL_law_2064 ?_
        obtain ⟨v487, hv487, h⟩ := xb h
        refine x_iaload (o := a0) dL_law_2065 hv487 ?_
        obtain ⟨q489, hq489, h⟩ := xb h
        obtain ⟨p488, hp488, h⟩ := xb h
        refine z_callV (as := [.int v484, .int v485, .int v486, .int v487]) (o := a2) (r1 := (some (.int p488.1))) (stk := [.int p482.1]) (stk2 := [.int p488.1, .int p482.1]) (st1 := p488.2) (d' := 8) dL_law_2066 xl_L_174 hq489 (by decide) (Nat.le_trans (xsI xs0) (by decide)) rfl rfl (S_X11_single n p482.2 a2 v484 v485 v486 v487 p488.1 p488.2 hp488) ?_
        refine r_icmp_eq (tgt := 2512) dL_law_2069 (by decide) (fun c => ?_) (fun c => ?_)
        · replace h := (if_pos c).symm.trans h
          obtain ⟨v490, hv490, h⟩ := xb h
          refine x_iinc (c := (9 : Int32)) (lv' := [(3, .int v490), (0, va_rf a0), (1, va_rf a1), (2, va_rf a2)]) (x := a3) (v := v490) dL_law_2512 rfl (by decide) (Option.some.inj hv490) (by decide) (congrArg (List.cons _) (xfY rfl (xfY rfl (xfY (xk1 2 3 _) (xfN rfl rfl))))) ?_
          refine r_goto (tgt := 18) dL_law_2515 (by decide) ?_
          exact x_sub [1, 2, 3, 0] rfl (ih p488.2 a0 a1 a2 v490 h)
        · replace h := (if_neg c).symm.trans h
          refine r_iconst (v := (0 : Int32)) dL_law_2072 (by decide) ?_
          obtain ⟨v491, hv491, h⟩ := xb h
          refine x_eqI (rz_inv2 hv491).1 ?_
          obtain ⟨rfl, rfl⟩ := Prod.mk.inj (Option.some.inj h)
          exact r_ireturn dL_law_2073 .boolean rfl (by rcases (rz_inv2 hv491).2 with e | e <;> rw [e] <;> rfl)
      replace h := (if_neg c36).symm.trans h
      by_cases c37 : (v11 &&& (63 : Int32)) = (37 : Int32)
      · replace h := (if_pos c37).symm.trans h
        refine r_tableIn (off := 2041) (tgt := 2074) dL_law_33 (by rw [c37]; decide) (by rw [c37]; decide) (by rw [c37]; rfl) (by decide) ?_
        refine x_aload_n (o := a1) dL_law_2074 rfl ?_
        refine x_aload_n (o := a0) dL_law_2075 rfl ?_
        refine r_iload_n (x := a3) dL_law_2076 rfl ?_
        refine r_iconst (v := (1 : Int32)) dL_law_2077 (by decide) ?_
        refine r_iadd dL_law_2078 ?_
        obtain ⟨v492, hv492, h⟩ := xb h
        refine x_iaload (o := a0) dL_law_2079 hv492 ?_
        refine x_aload_n (o := a0) dL_law_2080 rfl ?_
        refine r_iload_n (x := a3) dL_law_2081 rfl ?_
        refine r_iconst (v := (2 : Int32)) dL_law_2082 (by decide) ?_
        refine r_iadd dL_law_2083 ?_
        obtain ⟨v493, hv493, h⟩ := xb h
        refine x_iaload (o := a0) dL_law_2084 hv493 ?_
        refine x_aload_n (o := a0) dL_law_2085 rfl ?_
        refine r_iload_n (x := a3) dL_law_2086 rfl ?_
        refine r_iconst (v := (3 : Int32)) dL_law_2087 (by decide) ?_
        refine r_iadd dL_law_2088 ?_
        obtain ⟨v494, hv494, h⟩ := xb h
        refine x_iaload (o := a0) dL_law_2089 hv494 ?_
        refine x_aload_n (o := a0) dL_law_2090 rfl ?_
        refine r_iload_n (x := a3) dL_law_2091 rfl ?_
        refine r_iconst (v := (4 : Int32)) dL_law_2092 (by decide) ?_
        refine r_iadd dL_law_2093 ?_
        obtain ⟨v495, hv495, h⟩ := xb h
        refine x_iaload (o := a0) dL_law_2094 hv495 ?_
        refine x_aload_n (o := a0) dL_law_2095 rfl ?_
        refine r_iload_n (x := a3) dL_law_2096 rfl ?_
        refine r_iconst (v := (5 : Int32)) dL_law_2097 (by decide) ?_
        refine r_iadd dL_law_2098 ?_
        obtain ⟨v496, hv496, h⟩ := xb h
        refine x_iaload (o := a0) dL_law_2099 hv496 ?_
        refine x_aload_n (o := a0) dL_law_2100 rfl ?_
        refine r_iload_n (x := a3) dL_law_2101 rfl ?_
        refine r_bipush (v := (6 : Int32)) dL_law_2102 (by decide) ?_
        refine r_iadd dL_law_2104 ?_
        obtain ⟨v497, hv497, h⟩ := xb h
        refine x_iaload (o := a0) dL_law_2105 hv497 ?_
        obtain ⟨q498, hq498, h⟩ := xb h
        have Jq498 : Rn mL_law 2114 [(0, va_rf a0), (1, va_rf a1), (2, va_rf a2), (3, .int a3)] [.int q498, .int v496, .int v495, .int v494, .int v493, .int v492, va_rf a1] st (some (.int rv)) st' 13 := by
          obtain ⟨q500, hq500, h⟩ := xb h
          obtain ⟨p499, hp499, h⟩ := xb h
          refine z_callV (as := [.int v492, .int v493, .int v494, .int v495, .int v496, .int q498]) (o := a1) (r1 := (some (.int p499.1))) (stk := []) (stk2 := [.int p499.1]) (st1 := p499.2) (d' := 6) dL_law_2114 xl_L_175 hq500 (by decide) (Nat.le_trans xs0 (by decide)) rfl rfl (S_X10_felt n st a1 v492 v493 v494 v495 v496 q498 p499.1 p499.2 hp499) ?_
          refine x_aload_n (o := a2) dL_law_2117 rfl ?_
          refine x_aload_n (o := a0) dL_law_2118 rfl ?_
          refine r_iload_n (x := a3) dL_law_2119 rfl ?_
          refine r_iconst (v := (1 : Int32)) dL_law_2120 (by decide) ?_
          refine r_iadd dL_law_2121 ?_
          obtain ⟨v501, hv501, h⟩ := xb h
          refine x_iaload (o := a0) dL_law_2122 hv501 ?_
          refine x_aload_n (o := a0) dL_law_2123 rfl ?_
          refine r_iload_n (x := a3) dL_law_2124 rfl ?_
          refine r_iconst (v := (2 : Int32)) dL_law_2125 (by decide) ?_
          refine r_iadd dL_law_2126 ?_
          obtain ⟨v502, hv502, h⟩ := xb h
          refine x_iaload (o := a0) dL_law_2127 hv502 ?_
          refine x_aload_n (o := a0) dL_law_2128 rfl ?_
          refine r_iload_n (x := a3) dL_law_2129 rfl ?_
          refine r_iconst (v := (3 : Int32)) dL_law_2130 (by decide) ?_
          refine r_iadd dL_law_2131 ?_
          obtain ⟨v503, hv503, h⟩ := xb h
          refine x_iaload (o := a0) dL_law_2132 hv503 ?_
          refine x_aload_n (o := a0) dL_law_2133 rfl ?_
          refine r_iload_n (x := a3) dL_law_2134 rfl ?_
          refine r_iconst (v := (4 : Int32)) dL_law_2135 (by decide) ?_
          refine r_iadd dL_law_2136 ?_
          obtain ⟨v504, hv504, h⟩ := xb h
          refine x_iaload (o := a0) dL_law_2137 hv504 ?_
          refine x_aload_n (o := a0) dL_law_2138 rfl ?_
          refine r_iload_n (x := a3) dL_law_2139 rfl ?_
          refine r_iconst (v := (5 : Int32)) dL_law_2140 (by decide) ?_
          refine r_iadd dL_law_2141 ?_
          obtain ⟨v505, hv505, h⟩ := xb h
          refine x_iaload (o := a0) dL_law_2142 hv505 ?_
          refine x_aload_n (o := a0) dL_law_2143 rfl ?_
          refine r_iload_n (x := a3) dL_law_2144 rfl ?_
          refine r_bipush (v := (6 : Int32)) dL_law_2145 (by decide) ?_
          refine r_iadd dL_law_2147 ?_
          obtain ⟨v506, hv506, h⟩ := xb h
          refine x_iaload (o := a0) dL_law_2148 hv506 ?_
          obtain ⟨q507, hq507, h⟩ := xb h
          have Jq507 : Rn mL_law 2157 [(0, va_rf a0), (1, va_rf a1), (2, va_rf a2), (3, .int a3)] [.int q507, .int v505, .int v504, .int v503, .int v502, .int v501, va_rf a2, .int p499.1] p499.2 (some (.int rv)) st' 13 := by
            obtain ⟨q509, hq509, h⟩ := xb h
            obtain ⟨p508, hp508, h⟩ := xb h
            refine z_callV (as := [.int v501, .int v502, .int v503, .int v504, .int v505, .int q507]) (o := a2) (r1 := (some (.int p508.1))) (stk := [.int p499.1]) (stk2 := [.int p508.1, .int p499.1]) (st1 := p508.2) (d' := 8) dL_law_2157 xl_L_179 hq509 (by decide) (Nat.le_trans (xsI xs0) (by decide)) rfl rfl (S_X11_felt n p499.2 a2 v501 v502 v503 v504 v505 q507 p508.1 p508.2 hp508) ?_
            refine r_icmp_eq (tgt := 2512) dL_law_2160 (by decide) (fun c => ?_) (fun c => ?_)
            · replace h := (if_pos c).symm.trans h
              obtain ⟨v510, hv510, h⟩ := xb h
              refine x_iinc (c := (9 : Int32)) (lv' := [(3, .int v510), (0, va_rf a0), (1, va_rf a1), (2, va_rf a2)]) (x := a3) (v := v510) dL_law_2512 rfl (by decide) (Option.some.inj hv510) (by decide) (congrArg (List.cons _) (xfY rfl (xfY rfl (xfY (xk1 2 3 _) (xfN rfl rfl))))) ?_
              refine r_goto (tgt := 18) dL_law_2515 (by decide) ?_
              exact x_sub [1, 2, 3, 0] rfl (ih p508.2 a0 a1 a2 v510 h)
            · replace h := (if_neg c).symm.trans h
              refine r_iconst (v := (0 : Int32)) dL_law_2163 (by decide) ?_
              obtain ⟨v511, hv511, h⟩ := xb h
              refine x_eqI (rz_inv2 hv511).1 ?_
              obtain ⟨rfl, rfl⟩ := Prod.mk.inj (Option.some.inj h)
              exact r_ireturn dL_law_2164 .boolean rfl (by rcases (rz_inv2 hv511).2 with e | e <;> rw [e] <;> rfl)
          refine r_if_eq (tgt := 2156) dL_law_2149 (by decide) (fun c => ?_) (fun c => ?_)
          · replace hq507 := (if_pos c).symm.trans hq507
            refine r_iconst (v := (0 : Int32)) dL_law_2156 (by decide) ?_
            obtain rfl := Option.some.inj hq507
            exact x_sub [0, 1, 2, 3] rfl Jq507
          · replace hq507 := (if_neg c).symm.trans hq507
            refine r_iconst (v := (1 : Int32)) dL_law_2152 (by decide) ?_
            refine r_goto (tgt := 2157) dL_law_2153 (by decide) ?_
            obtain rfl := Option.some.inj hq507
            exact x_sub [0, 1, 2, 3] rfl Jq507
        refine r_if_eq (tgt := 2113) dL_law_2106 (by decide) (fun c => ?_) (fun c => ?_)
        · replace hq498 := (if_pos c).symm.trans hq498
          refine r_iconst (v := (0 : Int32)) dL_law_2113 (by decide) ?_
          obtain rfl := Option.some.inj hq498
          exact x_sub [0, 1, 2, 3] rfl Jq498
        · replace hq498 := (if_neg c).symm.trans hq498
          refine r_iconst (v := (1 : Int32)) dL_law_2109 (by decide) ?_
          refine r_goto (tgt := 2114) dL_law_2110 (by decide) ?_
          obtain rfl := Option.some.inj hq498
          exact x_sub [0, 1, 2, 3] rfl Jq498
      replace h := (if_neg c37).symm.trans h
      by_cases c38 : (v11 &&& (63 : Int32)) = (38 : Int32)
      · replace h := (if_pos c38).symm.trans h
        refine r_tableIn (off := 2132) (tgt := 2165) dL_law_33 (by rw [c38]; decide) (by rw [c38]; decide) (by rw [c38]; rfl) (by decide) ?_
        refine x_aload_n (o := a1) dL_law_2165 rfl ?_
        refine x_aload_n (o := a0) dL_law_2166 rfl ?_
        refine r_iload_n (x := a3) dL_law_2167 rfl ?_
        refine r_iconst (v := (1 : Int32)) dL_law_2168 (by decide) ?_
        refine r_iadd dL_law_2169 ?_
        obtain ⟨v512, hv512, h⟩ := xb h
        refine x_iaload (o := a0) dL_law_2170 hv512 ?_
        refine x_aload_n (o := a0) dL_law_2171 rfl ?_
        refine r_iload_n (x := a3) dL_law_2172 rfl ?_
        refine r_iconst (v := (2 : Int32)) dL_law_2173 (by decide) ?_
        refine r_iadd dL_law_2174 ?_
        obtain ⟨v513, hv513, h⟩ := xb h
        refine x_iaload (o := a0) dL_law_2175 hv513 ?_
        refine x_aload_n (o := a0) dL_law_2176 rfl ?_
        refine r_iload_n (x := a3) dL_law_2177 rfl ?_
        refine r_iconst (v := (3 : Int32)) dL_law_2178 (by decide) ?_
        refine r_iadd dL_law_2179 ?_
        obtain ⟨v514, hv514, h⟩ := xb h
        refine x_iaload (o := a0) dL_law_2180 hv514 ?_
        refine x_aload_n (o := a0) dL_law_2181 rfl ?_
        refine r_iload_n (x := a3) dL_law_2182 rfl ?_
        refine r_iconst (v := (4 : Int32)) dL_law_2183 (by decide) ?_
        refine r_iadd dL_law_2184 ?_
        obtain ⟨v515, hv515, h⟩ := xb h
        refine x_iaload (o := a0) dL_law_2185 hv515 ?_
        obtain ⟨q517, hq517, h⟩ := xb h
        obtain ⟨p516, hp516, h⟩ := xb h
        refine z_callV (as := [.int v512, .int v513, .int v514, .int v515]) (o := a1) (r1 := (some (.long p516.1))) (stk := []) (stk2 := [.long p516.1]) (st1 := p516.2) (d' := 6) dL_law_2186 xl_L_180 hq517 (by decide) (Nat.le_trans xs0 (by decide)) rfl rfl (S_X10_rule n st a1 v512 v513 v514 v515 p516.1 p516.2 hp516) ?_
        refine x_aload_n (o := a2) dL_law_2189 rfl ?_
        refine x_aload_n (o := a0) dL_law_2190 rfl ?_
        refine r_iload_n (x := a3) dL_law_2191 rfl ?_
        refine r_iconst (v := (1 : Int32)) dL_law_2192 (by decide) ?_
        refine r_iadd dL_law_2193 ?_
        obtain ⟨v518, hv518, h⟩ := xb h
        refine x_iaload (o := a0) dL_law_2194 hv518 ?_
        refine x_aload_n (o := a0) dL_law_2195 rfl ?_
        refine r_iload_n (x := a3) dL_law_2196 rfl ?_
        refine r_iconst (v := (2 : Int32)) dL_law_2197 (by decide) ?_
        refine r_iadd dL_law_2198 ?_
        obtain ⟨v519, hv519, h⟩ := xb h
        refine x_iaload (o := a0) dL_law_2199 hv519 ?_
        refine x_aload_n (o := a0) dL_law_2200 rfl ?_
        refine r_iload_n (x := a3) dL_law_2201 rfl ?_
        refine r_iconst (v := (3 : Int32)) dL_law_2202 (by decide) ?_
        refine r_iadd dL_law_2203 ?_
        obtain ⟨v520, hv520, h⟩ := xb h
        refine x_iaload (o := a0) dL_law_2204 hv520 ?_
        refine x_aload_n (o := a0) dL_law_2205 rfl ?_
        refine r_iload_n (x := a3) dL_law_2206 rfl ?_
        refine r_iconst (v := (4 : Int32)) dL_law_2207 (by decide) ?_
        refine r_iadd dL_law_2208 ?_
        obtain ⟨v521, hv521, h⟩ := xb h
        refine x_iaload (o := a0) dL_law_2209 hv521 ?_
        obtain ⟨q523, hq523, h⟩ := xb h
        obtain ⟨v522, hv522, h⟩ := xb h
        refine z_callV (as := [.int v518, .int v519, .int v520, .int v521]) (o := a2) (r1 := (some (.long v522))) (stk := [.long p516.1]) (stk2 := [.long v522, .long p516.1]) (st1 := p516.2) (d' := 11) dL_law_2210 xl_L_184 hq523 (by decide) (Nat.le_trans (xsJ xs0) (by decide)) rfl rfl (S_X11_rule n p516.2 a2 v518 v519 v520 v521 v522 hv522) ?_
        refine r_lcmp dL_law_2213 ?_
        refine r_if_eq (tgt := 2512) dL_law_2214 (by decide) (fun c => ?_) (fun c => ?_)
        · replace h := (if_pos c).symm.trans h
          obtain ⟨v524, hv524, h⟩ := xb h
          refine x_iinc (c := (9 : Int32)) (lv' := [(3, .int v524), (0, va_rf a0), (1, va_rf a1), (2, va_rf a2)]) (x := a3) (v := v524) dL_law_2512 rfl (by decide) (Option.some.inj hv524) (by decide) (congrArg (List.cons _) (xfY rfl (xfY rfl (xfY (xk1 2 3 _) (xfN rfl rfl))))) ?_
          refine r_goto (tgt := 18) dL_law_2515 (by decide) ?_
          exact x_sub [1, 2, 3, 0] rfl (ih p516.2 a0 a1 a2 v524 h)
        · replace h := (if_neg c).symm.trans h
          refine r_iconst (v := (0 : Int32)) dL_law_2217 (by decide) ?_
          obtain ⟨v525, hv525, h⟩ := xb h
          refine x_eqI (rz_inv2 hv525).1 ?_
          obtain ⟨rfl, rfl⟩ := Prod.mk.inj (Option.some.inj h)
          exact r_ireturn dL_law_2218 .boolean rfl (by rcases (rz_inv2 hv525).2 with e | e <;> rw [e] <;> rfl)
      replace h := (if_neg c38).symm.trans h
      by_cases c39 : (v11 &&& (63 : Int32)) = (39 : Int32)
      · replace h := (if_pos c39).symm.trans h
        refine r_tableIn (off := 2186) (tgt := 2219) dL_law_33 (by rw [c39]; decide) (by rw [c39]; decide) (by rw [c39]; rfl) (by decide) ?_
        refine x_aload_n (o := a1) dL_law_2219 rfl ?_
        refine x_aload_n (o := a0) dL_law_2220 rfl ?_
        refine r_iload_n (x := a3) dL_law_2221 rfl ?_
        refine r_iconst (v := (1 : Int32)) dL_law_2222 (by decide) ?_
        refine r_iadd dL_law_2223 ?_
        obtain ⟨v526, hv526, h⟩ := xb h
        refine x_iaload (o := a0) dL_law_2224 hv526 ?_
        refine x_aload_n (o := a0) dL_law_2225 rfl ?_
        refine r_iload_n (x := a3) dL_law_2226 rfl ?_
        refine r_iconst (v := (2 : Int32)) dL_law_2227 (by decide) ?_
        refine r_iadd dL_law_2228 ?_
        obtain ⟨v527, hv527, h⟩ := xb h
        refine x_iaload (o := a0) dL_law_2229 hv527 ?_
        refine x_aload_n (o := a0) dL_law_2230 rfl ?_
        refine r_iload_n (x := a3) dL_law_2231 rfl ?_
        refine r_iconst (v := (3 : Int32)) dL_law_2232 (by decide) ?_
        refine r_iadd dL_law_2233 ?_
        obtain ⟨v528, hv528, h⟩ := xb h
        refine x_iaload (o := a0) dL_law_2234 hv528 ?_
        refine x_aload_n (o := a0) dL_law_2235 rfl ?_
        refine r_iload_n (x := a3) dL_law_2236 rfl ?_
        refine r_iconst (v := (4 : Int32)) dL_law_2237 (by decide) ?_
        refine r_iadd dL_law_2238 ?_
        obtain ⟨v529, hv529, h⟩ := xb h
        refine x_iaload (o := a0) dL_law_2239 hv529 ?_
        obtain ⟨q531, hq531, h⟩ := xb h
        obtain ⟨p530, hp530, h⟩ := xb h
        refine z_callV (as := [.int v526, .int v527, .int v528, .int v529]) (o := a1) (r1 := (some (.long p530.1))) (stk := []) (stk2 := [.long p530.1]) (st1 := p530.2) (d' := 5) dL_law_2240 xl_L_185 hq531 (by decide) (Nat.le_trans xs0 (by decide)) rfl rfl (S_X10_less n st a1 v526 v527 v528 v529 p530.1 p530.2 hp530) ?_
        refine x_aload_n (o := a2) dL_law_2243 rfl ?_
        refine x_aload_n (o := a0) dL_law_2244 rfl ?_
        refine r_iload_n (x := a3) dL_law_2245 rfl ?_
        refine r_iconst (v := (1 : Int32)) dL_law_2246 (by decide) ?_
        refine r_iadd dL_law_2247 ?_
        obtain ⟨v532, hv532, h⟩ := xb h
        refine x_iaload (o := a0) dL_law_2248 hv532 ?_
        refine x_aload_n (o := a0) dL_law_2249 rfl ?_
        refine r_iload_n (x := a3) dL_law_2250 rfl ?_
        refine r_iconst (v := (2 : Int32)) dL_law_2251 (by decide) ?_
        refine r_iadd dL_law_2252 ?_
        obtain ⟨v533, hv533, h⟩ := xb h
        refine x_iaload (o := a0) dL_law_2253 hv533 ?_
        refine x_aload_n (o := a0) dL_law_2254 rfl ?_
        refine r_iload_n (x := a3) dL_law_2255 rfl ?_
        refine r_iconst (v := (3 : Int32)) dL_law_2256 (by decide) ?_
        refine r_iadd dL_law_2257 ?_
        obtain ⟨v534, hv534, h⟩ := xb h
        refine x_iaload (o := a0) dL_law_2258 hv534 ?_
        refine x_aload_n (o := a0) dL_law_2259 rfl ?_
        refine r_iload_n (x := a3) dL_law_2260 rfl ?_
        refine r_iconst (v := (4 : Int32)) dL_law_2261 (by decide) ?_
        refine r_iadd dL_law_2262 ?_
        obtain ⟨v535, hv535, h⟩ := xb h
        refine x_iaload (o := a0) dL_law_2263 hv535 ?_
        obtain ⟨q537, hq537, h⟩ := xb h
        obtain ⟨p536, hp536, h⟩ := xb h
        refine z_callV (as := [.int v532, .int v533, .int v534, .int v535]) (o := a2) (r1 := (some (.long p536.1))) (stk := [.long p530.1]) (stk2 := [.long p536.1, .long p530.1]) (st1 := p536.2) (d' := 11) dL_law_2264 xl_L_188 hq537 (by decide) (Nat.le_trans (xsJ xs0) (by decide)) rfl rfl (S_X11_less n p530.2 a2 v532 v533 v534 v535 p536.1 p536.2 hp536) ?_
        refine r_lcmp dL_law_2267 ?_
        refine r_if_eq (tgt := 2512) dL_law_2268 (by decide) (fun c => ?_) (fun c => ?_)
        · replace h := (if_pos c).symm.trans h
          obtain ⟨v538, hv538, h⟩ := xb h
          refine x_iinc (c := (9 : Int32)) (lv' := [(3, .int v538), (0, va_rf a0), (1, va_rf a1), (2, va_rf a2)]) (x := a3) (v := v538) dL_law_2512 rfl (by decide) (Option.some.inj hv538) (by decide) (congrArg (List.cons _) (xfY rfl (xfY rfl (xfY (xk1 2 3 _) (xfN rfl rfl))))) ?_
          refine r_goto (tgt := 18) dL_law_2515 (by decide) ?_
          exact x_sub [1, 2, 3, 0] rfl (ih p536.2 a0 a1 a2 v538 h)
        · replace h := (if_neg c).symm.trans h
          refine r_iconst (v := (0 : Int32)) dL_law_2271 (by decide) ?_
          obtain ⟨v539, hv539, h⟩ := xb h
          refine x_eqI (rz_inv2 hv539).1 ?_
          obtain ⟨rfl, rfl⟩ := Prod.mk.inj (Option.some.inj h)
          exact r_ireturn dL_law_2272 .boolean rfl (by rcases (rz_inv2 hv539).2 with e | e <;> rw [e] <;> rfl)
      replace h := (if_neg c39).symm.trans h
      by_cases c40 : (v11 &&& (63 : Int32)) = (40 : Int32)
      · replace h := (if_pos c40).symm.trans h
        refine r_tableIn (off := 2240) (tgt := 2273) dL_law_33 (by rw [c40]; decide) (by rw [c40]; decide) (by rw [c40]; rfl) (by decide) ?_
        refine x_aload_n (o := a1) dL_law_2273 rfl ?_
        refine x_aload_n (o := a0) dL_law_2274 rfl ?_
        refine r_iload_n (x := a3) dL_law_2275 rfl ?_
        refine r_iconst (v := (1 : Int32)) dL_law_2276 (by decide) ?_
        refine r_iadd dL_law_2277 ?_
        obtain ⟨v540, hv540, h⟩ := xb h
        refine x_iaload (o := a0) dL_law_2278 hv540 ?_
        refine x_aload_n (o := a0) dL_law_2279 rfl ?_
        refine r_iload_n (x := a3) dL_law_2280 rfl ?_
        refine r_iconst (v := (2 : Int32)) dL_law_2281 (by decide) ?_
        refine r_iadd dL_law_2282 ?_
        obtain ⟨v541, hv541, h⟩ := xb h
        refine x_iaload (o := a0) dL_law_2283 hv541 ?_
        refine x_aload_n (o := a0) dL_law_2284 rfl ?_
        refine r_iload_n (x := a3) dL_law_2285 rfl ?_
        refine r_iconst (v := (3 : Int32)) dL_law_2286 (by decide) ?_
        refine r_iadd dL_law_2287 ?_
        obtain ⟨v542, hv542, h⟩ := xb h
        refine x_iaload (o := a0) dL_law_2288 hv542 ?_
        refine x_aload_n (o := a0) dL_law_2289 rfl ?_
        refine r_iload_n (x := a3) dL_law_2290 rfl ?_
        refine r_iconst (v := (4 : Int32)) dL_law_2291 (by decide) ?_
        refine r_iadd dL_law_2292 ?_
        obtain ⟨v543, hv543, h⟩ := xb h
        refine x_iaload (o := a0) dL_law_2293 hv543 ?_
        refine x_aload_n (o := a0) dL_law_2294 rfl ?_
        refine r_iload_n (x := a3) dL_law_2295 rfl ?_
        refine r_iconst (v := (5 : Int32)) dL_law_2296 (by decide) ?_
        refine r_iadd dL_law_2297 ?_
        obtain ⟨v544, hv544, h⟩ := xb h
        refine x_iaload (o := a0) dL_law_2298 hv544 ?_
        obtain ⟨q546, hq546, h⟩ := xb h
        obtain ⟨p545, hp545, h⟩ := xb h
        refine z_callV (as := [.int v540, .int v541, .int v542, .int v543, .int v544]) (o := a1) (r1 := (some (.long p545.1))) (stk := []) (stk2 := [.long p545.1]) (st1 := p545.2) (d' := 5) dL_law_2299 xl_L_189 hq546 (by decide) (Nat.le_trans xs0 (by decide)) rfl rfl (S_X10_bet n st a1 v540 v541 v542 v543 v544 p545.1 p545.2 hp545) ?_
        refine x_aload_n (o := a2) dL_law_2302 rfl ?_
        refine x_aload_n (o := a0) dL_law_2303 rfl ?_
        refine r_iload_n (x := a3) dL_law_2304 rfl ?_
        refine r_iconst (v := (1 : Int32)) dL_law_2305 (by decide) ?_
        refine r_iadd dL_law_2306 ?_
        obtain ⟨v547, hv547, h⟩ := xb h
        refine x_iaload (o := a0) dL_law_2307 hv547 ?_
        refine x_aload_n (o := a0) dL_law_2308 rfl ?_
        refine r_iload_n (x := a3) dL_law_2309 rfl ?_
        refine r_iconst (v := (2 : Int32)) dL_law_2310 (by decide) ?_
        refine r_iadd dL_law_2311 ?_
        obtain ⟨v548, hv548, h⟩ := xb h
        refine x_iaload (o := a0) dL_law_2312 hv548 ?_
        refine x_aload_n (o := a0) dL_law_2313 rfl ?_
        refine r_iload_n (x := a3) dL_law_2314 rfl ?_
        refine r_iconst (v := (3 : Int32)) dL_law_2315 (by decide) ?_
        refine r_iadd dL_law_2316 ?_
        obtain ⟨v549, hv549, h⟩ := xb h
        refine x_iaload (o := a0) dL_law_2317 hv549 ?_
        refine x_aload_n (o := a0) dL_law_2318 rfl ?_
        refine r_iload_n (x := a3) dL_law_2319 rfl ?_
        refine r_iconst (v := (4 : Int32)) dL_law_2320 (by decide) ?_
        refine r_iadd dL_law_2321 ?_
        obtain ⟨v550, hv550, h⟩ := xb h
        refine x_iaload (o := a0) dL_law_2322 hv550 ?_
        refine x_aload_n (o := a0) dL_law_2323 rfl ?_
        refine r_iload_n (x := a3) dL_law_2324 rfl ?_
        refine r_iconst (v := (5 : Int32)) dL_law_2325 (by decide) ?_
        refine r_iadd dL_law_2326 ?_
        obtain ⟨v551, hv551, h⟩ := xb h
        refine x_iaload (o := a0) dL_law_2327 hv551 ?_
        obtain ⟨q553, hq553, h⟩ := xb h
        obtain ⟨v552, hv552, h⟩ := xb h
        refine z_callV (as := [.int v547, .int v548, .int v549, .int v550, .int v551]) (o := a2) (r1 := (some (.long v552))) (stk := [.long p545.1]) (stk2 := [.long v552, .long p545.1]) (st1 := p545.2) (d' := 10) dL_law_2328 xl_L_192 hq553 (by decide) (Nat.le_trans (xsJ xs0) (by decide)) rfl rfl (S_X11_bet n p545.2 a2 v547 v548 v549 v550 v551 v552 hv552) ?_
        refine r_lcmp dL_law_2331 ?_
        refine r_if_eq (tgt := 2512) dL_law_2332 (by decide) (fun c => ?_) (fun c => ?_)
        · replace h := (if_pos c).symm.trans h
          obtain ⟨v554, hv554, h⟩ := xb h
          refine x_iinc (c := (9 : Int32)) (lv' := [(3, .int v554), (0, va_rf a0), (1, va_rf a1), (2, va_rf a2)]) (x := a3) (v := v554) dL_law_2512 rfl (by decide) (Option.some.inj hv554) (by decide) (congrArg (List.cons _) (xfY rfl (xfY rfl (xfY (xk1 2 3 _) (xfN rfl rfl))))) ?_
          refine r_goto (tgt := 18) dL_law_2515 (by decide) ?_
          exact x_sub [1, 2, 3, 0] rfl (ih p545.2 a0 a1 a2 v554 h)
        · replace h := (if_neg c).symm.trans h
          refine r_iconst (v := (0 : Int32)) dL_law_2335 (by decide) ?_
          obtain ⟨v555, hv555, h⟩ := xb h
          refine x_eqI (rz_inv2 hv555).1 ?_
          obtain ⟨rfl, rfl⟩ := Prod.mk.inj (Option.some.inj h)
          exact r_ireturn dL_law_2336 .boolean rfl (by rcases (rz_inv2 hv555).2 with e | e <;> rw [e] <;> rfl)
      replace h := (if_neg c40).symm.trans h
      by_cases c41 : (v11 &&& (63 : Int32)) = (41 : Int32)
      · replace h := (if_pos c41).symm.trans h
        refine r_tableIn (off := 2304) (tgt := 2337) dL_law_33 (by rw [c41]; decide) (by rw [c41]; decide) (by rw [c41]; rfl) (by decide) ?_
        refine x_aload_n (o := a1) dL_law_2337 rfl ?_
        refine x_aload_n (o := a0) dL_law_2338 rfl ?_
        refine r_iload_n (x := a3) dL_law_2339 rfl ?_
        refine r_iconst (v := (1 : Int32)) dL_law_2340 (by decide) ?_
        refine r_iadd dL_law_2341 ?_
        obtain ⟨v556, hv556, h⟩ := xb h
        refine x_iaload (o := a0) dL_law_2342 hv556 ?_
        refine x_aload_n (o := a0) dL_law_2343 rfl ?_
        refine r_iload_n (x := a3) dL_law_2344 rfl ?_
        refine r_iconst (v := (2 : Int32)) dL_law_2345 (by decide) ?_
        refine r_iadd dL_law_2346 ?_
        obtain ⟨v557, hv557, h⟩ := xb h
        refine x_iaload (o := a0) dL_law_2347 hv557 ?_
        refine x_aload_n (o := a0) dL_law_2348 rfl ?_
        refine r_iload_n (x := a3) dL_law_2349 rfl ?_
        refine r_iconst (v := (3 : Int32)) dL_law_2350 (by decide) ?_
        refine r_iadd dL_law_2351 ?_
        obtain ⟨v558, hv558, h⟩ := xb h
        refine x_iaload (o := a0) dL_law_2352 hv558 ?_
        refine x_aload_n (o := a0) dL_law_2353 rfl ?_
        refine r_iload_n (x := a3) dL_law_2354 rfl ?_
        refine r_iconst (v := (4 : Int32)) dL_law_2355 (by decide) ?_
        refine r_iadd dL_law_2356 ?_
        obtain ⟨v559, hv559, h⟩ := xb h
        refine x_iaload (o := a0) dL_law_2357 hv559 ?_
        obtain ⟨q561, hq561, h⟩ := xb h
        obtain ⟨p560, hp560, h⟩ := xb h
        refine z_callV (as := [.int v556, .int v557, .int v558, .int v559]) (o := a1) (r1 := (some (.int p560.1))) (stk := []) (stk2 := [.int p560.1]) (st1 := p560.2) (d' := 5) dL_law_2358 xl_L_193 hq561 (by decide) (Nat.le_trans xs0 (by decide)) rfl rfl (S_X10_best n st a1 v556 v557 v558 v559 p560.1 p560.2 hp560) ?_
        refine x_aload_n (o := a2) dL_law_2361 rfl ?_
        refine x_aload_n (o := a0) dL_law_2362 rfl ?_
        refine r_iload_n (x := a3) dL_law_2363 rfl ?_
        refine r_iconst (v := (1 : Int32)) dL_law_2364 (by decide) ?_
        refine r_iadd dL_law_2365 ?_
        obtain ⟨v562, hv562, h⟩ := xb h
        refine x_iaload (o := a0) dL_law_2366 hv562 ?_
        refine x_aload_n (o := a0) dL_law_2367 rfl ?_
        refine r_iload_n (x := a3) dL_law_2368 rfl ?_
        refine r_iconst (v := (2 : Int32)) dL_law_2369 (by decide) ?_
        refine r_iadd dL_law_2370 ?_
        obtain ⟨v563, hv563, h⟩ := xb h
        refine x_iaload (o := a0) dL_law_2371 hv563 ?_
        refine x_aload_n (o := a0) dL_law_2372 rfl ?_
        refine r_iload_n (x := a3) dL_law_2373 rfl ?_
        refine r_iconst (v := (3 : Int32)) dL_law_2374 (by decide) ?_
        refine r_iadd dL_law_2375 ?_
        obtain ⟨v564, hv564, h⟩ := xb h
        refine x_iaload (o := a0) dL_law_2376 hv564 ?_
        refine x_aload_n (o := a0) dL_law_2377 rfl ?_
        refine r_iload_n (x := a3) dL_law_2378 rfl ?_
        refine r_iconst (v := (4 : Int32)) dL_law_2379 (by decide) ?_
        refine r_iadd dL_law_2380 ?_
        obtain ⟨v565, hv565, h⟩ := xb h
        refine x_iaload (o := a0) dL_law_2381 hv565 ?_
        obtain ⟨q567, hq567, h⟩ := xb h
        obtain ⟨v566, hv566, h⟩ := xb h
        refine z_callV (as := [.int v562, .int v563, .int v564, .int v565]) (o := a2) (r1 := (some (.int v566))) (stk := [.int p560.1]) (stk2 := [.int v566, .int p560.1]) (st1 := p560.2) (d' := 10) dL_law_2382 xl_L_196 hq567 (by decide) (Nat.le_trans (xsI xs0) (by decide)) rfl rfl (S_X11_best n p560.2 a2 v562 v563 v564 v565 v566 hv566) ?_
        refine r_icmp_eq (tgt := 2512) dL_law_2385 (by decide) (fun c => ?_) (fun c => ?_)
        · replace h := (if_pos c).symm.trans h
          obtain ⟨v568, hv568, h⟩ := xb h
          refine x_iinc (c := (9 : Int32)) (lv' := [(3, .int v568), (0, va_rf a0), (1, va_rf a1), (2, va_rf a2)]) (x := a3) (v := v568) dL_law_2512 rfl (by decide) (Option.some.inj hv568) (by decide) (congrArg (List.cons _) (xfY rfl (xfY rfl (xfY (xk1 2 3 _) (xfN rfl rfl))))) ?_
          refine r_goto (tgt := 18) dL_law_2515 (by decide) ?_
          exact x_sub [1, 2, 3, 0] rfl (ih p560.2 a0 a1 a2 v568 h)
        · replace h := (if_neg c).symm.trans h
          refine r_iconst (v := (0 : Int32)) dL_law_2388 (by decide) ?_
          obtain ⟨v569, hv569, h⟩ := xb h
          refine x_eqI (rz_inv2 hv569).1 ?_
          obtain ⟨rfl, rfl⟩ := Prod.mk.inj (Option.some.inj h)
          exact r_ireturn dL_law_2389 .boolean rfl (by rcases (rz_inv2 hv569).2 with e | e <;> rw [e] <;> rfl)
      replace h := (if_neg c41).symm.trans h
      by_cases c42 : (v11 &&& (63 : Int32)) = (42 : Int32)
      · replace h := (if_pos c42).symm.trans h
        refine r_tableIn (off := 2357) (tgt := 2390) dL_law_33 (by rw [c42]; decide) (by rw [c42]; decide) (by rw [c42]; rfl) (by decide) ?_
        refine x_aload_n (o := a1) dL_law_2390 rfl ?_
        refine x_aload_n (o := a0) dL_law_2391 rfl ?_
        refine r_iload_n (x := a3) dL_law_2392 rfl ?_
        refine r_iconst (v := (1 : Int32)) dL_law_2393 (by decide) ?_
        refine r_iadd dL_law_2394 ?_
        obtain ⟨v570, hv570, h⟩ := xb h
        refine x_iaload (o := a0) dL_law_2395 hv570 ?_
        refine x_aload_n (o := a0) dL_law_2396 rfl ?_
        refine r_iload_n (x := a3) dL_law_2397 rfl ?_
        refine r_iconst (v := (2 : Int32)) dL_law_2398 (by decide) ?_
        refine r_iadd dL_law_2399 ?_
        obtain ⟨v571, hv571, h⟩ := xb h
        refine x_iaload (o := a0) dL_law_2400 hv571 ?_
        refine x_aload_n (o := a0) dL_law_2401 rfl ?_
        refine r_iload_n (x := a3) dL_law_2402 rfl ?_
        refine r_iconst (v := (3 : Int32)) dL_law_2403 (by decide) ?_
        refine r_iadd dL_law_2404 ?_
        obtain ⟨v572, hv572, h⟩ := xb h
        refine x_iaload (o := a0) dL_law_2405 hv572 ?_
        refine x_aload_n (o := a0) dL_law_2406 rfl ?_
        refine r_iload_n (x := a3) dL_law_2407 rfl ?_
        refine r_iconst (v := (4 : Int32)) dL_law_2408 (by decide) ?_
        refine r_iadd dL_law_2409 ?_
        obtain ⟨v573, hv573, h⟩ := xb h
        refine x_iaload (o := a0) dL_law_2410 hv573 ?_
        obtain ⟨q575, hq575, h⟩ := xb h
        obtain ⟨p574, hp574, h⟩ := xb h
        refine z_callV (as := [.int v570, .int v571, .int v572, .int v573]) (o := a1) (r1 := (some (.int p574.1))) (stk := []) (stk2 := [.int p574.1]) (st1 := p574.2) (d' := 5) dL_law_2411 xl_L_197 hq575 (by decide) (Nat.le_trans xs0 (by decide)) rfl rfl (S_X10_fair n st a1 v570 v571 v572 v573 p574.1 p574.2 hp574) ?_
        refine x_aload_n (o := a2) dL_law_2414 rfl ?_
        refine x_aload_n (o := a0) dL_law_2415 rfl ?_
        refine r_iload_n (x := a3) dL_law_2416 rfl ?_
        refine r_iconst (v := (1 : Int32)) dL_law_2417 (by decide) ?_
        refine r_iadd dL_law_2418 ?_
        obtain ⟨v576, hv576, h⟩ := xb h
        refine x_iaload (o := a0) dL_law_2419 hv576 ?_
        refine x_aload_n (o := a0) dL_law_2420 rfl ?_
        refine r_iload_n (x := a3) dL_law_2421 rfl ?_
        refine r_iconst (v := (2 : Int32)) dL_law_2422 (by decide) ?_
        refine r_iadd dL_law_2423 ?_
        obtain ⟨v577, hv577, h⟩ := xb h
        refine x_iaload (o := a0) dL_law_2424 hv577 ?_
        refine x_aload_n (o := a0) dL_law_2425 rfl ?_
        refine r_iload_n (x := a3) dL_law_2426 rfl ?_
        refine r_iconst (v := (3 : Int32)) dL_law_2427 (by decide) ?_
        refine r_iadd dL_law_2428 ?_
        obtain ⟨v578, hv578, h⟩ := xb h
        refine x_iaload (o := a0) dL_law_2429 hv578 ?_
        refine x_aload_n (o := a0) dL_law_2430 rfl ?_
        refine r_iload_n (x := a3) dL_law_2431 rfl ?_
        refine r_iconst (v := (4 : Int32)) dL_law_2432 (by decide) ?_
        refine r_iadd dL_law_2433 ?_
        obtain ⟨v579, hv579, h⟩ := xb h
        refine x_iaload (o := a0) dL_law_2434 hv579 ?_
        obtain ⟨q581, hq581, h⟩ := xb h
        obtain ⟨v580, hv580, h⟩ := xb h
        refine z_callV (as := [.int v576, .int v577, .int v578, .int v579]) (o := a2) (r1 := (some (.int v580))) (stk := [.int p574.1]) (stk2 := [.int v580, .int p574.1]) (st1 := p574.2) (d' := 10) dL_law_2435 xl_L_200 hq581 (by decide) (Nat.le_trans (xsI xs0) (by decide)) rfl rfl (S_X11_fair n p574.2 a2 v576 v577 v578 v579 v580 hv580) ?_
        refine r_icmp_eq (tgt := 2512) dL_law_2438 (by decide) (fun c => ?_) (fun c => ?_)
        · replace h := (if_pos c).symm.trans h
          obtain ⟨v582, hv582, h⟩ := xb h
          refine x_iinc (c := (9 : Int32)) (lv' := [(3, .int v582), (0, va_rf a0), (1, va_rf a1), (2, va_rf a2)]) (x := a3) (v := v582) dL_law_2512 rfl (by decide) (Option.some.inj hv582) (by decide) (congrArg (List.cons _) (xfY rfl (xfY rfl (xfY (xk1 2 3 _) (xfN rfl rfl))))) ?_
          refine r_goto (tgt := 18) dL_law_2515 (by decide) ?_
          exact x_sub [1, 2, 3, 0] rfl (ih p574.2 a0 a1 a2 v582 h)
        · replace h := (if_neg c).symm.trans h
          refine r_iconst (v := (0 : Int32)) dL_law_2441 (by decide) ?_
          obtain ⟨v583, hv583, h⟩ := xb h
          refine x_eqI (rz_inv2 hv583).1 ?_
          obtain ⟨rfl, rfl⟩ := Prod.mk.inj (Option.some.inj h)
          exact r_ireturn dL_law_2442 .boolean rfl (by rcases (rz_inv2 hv583).2 with e | e <;> rw [e] <;> rfl)
      replace h := (if_neg c42).symm.trans h
      by_cases c43 : (v11 &&& (63 : Int32)) = (43 : Int32)
      · replace h := (if_pos c43).symm.trans h
        refine r_tableIn (off := 2410) (tgt := 2443) dL_law_33 (by rw [c43]; decide) (by rw [c43]; decide) (by rw [c43]; rfl) (by decide) ?_
        refine x_aload_n (o := a1) dL_law_2443 rfl ?_
        refine x_aload_n (o := a0) dL_law_2444 rfl ?_
        refine r_iload_n (x := a3) dL_law_2445 rfl ?_
        refine r_iconst (v := (1 : Int32)) dL_law_2446 (by decide) ?_
        refine r_iadd dL_law_2447 ?_
        obtain ⟨v584, hv584, h⟩ := xb h
        refine x_iaload (o := a0) dL_law_2448 hv584 ?_
        obtain ⟨q586, hq586, h⟩ := xb h
        obtain ⟨v585, hv585, h⟩ := xb h
        refine z_callV (as := [.int v584]) (o := a1) (r1 := (some (.int v585))) (stk := []) (stk2 := [.int v585]) (st1 := st) (d' := 2) dL_law_2449 xl_L_201 hq586 (by decide) (Nat.le_trans xs0 (by decide)) rfl rfl (S_X10_count n st a1 v584 v585 hv585) ?_
        refine x_aload_n (o := a2) dL_law_2452 rfl ?_
        refine x_aload_n (o := a0) dL_law_2453 rfl ?_
        refine r_iload_n (x := a3) dL_law_2454 rfl ?_
        refine r_iconst (v := (1 : Int32)) dL_law_2455 (by decide) ?_
        refine r_iadd dL_law_2456 ?_
        obtain ⟨v587, hv587, h⟩ := xb h
        refine x_iaload (o := a0) dL_law_2457 hv587 ?_
        obtain ⟨q589, hq589, h⟩ := xb h
        obtain ⟨v588, hv588, h⟩ := xb h
        refine z_callV (as := [.int v587]) (o := a2) (r1 := (some (.int v588))) (stk := [.int v585]) (stk2 := [.int v588, .int v585]) (st1 := st) (d' := 1) dL_law_2458 xl_L_204 hq589 (by decide) (Nat.le_trans (xsI xs0) (by decide)) rfl rfl (S_X11_count n st a2 v587 v588 hv588) ?_
        refine r_icmp_eq (tgt := 2512) dL_law_2461 (by decide) (fun c => ?_) (fun c => ?_)
        · replace h := (if_pos c).symm.trans h
          obtain ⟨v590, hv590, h⟩ := xb h
          refine x_iinc (c := (9 : Int32)) (lv' := [(3, .int v590), (0, va_rf a0), (1, va_rf a1), (2, va_rf a2)]) (x := a3) (v := v590) dL_law_2512 rfl (by decide) (Option.some.inj hv590) (by decide) (congrArg (List.cons _) (xfY rfl (xfY rfl (xfY (xk1 2 3 _) (xfN rfl rfl))))) ?_
          refine r_goto (tgt := 18) dL_law_2515 (by decide) ?_
          exact x_sub [1, 2, 3, 0] rfl (ih st a0 a1 a2 v590 h)
        · replace h := (if_neg c).symm.trans h
          refine r_iconst (v := (0 : Int32)) dL_law_2464 (by decide) ?_
          obtain ⟨v591, hv591, h⟩ := xb h
          refine x_eqI (rz_inv2 hv591).1 ?_
          obtain ⟨rfl, rfl⟩ := Prod.mk.inj (Option.some.inj h)
          exact r_ireturn dL_law_2465 .boolean rfl (by rcases (rz_inv2 hv591).2 with e | e <;> rw [e] <;> rfl)
      replace h := (if_neg c43).symm.trans h
      by_cases c44 : (v11 &&& (63 : Int32)) = (44 : Int32)
      · replace h := (if_pos c44).symm.trans h
        refine r_tableIn (off := 2433) (tgt := 2466) dL_law_33 (by rw [c44]; decide) (by rw [c44]; decide) (by rw [c44]; rfl) (by decide) ?_
        refine x_aload_n (o := a1) dL_law_2466 rfl ?_
        refine x_aload_n (o := a0) dL_law_2467 rfl ?_
        refine r_iload_n (x := a3) dL_law_2468 rfl ?_
        refine r_iconst (v := (1 : Int32)) dL_law_2469 (by decide) ?_
        refine r_iadd dL_law_2470 ?_
        obtain ⟨v592, hv592, h⟩ := xb h
        refine x_iaload (o := a0) dL_law_2471 hv592 ?_
        obtain ⟨q594, hq594, h⟩ := xb h
        obtain ⟨p593, hp593, h⟩ := xb h
        refine z_callV (as := [.int v592]) (o := a1) (r1 := (some (.int p593.1))) (stk := []) (stk2 := [.int p593.1]) (st1 := p593.2) (d' := 2) dL_law_2472 xl_L_205 hq594 (by decide) (Nat.le_trans xs0 (by decide)) rfl rfl (S_X10_image n st a1 v592 p593.1 p593.2 hp593) ?_
        refine x_aload_n (o := a2) dL_law_2475 rfl ?_
        refine x_aload_n (o := a0) dL_law_2476 rfl ?_
        refine r_iload_n (x := a3) dL_law_2477 rfl ?_
        refine r_iconst (v := (1 : Int32)) dL_law_2478 (by decide) ?_
        refine r_iadd dL_law_2479 ?_
        obtain ⟨v595, hv595, h⟩ := xb h
        refine x_iaload (o := a0) dL_law_2480 hv595 ?_
        obtain ⟨q597, hq597, h⟩ := xb h
        obtain ⟨p596, hp596, h⟩ := xb h
        refine z_callV (as := [.int v595]) (o := a2) (r1 := (some (.int p596.1))) (stk := [.int p593.1]) (stk2 := [.int p596.1, .int p593.1]) (st1 := p596.2) (d' := 1) dL_law_2481 xl_L_209 hq597 (by decide) (Nat.le_trans (xsI xs0) (by decide)) rfl rfl (S_X11_image n p593.2 a2 v595 p596.1 p596.2 hp596) ?_
        refine r_icmp_eq (tgt := 2512) dL_law_2484 (by decide) (fun c => ?_) (fun c => ?_)
        · replace h := (if_pos c).symm.trans h
          obtain ⟨v598, hv598, h⟩ := xb h
          refine x_iinc (c := (9 : Int32)) (lv' := [(3, .int v598), (0, va_rf a0), (1, va_rf a1), (2, va_rf a2)]) (x := a3) (v := v598) dL_law_2512 rfl (by decide) (Option.some.inj hv598) (by decide) (congrArg (List.cons _) (xfY rfl (xfY rfl (xfY (xk1 2 3 _) (xfN rfl rfl))))) ?_
          refine r_goto (tgt := 18) dL_law_2515 (by decide) ?_
          exact x_sub [1, 2, 3, 0] rfl (ih p596.2 a0 a1 a2 v598 h)
        · replace h := (if_neg c).symm.trans h
          refine r_iconst (v := (0 : Int32)) dL_law_2487 (by decide) ?_
          obtain ⟨v599, hv599, h⟩ := xb h
          refine x_eqI (rz_inv2 hv599).1 ?_
          obtain ⟨rfl, rfl⟩ := Prod.mk.inj (Option.some.inj h)
          exact r_ireturn dL_law_2488 .boolean rfl (by rcases (rz_inv2 hv599).2 with e | e <;> rw [e] <;> rfl)
      replace h := (if_neg c44).symm.trans h
      by_cases c45 : (v11 &&& (63 : Int32)) = (45 : Int32)
      · replace h := (if_pos c45).symm.trans h
        refine r_tableIn (off := 2456) (tgt := 2489) dL_law_33 (by rw [c45]; decide) (by rw [c45]; decide) (by rw [c45]; rfl) (by decide) ?_
        refine x_aload_n (o := a1) dL_law_2489 rfl ?_
        refine x_aload_n (o := a0) dL_law_2490 rfl ?_
        refine r_iload_n (x := a3) dL_law_2491 rfl ?_
        refine r_iconst (v := (1 : Int32)) dL_law_2492 (by decide) ?_
        refine r_iadd dL_law_2493 ?_
        obtain ⟨v600, hv600, h⟩ := xb h
        refine x_iaload (o := a0) dL_law_2494 hv600 ?_
        obtain ⟨q602, hq602, h⟩ := xb h
        obtain ⟨p601, hp601, h⟩ := xb h
        refine z_callV (as := [.int v600]) (o := a1) (r1 := (some (.int p601.1))) (stk := []) (stk2 := [.int p601.1]) (st1 := p601.2) (d' := 2) dL_law_2495 xl_L_210 hq602 (by decide) (Nat.le_trans xs0 (by decide)) rfl rfl (S_X10_again n st a1 v600 p601.1 p601.2 hp601) ?_
        refine x_aload_n (o := a2) dL_law_2498 rfl ?_
        refine x_aload_n (o := a0) dL_law_2499 rfl ?_
        refine r_iload_n (x := a3) dL_law_2500 rfl ?_
        refine r_iconst (v := (1 : Int32)) dL_law_2501 (by decide) ?_
        refine r_iadd dL_law_2502 ?_
        obtain ⟨v603, hv603, h⟩ := xb h
        refine x_iaload (o := a0) dL_law_2503 hv603 ?_
        obtain ⟨q605, hq605, h⟩ := xb h
        obtain ⟨p604, hp604, h⟩ := xb h
        refine z_callV (as := [.int v603]) (o := a2) (r1 := (some (.int p604.1))) (stk := [.int p601.1]) (stk2 := [.int p604.1, .int p601.1]) (st1 := p604.2) (d' := 1) dL_law_2504 xl_L_213 hq605 (by decide) (Nat.le_trans (xsI xs0) (by decide)) rfl rfl (S_X11_again n p601.2 a2 v603 p604.1 p604.2 hp604) ?_
        refine r_icmp_eq (tgt := 2512) dL_law_2507 (by decide) (fun c => ?_) (fun c => ?_)
        · replace h := (if_pos c).symm.trans h
          obtain ⟨v606, hv606, h⟩ := xb h
          refine x_iinc (c := (9 : Int32)) (lv' := [(3, .int v606), (0, va_rf a0), (1, va_rf a1), (2, va_rf a2)]) (x := a3) (v := v606) dL_law_2512 rfl (by decide) (Option.some.inj hv606) (by decide) (congrArg (List.cons _) (xfY rfl (xfY rfl (xfY (xk1 2 3 _) (xfN rfl rfl))))) ?_
          refine r_goto (tgt := 18) dL_law_2515 (by decide) ?_
          exact x_sub [1, 2, 3, 0] rfl (ih p604.2 a0 a1 a2 v606 h)
        · replace h := (if_neg c).symm.trans h
          refine r_iconst (v := (0 : Int32)) dL_law_2510 (by decide) ?_
          obtain ⟨v607, hv607, h⟩ := xb h
          refine x_eqI (rz_inv2 hv607).1 ?_
          obtain ⟨rfl, rfl⟩ := Prod.mk.inj (Option.some.inj h)
          exact r_ireturn dL_law_2511 .boolean rfl (by rcases (rz_inv2 hv607).2 with e | e <;> rw [e] <;> rfl)
      replace h := (if_neg c45).symm.trans h
      refine r_tableOut (tgt := 2512) dL_law_33 (xswD (fun k hk1 hk2 => by
        have hk : k = 0 ∨ k = 1 ∨ k = 2 ∨ k = 3 ∨ k = 4 ∨ k = 5 ∨ k = 6 ∨ k = 7 ∨ k = 8 ∨ k = 9 ∨ k = 10 ∨ k = 11 ∨ k = 12 ∨ k = 13 ∨ k = 14 ∨ k = 15 ∨ k = 16 ∨ k = 17 ∨ k = 18 ∨ k = 19 ∨ k = 20 ∨ k = 21 ∨ k = 22 ∨ k = 23 ∨ k = 24 ∨ k = 25 ∨ k = 26 ∨ k = 27 ∨ k = 28 ∨ k = 29 ∨ k = 30 ∨ k = 31 ∨ k = 32 ∨ k = 33 ∨ k = 34 ∨ k = 35 ∨ k = 36 ∨ k = 37 ∨ k = 38 ∨ k = 39 ∨ k = 40 ∨ k = 41 ∨ k = 42 ∨ k = 43 ∨ k = 44 ∨ k = 45 := by omega
        rcases hk with rfl | rfl | rfl | rfl | rfl | rfl | rfl | rfl | rfl | rfl | rfl | rfl | rfl | rfl | rfl | rfl | rfl | rfl | rfl | rfl | rfl | rfl | rfl | rfl | rfl | rfl | rfl | rfl | rfl | rfl | rfl | rfl | rfl | rfl | rfl | rfl | rfl | rfl | rfl | rfl | rfl | rfl | rfl | rfl | rfl | rfl
        · exact c0
        · exact c1
        · exact c2
        · exact c3
        · exact c4
        · exact c5
        · exact c6
        · exact c7
        · exact c8
        · exact c9
        · exact c10
        · exact c11
        · exact c12
        · exact c13
        · exact c14
        · exact c15
        · exact c16
        · exact c17
        · exact c18
        · exact c19
        · exact c20
        · exact c21
        · exact c22
        · exact c23
        · exact c24
        · exact c25
        · exact c26
        · exact c27
        · exact c28
        · exact c29
        · exact c30
        · exact c31
        · exact c32
        · exact c33
        · exact c34
        · exact c35
        · exact c36
        · exact c37
        · exact c38
        · exact c39
        · exact c40
        · exact c41
        · exact c42
        · exact c43
        · exact c44
        · exact c45)) (by decide) ?_
      obtain ⟨v608, hv608, h⟩ := xb h
      refine x_iinc (c := (9 : Int32)) (lv' := [(3, .int v608), (0, va_rf a0), (1, va_rf a1), (2, va_rf a2)]) (x := a3) (v := v608) dL_law_2512 rfl (by decide) (Option.some.inj hv608) (by decide) (congrArg (List.cons _) (xfY rfl (xfY rfl (xfY (xk1 2 3 _) (xfN rfl rfl))))) ?_
      refine r_goto (tgt := 18) dL_law_2515 (by decide) ?_
      exact x_sub [1, 2, 3, 0] rfl (ih st a0 a1 a2 v608 h)
theorem R_L_law (n : Nat) (st : xS) (a0 : Option Nat) (rv : Int32) (st' : xS) (h : F_L_law n st a0 = some (rv, st')) : Rn mL_law 0 [(0, va_rf a0)] [] st (some (.int rv)) st' 13 := by
  unfold F_L_law at h
  obtain ⟨s1, hs1, h⟩ := xb h
  obtain ⟨o2, ho2, h⟩ := xb h
  refine x_new (o := o2) dL_law_0 xc_X10 tyX10 tyX10_ok xw_L_7 xi_X10 xj_X10 xh_X10 (Option.some.inj hs1) (Option.some.inj ho2) ?_
  refine x_dupR (o := o2) dL_law_3 ?_
  obtain ⟨b3, hb3, h⟩ := xb h
  obtain ⟨s4, hs4, h⟩ := xb h
  refine x_callI (as := []) (o := o2) (stk := [va_rf o2]) (st1 := s4) (d' := 4) dL_law_4 xl_L_9 hb3 (by decide) (Nat.le_trans (xsA xs0) (by decide)) rfl (S_X10_init n s1 o2  s4 hs4) ?_
  refine x_astore_n (lv' := [(1, va_rf o2), (0, va_rf a0)]) (o := o2) dL_law_7 (by decide) (congrArg (List.cons _) (xfY (xk1 0 1 _) rfl)) ?_
  obtain ⟨s5, hs5, h⟩ := xb h
  obtain ⟨o6, ho6, h⟩ := xb h
  refine x_new (o := o6) dL_law_8 xc_X11 tyX11 tyX11_ok xw_L_10 xi_X11 xj_X11 xh_X11 (Option.some.inj hs5) (Option.some.inj ho6) ?_
  refine x_dupR (o := o6) dL_law_11 ?_
  obtain ⟨b7, hb7, h⟩ := xb h
  obtain ⟨s8, hs8, h⟩ := xb h
  refine x_callI (as := []) (o := o6) (stk := [va_rf o6]) (st1 := s8) (d' := 1) dL_law_12 xl_L_12 hb7 (by decide) (Nat.le_trans (xsA xs0) (by decide)) rfl (S_X11_init n s5 o6  s8 hs8) ?_
  refine x_astore_n (lv' := [(2, va_rf o6), (1, va_rf o2), (0, va_rf a0)]) (o := o6) dL_law_15 (by decide) (congrArg (List.cons _) (xfY (xk1 1 2 _) (xfY rfl rfl))) ?_
  refine r_iconst (v := (0 : Int32)) dL_law_16 (by decide) ?_
  refine r_istore_n (lv' := [(3, .int (0 : Int32)), (2, va_rf o6), (1, va_rf o2), (0, va_rf a0)]) (x := (0 : Int32)) dL_law_17 (by decide) (congrArg (List.cons _) (xfY (xk1 2 3 _) (xfY rfl (xfY rfl rfl)))) ?_
  exact x_sub [3, 2, 1, 0] rfl (R_L_law_L18 n rv st' n s8 a0 o2 o6 (0 : Int32) h)

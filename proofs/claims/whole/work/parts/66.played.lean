/-! PLAY: the model, and both -/
section PQ
variable {st st1 st2 : xS} {n d i j k : Nat} {G G1 : Gh} {I I1 : Im} {x y : Int32}
theorem PM.ok {z : xS} {w : Nat} {f : Nat → Nat} (h : PM st z (G.cn 3) w f) (hN : RelN st G I) (hc : G.cn 3 < 80) : Sh z ∧ ModB (cI z 107) G ∧ lfD z 9 := ⟨h.1.2.2.1, hN.mod.mono hN.2.1 fun q hq => h.2.2.2 q (by omega), lfD_none (h.2.1.trans hN.2.2.2.2.1)⟩
theorem M_one (hN : RelN st G I) (hx : fI st 106 16 = x) (hc : G.cn 3 < 80) (hj : j < G.cn 0) (hi : i < G.cn 1) (hk : k < G.cn 2) {g yr : Nat} (hg : g < (G.P k).n) (hy : yr ≤ 59) (hn : 3000 ≤ n) : ∃ st', (∀ m, F_X11_play_L71 n (m + 1) st (some 106) (nI k) (nI yr) (nI (510 + 150 * j)) (nI (960 + 14 * i)) (nI g) = F_X11_play_L71 n m st' (some 106) (nI k) (nI yr) (nI (510 + 150 * j)) (nI (960 + 14 * i)) (nI (g + 1))) ∧ RelN st' (addN G (pn (G.L j) (G.W i) (G.P k) yr g x).1) I ∧ fI st' 106 16 = (pn (G.L j) (G.W i) (G.P k) yr g x).2 ∧ Only QN st st' := by
  have hIG := hN.2.1
  have hI := hIG.lg hj
  have hJ := hIG.pp hk
  have c1 := hJ.1
  have dd := hJ.2.1 g hg
  have gn := pn_I (W := G.W i) hI hJ hg hy x
  have S := hN.1
  have M := hN.mod
  have ct : aI st (some 107) (3 : Int32) = some (nI (G.cn 3)) := M_cnt S M
  have gl := M_goalOf (n := n) S M hIG (lfD_none hN.2.2.2.2.1) hj hi hk hg hn
  generalize hL : G.L j = L at *
  generalize hW : G.W i = W at *
  generalize hP : G.P k = P at *
  unfold pn at gn ⊢
  have hpa : sh3 (gp L W P g (gE (gP L W P g) 9)) x 3 = pnA L W P g x := rfl
  have hpb : sh3 (gq L W P g) (pnA L W P g x).2 3 = pnB L W P g x := rfl
  have hAl : (pnA L W P g x).1 ≤ 3 := sh3_le _ _ _
  have hBl : (pnB L W P g x).1 ≤ 3 := sh3_le _ _ _
  generalize pnA L W P g x = A at *
  generalize pnB L W P g x = B at *
  dsimp only at gn ⊢
  have h24 := q24M (c := P.c g 4) (by omega) hAl hBl
  have bP := gP_le L W P g 4
  have h16 := q16N (gP L W P g 4) (by omega)
  generalize hx1 : rnd B.2 = x1 at *
  generalize hx2 : rnd x1 = x2 at *
  generalize hx3 : rnd x2 = x3 at *
  generalize hc4 : (if gP L W P g 4 = 0 then 0 else 1) = c4 at *
  generalize hc2 : (if P.c g 4 = 1 ∧ B.1 = A.1 + 1 then 2 else 0) = c2 at *
  have R0 := PM.refl S (G.cn 3) (nv (P.c g 0) (P.c g 1) yr A.1 B.1 (uv x1 % 4) (uv x2 % 4 + c4) (1 + uv x3 % 3 + c2) (gN L P g) (P.c g 4))
  obtain ⟨s1, e1, R1, y1⟩ := R0.goals (n := n) hx (p := gp L W P g (gE (gP L W P g) 9)) (gp_le _ _ _ _ _) hn
  rw [hpa] at e1 y1
  obtain ⟨T1, N1, D1⟩ := R1.ok hN hc
  have gl1 := M_goalOf (n := n) (g := g) T1 N1 hIG D1 hj hi hk (by rw [hP]; exact hg) hn
  rw [hL, hW, hP] at gl1
  obtain ⟨s2, e2, R2, y2⟩ := R1.goals (n := n) y1 (p := gq L W P g) (hu_le _) hn
  rw [hpb] at e2 y2
  obtain ⟨T2, N2, D2⟩ := R2.ok hN hc
  obtain ⟨s3, t0, R3, f3⟩ := PM.step (n := n) R2 hc (show 0 < 10 by decide)
  rw [nv0, ← l0] at t0
  have y3 := f3.trans y2
  obtain ⟨T3, N3, D3⟩ := R3.ok hN hc
  obtain ⟨s4, t1, R4, f4⟩ := PM.step (n := n) R3 hc (show 1 < 10 by decide)
  rw [nv1, ← l1] at t1
  have y4 := f4.trans y3
  obtain ⟨T4, N4, D4⟩ := R4.ok hN hc
  obtain ⟨s5, t2, R5, f5⟩ := PM.step (n := n) R4 hc (show 2 < 10 by decide)
  rw [nv2, ← l2] at t2
  have y5 := f5.trans y4
  obtain ⟨T5, N5, D5⟩ := R5.ok hN hc
  obtain ⟨s6, t3, R6, f6⟩ := PM.step (n := n) R5 hc (show 3 < 10 by decide)
  rw [nv3, ← l3] at t3
  have y6 := f6.trans y5
  obtain ⟨T6, N6, D6⟩ := R6.ok hN hc
  obtain ⟨s7, t4, R7, f7⟩ := PM.step (n := n) R6 hc (show 4 < 10 by decide)
  rw [nv4, ← l4] at t4
  have y7 := f7.trans y6
  obtain ⟨T7, N7, D7⟩ := R7.ok hN hc
  obtain ⟨s8, w5, R8, y8⟩ := R7.draw (n := n) y7 (m := 4) (by decide) (by decide)
  have w5 : F_X11_drawn n s7 (some 106) (4 : Int32) = _ := w5
  rw [hx1] at w5 y8
  obtain ⟨T8, N8, D8⟩ := R8.ok hN hc
  obtain ⟨s9, t5, R9, f9⟩ := PM.step (n := n) R8 hc (show 5 < 10 by decide)
  rw [nv5, ← l5] at t5
  have y9 := f9.trans y8
  obtain ⟨T9, N9, D9⟩ := R9.ok hN hc
  obtain ⟨s10, w6, R10, y10⟩ := R9.draw (n := n) y9 (m := 4) (by decide) (by decide)
  have w6 : F_X11_drawn n s9 (some 106) (4 : Int32) = _ := w6
  rw [hx2] at w6 y10
  obtain ⟨T10, N10, D10⟩ := R10.ok hN hc
  obtain ⟨s11, t6, R11, f11⟩ := PM.step (n := n) R10 hc (show 6 < 10 by decide)
  rw [nv6, ← l6] at t6
  have y11 := f11.trans y10
  obtain ⟨T11, N11, D11⟩ := R11.ok hN hc
  obtain ⟨s12, w7, R12, y12⟩ := R11.draw (n := n) y11 (m := 3) (by decide) (by decide)
  have w7 : F_X11_drawn n s11 (some 106) (3 : Int32) = _ := w7
  rw [hx3] at w7 y12
  obtain ⟨T12, N12, D12⟩ := R12.ok hN hc
  obtain ⟨s13, t7, R13, f13⟩ := PM.step (n := n) R12 hc (show 7 < 10 by decide)
  rw [nv7, ← l7] at t7
  have y13 := f13.trans y12
  obtain ⟨T13, N13, D13⟩ := R13.ok hN hc
  obtain ⟨s14, t8, R14, f14⟩ := PM.step (n := n) R13 hc (show 8 < 10 by decide)
  rw [nv8, ← l8] at t8
  have y14 := f14.trans y13
  obtain ⟨T14, N14, D14⟩ := R14.ok hN hc
  obtain ⟨s15, t9, R15, f15⟩ := PM.step (n := n) R14 hc (show 9 < 10 by decide)
  rw [nv9, ← l9] at t9
  have y15 := f15.trans y14
  obtain ⟨T15, N15, D15⟩ := R15.ok hN hc
  have G0 : F_X11_gameOf n s2 (some 106) (nI k) (nI g) (0 : Int32) = some (nI (P.c g 0)) := by rw [← hP]; exact M_game T2 N2 hIG hk (by rw [hP]; exact hg) (by decide)
  have G1 : F_X11_gameOf n s3 (some 106) (nI k) (nI g) (1 : Int32) = some (nI (P.c g 1)) := by rw [← hP]; exact M_game T3 N3 hIG hk (by rw [hP]; exact hg) (by decide)
  have Q4 : F_X11_partOf n s10 (some 106) (nI (510 + 150 * j)) (nI (960 + 14 * i)) (nI k) (nI g) (4 : Int32) = some (nI (gP L W P g 4)) := by rw [← hL, ← hW, ← hP]; exact M_partOf T10 N10 hIG hj hi hk (by rw [hP]; exact hg) (show 4 < 6 by decide) hn
  have G4 : F_X11_gameOf n s12 (some 106) (nI k) (nI g) (4 : Int32) = some (nI (P.c g 4)) := by rw [← hP]; exact M_game T12 N12 hIG hk (by rw [hP]; exact hg) (by decide)
  have LD : F_X11_loudOf n s13 (some 106) (nI (510 + 150 * j)) (nI k) (nI g) = some (nI (gN L P g)) := by rw [← hL, ← hP]; exact M_loudOf T13 N13 hIG hj hk (by rw [hP]; exact hg)
  have G9 : F_X11_gameOf n s14 (some 106) (nI k) (nI g) (4 : Int32) = some (nI (P.c g 4)) := by rw [← hP]; exact M_game T14 N14 hIG hk (by rw [hP]; exact hg) (by decide)
  have gm : F_X11_gamesOf n st (some 106) (nI k) = some (nI P.n) := by rw [← hP]; exact M_games S M hIG hk
  have ct2 : aI s15 (some 107) (3 : Int32) = some (nI (G.cn 3)) := by
    have : aI s15 (some 107) (3 : Int32) = some (cI s15 107 3) := M_all T15 (show 3 < 10250 by decide)
    rw [this, R15.2.2.2 3 (by omega), M.1 3 (by decide)]
  have w3 : sS 0 s15 (some 107) (3 : Int32) (nI (G.cn 3 + 1)) = some (wA s15 107 (upd (cI s15 107) 3 (nI (G.cn 3 + 1)))) := by
    have : sS 0 s15 (some 107) (nI 3) (nI (G.cn 3 + 1)) = _ := w107 T15 _ _
    rw [if_pos (ixT (by decide) (by decide)), nIc (by decide)] at this
    exact this
  have o3 := Only.wA T15 107 (upd (cI s15 107) 3 (nI (G.cn 3 + 1)))
  have k3 := k107 T15 (upd (cI s15 107) 3 (nI (G.cn 3 + 1)))
  have f3 : ∀ q, fI (wA s15 107 (upd (cI s15 107) 3 (nI (G.cn 3 + 1)))) 106 q = fI s15 106 q := fun q => fI_c (wA_n (by decide) _ _) q
  generalize wA s15 107 (upd (cI s15 107) 3 (nI (G.cn 3 + 1))) = zz at *
  have o := R15.1.trans (o3.mono fun a h => Or.inr h)
  have q : Only QN st zz := o.mono fun a h => by unfold QN; omega
  refine ⟨zz, fun m => ?_, hN.base q (addN_I hIG hc gn) (M.nt hIG hc ?_ ?_ ?_) (((f3 15).trans R15.2.1).trans hN.2.2.2.2.1) (cI_o o (by decide)) ?_, (f3 16).trans y15, q⟩
  · rw [F_X11_play_L71]
    dsimp only
    simp (disch := omega) only [↓Option.bind_some, ↓reduceIte, nLe_f, ↓bnd (o106 S), ↓bnd (gm), ↓bnd (g106_0 S), ↓bnd (ct), ↓bnd (gl.1), ↓bnd (e1), ↓bnd (o106 T1), ↓bnd (gl1.2), ↓bnd (e2), ↓bnd (o106 T2), ↓bnd (G0), ↓bnd (t0), ↓bnd (o106 T3), ↓bnd (G1), ↓bnd (t1), ↓bnd (o106 T4), ↓bnd (t2), ↓bnd (o106 T5), ↓bnd (t3), ↓bnd (o106 T6), ↓bnd (t4), ↓bnd (o106 T7), ↓bnd (w5), ↓bnd (o106 T8), ↓bnd (t5), ↓bnd (o106 T9), ↓bnd (w6), ↓bnd (o106 T10), ↓bnd (Q4), ↓bnd (h16), nAdd, ↓bnd (t6), ↓bnd (o106 T11), ↓bnd (w7), ↓bnd (o106 T12), ↓bnd (G4), ↓bnd (h24), show ∀ u v : Nat, (1 : Int32) + nI u + nI v = nI (1 + u + v) from fun u v => by rw [show (1 : Int32) + nI u = nI (1 + u) from nAdd 1 u, nAdd], ↓bnd (t7), ↓bnd (o106 T13), ↓bnd (LD), ↓bnd (t8), ↓bnd (o106 T14), ↓bnd (G9), ↓bnd (t9), ↓bnd (g106_0 T15), ↓bnd (ct2), nI_1, ↓bnd (w3)]
  · rw [k3, upd_s]
  · intro v hv
    rw [k3, pk_un (by omega)]
    exact R15.2.2.1 v hv
  · intro q h3 hq
    rw [k3, pk_un h3]
    exact R15.2.2.2 q hq
  · intro q hq
    rw [k3, pk_un (by omega)]
    exact R15.2.2.2 q (by omega)
theorem KD_new (hS : Sh st) (v : Int32) : KD st (xnew st 1 (.inr (0, [.int v]))) ∧ DR (xnew st 1 (.inr (0, [.int v]))) (64 + st.1) v := by
  have h1 := hS.1
  have e : ∀ b, b < 64 + st.1 → (xnew st 1 (.inr (0, [.int v]))).2.2 b = st.2.2 b := fun b hb => if_neg (by omega)
  exact ⟨⟨Nat.le_succ _, shw_new hS _ _, fun b hb => e b (by omega), fun b hb _ => e b hb⟩, by omega, if_pos rfl⟩
theorem E_play (hR : Rel st G I) (l w p sd yr : Int32) (hn : 3000 ≤ n) : Chg (fun st => F_X10_play n st (some 64) l w p sd yr) (fun st => F_X11_play n st (some 106) l w p sd yr) st G I 1 1 := by
  have hS := hR.sh
  have b3 := hR.inv.n3
  have up : ∀ {v : Int32}, F_X10_play n st (some 64) l w p sd yr = some (v, st) → (∀ st2, RelN st2 G I → F_X11_play n st2 (some 106) l w p sd yr = some (v, st2)) → Chg (fun st => F_X10_play n st (some 64) l w p sd yr) (fun st => F_X11_play n st (some 106) l w p sd yr) st G I 1 1 := fun h1 h2 => ⟨_, st, G, I, h1, hR.cls, fun _ _ _ => rfl, Nat.le_refl _, Nat.le_succ _, Nat.le_succ _, fun st2 r => ⟨st2, h2 st2 r, r, Only.refl r.1⟩⟩
  rcases nCut yr 60 with ⟨yr, hy, rfl⟩ | hy
  · have yc : F_X10_isYear n st (nI yr) = some 1 := by
      have : F_X10_within n st (nI yr) (0 : Int32) (59 : Int32) = some 1 := C_in_t (j := yr) (b := 59) (by omega) (by decide)
      unfold F_X10_isYear
      simp only [↓bnd (this), rz1, Option.bind_some]
    have ym : ∀ st2, F_X11_isIn n st2 (nI yr) (0 : Int32) (59 : Int32) = some 1 := fun st2 => M_in_t (j := yr) (b := 59) (by omega) (by decide)
    rcases go4Cut G l w p with ⟨j, i, k, hg⟩ | hg
    · obtain ⟨st1, a, w', p', e1, o1, m1⟩ := C_b4 (n := n) hR hg
      have S1 := m1.1
      have hj := hg.1.1
      have hk := hg.1.2.1
      have hi := hg.2.1
      have hJ := hR.inv.pp hk
      have c1 := hJ.1
      have K1 := hR.cls.only o1 (fun a h => by unfold QC at h; omega)
      have F1 : KF st st1 := KF.of o1 (fun a h => by unfold QC at h; omega)
      have hm : F_X9_howMany n st1 (some 65) (3 : Int32) = some (nI (G.cn 3)) := C_howMany S1 K1.2.2.2.2.1 (by decide)
      have gt : ∀ st2, RelN st2 G I → F_X11_goes n st2 (some 106) l p = some 1 := fun st2 r2 => M_goesT r2.1 r2.mod r2.2.1 hg.1 hn
      have gw : ∀ st2, RelN st2 G I → F_X11_isOf n st2 (some 106) (1 : Int32) w = some 1 := fun st2 r2 => by
        obtain ⟨-, -, rfl⟩ := hg
        exact M_isOf_t (n := n) r2.1 r2.mod (w := 1) (by decide) hi (by have := hR.inv.2.1; omega)
      obtain ⟨⟨-, -, rfl, rfl, -⟩, -, rfl⟩ := hg
      have q8 : (nI (G.cn 3) + nI (G.P k).n ≤ (80 : Int32)) = (G.cn 3 + (G.P k).n ≤ 80) := by rw [nAdd]; exact nLe (b := 80) (by omega) (by decide)
      by_cases hc : G.cn 3 + (G.P k).n ≤ 80
      · obtain ⟨kd, dr⟩ := KD_new S1 0
        have K2 := K1.kd kd
        have m2 := m1.kd kd
        have S2 := kd.2.1
        generalize hs2 : xnew st1 1 (.inr (0, [.int 0])) = s2 at *
        have z2 : s2.1 = st1.1 + 1 ∧ s2.2.1 = st1.2.1 + 1 := by rw [← hs2]; exact ⟨rfl, rfl⟩
        generalize hd : 64 + st1.1 = d at *
        obtain ⟨dt, dr3⟩ := DT_up S2 dr sd
        have i3 : F_X0_init n s2 (some d) sd = some (xup s2 d (.inr (0, [.int sd]))) := by
          have pf : pF s2 (some d) 0 0 (.int sd) = some (xup s2 d (.inr (0, [.int sd]))) := by
            show (match s2.2.2 d with | .inr (c, fs) => if c = 0 ∧ 0 < fs.length then some (xup s2 d (.inr (0, fs.set 0 (.int sd)))) else none | _ => none) = _
            rw [dr.2]
            rfl
          unfold F_X0_init
          simp only [Option.bind_some, ↓bnd (pf)]
        have K3 := K2.kd dt.1
        have m3 := m2.kd dt.1
        generalize xup s2 d (.inr (0, [.int sd])) = s3 at *
        have hl : ∃ s4, F_X10_play_L71 n n s3 (some 64) (nI yr) (nI (G.P k).n) (some d) (nI 0) = some s4 ∧ RelK s4 (pyN G (G.L j) (G.W i) (G.P k) yr sd (G.P k).n).1 I ∧ KF s3 s4 ∧ s4.1 = s3.1 ∧ s4.2.1 = s3.2.1 := by
          refine loop_ex (fun m (s : xS × Int32) => F_X10_play_L71 n m s.1 (some 64) (nI yr) (nI (G.P k).n) (some d) s.2) (fun g s => RelK s.1 (pyN G (G.L j) (G.W i) (G.P k) yr sd g).1 I ∧ MS s.1 a w' p' (G.L j) (G.W i) (G.P k) ∧ DR s.1 d (pyN G (G.L j) (G.W i) (G.P k) yr sd g).2 ∧ KF s3 s.1 ∧ s.1.1 = s3.1 ∧ s.1.2.1 = s3.2.1 ∧ s.2 = nI g) (G.P k).n (fun r => ∃ s4, r = some s4 ∧ RelK s4 (pyN G (G.L j) (G.W i) (G.P k) yr sd (G.P k).n).1 I ∧ KF s3 s4 ∧ s4.1 = s3.1 ∧ s4.2.1 = s3.2.1) ?_ ?_ n (by omega) (s3, nI 0) ⟨K3, m3, dr3, fun _ _ _ => rfl, rfl, rfl, rfl⟩
          · rintro m g ⟨s, z⟩ hgn ⟨h1, h2, h3, h4, h5, h6, h7⟩
            dsimp only at h1 h2 h3 h4 h5 h6 h7 ⊢
            subst h7
            have pk := pyN_k G (G.L j) (G.W i) (G.P k) yr sd g
            obtain ⟨sa, sb, f1, f2, f3, f4, f5, f6, f7, f8, f9⟩ := C_one (n := n) h1 h2 h3 (hR.inv.lg hj) (hR.inv.lw hi) hJ (by rw [pk.1]; omega) hgn (show yr ≤ 59 by omega) hn
            refine ⟨(sb, nI (g + 1)), ⟨f4, f5, f6, h4.trans f7, f8.trans h5, f9.trans h6, rfl⟩, ?_⟩
            dsimp only
            rw [F_X10_play_L71]
            dsimp only
            simp (disch := omega) only [↓Option.bind_some, ↓reduceIte, nLe_f, ↓bnd (g64_3 h2.1), ↓bnd (o79 h2.1), ↓bnd (f1), ↓bnd (o64 f3), ↓bnd (f2), nI_1]
          · rintro m ⟨s, z⟩ ⟨h1, h2, h3, h4, h5, h6, h7⟩
            dsimp only at h1 h2 h3 h4 h5 h6 h7 ⊢
            subst h7
            refine ⟨s, ?_, h1, h4, h5, h6⟩
            rw [F_X10_play_L71]
            dsimp only
            simp (disch := omega) only [↓reduceIte, nLe_t]
        obtain ⟨s4, e4, K4, F4, n4, l4'⟩ := hl
        have e4 : F_X10_play_L71 n n s3 (some 64) (nI yr) (nI (G.P k).n) (some d) (0 : Int32) = some s4 := e4
        have o12 := o1.1
        have o13 := o1.2.1
        have d1 := dt.2.1
        have d2 := dt.2.2.1
        refine ⟨nI (G.P k).n, s4, _, I, ?_, K4, ((F1.trans kd.kf).trans dt.1.kf).trans F4, by omega, by omega, by omega, fun st2 r2 => ?_⟩
        · dsimp only
          unfold F_X10_play
          simp only [↓Option.bind_some, ↓reduceIte, ↓bnd (yc), ↓bnd (g64_3 hS), ↓bnd (g64_0 hS), ↓bnd (o79 hS), ↓bnd (e1), ↓bnd (g64_3 S1), ↓bnd (m1.y2), ↓bnd (m1.pn), ↓bnd (g64_0 S1), ↓bnd (o65 S1), ↓bnd (hm), i10, q8, eq_true hc, hs2, hd, ↓bnd (i3), ↓bnd (e4)]
        · have T := r2.1
          have ct : aI st2 (some 107) (3 : Int32) = some (nI (G.cn 3)) := M_cnt T r2.mod
          have gm : F_X11_gamesOf n st2 (some 106) (nI k) = some (nI (G.P k).n) := M_games T r2.mod r2.2.1 hk
          have p0 : F_X11_placeOf n st2 (0 : Int32) (nI j) = _ := M_placeOf0 j
          have p1 : F_X11_placeOf n st2 (1 : Int32) (nI i) = _ := M_placeOf1 i
          have px := p106_16 T sd
          have T3 := s106_16 T sd
          have x3 := f106_16 T sd
          have o3 : Only QN st2 (uV st2 106 16 (.int sd)) := (Only.uV T3).mono fun a h => by unfold QN; omega
          have N3 : RelN (uV st2 106 16 (.int sd)) G I := by
            have c7 : cI (uV st2 106 16 (.int sd)) 107 = cI st2 107 := cI_c (uV_n (by decide) _ _ _)
            exact r2.base o3 r2.2.1 (by rw [c7]; exact r2.mod) ((fI_oth (by decide) _).trans r2.2.2.2.2.1) (cI_c (uV_n (by decide) _ _ _)) (fun i _ => by rw [c7])
          generalize uV st2 106 16 (.int sd) = t3 at *
          have hl : ∃ t4, F_X11_play_L71 n n t3 (some 106) (nI k) (nI yr) (nI (510 + 150 * j)) (nI (960 + 14 * i)) (nI 0) = some t4 ∧ RelN t4 (pyN G (G.L j) (G.W i) (G.P k) yr sd (G.P k).n).1 I ∧ Only QN st2 t4 := by
            refine loop_ex (fun m (s : xS × Int32) => F_X11_play_L71 n m s.1 (some 106) (nI k) (nI yr) (nI (510 + 150 * j)) (nI (960 + 14 * i)) s.2) (fun g s => RelN s.1 (pyN G (G.L j) (G.W i) (G.P k) yr sd g).1 I ∧ fI s.1 106 16 = (pyN G (G.L j) (G.W i) (G.P k) yr sd g).2 ∧ Only QN st2 s.1 ∧ s.2 = nI g) (G.P k).n (fun r => ∃ t4, r = some t4 ∧ RelN t4 (pyN G (G.L j) (G.W i) (G.P k) yr sd (G.P k).n).1 I ∧ Only QN st2 t4) ?_ ?_ n (by omega) (t3, nI 0) ⟨N3, x3, o3, rfl⟩
            · rintro m g ⟨s, z⟩ hgn ⟨h1, h2, h3, h4⟩
              dsimp only at h1 h2 h3 h4 ⊢
              subst h4
              obtain ⟨k1, k2, k3, k4, k5⟩ := pyN_k G (G.L j) (G.W i) (G.P k) yr sd g
              obtain ⟨t', f1, f2, f3, f4⟩ := M_one (n := n) (j := j) (i := i) (k := k) (g := g) (yr := yr) h1 h2 (by rw [k1]; omega) (by rw [k2 0 (by decide)]; exact hj) (by rw [k2 1 (by decide)]; exact hi) (by rw [k2 2 (by decide)]; exact hk) (by rw [k5]; exact hgn) (by omega) hn
              rw [k3, k4, k5] at f2 f3
              exact ⟨(t', nI (g + 1)), ⟨f2, f3, h3.trans f4, rfl⟩, f1 m⟩
            · rintro m ⟨s, z⟩ ⟨h1, h2, h3, h4⟩
              dsimp only at h1 h2 h3 h4 ⊢
              subst h4
              obtain ⟨k1, k2, k3, k4, k5⟩ := pyN_k G (G.L j) (G.W i) (G.P k) yr sd (G.P k).n
              have gms : F_X11_gamesOf n s (some 106) (nI k) = some (nI (G.P k).n) := by
                have := M_games (n := n) (k := k) h1.1 h1.mod h1.2.1 (by rw [k2 2 (by decide)]; exact hk)
                rw [k5] at this
                exact this
              refine ⟨s, ?_, h1, h3⟩
              rw [F_X11_play_L71]
              dsimp only
              simp (disch := omega) only [↓Option.bind_some, ↓reduceIte, ↓bnd (o106 h1.1), ↓bnd (gms), nLe_t]
          obtain ⟨t4, e5, N4, o4⟩ := hl
          have e5 : F_X11_play_L71 n n t3 (some 106) (nI k) (nI yr) (nI (510 + 150 * j)) (nI (960 + 14 * i)) (0 : Int32) = some t4 := e5
          obtain ⟨k1, k2, k3, k4, k5⟩ := pyN_k G (G.L j) (G.W i) (G.P k) yr sd (G.P k).n
          have gm4 : F_X11_gamesOf n t4 (some 106) (nI k) = some (nI (G.P k).n) := by
            have := M_games (n := n) (k := k) N4.1 N4.mod N4.2.1 (by rw [k2 2 (by decide)]; exact hk)
            rw [k5] at this
            exact this
          refine ⟨t4, ?_, N4, o4⟩
          dsimp only
          unfold F_X11_play
          simp only [↓Option.bind_some, ↓reduceIte, ↓bnd (o106 T), ↓bnd (gt st2 r2), ↓bnd (gw st2 r2), ↓bnd (ym st2), ↓bnd (g106_0 T), ↓bnd (ct), ↓bnd (gm), i10, q8, eq_true hc, ↓bnd (p0), ↓bnd (p1), ↓bnd (px), ↓bnd (e5), ↓bnd (o106 N4.1), ↓bnd (gm4)]
      · refine ⟨-1, st1, G, I, ?_, K1, F1, Nat.le_of_eq o1.1.symm, by have := o1.1; omega, by have := o1.2.1; omega, fun st2 r2 => ⟨st2, ?_, r2, Only.refl r2.1⟩⟩
        · dsimp only
          unfold F_X10_play
          simp only [↓Option.bind_some, ↓reduceIte, ↓bnd (yc), ↓bnd (g64_3 hS), ↓bnd (g64_0 hS), ↓bnd (o79 hS), ↓bnd (e1), ↓bnd (g64_3 S1), ↓bnd (m1.y2), ↓bnd (m1.pn), ↓bnd (g64_0 S1), ↓bnd (o65 S1), ↓bnd (hm), i10, q8, eq_false hc]
        · have T := r2.1
          have ct : aI st2 (some 107) (3 : Int32) = some (nI (G.cn 3)) := M_cnt T r2.mod
          have gm : F_X11_gamesOf n st2 (some 106) (nI k) = some (nI (G.P k).n) := M_games T r2.mod r2.2.1 hk
          dsimp only
          unfold F_X11_play
          simp only [↓Option.bind_some, ↓reduceIte, ↓bnd (o106 T), ↓bnd (gt st2 r2), ↓bnd (gw st2 r2), ↓bnd (ym st2), ↓bnd (g106_0 T), ↓bnd (ct), ↓bnd (gm), i10, q8, eq_false hc]
    · refine up (v := -1) ?_ fun st2 r2 => ?_
      · unfold F_X10_play
        simp only [↓Option.bind_some, ↓reduceIte, ↓bnd (yc), ↓bnd (g64_3 hS), ↓bnd (g64_0 hS), ↓bnd (o79 hS), ↓bnd (C_bring4_f hR hg), i10]
      · unfold F_X11_play
        rcases goCut G l p with ⟨j, k, h2⟩ | h2
        · have i1 : F_X11_isOf n st2 (some 106) (1 : Int32) w = some 0 := M_isOf_f (n := n) r2.1 r2.mod (w := 1) (by decide) (by have := hR.inv.2.1; omega) (hg.resolve_left fun q => q j k h2)
          simp only [↓Option.bind_some, ↓reduceIte, ↓bnd (o106 r2.1), ↓bnd (M_goesT r2.1 r2.mod r2.2.1 h2 hn), ↓bnd (i1), i10]
        · simp only [↓Option.bind_some, ↓reduceIte, ↓bnd (o106 r2.1), ↓bnd (M_goesF r2.1 r2.mod r2.2.1 h2 hn)]
  · refine up (v := -1) ?_ fun st2 r2 => ?_
    · have yc : F_X10_isYear n st yr = some 0 := by
        have : F_X10_within n st yr (0 : Int32) (59 : Int32) = some 0 := C_in_f (b := 59) hy (by decide)
        unfold F_X10_isYear
        simp only [↓bnd (this), rz0, Option.bind_some]
      unfold F_X10_play
      simp only [↓Option.bind_some, ↓reduceIte, ↓bnd (yc)]
    · have ym : F_X11_isIn n st2 yr (0 : Int32) (59 : Int32) = some 0 := M_in_f (b := 59) hy (by decide)
      unfold F_X11_play
      rcases goCut G l p with ⟨j, k, h2⟩ | h2
      · rcases nCut w (G.cn 1) with ⟨i, hi, rfl⟩ | hw
        · have i1 : F_X11_isOf n st2 (some 106) (1 : Int32) (nI i) = some 1 := M_isOf_t (n := n) r2.1 r2.mod (w := 1) (by decide) hi (by have := hR.inv.2.1; omega)
          simp only [↓Option.bind_some, ↓reduceIte, ↓bnd (o106 r2.1), ↓bnd (M_goesT r2.1 r2.mod r2.2.1 h2 hn), ↓bnd (i1), ↓bnd (ym), i10]
        · have i1 : F_X11_isOf n st2 (some 106) (1 : Int32) w = some 0 := M_isOf_f (n := n) r2.1 r2.mod (w := 1) (by decide) (by have := hR.inv.2.1; omega) hw
          simp only [↓Option.bind_some, ↓reduceIte, ↓bnd (o106 r2.1), ↓bnd (M_goesT r2.1 r2.mod r2.2.1 h2 hn), ↓bnd (i1), i10]
      · simp only [↓Option.bind_some, ↓reduceIte, ↓bnd (o106 r2.1), ↓bnd (M_goesF r2.1 r2.mod r2.2.1 h2 hn)]
end PQ

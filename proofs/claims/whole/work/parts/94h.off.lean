/-! OFF -/
theorem uNn_0 {T : Nat → Int} : ∀ k, (∀ s, s < k → T s = 0) → uNn T k = 0 := by
  intro k
  induction k with
  | zero => exact fun _ => rfl
  | succ k ih =>
    intro h
    rw [uNn_t (h k (by omega))]
    exact ih fun s hs => h s (by omega)
theorem gp_b {g p a A : Int} (hg : 0 < g) (e : a = g * p) (h : -A ≤ a ∧ a ≤ A) : -A ≤ p ∧ p ≤ A := by
  have h1 : a.natAbs = g.natAbs * p.natAbs := by rw [e, Int.natAbs_mul]
  have h2 : p.natAbs ≤ g.natAbs * p.natAbs := Nat.le_mul_of_pos_left _ (by omega)
  omega
section OF
variable {st st1 : xS} {n : Nat} {G : Gh} {I : Im} {x y : Int32}
theorem pc_pos (ok : FitOK G x y) : 0 < pc G x y := by
  refine Nat.pos_of_ne_zero fun h => ?_
  have z : ∀ s, tT G x y 3 s = 0 := fun s => by
    unfold tT
    rw [← yS_pf, h]
    rfl
  have := uNn_0 (T := tT G x y 3) 8 fun s _ => z s
  have := ok.1
  unfold m8u at this
  omega
theorem E_off (hR : Rel st G I) (x y u : Int32) (hn : 3000 ≤ n) : ∃ v st', F_X10_off n st (some 64) x y u = some (v, st') ∧ Only QC st st' ∧ ∀ st2, Rel st2 G I → ∃ st3, F_X11_off n st2 (some 106) x y u = some (v, st3) ∧ Only QM st2 st3 ∧ fI st3 106 15 = -1 := by
  have hS := hR.sh
  have n3 := hR.inv.n3
  have c := pc_le G x y
  have m1 := mgS_b hR.inv x y
  rcases C_fitYears (n := n) hR x y hn with ⟨ok, s1, e1, o1, k1, r1⟩ | ⟨no, s1, e1, o1⟩
  · have R1 := hR.qc o1
    have S1 := R1.sh
    have p0 := pc_pos ok
    obtain ⟨d, h, d1, d2, d3, d4, d5, d6, d7⟩ := gS_e (HB_X hR.inv x y) ok.2.1 ok.1 (fun a b _ _ => RRu_g G x y a b) ok.2.2
    obtain ⟨s2, e2, o2, hp⟩ := C_pick R1 x y hn
    have q2 : Only QC s1 s2 := o2.mono fun a h => by unfold QC; omega
    have R2 := R1.qc q2
    have S2 := R2.sh
    have un : F_X1_under n s2 (some 90) = some (lZ d) := by rw [C_underF S2, cL_o o2 (by decide), show cL s1 93 0 = _ from r1 0 0 ok.1 (by decide), d2]
    have ho : F_X1_home n s2 (some 90) = some (lZ h) := by rw [C_homeF S2, cL_o o2 (by decide), show cL s1 93 6 = _ from r1 0 6 ok.1 (by decide), d3]
    have g := C_margins R2 hp hn
    generalize hA : yS G x y (mg G) (G.cn 3) = A at *
    obtain ⟨g1, a0, a1, gp1, ap1, ea, eb, v0, v1⟩ := sg_1 (a := A) (b := ((pc G x y : Nat) : Int)) (by omega)
    obtain ⟨g2, h', u', gp2, up2, eh, ed, w0, w1⟩ := sg_1 (a := h) (b := d) d4
    have ba0 := gp_b gp1 ea m1
    have ba1 := gp_b (A := 80) gp1 eb ⟨by omega, by omega⟩
    have bh := gp_b gp2 eh ⟨d6, d7⟩
    have bu := gp_b (A := 16384000000) gp2 ed ⟨by omega, d5⟩
    have t1 := mul_b (a := A) (b := d) (A := 720) (B := 16384000000) m1 ⟨by omega, d5⟩
    have t2 := mul_b (a := ((pc G x y : Nat) : Int)) (b := h) (A := 80) (B := 147456000000) ⟨by omega, by omega⟩ ⟨d6, d7⟩
    have t3 := mul_b (a := ((pc G x y : Nat) : Int)) (b := d) (A := 80) (B := 16384000000) ⟨by omega, by omega⟩ ⟨by omega, d5⟩
    have t4 := mul_b (a := a0) (b := u') (A := 720) (B := 16384000000) ba0 bu
    have t5 := mul_b (a := h') (b := a1) (A := 147456000000) (B := 80) bh ba1
    have t6 := mul_b (a := a1) (b := u') (A := 80) (B := 16384000000) ba1 bu
    have pp1 := Int.mul_pos (show (0 : Int) < ((pc G x y : Nat) : Int) by omega) d4
    have pp2 := Int.mul_pos ap1 up2
    have ev : shV (A * d - ((pc G x y : Nat) : Int) * h) (((pc G x y : Nat) : Int) * d) u = shV (a0 * u' - h' * a1) (a1 * u') u := by
      rw [← shV_c (c := g1 * g2) (Int.mul_pos gp1 gp2) pp2 u]
      congr 1
      · rw [ea, eb, eh, ed]; grind
      · rw [eb, ed]; grind
    refine ⟨lZ (shV (a0 * u' - h' * a1) (a1 * u') u), s2, ?_, o1.trans q2, fun st2 r2 => ?_⟩
    · have e := C_share (n := n) (st := s2) (a := A * d - ((pc G x y : Nat) : Int) * h) (b := ((pc G x y : Nat) : Int) * d) (u := u) (by unfold sm; omega) (by unfold sb; omega) (by omega) hn
      rw [ev] at e
      unfold F_X10_off
      simp (disch := omega) only [↓Option.bind_some, ↓reduceIte, ↓bnd (o64 hS), ↓bnd (e1), ↓bnd (o64 S1), ↓bnd (e2), ↓bnd (o64 S2), ↓bnd (g), ↓bnd (g64_4 S2), ↓bnd (o90 S2), ↓bnd (un), ↓bnd (ho), i10, if_false, zI_64, nI_64, lZMul, lZSub, ↓bnd (e)]
    · rcases M_fin (n := n) r2 x y hn with ⟨-, s3, e3, o3, f3, k2, k3, k4⟩ | ⟨no, -⟩
      · have S3 := o3.2.2.1
        rw [d1] at e3
        obtain ⟨s4, e4, o4, f4, v4, w4⟩ := fTl_h (n := n) S3 (lZ d)
        have S4 := o4.2.2.1
        have R4 := r2.qm (o3.trans o4) (f4.trans f3)
        have e34 : F_X11_finds n st2 (some 106) x y (-1) = some (1, s4) := by rw [e3, e4]
        have g25 : gL s4 (some 106) 11 25 = some (lZ h) := by rw [g106_25 S4, v4, show cL s3 111 6 = _ from k4 0 6 ok.1 (by decide), d3]
        have g26 : gL s4 (some 106) 11 26 = some (lZ d) := by rw [g106_26 S4, w4]
        have l0' : F_X11_least n s4 (lZ h) (lZ d) (0 : Int32) = some (lZ h') := by
          rw [M_least (a := h) (b := d) (u := 0) (by unfold sm; omega) (by unfold sb; omega) (by omega) hn, w0 0 rfl]
        have l1' : F_X11_least n s4 (lZ h) (lZ d) (1 : Int32) = some (lZ u') := by
          rw [M_least (a := h) (b := d) (u := 1) (by unfold sm; omega) (by unfold sb; omega) (by omega) hn, w1 1 (by decide)]
        obtain ⟨s5, e5, f5⟩ := M_alone (n := n) R4 x y 1 hn
        have R5 := f5.rel R4
        obtain ⟨s6, e6, f6⟩ := M_alone (n := n) R5 x y 0 hn
        rw [if_neg (by omega), hA, v1 1 (by decide), lZ_32 (by omega) (by omega)] at e5
        rw [if_neg (by omega), hA, v0 0 rfl, lZ_32 (by omega) (by omega)] at e6
        have e := M_least (n := n) (st := s6) (a := a0 * u' - h' * a1) (b := a1 * u') (u := u) (by unfold sm; omega) (by unfold sb; omega) (by omega) hn
        refine ⟨s6, ?_, (o3.trans o4).trans (f5.qm.trans f6.qm), (f6.2.trans f5.2).trans (f4.trans f3)⟩
        unfold F_X11_off
        simp (disch := omega) only [↓Option.bind_some, ↓reduceIte, ↓bnd (o106 r2.sh), ↓bnd (e34), ↓bnd (g25), ↓bnd (g26), ↓bnd (l0'), ↓bnd (l1'), ↓bnd (o106 S4), ↓bnd (e5), ↓bnd (o106 R5.sh), ↓bnd (e6), i10, if_false, zI_64, lZMul, lZSub, ↓bnd (e)]
      · exact absurd ok no
  · refine ⟨-1000000000000000, s1, ?_, o1, fun st2 r2 => ?_⟩
    · unfold F_X10_off
      simp only [↓Option.bind_some, ↓reduceIte, ↓bnd (o64 hS), ↓bnd (e1)]
    · rcases M_fin (n := n) r2 x y hn with ⟨ok, -⟩ | ⟨-, s2, e2, o2, f2⟩
      · exact absurd ok no
      · refine ⟨s2, ?_, o2, f2⟩
        unfold F_X11_off
        simp only [↓Option.bind_some, ↓reduceIte, ↓bnd (o106 r2.sh), ↓bnd (e2 (-1))]
end OF

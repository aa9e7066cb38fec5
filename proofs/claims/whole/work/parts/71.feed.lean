/-! FEED, END -/
def setT (G : Gh) (tl : Nat) (tp : Nat → Nat) : Gh := (G.cn, tl, G.fl, G.pl, tp, G.L, G.W, G.P, G.nt, G.fm, G.fg)
theorem setT_I {G : Gh} (hI : GhI G) {tl : Nat} {tp : Nat → Nat} (h : tl ≤ 500) (ht : ∀ i, tp i < 256) : GhI (setT G tl tp) := by
  obtain ⟨h1, h2, h3, h4, h5, h6, h7, h8⟩ := hI
  exact ⟨h1, h2, h3, h4, h, h6, ht, h8⟩
/-- the words told, byte by byte -/
def ft (G : Gh) (ws : Nat → Int32) (j i : Nat) : Nat := if G.tl ≤ i ∧ i < G.tl + j then bv (ws ((i - G.tl) / 4)) ((i - G.tl) % 4) else G.tp i
theorem ft_lt {G : Gh} (hI : GhI G) (ws : Nat → Int32) (j i : Nat) : ft G ws j i < 256 := by
  unfold ft
  split
  · exact bv_lt _ _
  · exact hI.2.2.2.2.2.2.1 i
theorem ft_0 (G : Gh) (ws : Nat → Int32) (i : Nat) : ft G ws 0 i = G.tp i := if_neg (by omega)
theorem ft_n (G : Gh) (ws : Nat → Int32) (j : Nat) : ft G ws (j + 1) (G.tl + j) = bv (ws (j / 4)) (j % 4) := by
  unfold ft
  rw [if_pos (by omega), show G.tl + j - G.tl = j by omega]
theorem ft_o (G : Gh) (ws : Nat → Int32) {j i : Nat} (h : i ≠ G.tl + j) : ft G ws (j + 1) i = ft G ws j i := by
  unfold ft
  by_cases c : G.tl ≤ i ∧ i < G.tl + j
  · rw [if_pos c, if_pos (by omega)]
  · rw [if_neg c, if_neg (by omega)]
section FD
variable {st st1 st2 s s1 : xS} {n j m : Nat} {G G1 : Gh} {I I1 : Im} {ws : Nat → Int32}
theorem TolR.tp (hT : TolR st 65 G) (o : Only (fun a => a = 65 ∨ a = 73) st st1) {tl : Nat} {tp : Nat → Nat} (h73 : ∀ i, i < 500 → cI st1 73 i &&& 255 = nI (tp i) ∧ fits .byte (.int (cI st1 73 i)) = true) (hl : fI st1 65 8 = nI tl) (hf : fI st1 65 9 = fI st 65 9) (hp : fI st1 65 10 = fI st 65 10) : TolR st1 65 (setT G tl tp) := by
  have hS : ∀ a, a = 65 ∨ a = 73 → a < 116 := fun a h => by omega
  obtain ⟨h1, h2, h3, h4, h5, h6, h7, h8, h9, h10, h11⟩ := hT
  refine ⟨fun k hk => ?_, fun k hk => ?_, fun k hk => ?_, ?_, ?_, ?_, ?_, h73, hl, hf.trans h10, hp.trans h11⟩
  · rw [cR_o o (by omega)]
    refine ⟨fun q => ?_, (h1 k hk).2⟩
    obtain ⟨a, e1, e2⟩ := (h1 k hk).1 q
    exact ⟨a, e1, e2.only o hS⟩
  · rw [cR_o o (by omega)]
    refine ⟨fun q => ?_, (h2 k hk).2⟩
    obtain ⟨a, e1, e2⟩ := (h2 k hk).1 q
    exact ⟨a, e1, e2.only o hS⟩
  · rw [cR_o o (by omega)]
    refine ⟨fun q => ?_, (h3 k hk).2⟩
    obtain ⟨a, e1, e2⟩ := (h3 k hk).1 q
    exact ⟨a, e1, e2.only o hS⟩
  · rw [cI_o o (by omega)]; exact h4
  · rw [cI_o o (by omega)]; exact h5
  · rw [cI_o o (by omega)]; exact h6
  · rw [cI_o o (by omega)]; exact h7
theorem ModB.tp {B B1 : Nat → Int32} (hM : ModB B G) (hI : GhI G) {tl : Nat} {tp : Nat → Nat} (h4 : B1 4 = nI tl) (ht : ∀ i, i < 500 → B1 (10 + i) = nI (tp i)) (ho : ∀ q, q < 2562 → q ≠ 4 → q < 10 ∨ 510 ≤ q → B1 q = B q) : ModB B1 (setT G tl tp) := by
  have b0 := hI.1
  have b1 := hI.2.1
  have b2 := hI.2.2.1
  have b3 := hI.2.2.2.1
  obtain ⟨m1, m2, m3, m4, m5, m6, m7, m8, m9, m10⟩ := hM
  have o : ∀ q, 510 ≤ q → q < 2562 → B1 q = B q := fun q h1 h2 => ho q h2 (by omega) (by omega)
  refine ⟨fun w hw => (ho w (by omega) (by omega) (by omega)).trans (m1 w hw), h4, (ho 5 (by omega) (by omega) (by omega)).trans m3, (ho 6 (by omega) (by omega) (by omega)).trans m4, ht, fun k hk => ?_, fun k hk => ?_, fun k hk => ?_, fun k w hk hw => ?_, fun j hj => ?_⟩
  · have hk : k < G.cn 0 := hk
    obtain ⟨g1, g2, g3, g4, g5, g6, g7, g8⟩ := m6 k hk
    exact ⟨(o _ (by omega) (by omega)).trans g1, (o _ (by omega) (by omega)).trans g2, fun x hx => (o _ (by omega) (by omega)).trans (g3 x hx), fun x hx => (o _ (by omega) (by omega)).trans (g4 x hx), fun x hx => (o _ (by omega) (by omega)).trans (g5 x hx), fun x hx => (o _ (by omega) (by omega)).trans (g6 x hx), fun x hx => (o _ (by omega) (by omega)).trans (g7 x hx), fun x y hx hy => (o _ (by omega) (by omega)).trans (g8 x y hx hy)⟩
  · have hk : k < G.cn 1 := hk
    obtain ⟨g1, g2, g3⟩ := m7 k hk
    exact ⟨(o _ (by omega) (by omega)).trans g1, fun x hx => (o _ (by omega) (by omega)).trans (g2 x hx), fun x hx => (o _ (by omega) (by omega)).trans (g3 x hx)⟩
  · have hk : k < G.cn 2 := hk
    obtain ⟨g1, g2, g3⟩ := m8 k hk
    have c2 := (hI.pp hk).1
    exact ⟨(o _ (by omega) (by omega)).trans g1, fun x w hx hw => by
      have hx : x < (G.P k).n := hx
      exact (o _ (by omega) (by omega)).trans (g2 x w hx hw), fun x hx => by
      have hx : x < (G.P k).n := hx
      exact (o _ (by omega) (by omega)).trans (g3 x hx)⟩
  · have hk : k < G.cn 3 := hk
    exact (o _ (by omega) (by omega)).trans (m9 k w hk hw)
  · obtain ⟨d1, d2, d3, d4⟩ := m10 j hj
    exact ⟨(o _ (by omega) (by omega)).trans d1, (o _ (by omega) (by omega)).trans d2, (o _ (by omega) (by omega)).trans d3, (o _ (by omega) (by omega)).trans d4⟩
/-- bytes being told: the class -/
def FC (st0 s : xS) (G : Gh) (ws : Nat → Int32) (j : Nat) : Prop := Only (fun a => a = 65 ∨ a = 73) st0 s ∧ fI s 65 9 = fI st0 65 9 ∧ fI s 65 10 = fI st0 65 10 ∧ fI s 65 8 = nI (G.tl + j) ∧ ∀ i, i < 500 → cI s 73 i &&& 255 = nI (ft G ws j i) ∧ fits .byte (.int (cI s 73 i)) = true
theorem FC.step (h : FC st s G ws j) (hj : j < 20) (ht : G.tl + 20 ≤ 500) : ∃ s', (∀ k, F_X9_addBytes_L3 n (k + 1) s (some 65) (ws (j / 4)) (zI (24 - 8 * ((j % 4 : Nat) : Int))) = F_X9_addBytes_L3 n k s' (some 65) (ws (j / 4)) (zI (24 - 8 * ((j % 4 + 1 : Nat) : Int)))) ∧ FC st s' G ws (j + 1) := by
  obtain ⟨o, h9, h10, h8, hb⟩ := h
  have S := o.2.2.1
  have hr := Nat.mod_lt j (show 0 < 4 by decide)
  have g8 : gI s (some 65) 9 8 = some (nI (G.tl + j)) := by rw [g65_8 S, h8]
  have ub := ush_b (ws (j / 4)) hr
  have fb : fits .byte (.int ((ush (ws (j / 4)) (zI (24 - 8 * ((j % 4 : Nat) : Int)))).toInt8.toInt32.toInt8.toInt32)) = true := pk_fb _
  generalize hv : (ush (ws (j / 4)) (zI (24 - 8 * ((j % 4 : Nat) : Int)))).toInt8.toInt32.toInt8.toInt32 = v at *
  have w : sS 2 s (some 73) (nI (G.tl + j)) v = some (wA s 73 (upd (cI s 73) (G.tl + j) v)) := by rw [w73 S, if_pos (ixT (by omega) (by decide)), nIc (by omega)]
  have o2 := Only.wA S 73 (upd (cI s 73) (G.tl + j) v)
  have k2 := k73 S (upd (cI s 73) (G.tl + j) v)
  have f2 : ∀ q, fI (wA s 73 (upd (cI s 73) (G.tl + j) v)) 65 q = fI s 65 q := fun q => fI_c (wA_n (by decide) _ _) q
  generalize wA s 73 (upd (cI s 73) (G.tl + j) v) = s2 at *
  have S2 := o2.2.2.1
  have g82 : gI s2 (some 65) 9 8 = some (nI (G.tl + j)) := by rw [g65_8 S2, f2, h8]
  have p := p65_8 S2 (nI (G.tl + j + 1))
  have S3 := s65_8 S2 (nI (G.tl + j + 1))
  have f3 := f65_8 S2 (nI (G.tl + j + 1))
  have c3 : cI (uV s2 65 8 (.int (nI (G.tl + j + 1)))) 73 = cI s2 73 := cI_c (uV_n (by decide) _ _ _)
  refine ⟨_, fun k => ?_, o.trans ((o2.mono fun a h => Or.inr h).trans ((Only.uV S3).mono fun a h => Or.inl h)), ((fI_oth (by decide) _).trans (f2 9)).trans h9, ((fI_oth (by decide) _).trans (f2 10)).trans h10, f3, fun i hi => ?_⟩
  · have a1 : (zI (24 - 8 * ((j % 4 : Nat) : Int)) < (0 : Int32)) = False := by rw [zLt0 (by omega) (by omega)]; exact eq_false (by omega)
    have a2 : (nI 500 ≤ nI (G.tl + j)) = False := nLe_f (by omega) (by omega)
    have a3 : zI (24 - 8 * ((j % 4 : Nat) : Int)) + (-8 : Int32) = zI (24 - 8 * ((j % 4 + 1 : Nat) : Int)) := by
      rw [show (-8 : Int32) = zI (-8) by decide, zAdd]
      congr 1
      omega
    rw [F_X9_addBytes_L3]
    dsimp only
    simp only [↓reduceIte, a1, ↓bnd (g8), ↓bnd (g65_7 S), ↓bnd (n73 S), a2, hv, ↓bnd (w), ↓bnd (g82), nI_1, ↓bnd (p), ↓Option.bind_some, a3]
  · rw [c3, k2]
    by_cases hij : i = G.tl + j
    · rw [hij, upd_s, ft_n]
      exact ⟨ub, fb⟩
    · rw [pk_un hij, ft_o _ _ hij]
      exact hb i hi
theorem FC.word (h : FC st s G ws (4 * m)) (hm : m < 5) (ht : G.tl + 20 ≤ 500) (hn : 3000 ≤ n) : ∃ s', F_X9_addBytes n s (some 65) (ws m) = some s' ∧ FC st s' G ws (4 * (m + 1)) := by
  obtain ⟨k, rfl⟩ : ∃ k, n = k + 5 := ⟨n - 5, by omega⟩
  obtain ⟨s1, e1, h1⟩ := h.step (n := k + 5) (by omega) ht
  obtain ⟨s2, e2, h2⟩ := h1.step (n := k + 5) (by omega) ht
  obtain ⟨s3, e3, h3⟩ := h2.step (n := k + 5) (by omega) ht
  obtain ⟨s4, e4, h4⟩ := h3.step (n := k + 5) (by omega) ht
  rw [show 4 * m / 4 = m by omega, show 4 * m % 4 = 0 by omega] at e1
  rw [show (4 * m + 1) / 4 = m by omega, show (4 * m + 1) % 4 = 1 by omega] at e2
  rw [show (4 * m + 1 + 1) / 4 = m by omega, show (4 * m + 1 + 1) % 4 = 2 by omega] at e3
  rw [show (4 * m + 1 + 1 + 1) / 4 = m by omega, show (4 * m + 1 + 1 + 1) % 4 = 3 by omega] at e4
  have e : F_X9_addBytes_L3 (k + 5) (k + 5) s (some 65) (ws m) (24 : Int32) = some s4 := by
    have z : F_X9_addBytes_L3 (k + 5) (k + 5) s (some 65) (ws m) (24 : Int32) = _ := e1 (k + 4)
    rw [z, show ((0 + 1 : Nat) : Int) = ((1 : Nat) : Int) from rfl, e2 (k + 3), show ((1 + 1 : Nat) : Int) = ((2 : Nat) : Int) from rfl, e3 (k + 2), show ((2 + 1 : Nat) : Int) = ((3 : Nat) : Int) from rfl, e4 (k + 1), F_X9_addBytes_L3]
    dsimp only
    rw [if_pos (by decide)]
  refine ⟨s4, ?_, h4⟩
  unfold F_X9_addBytes
  simp only [↓bnd (e)]
/-- the model -/
def FM (st0 s : xS) (G : Gh) (ws : Nat → Int32) (j : Nat) : Prop := Only (fun a => a = 107) st0 s ∧ cI s 107 4 = nI (G.tl + j) ∧ (∀ i, i < 500 → cI s 107 (10 + i) = nI (ft G ws j i)) ∧ ∀ q, q ≠ 4 → q < 10 ∨ 510 ≤ q → cI s 107 q = cI st0 107 q
def w5 (a b c d e : Int32) : Nat → Int32
  | 0 => a
  | 1 => b
  | 2 => c
  | 3 => d
  | _ => e
theorem M_w5 (a b c d e : Int32) {i : Nat} (hi : i < 20) : ((if (4 : Int32) ≤ nI i then if (8 : Int32) ≤ nI i then if (12 : Int32) ≤ nI i then if (16 : Int32) ≤ nI i then some e else some d else some c else some b else some a) : Option Int32) = some (w5 a b c d e (i / 4)) := by
  have e4 : ((4 : Int32) ≤ nI i) = (4 ≤ i) := nLe (a := 4) (by decide) (by omega)
  have e8 : ((8 : Int32) ≤ nI i) = (8 ≤ i) := nLe (a := 8) (by decide) (by omega)
  have e12 : ((12 : Int32) ≤ nI i) = (12 ≤ i) := nLe (a := 12) (by decide) (by omega)
  have e16 : ((16 : Int32) ≤ nI i) = (16 ≤ i) := nLe (a := 16) (by decide) (by omega)
  simp only [e4, e8, e12, e16]
  by_cases h4 : 4 ≤ i
  · by_cases h8 : 8 ≤ i
    · by_cases h12 : 12 ≤ i
      · by_cases h16 : 16 ≤ i
        · rw [if_pos h4, if_pos h8, if_pos h12, if_pos h16, show i / 4 = 4 by omega]; rfl
        · rw [if_pos h4, if_pos h8, if_pos h12, if_neg h16, show i / 4 = 3 by omega]; rfl
      · rw [if_pos h4, if_pos h8, if_neg h12, show i / 4 = 2 by omega]; rfl
    · rw [if_pos h4, if_neg h8, show i / 4 = 1 by omega]; rfl
  · rw [if_neg h4, show i / 4 = 0 by omega]; rfl
theorem E_feed (hR : Rel st G I) (a b c d e : Int32) (hn : 3000 ≤ n) : Chg (fun st => F_X10_feed n st (some 64) a b c d e) (fun st => F_X11_feed n st (some 106) a b c d e) st G I 0 0 := by
  have hS := hR.sh
  have hT := hR.tol
  have b5 := hR.inv.2.2.2.2.1
  have g8 : gI st (some 65) 9 8 = some (nI G.tl) := by rw [g65_8 hS, hT.2.2.2.2.2.2.2.2.1]
  have q5 : (nI G.tl + (20 : Int32) ≤ (500 : Int32)) = (G.tl + 20 ≤ 500) := by
    rw [show nI G.tl + (20 : Int32) = nI (G.tl + 20) from nAdd _ 20]
    exact nLe (b := 500) (by omega) (by decide)
  by_cases ht : G.tl + 20 ≤ 500
  · have F0 : FC st st G (w5 a b c d e) (4 * 0) := ⟨Only.refl hS, rfl, rfl, hT.2.2.2.2.2.2.2.2.1, fun i hi => by rw [ft_0]; exact hT.2.2.2.2.2.2.2.1 i hi⟩
    obtain ⟨s1, e1, F1⟩ := F0.word (n := n) (by decide) ht hn
    obtain ⟨s2, e2, F2⟩ := F1.word (n := n) (by decide) ht hn
    obtain ⟨s3, e3, F3⟩ := F2.word (n := n) (by decide) ht hn
    obtain ⟨s4, e4, F4⟩ := F3.word (n := n) (by decide) ht hn
    obtain ⟨s5, e5, F5⟩ := F4.word (n := n) (by decide) ht hn
    have e1 : F_X9_addBytes n st (some 65) a = some s1 := e1
    have e2 : F_X9_addBytes n s1 (some 65) b = some s2 := e2
    have e3 : F_X9_addBytes n s2 (some 65) c = some s3 := e3
    have e4 : F_X9_addBytes n s3 (some 65) d = some s4 := e4
    have e5 : F_X9_addBytes n s4 (some 65) e = some s5 := e5
    have S1 := F1.1.2.2.1
    have S2 := F2.1.2.2.1
    have S3 := F3.1.2.2.1
    have S4 := F4.1.2.2.1
    have S5 := F5.1.2.2.1
    have g5 : gI s5 (some 65) 9 8 = some (nI (G.tl + 20)) := by rw [g65_8 S5, F5.2.2.2.1]
    have gI := setT_I hR.inv (tl := G.tl + 20) (tp := ft G (w5 a b c d e) 20) ht (ft_lt hR.inv _ _)
    refine ⟨nI (G.tl + 20), s5, setT G (G.tl + 20) (ft G (w5 a b c d e) 20), I, ?_, hR.cls.base (F5.1.mono fun a h => by omega) gI (hT.tp F5.1 F5.2.2.2.2 F5.2.2.2.1 F5.2.1 F5.2.2.1), KF.of F5.1 (fun a h => by omega), Nat.le_of_eq F5.1.1.symm, Nat.le_of_eq F5.1.1, Nat.le_of_eq F5.1.2.1, fun st2 r2 => ?_⟩
    · dsimp only
      unfold F_X10_feed
      simp only [↓reduceIte, ↓bnd (g64_0 hS), ↓bnd (g8), q5, ht, ↓bnd (o65 hS), ↓bnd (e1), ↓bnd (g64_0 S1), ↓bnd (o65 S1), ↓bnd (e2), ↓bnd (g64_0 S2), ↓bnd (o65 S2), ↓bnd (e3), ↓bnd (g64_0 S3), ↓bnd (o65 S3), ↓bnd (e4), ↓bnd (g64_0 S4), ↓bnd (o65 S4), ↓bnd (e5), ↓bnd (g64_0 S5), ↓bnd (g5)]
    · have T := r2.1
      have M := r2.mod
      have r4 : aI st2 (some 107) (4 : Int32) = some (nI G.tl) := by
        have : aI st2 (some 107) (4 : Int32) = some (cI st2 107 4) := M_all T (show 4 < 10250 by decide)
        rw [this, M.2.1]
      have hl : ∃ s3, F_X11_feed_L20 n n st2 (some 106) a b c d e (nI 0) = some s3 ∧ FM st2 s3 G (w5 a b c d e) 20 := by
        refine loop_ex (fun m (s : xS × Int32) => F_X11_feed_L20 n m s.1 (some 106) a b c d e s.2) (fun i s => FM st2 s.1 G (w5 a b c d e) i ∧ s.2 = nI i) 20 (fun r => ∃ s3, r = some s3 ∧ FM st2 s3 G (w5 a b c d e) 20) ?_ ?_ n (by omega) (st2, nI 0) ⟨⟨Only.refl T, M.2.1, fun i hi => by rw [ft_0]; exact M.2.2.2.2.1 i hi, fun _ _ _ => rfl⟩, rfl⟩
        · rintro m i ⟨s, z⟩ hi ⟨⟨o, h4, hb, hq⟩, h2⟩
          dsimp only at o h4 hb hq h2 ⊢
          subst h2
          have S := o.2.2.1
          have hr := Nat.mod_lt i (show 0 < 4 by decide)
          have r4s : aI s (some 107) (4 : Int32) = some (nI (G.tl + i)) := by
            have : aI s (some 107) (4 : Int32) = some (cI s 107 4) := M_all S (show 4 < 10250 by decide)
            rw [this, h4]
          have dr : dR (nI i) (4 : Int32) = some (nI (i % 4)) := dR_n (d := 4) (by omega) (by decide) (by decide)
          have ix1 : (10 : Int32) + nI (G.tl + i) = nI (10 + (G.tl + i)) := nAdd 10 _
          have ab := ash_b (w5 a b c d e (i / 4)) hr
          have w : sS 0 s (some 107) (nI (10 + (G.tl + i))) (nI (bv (w5 a b c d e (i / 4)) (i % 4))) = some (wA s 107 (upd (cI s 107) (10 + (G.tl + i)) (nI (bv (w5 a b c d e (i / 4)) (i % 4))))) := by rw [w107 S, if_pos (ixT (by omega) (by decide)), nIc (by omega)]
          have o2 := Only.wA S 107 (upd (cI s 107) (10 + (G.tl + i)) (nI (bv (w5 a b c d e (i / 4)) (i % 4))))
          have k2 := k107 S (upd (cI s 107) (10 + (G.tl + i)) (nI (bv (w5 a b c d e (i / 4)) (i % 4))))
          generalize wA s 107 (upd (cI s 107) (10 + (G.tl + i)) (nI (bv (w5 a b c d e (i / 4)) (i % 4)))) = s2 at *
          have S2 := o2.2.2.1
          have r42 : aI s2 (some 107) (4 : Int32) = some (nI (G.tl + i)) := by
            have : aI s2 (some 107) (4 : Int32) = some (cI s2 107 4) := M_all S2 (show 4 < 10250 by decide)
            rw [this, k2, pk_un (by omega), h4]
          have w2 : sS 0 s2 (some 107) (4 : Int32) (nI (G.tl + i + 1)) = some (wA s2 107 (upd (cI s2 107) 4 (nI (G.tl + i + 1)))) := by
            have : sS 0 s2 (some 107) (nI 4) (nI (G.tl + i + 1)) = _ := w107 S2 _ _
            rw [if_pos (ixT (by decide) (by decide)), nIc (by decide)] at this
            exact this
          have o3 := Only.wA S2 107 (upd (cI s2 107) 4 (nI (G.tl + i + 1)))
          have k3 := k107 S2 (upd (cI s2 107) 4 (nI (G.tl + i + 1)))
          refine ⟨(wA s2 107 (upd (cI s2 107) 4 (nI (G.tl + i + 1))), nI (i + 1)), ⟨⟨(o.trans o2).trans o3, ?_, fun q hq2 => ?_, fun q h1 h2 => ?_⟩, rfl⟩, ?_⟩
          · dsimp only
            rw [k3, upd_s]
            rfl
          · dsimp only
            rw [k3, pk_un (by omega), k2]
            by_cases hqi : q = G.tl + i
            · rw [hqi, upd_s, ft_n]
            · rw [pk_un (by omega), ft_o _ _ hqi]
              exact hb q hq2
          · dsimp only
            rw [k3, pk_un h1, k2, pk_un (by omega)]
            exact hq q h1 h2
          · dsimp only
            rw [F_X11_feed_L20]
            dsimp only
            simp (disch := omega) only [l20, ↓Option.bind_some, ↓reduceIte, nLe_f, ↓bnd (M_w5 a b c d e hi), ↓bnd (g106_0 S), ↓bnd (r4s), ↓bnd (dr), ix1, ab, ↓bnd (w), ↓bnd (g106_0 S2), ↓bnd (r42), nI_1, ↓bnd (w2)]
        · rintro m ⟨s, z⟩ ⟨h1, h2⟩
          dsimp only at h1 h2 ⊢
          subst h2
          refine ⟨s, ?_, h1⟩
          rw [F_X11_feed_L20]
          dsimp only
          simp (disch := omega) only [l20, ↓reduceIte, nLe_t]
      obtain ⟨s3, e3, F3⟩ := hl
      have e3 : F_X11_feed_L20 n n st2 (some 106) a b c d e (0 : Int32) = some s3 := e3
      have S3 := F3.1.2.2.1
      have r43 : aI s3 (some 107) (4 : Int32) = some (nI (G.tl + 20)) := by
        have : aI s3 (some 107) (4 : Int32) = some (cI s3 107 4) := M_all S3 (show 4 < 10250 by decide)
        rw [this, F3.2.1]
      have q3 : Only QN st2 s3 := F3.1.mono fun a h => by unfold QN; omega
      refine ⟨s3, ?_, r2.base q3 gI (M.tp r2.2.1 F3.2.1 F3.2.2.1 fun q h1 h2 h3 => F3.2.2.2 q h2 h3) ((fI_o F3.1 (by decide) 15).trans r2.2.2.2.2.1) (cI_o F3.1 (by decide)) (fun i hi => F3.2.2.2 i (by omega) (by omega)), q3⟩
      dsimp only
      unfold F_X11_feed
      simp only [↓reduceIte, ↓bnd (g106_0 T), ↓bnd (r4), q5, ht, ↓bnd (e3), ↓bnd (g106_0 S3), ↓bnd (r43)]
  · refine Chg.none hR (v := -1) ?_ fun st2 r2 => ?_
    · unfold F_X10_feed
      simp only [↓reduceIte, ↓bnd (g64_0 hS), ↓bnd (g8), q5, ht]
    · have r4 : aI st2 (some 107) (4 : Int32) = some (nI G.tl) := by
        have : aI st2 (some 107) (4 : Int32) = some (cI st2 107 4) := M_all r2.1 (show 4 < 10250 by decide)
        rw [this, r2.mod.2.1]
      unfold F_X11_feed
      simp only [↓reduceIte, ↓bnd (g106_0 r2.1), ↓bnd (r4), q5, ht]
theorem E_end (hR : Rel st G I) (x : Int32) : Chg (fun st => F_X10_end n st (some 64) x) (fun st => F_X11_end n st (some 106) x) st G I 0 0 := by
  have hS := hR.sh
  have hT := hR.tol
  have b5 := hR.inv.2.2.2.2.1
  have g8 : gI st (some 65) 9 8 = some (nI G.tl) := by rw [g65_8 hS, hT.2.2.2.2.2.2.2.2.1]
  have r4 : ∀ st2, RelN st2 G I → aI st2 (some 107) (4 : Int32) = some (nI G.tl) := fun st2 r2 => by
    have : aI st2 (some 107) (4 : Int32) = some (cI st2 107 4) := M_all r2.1 (show 4 < 10250 by decide)
    rw [this, r2.mod.2.1]
  rcases nCut x (G.tl + 1) with ⟨j, hj, rfl⟩ | hx
  · have a0 : (nI j < (0 : Int32)) = False := eq_false (nI_pos (by omega))
    have a1 : (nI j ≤ nI G.tl) = True := nLe_t (by omega) (by omega)
    have p := p65_8 hS (nI j)
    have S2 := s65_8 hS (nI j)
    have f2 := f65_8 hS (nI j)
    have o : Only (fun a => a = 65 ∨ a = 73) st (uV st 65 8 (.int (nI j))) := (Only.uV S2).mono fun a h => Or.inl h
    have c2 : cI (uV st 65 8 (.int (nI j))) 73 = cI st 73 := cI_c (uV_n (by decide) _ _ _)
    have gI := setT_I hR.inv (tl := j) (tp := G.tp) (by omega) hR.inv.2.2.2.2.2.2.1
    refine ⟨nI j, _, setT G j G.tp, I, ?_, hR.cls.base (o.mono fun a h => by omega) gI (hT.tp o (by rw [c2]; exact hT.2.2.2.2.2.2.2.1) f2 (fI_oth (by decide) _) (fI_oth (by decide) _)), KF.of o (fun a h => by omega), Nat.le_of_eq o.1.symm, Nat.le_of_eq o.1, Nat.le_of_eq o.2.1, fun st2 r2 => ?_⟩
    · dsimp only
      unfold F_X10_end
      simp only [↓reduceIte, a0, ↓bnd (g64_0 hS), ↓bnd (g8), a1, ↓bnd (p)]
    · have T := r2.1
      have w : sS 0 st2 (some 107) (4 : Int32) (nI j) = some (wA st2 107 (upd (cI st2 107) 4 (nI j))) := by
        have : sS 0 st2 (some 107) (nI 4) (nI j) = _ := w107 T _ _
        rw [if_pos (ixT (by decide) (by decide)), nIc (by decide)] at this
        exact this
      have o2 := Only.wA T 107 (upd (cI st2 107) 4 (nI j))
      have k2 := k107 T (upd (cI st2 107) 4 (nI j))
      have q2 : Only QN st2 (wA st2 107 (upd (cI st2 107) 4 (nI j))) := o2.mono fun a h => by unfold QN; omega
      refine ⟨_, ?_, r2.base q2 gI (r2.mod.tp r2.2.1 (by rw [k2, upd_s]) (fun i hi => by rw [k2, pk_un (by omega)]; exact r2.mod.2.2.2.2.1 i hi) fun q h1 h2 h3 => by rw [k2, pk_un h2]) ((fI_o o2 (by decide) 15).trans r2.2.2.2.2.1) (cI_o o2 (by decide)) (fun i hi => by rw [k2, pk_un (by omega)]), q2⟩
      dsimp only
      unfold F_X11_end
      simp only [↓reduceIte, a0, ↓bnd (g106_0 T), ↓bnd (r4 st2 r2), a1, ↓bnd (w)]
  · refine Chg.none hR (v := -1) ?_ fun st2 r2 => ?_
    · unfold F_X10_end
      rcases nOut (by omega) hx with h | h
      · rw [if_pos h]
      · by_cases h0 : x < 0
        · rw [if_pos h0]
        · have h3 : (x ≤ nI G.tl) = False := eq_false (fun h4 => by
            have h5 : nI (G.tl + 1) ≤ nI G.tl := Int32.le_trans h h4
            rw [nLe (by omega) (by omega)] at h5
            omega)
          rw [if_neg h0]
          simp only [↓bnd (g64_0 hS), ↓bnd (g8), h3, if_false]
    · unfold F_X11_end
      rcases nOut (by omega) hx with h | h
      · rw [if_pos h]
      · by_cases h0 : x < 0
        · rw [if_pos h0]
        · have h3 : (x ≤ nI G.tl) = False := eq_false (fun h4 => by
            have h5 : nI (G.tl + 1) ≤ nI G.tl := Int32.le_trans h h4
            rw [nLe (by omega) (by omega)] at h5
            omega)
          rw [if_neg h0]
          simp only [↓bnd (g106_0 r2.1), ↓bnd (r4 st2 r2), h3, if_false]
end FD

def sel (w : Nat) (x1 x2 x3 : Int32) : Int32 := if w = 0 then x1 else if w = 1 then x2 else x3
theorem J146e (n : Nat) (μ : Wm) {w : Nat} (hw : w < 3) (x1 x2 x3 : Int32) : f_X6_read_J146 n μ (nI w) x1 x2 x3 = some (sel w x1 x2 x3, μ) := by
  unfold f_X6_read_J146 sel
  rcases (show w = 0 ∨ w = 1 ∨ w = 2 by omega) with rfl | rfl | rfl
  · rw [if_pos (show nI 0 = (0 : Int32) from rfl), if_pos (show (0 : Nat) = 0 from rfl)]
  · rw [if_neg (show ¬ nI 1 = (0 : Int32) by decide), if_pos (show nI 1 = (1 : Int32) from rfl), if_neg (show ¬ (1 : Nat) = 0 by decide), if_pos (show (1 : Nat) = 1 from rfl)]
  · rw [if_neg (show ¬ nI 2 = (0 : Int32) by decide), if_neg (show ¬ nI 2 = (1 : Int32) by decide), if_neg (show ¬ (2 : Nat) = 0 by decide), if_neg (show ¬ (2 : Nat) = 1 by decide)]
theorem J126B {n : Nat} {μ : Wm} (hB : BM μ) {w : Nat} (hw : w < 3) (x1 x2 x3 : Int32) : f_X6_read_J126 n μ (nI w) x1 x2 x3 = some (sel w x1 x2 x3, μ) := by
  unfold f_X6_read_J126
  rw [if_neg (by rw [hB]; decide), J146e n μ hw]
theorem J93B {n : Nat} {μ : Wm} (hB : BM μ) {w : Nat} (hw : w < 3) (x1 x2 : Int32) : f_X6_read_J93 n μ (nI w) x1 x2 = some (sel w x1 x2 0, μ) := by
  unfold f_X6_read_J93
  rw [if_neg (by rw [hB]; decide), J126B hB hw]
def FrQ (μ μ' : Wm) : Prop := ∀ c k j, ¬ (c = 0 ∧ k = 0 ∧ 18 ≤ j ∧ j ≤ 26) → μ'.1 c k j = μ.1 c k j
theorem FrQ.rf (μ : Wm) : FrQ μ μ := fun _ _ _ _ => rfl
theorem FrQ.tr {a b c : Wm} (h : FrQ a b) (g : FrQ b c) : FrQ a c := fun x y z q => (g x y z q).trans (h x y z q)
theorem FrP.Q {μ μ' : Wm} (h : FrP μ μ') : FrQ μ μ' := fun c k j q => h c k j (by omega)
theorem FrQ.up {μ : Wm} {j : Nat} {v : Int32} {L : Int64} (h : 18 ≤ j ∧ j ≤ 26) : FrQ μ (up3 μ.1 0 0 j v, L) := fun c k i q => u1_of (fun ⟨a, b, e⟩ => q ⟨a, b, by omega⟩)
theorem Nm_frQ {μ μ' : Wm} (h : FrQ μ μ') : Nm μ' = Nm μ := by
  funext j
  unfold Nm
  by_cases hj : j < 6
  · rw [if_pos hj, if_pos hj, h 0 0 (12 + j) (by omega)]
  · rw [if_neg hj, if_neg hj]
/-- how a reading ended -/
def RD (b : Nat → Nat) (z : Nat) (k1 k2 : Nat) (ν : Nat → Int32) (f : Int32) (σ' : Gm) (μ' : Wm) (v : Nat → Int32) : Prop := (¬ f = -1 ∧ BM μ' ∧ f = μ'.1 0 0 26) ∨ (f = -1 ∧ μ'.1 0 0 25 = 0 ∧ ∃ m1 m2 m3, σ' 12 k2 0 = nI m1 ∧ σ' 12 k2 1 = nI m2 ∧ σ' 12 k2 2 = nI m3 ∧ m3 ≤ 160 ∧ Cd ν (σ' 11 k1) 0 m1 0 (v 0) ∧ Cd ν (σ' 11 k1) m1 m2 0 (v 1) ∧ Cd ν (σ' 11 k1) m2 m3 0 (v 2))
section R2
variable {b : Nat → Nat} {z t n k1 k2 : Nat}
theorem readP (hb : ∀ i, b i < 256) (hz : z ≤ 160) (hn : 160 < n) {d : Nat} (hd : 78 ≤ d) {σ : Gm} {μ : Wm} (hin : InX b z σ) (ht : t < 6) (hs : μ.1 2 0 t = nI z) (htx : ∀ i, i < z → μ.1 1 0 (160 * t + i) = nI (b i)) :
    ∃ f σ' μ' v, f_X1_read n d k1 k2 σ = some (f, σ') ∧ (∀ w, w < 3 → f_X6_read n μ (nI t) (nI w) = some (v w, μ')) ∧ FrD k1 k2 σ σ' ∧ FrQ μ μ' ∧ RD b z k1 k2 (Nm μ) f σ' μ' v := by
  -- the class, to the first token
  have hX : ∃ σ0, FrD k1 k2 σ σ0 ∧ InX b z σ0 ∧ σ0 2 0 2 = nI 0 ∧ σ0 2 0 7 = nI 0 ∧ σ0 2 0 6 = -1 ∧ f_X1_read n d k1 k2 σ = bc (f_X1_advance n σ0) fun _ σ5 => f_X1_read_L21 n d k1 k2 n σ5 (nI 0) := by
    refine ⟨up3 (up3 (up3 σ 2 0 2 0) 2 0 7 0) 2 0 6 (-1), ?_, ?_, ?_, ?_, ?_, rfl⟩
    · exact (((FrR.up (kk := k1) (σ := σ) (j := 2) (v := 0) (by omega)).tr (FrR.up (by omega))).tr (FrR.up (by omega))).D k2
    · exact hin.frR (kk := k1) (((FrR.up (j := 2) (v := 0) (by omega)).tr (FrR.up (by omega))).tr (FrR.up (by omega)))
    · rw [up3_of (by omega), up3_of (by omega), up3_at]; rfl
    · rw [up3_of (by omega), up3_at]; rfl
    · rw [up3_at]
  have hM : ∃ μ0, FrQ μ μ0 ∧ InM b z t μ0 ∧ μ0.1 0 0 20 = nI 0 ∧ μ0.1 0 0 24 = nI 0 ∧ μ0.1 0 0 25 = 0 ∧ ∀ w, w < 3 → f_X6_read n μ (nI t) (nI w) = bc (f_X6_next n μ0) fun _ σ8 => bc (bc (f_X6_isWord σ8 (116 : Int32) (104 : Int32) (114 : Int32) (111 : Int32) (119 : Int32) (115 : Int32) (0 : Int32) (0 : Int32)) fun r10 σ11 => f_X6_part n σ11 r10) fun r13 σ14 => (if (σ14.1 0 0 25) = 0 then bc (bc (f_X6_isWord σ14 (99 : Int32) (111 : Int32) (109 : Int32) (101 : Int32) (115 : Int32) (0 : Int32) (0 : Int32) (0 : Int32)) fun r17 σ18 => f_X6_part n σ18 r17) fun r20 σ21 => f_X6_read_J93 n σ21 (nI w) r13 r20 else f_X6_read_J93 n σ14 (nI w) r13 (0 : Int32)) := by
    obtain ⟨μ1, e1⟩ : ∃ μ1 : Wm, μ1 = (up3 μ.1 0 0 18 (nI (160 * t)), μ.2) := ⟨_, rfl⟩
    obtain ⟨μ2, e2⟩ : ∃ μ2 : Wm, μ2 = (up3 μ1.1 0 0 19 (nI z), μ1.2) := ⟨_, rfl⟩
    obtain ⟨μ3, e3⟩ : ∃ μ3 : Wm, μ3 = (up3 μ2.1 0 0 20 0, μ2.2) := ⟨_, rfl⟩
    obtain ⟨μ4, e4⟩ : ∃ μ4 : Wm, μ4 = (up3 μ3.1 0 0 24 0, μ3.2) := ⟨_, rfl⟩
    obtain ⟨μ5, e5⟩ : ∃ μ5 : Wm, μ5 = (up3 μ4.1 0 0 25 0, μ4.2) := ⟨_, rfl⟩
    have f1 : FrQ μ μ1 := by rw [e1]; exact FrQ.up (by omega)
    have f2 : FrQ μ1 μ2 := by rw [e2]; exact FrQ.up (by omega)
    have f3 : FrQ μ2 μ3 := by rw [e3]; exact FrQ.up (by omega)
    have f4 : FrQ μ3 μ4 := by rw [e4]; exact FrQ.up (by omega)
    have f5 : FrQ μ4 μ5 := by rw [e5]; exact FrQ.up (by omega)
    have fQ : FrQ μ μ5 := (((f1.tr f2).tr f3).tr f4).tr f5
    have h25 : μ5.1 0 0 25 = 0 := by rw [e5]; exact u1_at _ _ _ _ _ _
    have h24 : μ5.1 0 0 24 = nI 0 := by rw [e5]; refine (u1_of (by omega)).trans ?_; rw [e4]; exact u1_at _ _ _ _ _ _
    have h20 : μ5.1 0 0 20 = nI 0 := by
      rw [e5]; refine (u1_of (by omega)).trans ?_; rw [e4]; refine (u1_of (by omega)).trans ?_; rw [e3]; exact u1_at _ _ _ _ _ _
    have h19 : μ5.1 0 0 19 = nI z := by
      rw [e5]; refine (u1_of (by omega)).trans ?_; rw [e4]; refine (u1_of (by omega)).trans ?_; rw [e3]; refine (u1_of (by omega)).trans ?_; rw [e2]; exact u1_at _ _ _ _ _ _
    have h18 : μ5.1 0 0 18 = nI (160 * t) := by
      rw [e5]; refine (u1_of (by omega)).trans ?_; rw [e4]; refine (u1_of (by omega)).trans ?_; rw [e3]; refine (u1_of (by omega)).trans ?_; rw [e2]; refine (u1_of (by omega)).trans ?_; rw [e1]; exact u1_at _ _ _ _ _ _
    refine ⟨μ5, fQ, ⟨h18, ht, h19, fun i hi => (fQ 1 0 _ (by omega)).trans (htx i hi)⟩, h20, h24, h25, fun w hw => ?_⟩
    unfold f_X6_read
    rw [bv_e, show (160 : Int32) * nI t = nI (160 * t) from pk_mul 160 t, ← e1, gd_h (inb_nI ht (by decide)), nI_clamp (by omega), f1 2 0 t (by omega), hs, bv_e, ← e2, bv_e, ← e3, bv_e, ← e4, bv_e, ← e5]
    refine bc_congr _ fun _ s => ?_
    rw [bc_assoc]
    refine bc_congr _ fun r10 s2 => bc_congr _ fun r13 s3 => ?_
    by_cases h : s3.1 0 0 25 = 0
    · rw [if_pos h, if_pos h, bc_assoc]
    · rw [if_neg h, if_neg h]
  obtain ⟨σ0, x1, x2, x3, x4, x5, x6⟩ := hX
  obtain ⟨μ0, y1, y2, y3, y4, y5, y6⟩ := hM
  obtain ⟨q, e, κ, w, hT0⟩ := tok_ex b (Nat.zero_le z)
  obtain ⟨σ1, a1, a2, a3, a4, a5, a6⟩ := xadv hb hz hn x2 x3 (Nat.zero_le z) hT0
  obtain ⟨μ1, c1, c2, c3, c4, c5, c6⟩ := madv hb hz hn y2 y3 (Nat.zero_le z) hT0
  have hT : TK b z q e κ w := ⟨0, Nat.zero_le z, hT0⟩
  have hx : SX b z q e κ w 0 σ1 := ⟨x2.fr a2, a3, a4, a5, a6, (a2 2 0 6 (by omega)).trans x5, (a2 2 0 7 (by omega)).trans x4⟩
  have hm : SM b z t q e κ w 0 μ1 := ⟨y2.fr c2, c3, c4, c5, c6, (c2 0 0 25 (by omega)).trans y5, (c2 0 0 24 (by omega)).trans y4⟩
  have fX1 : FrD k1 k2 σ σ1 := x1.tr ((a2.R k1).D k2)
  have fM1 : FrQ μ μ1 := y1.tr c2.P.Q
  obtain ⟨n', rfl⟩ : ∃ n', n = n' + 4 := ⟨n - 4, by omega⟩
  rw [x6, a1, bc_s, L21s d k1 k2 (n' + 3) σ1 (j := 0) (by decide)]
  have hM2 : ∀ w', w' < 3 → f_X6_read (n' + 4) μ (nI t) (nI w') = bc (bc (f_X6_isWord μ1 (116 : Int32) (104 : Int32) (114 : Int32) (111 : Int32) (119 : Int32) (115 : Int32) (0 : Int32) (0 : Int32)) fun r10 σ11 => f_X6_part (n' + 4) σ11 r10) fun r13 σ14 => (if (σ14.1 0 0 25) = 0 then bc (bc (f_X6_isWord σ14 (99 : Int32) (111 : Int32) (109 : Int32) (101 : Int32) (115 : Int32) (0 : Int32) (0 : Int32) (0 : Int32)) fun r17 σ18 => f_X6_part (n' + 4) σ18 r17) fun r20 σ21 => f_X6_read_J93 (n' + 4) σ21 (nI w') r13 r20 else f_X6_read_J93 (n' + 4) σ14 (nI w') r13 (0 : Int32)) := by
    intro w' hw'
    rw [y6 w' hw', c1, bc_s]
  -- throws
  obtain ⟨σ2, v1, μ2, p1, p2, p3, p4, p5⟩ := partP hb hz hn (kk := k1) hd hT hx hm (Nat.zero_le q) (j := 6) (by decide) (wrd_6 hb hz hT hm)
  rw [p1, bc_s]
  simp only [p2, bc_s] at hM2
  rcases p5 with ⟨b1, b2, b3⟩ | ⟨q2, e2, κ2, w2, m2, hT2, hx2, hm2, l1, l2, l3, l4, l5⟩
  · obtain ⟨σ3, r1, r2, r3⟩ := readB (n := n' + 4) (by omega) hd k1 k2 2 1 (n' + 3) (up3 σ2 12 k2 0 (σ2 2 0 7)) (by omega) (by omega) (b1.en k2 0 _)
    rw [up3_of (by omega)] at r1 r2
    refine ⟨_, σ3, μ2, fun w' => sel w' v1 0 0, r1, fun w' hw' => ?_, ((fX1.tr (p3.D k2)).tr FrD.en).tr r3, fM1.tr p4.Q, Or.inl ⟨r2, b2, b3⟩⟩
    rw [hM2 w' hw', if_neg (by rw [b2]; decide), J93B b2 hw']
  have hq2 := hT2.fact.1
  -- comes
  have hx2' := hx2.en k2 0 (σ2 2 0 7)
  obtain ⟨σ2', e2'⟩ : ∃ s, s = up3 σ2 12 k2 0 (σ2 2 0 7) := ⟨_, rfl⟩
  rw [← e2'] at hx2' ⊢
  have hen0 : σ2' 12 k2 0 = nI m2 := by rw [e2', up3_at]; exact hx2.2.2.2.2.2.2
  have hrow2 : ∀ j, σ2' 11 k1 j = σ2 11 k1 j := fun j => by rw [e2']; exact up3_of (by omega)
  have fX2 : FrD k1 k2 σ σ2' := (fX1.tr (p3.D k2)).tr (by rw [e2']; exact FrD.en)
  have fM2 : FrQ μ μ2 := fM1.tr p4.Q
  rw [L21s d k1 k2 (n' + 2) σ2' (j := 1) (by decide)]
  have hM3 : ∀ w', w' < 3 → f_X6_read (n' + 4) μ (nI t) (nI w') = bc (bc (f_X6_isWord μ2 (99 : Int32) (111 : Int32) (109 : Int32) (101 : Int32) (115 : Int32) (0 : Int32) (0 : Int32) (0 : Int32)) fun r17 σ18 => f_X6_part (n' + 4) σ18 r17) fun r20 σ21 => f_X6_read_J93 (n' + 4) σ21 (nI w') v1 r20 := by
    intro w' hw'
    rw [hM2 w' hw', if_pos hm2.2.2.2.2.2.1]
  obtain ⟨σ3, v2, μ3, g1, g2, g3, g4, g5⟩ := partP hb hz hn (kk := k1) hd hT2 hx2' hm2 (by omega) (j := 7) (by decide) (wrd_7 hb hz hT2 hm2)
  rw [g1, bc_s]
  simp only [g2, bc_s] at hM3
  rcases g5 with ⟨b1, b2, b3⟩ | ⟨q3, e3, κ3, w3, m3, hT3, hx3, hm3, h1, h2, h3, h4, h5⟩
  · obtain ⟨σ4, r1, r2, r3⟩ := readB (n := n' + 4) (by omega) hd k1 k2 1 2 (n' + 2) (up3 σ3 12 k2 1 (σ3 2 0 7)) (by omega) (by omega) (b1.en k2 1 _)
    rw [up3_of (by omega)] at r1 r2
    refine ⟨_, σ4, μ3, fun w' => sel w' v1 v2 0, r1, fun w' hw' => ?_, ((fX2.tr (g3.D k2)).tr FrD.en).tr r3, fM2.tr g4.Q, Or.inl ⟨r2, b2, b3⟩⟩
    rw [hM3 w' hw', J93B b2 hw']
  have hq3 := hT3.fact.1
  -- pays
  have hx3' := hx3.en k2 1 (σ3 2 0 7)
  obtain ⟨σ3', e3'⟩ : ∃ s, s = up3 σ3 12 k2 1 (σ3 2 0 7) := ⟨_, rfl⟩
  rw [← e3'] at hx3' ⊢
  have hen1 : σ3' 12 k2 1 = nI m3 := by rw [e3', up3_at]; exact hx3.2.2.2.2.2.2
  have hen0' : σ3' 12 k2 0 = nI m2 := by rw [e3', up3_of (by omega), g3 12 k2 0 (by omega)]; exact hen0
  have hrow3 : ∀ j, σ3' 11 k1 j = σ3 11 k1 j := fun j => by rw [e3']; exact up3_of (by omega)
  have fX3 : FrD k1 k2 σ σ3' := (fX2.tr (g3.D k2)).tr (by rw [e3']; exact FrD.en)
  have fM3 : FrQ μ μ3 := fM2.tr g4.Q
  rw [L21s d k1 k2 (n' + 1) σ3' (j := 2) (by decide)]
  have hM4 : ∀ w', w' < 3 → f_X6_read (n' + 4) μ (nI t) (nI w') = bc (bc (f_X6_isWord μ3 (112 : Int32) (97 : Int32) (121 : Int32) (115 : Int32) (0 : Int32) (0 : Int32) (0 : Int32) (0 : Int32)) fun r24 σ25 => f_X6_part (n' + 4) σ25 r24) fun r27 σ28 => f_X6_read_J126 (n' + 4) σ28 (nI w') v1 v2 r27 := by
    intro w' hw'
    rw [hM3 w' hw']
    unfold f_X6_read_J93
    rw [if_pos hm3.2.2.2.2.2.1, bc_assoc]
  obtain ⟨σ4, v3, μ4, s1, s2, s3, s4, s5⟩ := partP hb hz hn (kk := k1) hd hT3 hx3' hm3 (by omega) (j := 8) (by decide) (wrd_8 hb hz hT3 hm3)
  rw [s1, bc_s]
  simp only [s2, bc_s] at hM4
  rcases s5 with ⟨b1, b2, b3⟩ | ⟨q4, e4, κ4, w4, m4, hT4, hx4, hm4, i1, i2, i3, i4, i5⟩
  · obtain ⟨σ5, r1, r2, r3⟩ := readB (n := n' + 4) (by omega) hd k1 k2 0 3 (n' + 1) (up3 σ4 12 k2 2 (σ4 2 0 7)) (by omega) (by omega) (b1.en k2 2 _)
    rw [up3_of (by omega)] at r1 r2
    refine ⟨_, σ5, μ4, fun w' => sel w' v1 v2 v3, r1, fun w' hw' => ?_, ((fX3.tr (s3.D k2)).tr FrD.en).tr r3, fM3.tr s4.Q, Or.inl ⟨r2, b2, b3⟩⟩
    rw [hM4 w' hw', J126B b2 hw']
  have hq4 := hT4.fact.1
  have htl4 := tkx_lt hT4
  have i257 := tkx_e hT4
  -- the end
  have hx4' := hx4.en k2 2 (σ4 2 0 7)
  obtain ⟨σ4', e4'⟩ : ∃ s, s = up3 σ4 12 k2 2 (σ4 2 0 7) := ⟨_, rfl⟩
  rw [← e4'] at hx4' ⊢
  have gen2 : σ4' 12 k2 2 = nI m4 := by rw [e4', up3_at]; exact hx4.2.2.2.2.2.2
  have gen1 : σ4' 12 k2 1 = nI m3 := by rw [e4', up3_of (by omega), s3 12 k2 1 (by omega)]; exact hen1
  have gen0 : σ4' 12 k2 0 = nI m2 := by rw [e4', up3_of (by omega), s3 12 k2 0 (by omega)]; exact hen0'
  have hrow4 : ∀ j, σ4' 11 k1 j = σ4 11 k1 j := fun j => by rw [e4']; exact up3_of (by omega)
  have fX4 : FrD k1 k2 σ σ4' := (fX3.tr (s3.D k2)).tr (by rw [e4']; exact FrD.en)
  have fM4 : FrQ μ μ4 := fM3.tr s4.Q
  have hN1 : Nm μ1 = Nm μ := Nm_frQ fM1
  have hN2 : Nm μ2 = Nm μ := Nm_frQ fM2
  have hN3 : Nm μ3 = Nm μ := Nm_frQ fM3
  rw [show (n' + 1 : Nat) = n' + 1 from rfl, L21e]
  unfold f_X1_expect
  rw [hx4'.2.2.1]
  have hJ : ∀ w', w' < 3 → f_X6_read (n' + 4) μ (nI t) (nI w') = f_X6_read_J126 (n' + 4) μ4 (nI w') v1 v2 v3 := hM4
  by_cases h0 : κ4 = 0
  · rw [if_pos (show nI (tkx κ4 w4) = (257 : Int32) by rw [i257.mpr h0]; rfl)]
    obtain ⟨q5, e5, κ5, w5, σ5, μ5, z1, z2, z3, z4, z5, z6, z7, z8⟩ := adv2 hb hz hn hT4 (by omega) hx4' hm4
    rw [z1, bc_s, bc_s]
    refine ⟨_, σ5, μ4, fun w' => sel w' v1 v2 v3, rfl, fun w' hw' => ?_, fX4.tr ((z7.R k1).D k2), fM4, Or.inr ⟨z4.2.2.2.2.2.1, hm4.2.2.2.2.2.1, m2, m3, m4, ?_, ?_, ?_, by omega, ?_, ?_, ?_⟩⟩
    · rw [hJ w' hw']
      unfold f_X6_read_J126
      rw [if_pos hm4.2.2.2.2.2.1, if_pos (show μ4.1 0 0 21 = 0 by rw [hm4.2.2.1, h0]; rfl), J146e _ μ4 hw']
    · rw [z7 12 k2 0 (by omega)]; exact gen0
    · rw [z7 12 k2 1 (by omega)]; exact gen1
    · rw [z7 12 k2 2 (by omega)]; exact gen2
    · refine ((hN1 ▸ l5 : Cd (Nm μ) (σ2 11 k1) 0 m2 0 v1).cong fun j j1 j2 => ?_)
      rw [z7 11 k1 j (by omega), hrow4, i4 j (by omega), hrow3, h4 j j2, hrow2]
    · refine ((hN2 ▸ h5 : Cd (Nm μ) (σ3 11 k1) m2 m3 0 v2).cong fun j j1 j2 => ?_)
      rw [z7 11 k1 j (by omega), hrow4, i4 j j2, hrow3]
    · refine ((hN3 ▸ i5 : Cd (Nm μ) (σ4 11 k1) m3 m4 0 v3).cong fun j j1 j2 => ?_)
      rw [z7 11 k1 j (by omega), hrow4]
  · rw [if_neg (show ¬ nI (tkx κ4 w4) = (257 : Int32) from nI_ne (by omega) (by decide) (fun h => h0 (i257.mp h)))]
    obtain ⟨σ5, z1, z2, z3, z4⟩ := failX (kk := k1) hz hq4 (by omega) hx4'
    obtain ⟨μ5, u1, u2, u3, u4⟩ := failM hm4
    rw [z1, bc_s, bc_s]
    refine ⟨_, σ5, μ5, fun w' => sel w' v1 v2 v3, rfl, fun w' hw' => ?_, fX4.tr (z4.D k2), fM4.tr u4.Q, Or.inl ⟨z2.2.1, u2, by rw [z3, u3]⟩⟩
    rw [hJ w' hw']
    unfold f_X6_read_J126
    rw [if_pos hm4.2.2.2.2.2.1, if_neg (show ¬ μ4.1 0 0 21 = 0 by rw [hm4.2.2.1]; exact nI_ne (by have := hT4.fact.2.1; omega) (by decide) h0), u1, bc_s, J146e _ μ5 hw']
end R2

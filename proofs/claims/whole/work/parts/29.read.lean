theorem bc_assoc {ρ ρ' S S' τ : Type} (x : Option (ρ × S)) (f : ρ → S → Option (ρ' × S')) (g : ρ' → S' → Option τ) : bc (bc x f) g = bc x (fun r s => bc (f r s) g) := by
  cases x <;> rfl
def partC (n d k : Nat) (key : Int32) (σ : Gm) : Option (Unit × Gm) := bc (f_X1_expect n σ key) fun _ σ12 => bc (f_X1_readRank n d k σ12 (0 : Int32) (0 : Int32)) fun _ σ15 => f_X1_expect n σ15 (59 : Int32)
section RD
variable {b : Nat → Nat} {z t n kk q e κ w m : Nat}
theorem partB (hn : 0 < n) {d : Nat} (hd : 78 ≤ d) {σ : Gm} (hB : BX σ) {j : Nat} (hj : j < 258) : ∃ σ', partC n d kk (nI j) σ = some ((), σ') ∧ BX σ' ∧ σ' 2 0 6 = σ 2 0 6 ∧ FrR kk σ σ' := by
  unfold partC
  obtain ⟨σ1, a1, a2, a3, a4⟩ := expB (n := n) (kk := kk) hB hj
  obtain ⟨σ2, b1, b2, b3, b4⟩ := rrB (n := n) (kk := kk) hn 5 0 d σ1 0 (by omega) (by omega) a2
  obtain ⟨σ3, c1, c2, c3, c4⟩ := expB (n := n) (kk := kk) b2 (c := 59) (by decide)
  rw [a1, bc_s, show f_X1_readRank n d kk σ1 (0 : Int32) (0 : Int32) = some ((), σ2) from b1, bc_s]
  exact ⟨σ3, c1, c2, c3.trans (b3.trans a3), (a4.tr b4).tr c4⟩
theorem J48B {μ : Wm} (hB : BM μ) (x : Int32) : f_X6_part_J48 n μ x = some (x, μ) := by
  unfold f_X6_part_J48
  rw [if_neg (by rw [hB]; decide)]
theorem J34B {μ : Wm} (hB : BM μ) (x : Int32) : f_X6_part_J34 n μ x = some (x, μ) := by
  unfold f_X6_part_J34
  rw [sgnB hB, bc_s, if_pos rfl, failMB hB, bc_s, J48B hB]
theorem J19B {μ : Wm} (hB : BM μ) : f_X6_part_J19 n μ = some (0, μ) := by
  unfold f_X6_part_J19
  rw [if_neg (by rw [hB]; decide), J34B hB]
/-- key E ; -/
theorem partP (hb : ∀ i, b i < 256) (hz : z ≤ 160) (hn : 160 < n) {d : Nat} (hd : 78 ≤ d) {σ : Gm} {μ : Wm} (hT : TK b z q e κ w) (hx : SX b z q e κ w m σ) (hm : SM b z t q e κ w 0 μ) (hmq : m ≤ q) {j : Nat} (hj : j < 12) {iw : Option (Int32 × Wm)} (hw : ((κ = 1 ∧ w = j) ∧ iw = some (1, μ)) ∨ (¬ (κ = 1 ∧ w = j) ∧ iw = some (0, μ))) :
    RES b z t kk (partC n d kk (nI j) σ) (bc iw fun r s => f_X6_part n s r) σ μ q m m 0 0 := by
  have hqz := hT.fact.1
  have htl := tkx_lt hT
  have ij := tkx_w hT hj
  have h25 : μ.1 0 0 25 = 0 := hm.2.2.2.2.2.1
  rcases hw with ⟨hp, r⟩ | ⟨hp, r⟩
  · have hqe := hT.fact.2.2.2.2.2.2.1 (by omega) (by omega)
    rw [r, bc_s]
    unfold partC f_X1_expect f_X6_part
    rw [hx.2.2.1, if_pos (show nI (tkx κ w) = nI j by rw [ij.mpr hp]), if_neg (show ¬ (1 : Int32) = 0 by decide), h25, if_pos (rfl : (0 : Int32) = 0)]
    obtain ⟨q1, e1, κ1, w1, σ1, μ1, a1, a2, hT1, hx1, hm1, a3, a4, a5⟩ := adv2 hb hz hn hT (by omega) hx hm
    rw [a1, a2, bc_s, bc_s, bc_s]
    unfold f_X6_part_J19
    rw [if_pos hm1.2.2.2.2.2.1]
    obtain ⟨σ2, x, μ2, c1, c2, c3, c4, c5⟩ := s0_0 (t := t) (kk := kk) hb hz hn d hd σ1 μ1 q1 e1 κ1 w1 m hT1 hx1 hm1 (by omega)
    rw [show f_X1_readRank n d kk σ1 (0 : Int32) (0 : Int32) = some ((), σ2) from c1, c2, bc_s, bc_s]
    have fP : FrP μ μ2 := a5.P.tr c4
    have fR : FrR kk σ σ2 := (a4.R kk).tr c3
    rcases c5 with ⟨b1, b2, b3⟩ | ⟨q2, e2, κ2, w2, m2, hT2, hx2, hm2, k1, k2, k3, k4, k5⟩
    · obtain ⟨σ3, p1, p2, p3, p4⟩ := expB (n := n) (kk := kk) b1 (c := 59) (by decide)
      have p1 : (if (σ2 2 0 3) = (59 : Int32) then bc (f_X1_advance n σ2) fun r5 σ6 => some ((), σ6) else bc (f_X1_fail σ2) fun r2 σ3 => some ((), σ3)) = some ((), σ3) := p1
      rw [p1, J34B b2]
      exact ⟨σ3, x, μ2, rfl, rfl, fR.tr p4, fP, Or.inl ⟨p2, b2, by rw [p3]; exact b3⟩⟩
    · have hq2 := hT2.fact.1
      have htl2 := tkx_lt hT2
      have i59 := tkx_s hT2 (c := 59) (by unfold isS; omega)
      have hNm1 : Nm μ1 = Nm μ := Nm_fr a5.P
      unfold f_X6_part_J34
      rw [hx2.2.2.1]
      rcases sgnM hT2 hm2 (c := 59) (by decide) with ⟨hp2, r2⟩ | ⟨hp2, r2⟩
      · have hqe2 := hT2.fact.2.2.2.2.2.2.1 (by omega) (by omega)
        rw [if_pos (show nI (tkx κ2 w2) = (59 : Int32) by rw [i59.mpr hp2]; rfl), show f_X6_isSign μ2 (59 : Int32) = some (1, μ2) from r2, bc_s, if_neg (show ¬ (1 : Int32) = 0 by decide)]
        unfold f_X6_part_J48
        rw [if_pos hm2.2.2.2.2.2.1]
        obtain ⟨q3, e3, κ3, w3, σ3, μ3, d1, d2, hT3, hx3, hm3, d3, d4, d5⟩ := adv2 hb hz hn hT2 (by omega) hx2 hm2
        rw [d1, d2, bc_s, bc_s]
        exact ⟨σ3, x, μ3, rfl, rfl, fR.tr (d4.R kk), fP.tr d5.P, Or.inr ⟨q3, e3, κ3, w3, m2, hT3, hx3, hm3, by omega, by omega, by omega, fun i hi => by rw [d4 11 kk i (by omega), k4 i hi, a4 11 kk i (by omega)], ((hNm1 ▸ k5).mono (by omega)).cong fun i _ _ => d4 11 kk i (by omega)⟩⟩
      · rw [if_neg (show ¬ nI (tkx κ2 w2) = (59 : Int32) from nI_ne (by omega) (by decide) (fun h => hp2 (i59.mp h))), show f_X6_isSign μ2 (59 : Int32) = some (0, μ2) from r2, bc_s, if_pos (rfl : (0 : Int32) = 0)]
        obtain ⟨σ', f1, f2, f3, f4⟩ := failX (kk := kk) hz hq2 (by omega) hx2
        obtain ⟨μ', g1, g2, g3, g4⟩ := failM hm2
        rw [f1, g1, bc_s, bc_s, J48B g2]
        exact ⟨σ', x, μ', rfl, rfl, fR.tr f4, fP.tr g4, Or.inl ⟨f2, g2, by rw [f3, g3]⟩⟩
  · rw [r, bc_s]
    obtain ⟨σ1, f1, f2, f3, f4⟩ := failX (kk := kk) hz hqz (by omega) hx
    obtain ⟨μ1, g1, g2, g3, g4⟩ := failM hm
    unfold f_X6_part
    rw [if_pos (rfl : (0 : Int32) = 0), g1, bc_s, if_neg (by rw [g2]; decide), J19B g2]
    unfold partC
    have he : f_X1_expect n σ (nI j) = some ((), σ1) := by
      unfold f_X1_expect
      rw [hx.2.2.1, if_neg (nI_ne (by omega) (by omega) (fun h => hp (ij.mp h))), f1, bc_s]
    obtain ⟨σ2, b1, b2, b3, b4⟩ := rrB (n := n) (kk := kk) (by omega) 5 0 d σ1 0 (by omega) (by omega) f2
    obtain ⟨σ3, c1, c2, c3, c4⟩ := expB (n := n) (kk := kk) b2 (c := 59) (by decide)
    rw [he, bc_s, show f_X1_readRank n d kk σ1 (0 : Int32) (0 : Int32) = some ((), σ2) from b1, bc_s]
    exact ⟨σ3, 0, μ1, c1, rfl, (f4.tr b4).tr c4, g4, Or.inl ⟨c2, g2, by rw [c3, b3, f3, g3]⟩⟩
theorem L21s (d k1 k2 i : Nat) (σ : Gm) {j : Nat} (hj : j < 3) : f_X1_read_L21 n d k1 k2 (i + 1) σ (nI j) = bc (partC n d k1 (nI (6 + j)) σ) fun _ σ18 => f_X1_read_L21 n d k1 k2 i (up3 σ18 12 k2 j (σ18 2 0 7)) (nI (j + 1)) := by
  rw [f_X1_read_L21, if_neg (show ¬ (3 : Int32) ≤ nI j from nI_ge (show j < 3 from hj) (by decide))]
  unfold partC
  rw [bc_assoc]
  show bc (f_X1_expect n σ (nI 6 + nI j)) _ = _
  rw [nI_add]
  refine bc_congr _ fun _ s => ?_
  rw [bc_assoc]
  refine bc_congr _ fun _ s2 => ?_
  refine bc_congr _ fun _ s3 => ?_
  rw [gd_h (inb_nI hj (by decide)), bv_e, nI_clamp (by omega), nI_1]
theorem L21e (d k1 k2 i : Nat) (σ : Gm) : f_X1_read_L21 n d k1 k2 (i + 1) σ (nI 3) = bc (f_X1_expect n σ (257 : Int32)) fun _ σ9 => some (σ9 2 0 6, σ9) := by
  rw [f_X1_read_L21, if_pos (by decide)]
def FrD (k1 k2 : Nat) (σ σ' : Gm) : Prop := ∀ c k j, ¬ ((c = 2 ∧ k = 0 ∧ 2 ≤ j ∧ j ≤ 7) ∨ (c = 11 ∧ k = k1) ∨ (c = 12 ∧ k = k2)) → σ' c k j = σ c k j
theorem FrD.tr {k1 k2 : Nat} {a b c : Gm} (h : FrD k1 k2 a b) (g : FrD k1 k2 b c) : FrD k1 k2 a c := fun x y z q => (g x y z q).trans (h x y z q)
theorem FrR.D {k1 : Nat} (k2 : Nat) {a b : Gm} (h : FrR k1 a b) : FrD k1 k2 a b := fun x y z q => h x y z (by omega)
theorem FrD.en {k1 k2 : Nat} {σ : Gm} {j : Nat} {v : Int32} : FrD k1 k2 σ (up3 σ 12 k2 j v) := fun x y z q => up3_of (by omega)
theorem SX.en {σ : Gm} (h : SX b z q e κ w m σ) (k2 j : Nat) (v : Int32) : SX b z q e κ w m (up3 σ 12 k2 j v) := by
  obtain ⟨⟨h1, h1b⟩, h2, h3, h4, h5, h6, h7⟩ := h
  exact ⟨⟨(up3_of (by omega)).trans h1, fun i hi => (up3_of (by omega)).trans (h1b i hi)⟩, (up3_of (by omega)).trans h2, (up3_of (by omega)).trans h3, fun h => (up3_of (by omega)).trans (h4 h), fun h => (up3_of (by omega)).trans (h5 h), (up3_of (by omega)).trans h6, (up3_of (by omega)).trans h7⟩
theorem BX.en {σ : Gm} (h : BX σ) (k2 j : Nat) (v : Int32) : BX (up3 σ 12 k2 j v) := by
  obtain ⟨h1, h2, m, h3, h4⟩ := h
  exact ⟨(up3_of (by omega)).trans h1, by rw [up3_of (by omega)]; exact h2, m, (up3_of (by omega)).trans h3, h4⟩
/-- failed: through to the end -/
theorem readB (hn : 4 ≤ n) {d : Nat} (hd : 78 ≤ d) (k1 k2 : Nat) : ∀ (a j i : Nat) (σ : Gm), j + a = 3 → a < i → BX σ → ∃ σ', f_X1_read_L21 n d k1 k2 i σ (nI j) = some (σ 2 0 6, σ') ∧ ¬ σ 2 0 6 = -1 ∧ FrD k1 k2 σ σ'
  | 0, j, i, σ, hj, hi, hB => by
    obtain ⟨i, rfl⟩ : ∃ k, i = k + 1 := ⟨i - 1, by omega⟩
    have e3 : j = 3 := by omega
    subst e3
    obtain ⟨σ3, c1, c2, c3, c4⟩ := expB (n := n) (kk := k1) hB (c := 257) (by decide)
    rw [L21e, show f_X1_expect n σ (257 : Int32) = some ((), σ3) from c1, bc_s, c3]
    exact ⟨σ3, rfl, hB.2.1, c4.D k2⟩
  | a + 1, j, i, σ, hj, hi, hB => by
    obtain ⟨i, rfl⟩ : ∃ k, i = k + 1 := ⟨i - 1, by omega⟩
    obtain ⟨σ1, b1, b2, b3, b4⟩ := partB (n := n) (kk := k1) (by omega) hd hB (j := 6 + j) (by omega)
    rw [L21s d k1 k2 i σ (by omega), b1, bc_s]
    obtain ⟨σ2, c1, c2, c3⟩ := readB hn hd k1 k2 a (j + 1) i (up3 σ1 12 k2 j (σ1 2 0 7)) (by omega) (by omega) (b2.en k2 j _)
    rw [up3_of (by omega), b3] at c1 c2
    exact ⟨σ2, c1, c2, ((b4.D k2).tr FrD.en).tr c3⟩
end RD

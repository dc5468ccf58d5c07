theorem SimP.mono {b : Nat → Nat} {z t n kk r o N N' : Nat} {A : Wm → Option (Int32 × Wm)} (h : SimP b z t n kk r o N A) (hN : N ≤ N') : SimP b z t n kk r o N' A := fun d hd => h d (by omega)
theorem BAD.dn {σ : Gm} {μ : Wm} (h : BAD σ μ) : BAD σ (dn24 μ) := ⟨h.1, dn_B h.2.1, by rw [dn_26]; exact h.2.2⟩
theorem bc_congr {ρ S τ : Type} (x : Option (ρ × S)) {f g : ρ → S → Option τ} (h : ∀ r s, f r s = g r s) : bc x f = bc x g := by
  cases x with
  | none => rfl
  | some q => exact h q.1 q.2
section S2
variable {b : Nat → Nat} {z t n kk o q e κ w m : Nat}
/-- ')' behind an E, both sides -/
theorem close (hb : ∀ i, b i < 256) (hz : z ≤ 160) (hn : 160 < n) {σ0 σ : Gm} {μ : Wm} {ν : Nat → Int32} {q0 m0 B : Nat} {x : Int32} (hT : TK b z q e κ w) (hx : SX b z q e κ w m σ) (hm : SM b z t q e κ w (o + 1) μ) (hm160 : m ≤ 160) (hq0 : q0 + 1 ≤ q) (hmm : m0 ≤ m) (hmq : m + (q0 + 1) ≤ m0 + q) (hk : ∀ j, j < m0 → σ 11 kk j = σ0 11 kk j) (hC : Cd ν (σ 11 kk) m0 m B x) :
    ∃ σ' v μ', f_X1_expect n σ (41 : Int32) = some ((), σ') ∧ (bc (f_X6_isSign μ (41 : Int32)) fun r37 σ38 => (if r37 = 0 then bc (f_X6_fail σ38) fun _ σ47 => AB2 n σ47 x else AB2 n σ38 x)) = some (v, μ') ∧ FrR kk σ σ' ∧ FrP μ μ' ∧ (BAD σ' μ' ∨ OK b z t kk ν σ0 q0 m0 m0 o B v σ' μ') := by
  have hqz := hT.fact.1
  have i41 := tkx_s hT (c := 41) (by unfold isS; omega)
  have htl := tkx_lt hT
  unfold f_X1_expect
  rw [hx.2.2.1]
  rcases sgnM hT hm (c := 41) (by decide) with ⟨hp, r⟩ | ⟨hp, r⟩
  · rw [if_pos (show nI (tkx κ w) = (41 : Int32) by rw [i41.mpr hp]; rfl), show f_X6_isSign μ (41 : Int32) = some (1, μ) from r, bc_s, if_neg (show ¬ (1 : Int32) = 0 by decide)]
    have hqe := hT.fact.2.2.2.2.2.2.1 (by omega) (by omega)
    unfold AB2
    rw [bv_e]
    obtain ⟨q1, e1, κ1, w1, σ1, μ1, a1, a2, hT1, hx1, hm1, a3, a4, a5⟩ := adv2 hb hz hn hT (by omega) hx (dn_SM hm)
    rw [if_pos (dn_SM hm).2.2.2.2.2.1, a1, a2, bc_s, bc_s]
    exact ⟨σ1, x, μ1, rfl, rfl, a4.R kk, (dn_P μ).tr a5.P, Or.inr ⟨q1, e1, κ1, w1, m, hT1, hx1, hm1, by omega, by omega, by omega, fun j hj => by rw [a4 11 kk j (by omega)]; exact hk j hj, hC.cong fun j _ _ => a4 11 kk j (by omega)⟩⟩
  · rw [if_neg (show ¬ nI (tkx κ w) = (41 : Int32) from nI_ne (by omega) (by decide) (fun h => hp (i41.mp h))), show f_X6_isSign μ (41 : Int32) = some (0, μ) from r, bc_s, if_pos (rfl : (0 : Int32) = 0)]
    obtain ⟨σ', c1, c2, c3, c4⟩ := failX (kk := kk) hz hqz hm160 hx
    obtain ⟨μ', d1, d2, d3, d4⟩ := failM hm
    rw [c1, d1, bc_s, bc_s]
    unfold AB2
    rw [bv_e, if_neg (by rw [dn_B d2]; decide)]
    exact ⟨σ', _, _, rfl, rfl, c4, d4.tr (dn_P μ'), Or.inl ⟨c2, dn_B d2, by rw [dn_26, c3, d3]⟩⟩
theorem atomP (hb : ∀ i, b i < 256) (hz : z ≤ 160) (hn : 160 < n) (ho : o < 5) {N : Nat} (Ax Ex : Wm → Option (Int32 × Wm)) (hA : SimP b z t n kk 5 (o + 1) N Ax) (hE : SimP b z t n kk 0 (o + 1) N Ex) : SimP b z t n kk 5 o (N + 3) (AB n Ax Ex) := by
  intro d hd σ μ q e κ w m hT hx hm hmq
  obtain ⟨d, rfl⟩ : ∃ k, d = k + 3 := ⟨d - 3, by omega⟩
  have htl := tkx_lt hT
  have hqz := hT.fact.1
  rw [rr_eq]
  unfold fb_X1_readRank
  rw [if_neg (by decide), ro_eq]
  have fin : RES b z t kk (fb_X1_readOne n (f_X1_readRank n (d + 1)) (f_X1_readJoined n (d + 1)) (f_X1_readOne n (d + 1)) (f_X1_readBehind n (d + 1)) kk σ (nI o)) (AB n Ax Ex μ) σ μ q m m o (5 * o + 5) := by
    unfold AB
    rcases sgnM hT hm (c := 45) (by decide) with ⟨hp, r⟩ | ⟨hp, r⟩
    · have i45 := (tkx_s hT (c := 45) (by unfold isS; omega)).mpr hp
      rw [show f_X6_isSign μ (45 : Int32) = some (1, μ) from r, bc_s, if_neg (show ¬ (1 : Int32) = 0 by decide)]
      obtain ⟨σ', v, μ', g1, g2, g3, g4, g5⟩ := behind hb hz hn (r := 5) (by decide) ho Ax hA (s := -1000) (fun v => -v) neg_stp (B := 5 * o + 5) (by omega) (d := d) (by omega) hT (by omega) (by omega) hx hm hmq
      unfold fb_X1_readOne
      rw [hx.2.2.1, i45, if_neg (show ¬ nI 45 = (256 : Int32) by decide), if_pos (show (6 : Int32) ≤ nI 45 by decide), if_pos (show nI 45 = (45 : Int32) from rfl), show f_X1_readBehind n (d + 1) kk σ (-1000 : Int32) (5 : Int32) (nI o) = some ((), σ') from g1, bc_s]
      exact ⟨σ', v, μ', rfl, g2, g3, g4, g5⟩
    · rw [show f_X6_isSign μ (45 : Int32) = some (0, μ) from r, bc_s, if_pos (rfl : (0 : Int32) = 0)]
      rcases sgnM hT hm (c := 40) (by decide) with ⟨hp2, r2⟩ | ⟨hp2, r2⟩
      · have i40 := (tkx_s hT (c := 40) (by unfold isS; omega)).mpr hp2
        have hqe := hT.fact.2.2.2.2.2.2.1 (by omega) (by omega)
        rw [show f_X6_isSign μ (40 : Int32) = some (1, μ) from r2, bc_s, if_neg (show ¬ (1 : Int32) = 0 by decide)]
        unfold fb_X1_readOne
        rw [hx.2.2.1, i40, if_neg (show ¬ nI 40 = (256 : Int32) by decide), if_pos (show (6 : Int32) ≤ nI 40 by decide), if_neg (show ¬ nI 40 = (45 : Int32) by decide), if_pos (show nI 40 = (40 : Int32) from rfl), if_neg (show ¬ (5 : Int32) ≤ nI o from nI_ge ho (by decide))]
        obtain ⟨q1, e1, κ1, w1, σ1, μ1, a1, a2, hT1, hx1, hm1, a3, a4, a5⟩ := opn hb hz hn ho hT (by omega) hx hm
        rw [a1, a2, bc_s, bc_s, if_neg (by decide), nI_1]
        obtain ⟨σ2, y, μ2, c1, c2, c3, c4, c5⟩ := hE (d + 1) (by omega) σ1 μ1 q1 e1 κ1 w1 m hT1 hx1 hm1 (by omega)
        rw [show f_X1_readRank n (d + 1) kk σ1 (0 : Int32) (nI (o + 1)) = some ((), σ2) from c1, c2, bc_s, bc_s]
        have fP : FrP μ μ2 := a5.tr c4
        have fR : FrR kk σ σ2 := (a4.R kk).tr c3
        rcases c5 with ⟨b1, b2, b3⟩ | ⟨q2, e2, κ2, w2, m2, hT2, hx2, hm2, k1, k2, k3, k4, k5⟩
        · obtain ⟨σ3, p1, p2, p3, p4⟩ := expB (n := n) (kk := kk) b1 (c := 41) (by decide)
          rw [show f_X1_expect n σ2 (41 : Int32) = some ((), σ3) from p1, bc_s, sgnB b2, bc_s, if_pos rfl, failMB b2, bc_s]
          unfold AB2
          rw [bv_e, if_neg (by rw [dn_B b2]; decide)]
          exact ⟨σ3, _, _, rfl, rfl, fR.tr p4, fP.tr (dn_P μ2), Or.inl ⟨p2, dn_B b2, by rw [p3, dn_26]; exact b3⟩⟩
        · have hq2 := hT2.fact.1
          have hNm1 : Nm μ1 = Nm μ := Nm_fr a5
          obtain ⟨σ3, v, μ3, p1, p2, p3, p4, p5⟩ := close hb hz hn (σ0 := σ) (ν := Nm μ) (q0 := q) (m0 := m) (B := 5 * o + 5) (x := y) hT2 hx2 hm2 (by omega) (by omega) (by omega) (by omega) (fun j hj => by rw [k4 j hj, a4 11 kk j (by omega)]) ((hNm1 ▸ k5).mono (by omega))
          rw [p1, bc_s]
          exact ⟨σ3, v, μ3, rfl, p2, fR.tr p3, fP.tr p4, p5⟩
      · rw [show f_X6_isSign μ (40 : Int32) = some (0, μ) from r2, bc_s, if_pos (rfl : (0 : Int32) = 0)]
        exact atom1 hb hz hn (by omega) hT hx hm hmq hp hp2 _ _ _ _
  obtain ⟨σ', v, μ', g1, g2, g3, g4, g5⟩ := fin
  rw [g1, bc_s]
  exact ⟨σ', v, μ', rfl, g2, g3, g4, g5⟩
theorem atomP5 (hb : ∀ i, b i < 256) (hz : z ≤ 160) (hn : 160 < n) : SimP b z t n kk 5 5 3 (AB5 n) := by
  intro d hd σ μ q e κ w m hT hx hm hmq
  obtain ⟨d, rfl⟩ : ∃ k, d = k + 3 := ⟨d - 3, by omega⟩
  have htl := tkx_lt hT
  have hqz := hT.fact.1
  rw [rr_eq]
  unfold fb_X1_readRank
  rw [if_neg (by decide), ro_eq]
  have fin : RES b z t kk (fb_X1_readOne n (f_X1_readRank n (d + 1)) (f_X1_readJoined n (d + 1)) (f_X1_readOne n (d + 1)) (f_X1_readBehind n (d + 1)) kk σ (nI 5)) (AB5 n μ) σ μ q m m 5 (5 * 5 + 5) := by
    unfold AB5
    rcases sgnM hT hm (c := 45) (by decide) with ⟨hp, r⟩ | ⟨hp, r⟩
    · have i45 := (tkx_s hT (c := 45) (by unfold isS; omega)).mpr hp
      rw [show f_X6_isSign μ (45 : Int32) = some (1, μ) from r, bc_s, if_neg (show ¬ (1 : Int32) = 0 by decide)]
      obtain ⟨σ', v, μ', g1, g2, g3, g4, g5⟩ := behind5 (n := n) (kk := kk) hz (d := d) (s := -1000) (r := 5) (B := 5 * 5 + 5) hT hx hm hmq
      unfold fb_X1_readOne
      rw [hx.2.2.1, i45, if_neg (show ¬ nI 45 = (256 : Int32) by decide), if_pos (show (6 : Int32) ≤ nI 45 by decide), if_pos (show nI 45 = (45 : Int32) from rfl), g1, bc_s]
      exact ⟨σ', v, μ', rfl, g2, g3, g4, g5⟩
    · rw [show f_X6_isSign μ (45 : Int32) = some (0, μ) from r, bc_s, if_pos (rfl : (0 : Int32) = 0)]
      rcases sgnM hT hm (c := 40) (by decide) with ⟨hp2, r2⟩ | ⟨hp2, r2⟩
      · have i40 := (tkx_s hT (c := 40) (by unfold isS; omega)).mpr hp2
        rw [show f_X6_isSign μ (40 : Int32) = some (1, μ) from r2, bc_s, if_neg (show ¬ (1 : Int32) = 0 by decide)]
        unfold fb_X1_readOne
        rw [hx.2.2.1, i40, if_neg (show ¬ nI 40 = (256 : Int32) by decide), if_pos (show (6 : Int32) ≤ nI 40 by decide), if_neg (show ¬ nI 40 = (45 : Int32) by decide), if_pos (show nI 40 = (40 : Int32) from rfl), if_pos (show (5 : Int32) ≤ nI 5 by decide)]
        obtain ⟨μ', a1, a2, a3, a4⟩ := opn5 (n := n) hm
        obtain ⟨σ', c1, c2, c3, c4⟩ := failX (kk := kk) hz hqz (by omega) hx
        rw [a1, c1, bc_s, bc_s]
        exact ⟨σ', _, μ', rfl, rfl, c4, a4, Or.inl ⟨c2, a2, by rw [c3, a3]⟩⟩
      · rw [show f_X6_isSign μ (40 : Int32) = some (0, μ) from r2, bc_s, if_pos (rfl : (0 : Int32) = 0)]
        exact atom1 hb hz hn (by omega) hT hx hm hmq hp hp2 _ _ _ _
  obtain ⟨σ', v, μ', g1, g2, g3, g4, g5⟩ := fin
  rw [g1, bc_s]
  exact ⟨σ', v, μ', rfl, g2, g3, g4, g5⟩
/-- a SUM, perhaps compared with one -/
theorem cmp2 (hb : ∀ i, b i < 256) (hz : z ≤ 160) (hn : 160 < n) {N : Nat} (A : Wm → Option (Int32 × Wm)) (hA : SimP b z t n kk 3 o N A) {d : Nat} (hd : N ≤ d) {σ : Gm} {μ : Wm} (hT : TK b z q e κ w) (hx : SX b z q e κ w m σ) (hm : SM b z t q e κ w o μ) (hmq : m ≤ q) :
    RES b z t kk (fb_X1_readRank_J40 n (f_X1_readRank n (d + 1)) (f_X1_readJoined n (d + 1)) (f_X1_readOne n (d + 1)) (f_X1_readBehind n (d + 1)) kk σ (nI 2) (nI o)) (NB1 n A μ) σ μ q m m o (5 * o + 2) := by
  unfold fb_X1_readRank_J40 NB1
  obtain ⟨σ2, x, μ2, c1, c2, c3, c4, c5⟩ := hA (d + 1) (by omega) σ μ q e κ w m hT hx hm hmq
  rw [nI_1, c1, c2, bc_s, bc_s, rj_eq]
  unfold fb_X1_readJoined
  rw [if_pos (show nI 2 = (2 : Int32) from rfl)]
  obtain ⟨n', e9⟩ : ∃ n', n = n' + 2 := ⟨n - 2, by omega⟩
  rcases c5 with ⟨b1, b2, b3⟩ | ⟨q2, e2, κ2, w2, m2, hT2, hx2, hm2, k1, k2, k3, k4, k5⟩
  · have e1 := rjB (n := n) (kk := kk) b1 (r := 2) (by decide) (i := n' + 1) (f_X1_readRank n d) (f_X1_readJoined n d) (f_X1_readOne n d) (f_X1_readBehind n d) (nI o) 1 0
    rw [show n' + 1 + 1 = n by omega] at e1
    rw [e1, bc_s, sgnB b2, bc_s, if_pos rfl, sgnB b2, bc_s, if_pos rfl]
    exact ⟨σ2, x, μ2, rfl, rfl, c3, c4, Or.inl ⟨b1, b2, b3⟩⟩
  · have hq2 := hT2.fact.1
    have htl2 := tkx_lt hT2
    have hNm2 : Nm μ2 = Nm μ := Nm_fr c4
    have i60 := tkx_s hT2 (c := 60) (by unfold isS; omega)
    have i61 := tkx_s hT2 (c := 61) (by unfold isS; omega)
    have hL : ∀ (f : Nat) (c : Int32), c = nI 60 ∨ c = nI 61 → (κ2 = 3 ∧ (w2 = 60 ∨ w2 = 61)) → ∀ (g : Int32 → Int32), (∀ y, g y = jnd (nI (tkx κ2 w2)) x y) → f = n' + 2 → ∀ R : Option (Int32 × Wm), R = (bc (f_X6_next n μ2) fun _ σ14 => bc (A σ14) fun r16 σ17 => some (g r16, σ17)) → RES b z t kk (bc (fb_X1_readJoined_L17 n (f_X1_readRank n d) (f_X1_readJoined n d) (f_X1_readOne n d) (f_X1_readBehind n d) kk f σ2 (nI 2) (nI o) 1 0) fun _ σ7 => some ((), σ7)) R σ μ q m m o (5 * o + 2) := by
      intro f c _ hkw g hg hf R hR
      subst hf
      have h2560 : 9 ≤ tkx κ2 w2 ∧ tkx κ2 w2 < 256 ∧ ¬ tkx κ2 w2 = 11 := by
        rcases hkw with ⟨h3, h4 | h4⟩
        · have := i60.mpr ⟨h3, h4⟩; omega
        · have := i61.mpr ⟨h3, h4⟩; omega
      have hrk : rkN (tkx κ2 w2) = nI 2 := (rk2 _).mpr (by
        rcases hkw with ⟨h3, h4 | h4⟩
        · exact Or.inl (i60.mpr ⟨h3, h4⟩)
        · exact Or.inr (i61.mpr ⟨h3, h4⟩))
      have hqe := hT2.fact.2.2.2.2.2.2.1 (by omega) (by omega)
      rw [hR, fb_X1_readJoined_L17, if_neg (by decide), hx2.2.2.1, rankOf_e σ2 (by omega), bc_s, if_pos hrk, bv_e, hx2.2.2.1]
      obtain ⟨q3, e3, κ3, w3, σ3, μ3, a1, a2, hT3, hx3, hm3, a3, a4, a5⟩ := adv2 hb hz hn hT2 (by omega) hx2 hm2
      rw [a1, a2, bc_s, bc_s, nI_1]
      obtain ⟨σ4, y, μ4, d1, d2, d3, d4, d5⟩ := hA d hd σ3 μ3 q3 e3 κ3 w3 m2 hT3 hx3 hm3 (by omega)
      rw [d1, d2, bc_s, bc_s]
      have fP : FrP μ μ4 := (c4.tr a5.P).tr d4
      have fR : FrR kk σ σ4 := (c3.tr (a4.R kk)).tr d3
      rcases d5 with ⟨b1, b2, b3⟩ | ⟨q5, e5, κ5, w5, m5, hT5, hx5, hm5, l1, l2, l3, l4, l5⟩
      · obtain ⟨σ6, p1, p2, p3, p4⟩ := putB (kk := kk) b1 ((-1 : Int32) - nI (tkx κ2 w2))
        rw [p1, bc_s, rjB p2 (by decide), bc_s]
        exact ⟨σ6, _, μ4, rfl, rfl, fR.tr p4, fP, Or.inl ⟨p2, b2, by rw [p3]; exact b3⟩⟩
      · have hq5 := hT5.fact.1
        obtain ⟨σ6, p1, p2, p3, p4, p5⟩ := putX (kk := kk) hx5 (show m5 < 160 by omega) ((-1 : Int32) - nI (tkx κ2 w2))
        rw [p1, bc_s, fb_X1_readJoined_L17, if_pos (by decide), bc_s]
        have hNm3 : Nm μ3 = Nm μ := Nm_fr (c4.tr a5.P)
        refine ⟨σ6, _, μ4, rfl, rfl, fR.tr p5, fP, Or.inr ⟨q5, e5, κ5, w5, m5 + 1, hT5, p2, hm5, by omega, by omega, by omega, fun j hj => by rw [p4 j (by omega), l4 j (by omega), a4 11 kk j (by omega), k4 j hj], ?_⟩⟩
        rw [hg]
        refine Cd.bin (m1 := m2) (a := x) (b := y) ((k5.mono (by omega)).cong fun j j1 j2 => ?_) ((hNm3 ▸ l5).cong fun j j1 j2 => p4 j (by omega)) p3 (fun st => stp_bin h2560.1 h2560.2.1 h2560.2.2 _ _ _ _)
        rw [p4 j (by omega), l4 j j2, a4 11 kk j (by omega)]
    rcases sgnM hT2 hm2 (c := 60) (by decide) with ⟨hp, r⟩ | ⟨hp, r⟩
    · rw [show f_X6_isSign μ2 (60 : Int32) = some (1, μ2) from r, bc_s, if_neg (show ¬ (1 : Int32) = 0 by decide)]
      refine hL n (nI 60) (Or.inl rfl) ⟨hp.1, Or.inl hp.2⟩ (fun y => if y ≤ x then 0 else 1) (fun y => by rw [i60.mpr hp]; rfl) e9 _ ?_
      unfold NB2 NB3
      rw [hm2.2.2.2.2.1 (Or.inr hp.1), if_pos (show lg_cmp (lN w2) (60 : Int64) = 0 from (lgc_eq (by omega) (y := 60) (by decide)).mpr hp.2)]
      refine bc_congr _ fun _ s => bc_congr _ fun y s2 => ?_
      rw [if_neg (by decide)]
      by_cases h : y ≤ x
      · rw [if_pos h, if_pos h]
      · rw [if_neg h, if_neg h]
    · rw [show f_X6_isSign μ2 (60 : Int32) = some (0, μ2) from r, bc_s, if_pos (rfl : (0 : Int32) = 0)]
      rcases sgnM hT2 hm2 (c := 61) (by decide) with ⟨hp2, r2⟩ | ⟨hp2, r2⟩
      · rw [show f_X6_isSign μ2 (61 : Int32) = some (1, μ2) from r2, bc_s, if_neg (show ¬ (1 : Int32) = 0 by decide)]
        refine hL n (nI 61) (Or.inr rfl) ⟨hp2.1, Or.inr hp2.2⟩ (fun y => if x = y then 1 else 0) (fun y => by rw [i61.mpr hp2]; rfl) e9 _ ?_
        unfold NB2 NB3
        rw [hm2.2.2.2.2.1 (Or.inr hp2.1), if_neg (show ¬ lg_cmp (lN w2) (60 : Int64) = 0 from fun h => by have := (lgc_eq (by omega) (y := 60) (by decide)).mp h; omega)]
        refine bc_congr _ fun _ s => bc_congr _ fun y s2 => ?_
        rw [if_pos rfl]
        by_cases h : x = y
        · rw [if_pos h, if_pos h]
        · rw [if_neg h, if_neg h]
      · rw [show f_X6_isSign μ2 (61 : Int32) = some (0, μ2) from r2, bc_s, if_pos (rfl : (0 : Int32) = 0)]
        have hne : ¬ rkN (tkx κ2 w2) = nI 2 := fun h => by
          rcases (rk2 _).mp h with h | h
          · exact hp (i60.mp h)
          · exact hp2 (i61.mp h)
        have hL0 : fb_X1_readJoined_L17 n (f_X1_readRank n d) (f_X1_readJoined n d) (f_X1_readOne n d) (f_X1_readBehind n d) kk (n' + 1 + 1) σ2 (nI 2) (nI o) 1 0 = some ((), σ2) := by
          rw [fb_X1_readJoined_L17, if_neg (by decide), hx2.2.2.1, rankOf_e σ2 (by omega), bc_s, if_neg hne]
        rw [show n' + 1 + 1 = n by omega] at hL0
        rw [hL0, bc_s]
        exact ⟨σ2, x, μ2, rfl, rfl, c3, c4, Or.inr ⟨q2, e2, κ2, w2, m2, hT2, hx2, hm2, k1, k2, k3, k4, k5.mono (by omega)⟩⟩
theorem notP (hb : ∀ i, b i < 256) (hz : z ≤ 160) (hn : 160 < n) (ho : o < 5) {N : Nat} (A Nx : Wm → Option (Int32 × Wm)) (hA : SimP b z t n kk 3 o N A) (hN : SimP b z t n kk 2 (o + 1) N Nx) : SimP b z t n kk 2 o (N + 2) (NB n A Nx) := by
  intro d hd σ μ q e κ w m hT hx hm hmq
  obtain ⟨d, rfl⟩ : ∃ k, d = k + 2 := ⟨d - 2, by omega⟩
  have htl := tkx_lt hT
  rw [rr_eq]
  unfold fb_X1_readRank NB
  rw [if_pos (by decide), if_pos (show nI 2 = (2 : Int32) from rfl), hx.2.2.1]
  have i11 := tkx_w hT (c := 11) (by decide)
  rcases wrd_11 hb hz hT hm with ⟨hp, r⟩ | ⟨hp, r⟩
  · rw [r, bc_s, if_neg (show ¬ (1 : Int32) = 0 by decide), if_pos (show nI (tkx κ w) = (11 : Int32) by rw [i11.mpr hp]; rfl)]
    obtain ⟨σ', v, μ', g1, g2, g3, g4, g5⟩ := behind hb hz hn (r := 2) (by decide) ho Nx hN (s := -12) (fun v => if v = 0 then 1 else 0) not_stp (B := 5 * o + 2) (by omega) (d := d) (by omega) hT (by omega) (by omega) hx hm hmq
    rw [g1, bc_s]
    refine ⟨σ', v, μ', rfl, ?_, g3, g4, g5⟩
    rw [← g2]
    refine bc_congr _ fun r26 s => ?_
    by_cases h : r26 = 0
    · rw [if_pos h, if_pos h]
    · rw [if_neg h, if_neg h]
      refine bc_congr _ fun y s2 => ?_
      rw [bv_e]
      by_cases h : y = 0
      · rw [if_pos h, if_pos h]
      · rw [if_neg h, if_neg h]
  · rw [r, bc_s, if_pos (rfl : (0 : Int32) = 0), if_neg (show ¬ nI (tkx κ w) = (11 : Int32) from nI_ne (by omega) (by decide) (fun h => hp (i11.mp h)))]
    exact cmp2 hb hz hn A hA (by omega) hT hx hm hmq
theorem notP5 (hb : ∀ i, b i < 256) (hz : z ≤ 160) (hn : 160 < n) {N : Nat} (A : Wm → Option (Int32 × Wm)) (hA : SimP b z t n kk 3 5 N A) : SimP b z t n kk 2 5 (N + 2) (NB5 n A) := by
  intro d hd σ μ q e κ w m hT hx hm hmq
  obtain ⟨d, rfl⟩ : ∃ k, d = k + 2 := ⟨d - 2, by omega⟩
  have htl := tkx_lt hT
  rw [rr_eq]
  unfold fb_X1_readRank NB5
  rw [if_pos (by decide), if_pos (show nI 2 = (2 : Int32) from rfl), hx.2.2.1]
  have i11 := tkx_w hT (c := 11) (by decide)
  rcases wrd_11 hb hz hT hm with ⟨hp, r⟩ | ⟨hp, r⟩
  · rw [r, bc_s, if_neg (show ¬ (1 : Int32) = 0 by decide), if_pos (show nI (tkx κ w) = (11 : Int32) by rw [i11.mpr hp]; rfl)]
    obtain ⟨σ', v, μ', g1, g2, g3, g4, g5⟩ := behind5 (n := n) (kk := kk) hz (d := d) (s := -12) (r := nI 2) (B := 5 * 5 + 2) hT hx hm hmq
    rw [g1, bc_s]
    exact ⟨σ', v, μ', rfl, g2, g3, g4, g5⟩
  · rw [r, bc_s, if_pos (rfl : (0 : Int32) = 0), if_neg (show ¬ nI (tkx κ w) = (11 : Int32) from nI_ne (by omega) (by decide) (fun h => hp (i11.mp h)))]
    exact cmp2 hb hz hn A hA (by omega) hT hx hm hmq
end S2

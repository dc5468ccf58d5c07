/-! the reference's levels, told by what they call -/
def dn24 (σ : Wm) : Wm := (up3 σ.1 0 0 24 ((σ.1 0 0 24) - (1 : Int32)), σ.2)
def NB3 (n : Nat) (A : Wm → Option (Int32 × Wm)) (σ : Wm) (x0 : Int32) (x1 : Int32) : Option (Int32 × Wm) := bc (f_X6_next n σ) fun r13 σ14 => bc (A σ14) fun r16 σ17 => (if x1 = 0 then (if x0 = r16 then some ((1 : Int32), σ17) else some ((0 : Int32), σ17)) else (if r16 ≤ x0 then some ((0 : Int32), σ17) else some ((1 : Int32), σ17)))
def NB2 (n : Nat) (A : Wm → Option (Int32 × Wm)) (σ : Wm) (x0 : Int32) : Option (Int32 × Wm) := (if (lg_cmp σ.2 (60 : Int64)) = 0 then NB3 n A σ x0 (1 : Int32) else NB3 n A σ x0 (0 : Int32))
def NB1 (n : Nat) (A : Wm → Option (Int32 × Wm)) (σ2 : Wm) : Option (Int32 × Wm) := bc (A σ2) fun r5 σ6 => bc (f_X6_isSign σ6 (60 : Int32)) fun r8 σ9 => (if r8 = 0 then bc (f_X6_isSign σ9 (61 : Int32)) fun r22 σ23 => (if r22 = 0 then some (r5, σ23) else NB2 n A σ23 r5) else NB2 n A σ9 r5)
def NB (n : Nat) (A Nx : Wm → Option (Int32 × Wm)) (σ : Wm) : Option (Int32 × Wm) := bc (f_X6_isWord σ (110 : Int32) (111 : Int32) (116 : Int32) (0 : Int32) (0 : Int32) (0 : Int32) (0 : Int32) (0 : Int32)) fun r1 σ2 => (if r1 = 0 then NB1 n A σ2 else bc (f_X6_opens n σ2) fun r26 σ27 => (if r26 = 0 then some ((0 : Int32), σ27) else bc (Nx σ27) fun r30 σ31 => bv (dn24 σ31) fun σ33 => (if r30 = 0 then some ((1 : Int32), σ33) else some ((0 : Int32), σ33))))
def NB5 (n : Nat) (A : Wm → Option (Int32 × Wm)) (σ : Wm) : Option (Int32 × Wm) := bc (f_X6_isWord σ (110 : Int32) (111 : Int32) (116 : Int32) (0 : Int32) (0 : Int32) (0 : Int32) (0 : Int32) (0 : Int32)) fun r1 σ2 => (if r1 = 0 then NB1 n A σ2 else bc (f_X6_opens n σ2) fun r26 σ27 => some ((0 : Int32), σ27))
def AB3 (n : Nat) (σ : Wm) (x0 : Int32) : Option (Int32 × Wm) := (if (σ.1 0 0 25) = 0 then (if (σ.1 0 0 21) = (1 : Int32) then bc (f_X6_name σ) fun r18 σ19 => (if (σ19.1 0 0 25) = 0 then bc (f_X6_next n σ19) fun r22 σ23 => some (r18, σ23) else some (r18, σ19)) else bc (f_X6_fail σ) fun r15 σ16 => some (x0, σ16)) else bc (f_X6_fail σ) fun r11 σ12 => some (x0, σ12))
def AB2 (n : Nat) (σ : Wm) (x0 : Int32) : Option (Int32 × Wm) := bv (dn24 σ) fun σ41 => (if (σ41.1 0 0 25) = 0 then bc (f_X6_next n σ41) fun r43 σ44 => some (x0, σ44) else some (x0, σ41))
def AB1 (n : Nat) (σ6 : Wm) : Option (Int32 × Wm) := (if (σ6.1 0 0 25) = 0 then (if (σ6.1 0 0 21) = (2 : Int32) then bv (σ6.2.toInt32) fun v26 => bc (f_X6_next n σ6) fun r27 σ28 => some (v26, σ28) else AB3 n σ6 (0 : Int32)) else AB3 n σ6 (0 : Int32))
def AB (n : Nat) (Ax Ex : Wm → Option (Int32 × Wm)) (σ : Wm) : Option (Int32 × Wm) := bc (f_X6_isSign σ (45 : Int32)) fun r1 σ2 => (if r1 = 0 then bc (f_X6_isSign σ2 (40 : Int32)) fun r5 σ6 => (if r5 = 0 then AB1 n σ6 else bc (f_X6_opens n σ6) fun r30 σ31 => (if r30 = 0 then some ((0 : Int32), σ31) else bc (Ex σ31) fun r34 σ35 => bc (f_X6_isSign σ35 (41 : Int32)) fun r37 σ38 => (if r37 = 0 then bc (f_X6_fail σ38) fun r46 σ47 => AB2 n σ47 r34 else AB2 n σ38 r34))) else bc (f_X6_opens n σ2) fun r49 σ50 => (if r49 = 0 then some ((0 : Int32), σ50) else bc (Ax σ50) fun r53 σ54 => bv (-r53) fun v56 => bv (dn24 σ54) fun σ57 => some (v56, σ57)))
def AB5 (n : Nat) (σ : Wm) : Option (Int32 × Wm) := bc (f_X6_isSign σ (45 : Int32)) fun r1 σ2 => (if r1 = 0 then bc (f_X6_isSign σ2 (40 : Int32)) fun r5 σ6 => (if r5 = 0 then AB1 n σ6 else bc (f_X6_opens n σ6) fun r30 σ31 => some ((0 : Int32), σ31)) else bc (f_X6_opens n σ2) fun r49 σ50 => some ((0 : Int32), σ50))
section LV
variable {b : Nat → Nat} {z t n kk o q e κ w m : Nat}
theorem opn5 {μ : Wm} (hm : SM b z t q e κ w 5 μ) : ∃ μ', f_X6_opens n μ = some (0, μ') ∧ BM μ' ∧ μ'.1 0 0 26 = nI q ∧ FrP μ μ' := by
  unfold f_X6_opens
  obtain ⟨μ', a1, a2, a3, a4⟩ := failM hm
  rw [if_pos (show μ.1 0 0 24 = (5 : Int32) from hm.2.2.2.2.2.2), a1, bc_s]
  exact ⟨μ', rfl, a2, a3, a4⟩
theorem opn (hb : ∀ i, b i < 256) (hz : z ≤ 160) (hn : 160 < n) {σ : Gm} {μ : Wm} (ho : o < 5) (hT : TK b z q e κ w) (h4 : ¬ κ = 4) (hx : SX b z q e κ w m σ) (hm : SM b z t q e κ w o μ) : ∃ q' e' κ' w' σ' μ', f_X1_advance n σ = some ((), σ') ∧ f_X6_opens n μ = some (1, μ') ∧ TK b z q' e' κ' w' ∧ SX b z q' e' κ' w' m σ' ∧ SM b z t q' e' κ' w' (o + 1) μ' ∧ e ≤ q' ∧ FrT σ σ' ∧ FrP μ μ' := by
  unfold f_X6_opens
  have h24 : μ.1 0 0 24 = nI o := hm.2.2.2.2.2.2
  rw [h24, if_neg (show ¬ nI o = (5 : Int32) from nI_ne (by omega) (by decide) (show ¬ o = 5 by omega)), nI_1, bv_e]
  have f1 : FrP μ (up3 μ.1 0 0 24 (nI (o + 1)), μ.2) := FrP.up (by omega)
  obtain ⟨h1, h2, h3, h5, h6, h7, h8⟩ := hm
  have hm1 : SM b z t q e κ w (o + 1) (up3 μ.1 0 0 24 (nI (o + 1)), μ.2) := ⟨h1.frP f1, (u1_of (by omega)).trans h2, (u1_of (by omega)).trans h3, fun h => (u1_of (by omega)).trans (h5 h), h6, (u1_of (by omega)).trans h7, u1_at _ _ _ _ _ _⟩
  obtain ⟨q', e', κ', w', σ', μ', a1, a2, a3, a4, a5, a6, a7, a8⟩ := adv2 hb hz hn hT h4 hx hm1
  rw [a2, bc_s]
  exact ⟨q', e', κ', w', σ', μ', a1, rfl, a3, a4, a5, a6, a7, f1.tr a8.P⟩
theorem dn_SM {μ : Wm} (hm : SM b z t q e κ w (o + 1) μ) : SM b z t q e κ w o (dn24 μ) := by
  have f1 : FrP μ (dn24 μ) := FrP.up (by omega)
  obtain ⟨h1, h2, h3, h5, h6, h7, h8⟩ := hm
  refine ⟨h1.frP f1, (u1_of (by omega)).trans h2, (u1_of (by omega)).trans h3, fun h => (u1_of (by omega)).trans (h5 h), h6, (u1_of (by omega)).trans h7, (u1_at _ _ _ _ _ _).trans ?_⟩
  rw [h8]
  exact nI_pred o
theorem dn_P (μ : Wm) : FrP μ (dn24 μ) := FrP.up (by omega)
theorem dn_B {μ : Wm} (h : BM μ) : BM (dn24 μ) := (u1_of (by omega)).trans h
theorem dn_26 (μ : Wm) : (dn24 μ).1 0 0 26 = μ.1 0 0 26 := u1_of (by omega)
/-- a not, a - -/
theorem behind (hb : ∀ i, b i < 256) (hz : z ≤ 160) (hn : 160 < n) {r N : Nat} (hr : r ≤ 5) (ho : o < 5) (Nx : Wm → Option (Int32 × Wm)) (hN : SimP b z t n kk r (o + 1) N Nx) {s : Int32} (u : Int32 → Int32) (hu : ∀ (ν : Nat → Int32) (v : Int32) (st : List Int32), stp ν s (v :: st) = some (u v :: st)) {B : Nat} (hB : B ≤ 5 * (o + 1) + r) {d : Nat} (hd : N ≤ d) {σ : Gm} {μ : Wm} (hT : TK b z q e κ w) (h4 : ¬ κ = 4) (h0 : ¬ κ = 0) (hx : SX b z q e κ w m σ) (hm : SM b z t q e κ w o μ) (hmq : m ≤ q) :
    RES b z t kk (f_X1_readBehind n (d + 1) kk σ s (nI r) (nI o)) (bc (f_X6_opens n μ) fun r49 σ50 => (if r49 = 0 then some ((0 : Int32), σ50) else bc (Nx σ50) fun r53 σ54 => some (u r53, dn24 σ54))) σ μ q m m o B := by
  have hqe := hT.fact.2.2.2.2.2.2.1 h4 h0
  obtain ⟨q1, e1, κ1, w1, σ1, μ1, a1, a2, hT1, hx1, hm1, a3, a4, a5⟩ := opn hb hz hn ho hT h4 hx hm
  rw [rb_eq]
  unfold fb_X1_readBehind
  rw [if_pos (show nI o < (5 : Int32) from nI_lt ho (by decide)), a1, a2, bc_s, bc_s, if_neg (by decide), nI_1]
  obtain ⟨σ2, y, μ2, c1, c2, c3, c4, c5⟩ := hN d hd σ1 μ1 q1 e1 κ1 w1 m hT1 hx1 hm1 (by omega)
  rw [c1, c2, bc_s, bc_s]
  have fP : FrP μ (dn24 μ2) := (a5.tr c4).tr (dn_P μ2)
  have fR : FrR kk σ σ2 := (a4.R kk).tr c3
  rcases c5 with ⟨b1, b2, b3⟩ | ⟨q2, e2, κ2, w2, m2, hT2, hx2, hm2, k1, k2, k3, k4, k5⟩
  · obtain ⟨σ3, p1, p2, p3, p4⟩ := putB (kk := kk) b1 s
    rw [p1, bc_s]
    exact ⟨σ3, _, _, rfl, rfl, fR.tr p4, fP, Or.inl ⟨p2, dn_B b2, by rw [p3, dn_26]; exact b3⟩⟩
  · have hq2 := hT2.fact.1
    obtain ⟨σ3, p1, p2, p3, p4, p5⟩ := putX (kk := kk) hx2 (show m2 < 160 by omega) s
    rw [p1, bc_s]
    have hNm1 : Nm μ1 = Nm μ := Nm_fr a5
    refine ⟨σ3, _, _, rfl, rfl, fR.tr p5, fP, Or.inr ⟨q2, e2, κ2, w2, m2 + 1, hT2, p2, dn_SM hm2, by omega, by omega, by omega, fun j hj => by rw [p4 j (by omega), k4 j hj, a4 11 kk j (by omega)], ?_⟩⟩
    exact Cd.un (v := y) (((hNm1 ▸ k5).mono hB).cong fun j j1 j2 => p4 j (by omega)) p3 (fun st => hu _ _ _)
theorem neg_stp (ν : Nat → Int32) (v : Int32) (st : List Int32) : stp ν (-1000) (v :: st) = some (-v :: st) := rfl
theorem not_stp (ν : Nat → Int32) (v : Int32) (st : List Int32) : stp ν (-12) (v :: st) = some ((if v = 0 then 1 else 0) :: st) := rfl
/-- at the deepest -/
theorem behind5 (hz : z ≤ 160) {d : Nat} {σ : Gm} {μ : Wm} {s r : Int32} {B : Nat} (hT : TK b z q e κ w) (hx : SX b z q e κ w m σ) (hm : SM b z t q e κ w 5 μ) (hmq : m ≤ q) :
    RES b z t kk (f_X1_readBehind n (d + 1) kk σ s r (nI 5)) (bc (f_X6_opens n μ) fun _ σ50 => some ((0 : Int32), σ50)) σ μ q m m 5 B := by
  have hqz := hT.fact.1
  obtain ⟨μ', a1, a2, a3, a4⟩ := opn5 (n := n) hm
  obtain ⟨σ', c1, c2, c3, c4⟩ := failX (kk := kk) hz hqz (by omega) hx
  rw [rb_eq]
  unfold fb_X1_readBehind
  rw [if_neg (by decide), a1, c1, bc_s, bc_s]
  exact ⟨σ', _, μ', rfl, rfl, c4, a4, Or.inl ⟨c2, a2, by rw [c3, a3]⟩⟩
/-- names -/
theorem name_t (hb : ∀ i, b i < 256) (hz : z ≤ 160) {μ : Wm} (hT : TK b z q e κ w) (hm : SM b z t q e κ w o μ) (h1 : κ = 1) (hw : w < 6) : f_X6_name μ = some (Nm μ w, μ) := by
  unfold f_X6_name Nm
  rw [if_pos hw]
  rcases wrd_0 hb hz hT hm with ⟨⟨-, rfl⟩, r⟩ | ⟨a0, r⟩
  · rw [r, bc_s, if_neg (by decide)]
  rw [r, bc_s, if_pos rfl]
  rcases wrd_1 hb hz hT hm with ⟨⟨-, rfl⟩, r⟩ | ⟨a1, r⟩
  · rw [r, bc_s, if_neg (by decide)]
  rw [r, bc_s, if_pos rfl]
  rcases wrd_2 hb hz hT hm with ⟨⟨-, rfl⟩, r⟩ | ⟨a2, r⟩
  · rw [r, bc_s, if_neg (by decide)]
  rw [r, bc_s, if_pos rfl]
  rcases wrd_3 hb hz hT hm with ⟨⟨-, rfl⟩, r⟩ | ⟨a3, r⟩
  · rw [r, bc_s, if_neg (by decide)]
  rw [r, bc_s, if_pos rfl]
  rcases wrd_4 hb hz hT hm with ⟨⟨-, rfl⟩, r⟩ | ⟨a4, r⟩
  · rw [r, bc_s, if_neg (by decide)]
  rw [r, bc_s, if_pos rfl]
  rcases wrd_5 hb hz hT hm with ⟨⟨-, rfl⟩, r⟩ | ⟨a5, r⟩
  · rw [r, bc_s, if_neg (by decide)]
  exfalso
  omega
theorem name_f (hb : ∀ i, b i < 256) (hz : z ≤ 160) {μ : Wm} (hT : TK b z q e κ w) (hm : SM b z t q e κ w o μ) (hw : ¬ (κ = 1 ∧ w < 6)) : ∃ μ', f_X6_name μ = some (0, μ') ∧ BM μ' ∧ μ'.1 0 0 26 = nI q ∧ FrP μ μ' := by
  obtain ⟨μ', a1, a2, a3, a4⟩ := failM hm
  unfold f_X6_name
  rcases wrd_0 hb hz hT hm with ⟨⟨b1, b2⟩, r⟩ | ⟨-, r⟩
  · exact absurd ⟨b1, by omega⟩ hw
  rw [r, bc_s, if_pos rfl]
  rcases wrd_1 hb hz hT hm with ⟨⟨b1, b2⟩, r⟩ | ⟨-, r⟩
  · exact absurd ⟨b1, by omega⟩ hw
  rw [r, bc_s, if_pos rfl]
  rcases wrd_2 hb hz hT hm with ⟨⟨b1, b2⟩, r⟩ | ⟨-, r⟩
  · exact absurd ⟨b1, by omega⟩ hw
  rw [r, bc_s, if_pos rfl]
  rcases wrd_3 hb hz hT hm with ⟨⟨b1, b2⟩, r⟩ | ⟨-, r⟩
  · exact absurd ⟨b1, by omega⟩ hw
  rw [r, bc_s, if_pos rfl]
  rcases wrd_4 hb hz hT hm with ⟨⟨b1, b2⟩, r⟩ | ⟨-, r⟩
  · exact absurd ⟨b1, by omega⟩ hw
  rw [r, bc_s, if_pos rfl]
  rcases wrd_5 hb hz hT hm with ⟨⟨b1, b2⟩, r⟩ | ⟨-, r⟩
  · exact absurd ⟨b1, by omega⟩ hw
  rw [r, bc_s, if_pos rfl, a1, bc_s]
  exact ⟨μ', rfl, a2, a3, a4⟩
theorem tkx_lo (hT : TK b z q e κ w) : tkx κ w < 6 ↔ (κ = 1 ∧ w < 6) := by
  obtain ⟨h1, h2, h3, h4⟩ := hT.or
  rcases h4 with rfl | rfl | rfl | rfl | rfl
  · show 257 < 6 ↔ (0 = 1 ∧ w < 6)
    omega
  · show w < 6 ↔ (1 = 1 ∧ w < 6)
    omega
  · show 256 < 6 ↔ (2 = 1 ∧ w < 6)
    omega
  · show w < 6 ↔ (3 = 1 ∧ w < 6)
    omega
  · show 258 < 6 ↔ (4 = 1 ∧ w < 6)
    omega
/-- a number, a name, or what can't stand there -/
theorem atom1 (hb : ∀ i, b i < 256) (hz : z ≤ 160) (hn : 160 < n) {σ : Gm} {μ : Wm} (ho : o ≤ 5) (hT : TK b z q e κ w) (hx : SX b z q e κ w m σ) (hm : SM b z t q e κ w o μ) (hmq : m ≤ q) (h45 : ¬ (κ = 3 ∧ w = 45)) (h40 : ¬ (κ = 3 ∧ w = 40)) (f1 : Nat → Gm → Int32 → Int32 → Option (Unit × Gm)) (f2 : Nat → Gm → Int32 → Int32 → Option (Unit × Gm)) (f3 : Nat → Gm → Int32 → Option (Unit × Gm)) (f4 : Nat → Gm → Int32 → Int32 → Int32 → Option (Unit × Gm)) :
    RES b z t kk (fb_X1_readOne n f1 f2 f3 f4 kk σ (nI o)) (AB1 n μ) σ μ q m m o (5 * o + 5) := by
  have hqz := hT.fact.1
  have hlt := hT.fact.2.2.2.2.2.2.2
  have ht258 := tkx_lt hT
  have h25 : μ.1 0 0 25 = 0 := hm.2.2.2.2.2.1
  have h21 : μ.1 0 0 21 = nI κ := hm.2.2.1
  have hκ := hT.fact.2.1
  have i45 := tkx_s hT (c := 45) (by unfold isS; omega)
  have i40 := tkx_s hT (c := 40) (by unfold isS; omega)
  have i256 := tkx_n hT
  have ilo := tkx_lo hT
  unfold fb_X1_readOne AB1
  rw [hx.2.2.1, h25, if_pos (rfl : (0 : Int32) = 0), h21]
  by_cases h2 : κ = 2
  · have hq := hlt (by omega)
    have hqe := hT.fact.2.2.2.2.2.2.1 (by omega) (by omega)
    have hw9 := hT.fact.2.2.2.1 h2
    rw [if_pos (show nI (tkx κ w) = (256 : Int32) by rw [i256.mpr h2]; rfl), if_pos (show nI κ = (2 : Int32) by rw [h2]; rfl), hx.2.2.2.2.1 h2, bv_e, hm.2.2.2.2.1 (Or.inl h2), lN_i]
    obtain ⟨σ3, p1, p2, p3, p4, p5⟩ := putX (kk := kk) hx (show m < 160 by omega) (nI w)
    obtain ⟨q1, e1, κ1, w1, σ1, μ1, a1, a2, hT1, hx1, hm1, a3, a4, a5⟩ := adv2 hb hz hn hT (by omega) p2 hm
    rw [p1, bc_s, a1, bc_s, a2, bc_s]
    refine ⟨σ1, _, μ1, rfl, rfl, p5.tr (a4.R kk), a5.P, Or.inr ⟨q1, e1, κ1, w1, m + 1, hT1, hx1, hm1, by omega, by omega, by omega, fun j hj => by rw [a4 11 kk j (by omega), p4 j (by omega)], ?_⟩⟩
    refine Cd.one (s := nI w) (by rw [a4 11 kk m (by omega)]; exact p3) (fun st hst => ?_)
    unfold stp
    have g1 : ¬ nI w < (0 : Int32) := nI_pos (by omega)
    have g2 : ¬ nI w < (-6 : Int32) := by
      rw [Int32.lt_iff_toInt_lt, nI_toInt (by omega)]
      have : ((-6 : Int32)).toInt = -6 := by decide
      omega
    rw [if_neg g2, if_pos (show st.length < 32 by omega), if_neg g1]
  · rw [if_neg (show ¬ nI (tkx κ w) = (256 : Int32) from nI_ne (by omega) (by decide) (fun h => h2 (i256.mp h))), if_neg (show ¬ nI κ = (2 : Int32) from nI_ne (by omega) (by decide) h2)]
    unfold AB3
    rw [h25, if_pos (rfl : (0 : Int32) = 0), h21]
    by_cases hlo : κ = 1 ∧ w < 6
    · have hq := hlt (by omega)
      have hqe := hT.fact.2.2.2.2.2.2.1 (by omega) (by omega)
      have htl := ilo.mpr hlo
      have htw : tkx κ w = w := by rw [hlo.1]; rfl
      rw [if_neg (show ¬ (6 : Int32) ≤ nI (tkx κ w) from nI_ge (show tkx κ w < 6 from htl) (by decide)), if_pos (show nI κ = (1 : Int32) by rw [hlo.1]; rfl), name_t hb hz hT hm hlo.1 hlo.2, bc_s, h25, if_pos (rfl : (0 : Int32) = 0), htw]
      obtain ⟨σ3, p1, p2, p3, p4, p5⟩ := putX (kk := kk) hx (show m < 160 by omega) ((-1 : Int32) - nI w)
      obtain ⟨q1, e1, κ1, w1, σ1, μ1, a1, a2, hT1, hx1, hm1, a3, a4, a5⟩ := adv2 hb hz hn hT (by omega) p2 hm
      rw [p1, bc_s, a1, bc_s, a2, bc_s]
      refine ⟨σ1, _, μ1, rfl, rfl, p5.tr (a4.R kk), a5.P, Or.inr ⟨q1, e1, κ1, w1, m + 1, hT1, hx1, hm1, by omega, by omega, by omega, fun j hj => by rw [a4 11 kk j (by omega), p4 j (by omega)], ?_⟩⟩
      refine Cd.one (s := (-1 : Int32) - nI w) (by rw [a4 11 kk m (by omega)]; exact p3) (fun st hst => ?_)
      have h3 : ∀ w : Nat, w < 6 → (¬ (-1 : Int32) - nI w < -6 ∧ (-1 : Int32) - nI w < 0) ∧ (inb (-1 - ((-1 : Int32) - nI w)) 6 = true ∧ (-1 - ((-1 : Int32) - nI w)).toNatClampNeg = w) := by decide +kernel
      obtain ⟨⟨g1, g2⟩, g3, g4⟩ := h3 w hlo.2
      unfold stp
      rw [if_neg g1, if_pos (show st.length < 32 by omega), if_pos g2, if_pos g3, g4]
    · have hfx : ∀ g : Option (Unit × Gm), g = f_X1_fail σ → ∃ σ', bc g (fun _ s => some ((), s)) = some ((), σ') ∧ BX σ' ∧ σ' 2 0 6 = nI q ∧ FrR kk σ σ' := by
        intro g hg
        obtain ⟨σ', c1, c2, c3, c4⟩ := failX (kk := kk) hz hqz (by omega) hx
        rw [hg, c1, bc_s]
        exact ⟨σ', rfl, c2, c3, c4⟩
      obtain ⟨σ', c1, c2, c3, c4⟩ := hfx _ rfl
      rw [if_pos (show (6 : Int32) ≤ nI (tkx κ w) from nI_le (show 6 ≤ tkx κ w from Nat.le_of_not_lt (fun h => hlo (ilo.mp h))) (by omega)), if_neg (show ¬ nI (tkx κ w) = (45 : Int32) from nI_ne (by omega) (by decide) (fun h => h45 (i45.mp h))), if_neg (show ¬ nI (tkx κ w) = (40 : Int32) from nI_ne (by omega) (by decide) (fun h => h40 (i40.mp h))), c1]
      by_cases h1 : κ = 1
      · obtain ⟨μ', d1, d2, d3, d4⟩ := name_f hb hz hT hm hlo
        rw [if_pos (show nI κ = (1 : Int32) by rw [h1]; rfl), d1, bc_s, if_neg (by rw [d2]; decide)]
        exact ⟨σ', _, μ', rfl, rfl, c4, d4, Or.inl ⟨c2, d2, by rw [c3, d3]⟩⟩
      · obtain ⟨μ', d1, d2, d3, d4⟩ := failM hm
        rw [if_neg (show ¬ nI κ = (1 : Int32) from nI_ne (by omega) (by decide) h1), d1, bc_s]
        exact ⟨σ', _, μ', rfl, rfl, c4, d4, Or.inl ⟨c2, d2, by rw [c3, d3]⟩⟩
end LV

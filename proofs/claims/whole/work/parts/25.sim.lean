/-! what a row of steps comes to on a stack -/
def jnd (c a b : Int32) : Int32 := if c = 10 then (if a = 0 then 0 else if b = 0 then 0 else 1) else if c = 42 then a * b else if c = 43 then a + b else if c = 45 then a - b else if c = 60 then (if b ≤ a then 0 else 1) else if c = 61 then (if a = b then 1 else 0) else (if a = 0 then (if b = 0 then 0 else 1) else 1)
theorem joined_e (σ : Gm) (c a b : Int32) : f_X4_joined σ c a b = some (jnd c a b, σ) := by
  unfold f_X4_joined jnd
  repeat' split
  all_goals rfl
def stp (ν : Nat → Int32) (s : Int32) (st : List Int32) : Option (List Int32) :=
  if s < -6 then (if s = -1000 then (match st with
      | a :: r => some (-a :: r)
      | [] => none)
    else if s = -12 then (match st with
      | a :: r => some ((if a = 0 then 1 else 0) :: r)
      | [] => none)
    else (match st with
      | b :: a :: r => some (jnd (-1 - s) a b :: r)
      | _ => none))
  else if st.length < 32 then (if s < 0 then (if inb (-1 - s) 6 = true then some (ν (-1 - s).toNatClampNeg :: st) else none) else some (s :: st)) else none
def runc (ν : Nat → Int32) (row : Nat → Int32) : Nat → Nat → List Int32 → Option (List Int32)
  | 0, _, st => some st
  | i + 1, p, st => match stp ν (row p) st with
    | none => none
    | some st' => runc ν row i (p + 1) st'
theorem runc_add (ν row : Nat → Int32) : ∀ (i j p : Nat) (st s : List Int32), runc ν row i p st = some s → runc ν row (i + j) p st = runc ν row j (p + i) s
  | 0, j, p, st, s, h => by
    cases h
    rw [Nat.zero_add, Nat.add_zero]
  | i + 1, j, p, st, s, h => by
    rw [show i + 1 + j = (i + j) + 1 by omega]
    unfold runc at h ⊢
    cases h1 : stp ν (row p) st with
    | none => rw [h1] at h; cases h
    | some st' =>
      rw [h1] at h
      show runc ν row (i + j) (p + 1) st' = _
      rw [runc_add ν row i j (p + 1) st' s h, show p + 1 + i = p + (i + 1) by omega]
      cases j <;> rfl
theorem runc_congr (ν : Nat → Int32) {row row' : Nat → Int32} : ∀ (i p : Nat) (st : List Int32), (∀ j, p ≤ j → j < p + i → row' j = row j) → runc ν row' i p st = runc ν row i p st
  | 0, p, st, h => rfl
  | i + 1, p, st, h => by
    unfold runc
    rw [h p (Nat.le_refl _) (by omega)]
    cases stp ν (row p) st with
    | none => rfl
    | some st' => exact runc_congr ν i (p + 1) st' (fun j h1 h2 => h j (by omega) (by omega))
def Cd (ν row : Nat → Int32) (m m' B : Nat) (v : Int32) : Prop := m ≤ m' ∧ ∀ st : List Int32, st.length ≤ B → runc ν row (m' - m) m st = some (v :: st)
theorem Cd.mono {ν row : Nat → Int32} {m m' B B' : Nat} {v : Int32} (h : Cd ν row m m' B v) (hB : B' ≤ B) : Cd ν row m m' B' v := ⟨h.1, fun st hs => h.2 st (by omega)⟩
theorem Cd.cong {ν row row' : Nat → Int32} {m m' B : Nat} {v : Int32} (h : Cd ν row m m' B v) (hr : ∀ j, m ≤ j → j < m' → row' j = row j) : Cd ν row' m m' B v := ⟨h.1, fun st hs => by
  have h1 := h.1
  rw [runc_congr ν (m' - m) m st (fun j a b => hr j a (by omega))]
  exact h.2 st hs⟩
theorem Cd.one {ν row : Nat → Int32} {m B : Nat} {v s : Int32} (h : row m = s) (hs : ∀ st : List Int32, st.length ≤ B → stp ν s st = some (v :: st)) : Cd ν row m (m + 1) B v := ⟨by omega, fun st hl => by
  rw [show m + 1 - m = 0 + 1 by omega]
  unfold runc
  rw [h, hs st hl]
  rfl⟩
theorem Cd.un {ν row : Nat → Int32} {m m1 B : Nat} {v v' s : Int32} (h : Cd ν row m m1 B v) (hr : row m1 = s) (hs : ∀ st : List Int32, stp ν s (v :: st) = some (v' :: st)) : Cd ν row m (m1 + 1) B v' := ⟨by have := h.1; omega, fun st hl => by
  have h1 := h.1
  rw [show m1 + 1 - m = (m1 - m) + 1 by omega, runc_add ν row (m1 - m) 1 m st _ (h.2 st hl), show m + (m1 - m) = m1 by omega]
  unfold runc
  rw [hr, hs st]
  rfl⟩
theorem Cd.bin {ν row : Nat → Int32} {m m1 m2 B : Nat} {a b v s : Int32} (h : Cd ν row m m1 B a) (g : Cd ν row m1 m2 (B + 1) b) (hr : row m2 = s) (hs : ∀ st : List Int32, stp ν s (b :: a :: st) = some (v :: st)) : Cd ν row m (m2 + 1) B v := ⟨by have := h.1; have := g.1; omega, fun st hl => by
  have h1 := h.1
  have g1 := g.1
  rw [show m2 + 1 - m = (m1 - m) + ((m2 - m1) + 1) by omega, runc_add ν row (m1 - m) _ m st _ (h.2 st hl), show m + (m1 - m) = m1 by omega, runc_add ν row (m2 - m1) 1 m1 _ _ (g.2 (a :: st) (by simp; omega)), show m1 + (m2 - m1) = m2 by omega]
  unfold runc
  rw [hr, hs st]
  rfl⟩
def Nm (μ : Wm) : Nat → Int32 := fun j => if j < 6 then μ.1 0 0 (12 + j) else 0
theorem Nm_fr {μ μ' : Wm} (h : FrP μ μ') : Nm μ' = Nm μ := by
  funext j
  unfold Nm
  by_cases hj : j < 6
  · rw [if_pos hj, if_pos hj, h 0 0 (12 + j) (by omega)]
  · rw [if_neg hj, if_neg hj]
/-! a piece of a text read by both sides -/
def BAD (σ' : Gm) (μ' : Wm) : Prop := BX σ' ∧ BM μ' ∧ σ' 2 0 6 = μ'.1 0 0 26
def OK (b : Nat → Nat) (z t kk : Nat) (ν : Nat → Int32) (σ : Gm) (q m0 m o B : Nat) (v : Int32) (σ' : Gm) (μ' : Wm) : Prop := ∃ q' e' κ' w' m', TK b z q' e' κ' w' ∧ SX b z q' e' κ' w' m' σ' ∧ SM b z t q' e' κ' w' o μ' ∧ q ≤ q' ∧ m ≤ m' ∧ m' + q ≤ m + q' ∧ (∀ j, j < m → σ' 11 kk j = σ 11 kk j) ∧ Cd ν (σ' 11 kk) m0 m' B v
def RES (b : Nat → Nat) (z t kk : Nat) (fx : Option (Unit × Gm)) (fm : Option (Int32 × Wm)) (σ : Gm) (μ : Wm) (q m0 m o B : Nat) : Prop := ∃ σ' v μ', fx = some ((), σ') ∧ fm = some (v, μ') ∧ FrR kk σ σ' ∧ FrP μ μ' ∧ (BAD σ' μ' ∨ OK b z t kk (Nm μ) σ q m0 m o B v σ' μ')
def SimP (b : Nat → Nat) (z t n kk r o N : Nat) (A : Wm → Option (Int32 × Wm)) : Prop := ∀ d, N ≤ d → ∀ σ μ q e κ w m, TK b z q e κ w → SX b z q e κ w m σ → SM b z t q e κ w o μ → m ≤ q → RES b z t kk (f_X1_readRank n d kk σ (nI r) (nI o)) (A μ) σ μ q m m o (5 * o + r)
theorem rr_eq (n d : Nat) : f_X1_readRank n (d + 1) = fb_X1_readRank n (f_X1_readRank n d) (f_X1_readJoined n d) (f_X1_readOne n d) (f_X1_readBehind n d) := rfl
theorem rj_eq (n d : Nat) : f_X1_readJoined n (d + 1) = fb_X1_readJoined n (f_X1_readRank n d) (f_X1_readJoined n d) (f_X1_readOne n d) (f_X1_readBehind n d) := rfl
theorem ro_eq (n d : Nat) : f_X1_readOne n (d + 1) = fb_X1_readOne n (f_X1_readRank n d) (f_X1_readJoined n d) (f_X1_readOne n d) (f_X1_readBehind n d) := rfl
theorem rb_eq (n d : Nat) : f_X1_readBehind n (d + 1) = fb_X1_readBehind n (f_X1_readRank n d) (f_X1_readJoined n d) (f_X1_readOne n d) (f_X1_readBehind n d) := rfl
section SI
variable {b : Nat → Nat} {z t n kk o : Nat}
/-- a failed reader goes on failing -/
theorem rjB {σ : Gm} (hB : BX σ) {r i : Nat} (hr : r < 5) (f1 : Nat → Gm → Int32 → Int32 → Option (Unit × Gm)) (f2 : Nat → Gm → Int32 → Int32 → Option (Unit × Gm)) (f3 : Nat → Gm → Int32 → Option (Unit × Gm)) (f4 : Nat → Gm → Int32 → Int32 → Int32 → Option (Unit × Gm)) (x1 x2 x3 : Int32) : fb_X1_readJoined_L17 n f1 f2 f3 f4 kk (i + 1) σ (nI r) x1 x2 x3 = some ((), σ) := by
  rw [fb_X1_readJoined_L17]
  by_cases h : x2 ≤ x3
  · rw [if_pos h]
  · rw [if_neg h, hB.1, rankOf_e σ (by decide), bc_s, if_neg (by
      show ¬ rkN 258 = nI r
      rcases (show r = 0 ∨ r = 1 ∨ r = 2 ∨ r = 3 ∨ r = 4 by omega) with rfl | rfl | rfl | rfl | rfl <;> decide)]
theorem rrB (hn : 0 < n) : ∀ (k r d : Nat) (σ : Gm) (x1 : Int32), r + k = 5 → 2 * k + 2 ≤ d → BX σ → ∃ σ', f_X1_readRank n d kk σ (nI r) x1 = some ((), σ') ∧ BX σ' ∧ σ' 2 0 6 = σ 2 0 6 ∧ FrR kk σ σ'
  | 0, r, d, σ, x1, hr, hd, hB => by
    obtain ⟨d, rfl⟩ : ∃ d', d = d' + 2 := ⟨d - 2, by omega⟩
    have e5 : r = 5 := by omega
    subst e5
    obtain ⟨σ', g1, g2, g3, g4⟩ := failB (kk := kk) hB
    rw [rr_eq]
    unfold fb_X1_readRank
    rw [if_neg (by decide), ro_eq]
    unfold fb_X1_readOne
    rw [hB.1, if_neg (by decide), if_pos (by decide), if_neg (by decide), if_neg (by decide), g1, bc_s, bc_s]
    exact ⟨σ', rfl, g2, g3, g4⟩
  | k + 1, r, d, σ, x1, hr, hd, hB => by
    obtain ⟨d, rfl⟩ : ∃ d', d = d' + 2 := ⟨d - 2, by omega⟩
    obtain ⟨σ', g1, g2, g3, g4⟩ := rrB hn k (r + 1) (d + 1) σ x1 (by omega) (by omega) hB
    have key : fb_X1_readRank_J40 n (f_X1_readRank n (d + 1)) (f_X1_readJoined n (d + 1)) (f_X1_readOne n (d + 1)) (f_X1_readBehind n (d + 1)) kk σ (nI r) x1 = some ((), σ') := by
      unfold fb_X1_readRank_J40
      rw [nI_1, g1, bc_s, rj_eq]
      unfold fb_X1_readJoined
      obtain ⟨n', rfl⟩ : ∃ n', n = n' + 1 := ⟨n - 1, by omega⟩
      by_cases h2 : nI r = (2 : Int32)
      · rw [if_pos h2, rjB g2 (by omega), bc_s]
      · rw [if_neg h2, rjB g2 (by omega), bc_s]
    rw [rr_eq]
    unfold fb_X1_readRank
    rw [if_pos (show nI r < (5 : Int32) from nI_lt (show r < 5 by omega) (by decide)), key]
    by_cases h2 : nI r = (2 : Int32)
    · rw [if_pos h2, if_neg (by rw [hB.1]; decide)]
      exact ⟨σ', rfl, g2, g3, g4⟩
    · rw [if_neg h2]
      exact ⟨σ', rfl, g2, g3, g4⟩
/-- what a sign's step does -/
theorem stp_bin {c : Nat} (h : 9 ≤ c) (h2 : c < 256) (hc : ¬ c = 11) (ν : Nat → Int32) (a y : Int32) (st : List Int32) : stp ν ((-1 : Int32) - nI c) (y :: a :: st) = some (jnd (nI c) a y :: st) := by
  have h3 : ∀ c : Nat, c < 256 → 9 ≤ c → ¬ c = 11 → ((-1 : Int32) - nI c < -6 ∧ ¬ (-1 : Int32) - nI c = -1000 ∧ ¬ (-1 : Int32) - nI c = -12) ∧ -1 - ((-1 : Int32) - nI c) = nI c := by decide +kernel
  obtain ⟨⟨h4, h5, h6⟩, h7⟩ := h3 c h2 h hc
  unfold stp
  rw [if_pos h4, if_neg h5, if_neg h6, h7]
/-- a loop of signs of one rank, both sides -/
theorem loop2 (hb : ∀ i, b i < 256) (hz : z ≤ 160) (hn : 160 < n) {r N : Nat} (hr : r < 5) (P : Nat → Nat → Prop) (hP : ∀ q e κ w, TK b z q e κ w → (rkN (tkx κ w) = nI r ↔ P κ w) ∧ (P κ w → ¬ κ = 4 ∧ ¬ κ = 0 ∧ 9 ≤ tkx κ w ∧ tkx κ w < 256 ∧ ¬ tkx κ w = 11))
    (A : Wm → Option (Int32 × Wm)) (L : Nat → Wm → Int32 → Option (Int32 × Wm)) (hstop : ∀ i μ x q e κ w, TK b z q e κ w → SM b z t q e κ w o μ → ¬ P κ w → L (i + 1) μ x = some (x, μ)) (hbad : ∀ i μ x, BM μ → L (i + 1) μ x = some (x, μ))
    (hgo : ∀ i μ x q e κ w, TK b z q e κ w → SM b z t q e κ w o μ → P κ w → L (i + 1) μ x = bc (f_X6_next n μ) fun _ μ1 => bc (A μ1) fun y μ2 => L i μ2 (jnd (nI (tkx κ w)) x y))
    (hA : SimP b z t n kk (r + 1) o N A) {d : Nat} (hd : N ≤ d) (f2 : Nat → Gm → Int32 → Int32 → Option (Unit × Gm)) (f3 : Nat → Gm → Int32 → Option (Unit × Gm)) (f4 : Nat → Gm → Int32 → Int32 → Int32 → Option (Unit × Gm)) :
    ∀ (M : Nat) (i i' c : Nat) (σ : Gm) (μ : Wm) (x : Int32) (q e κ w m0 m : Nat), z - q < M → z - q < i → z - q < i' → c ≤ q → TK b z q e κ w → SX b z q e κ w m σ → SM b z t q e κ w o μ → m ≤ q → Cd (Nm μ) (σ 11 kk) m0 m (5 * o + r) x →
      RES b z t kk (fb_X1_readJoined_L17 n (f_X1_readRank n d) f2 f3 f4 kk i σ (nI r) (nI o) (nI 160) (nI c)) (L i' μ x) σ μ q m0 m o (5 * o + r) := by
  intro M
  induction M with
  | zero => exact fun i i' c σ μ x q e κ w m0 m hM => absurd hM (by omega)
  | succ M ih =>
    intro i i' c σ μ x q e κ w m0 m hM hi hi' hc hT hx hm hmq hC
    obtain ⟨i, rfl⟩ : ∃ k, i = k + 1 := ⟨i - 1, by omega⟩
    obtain ⟨i', rfl⟩ : ∃ k, i' = k + 1 := ⟨i' - 1, by omega⟩
    have hp1 := (hP q e κ w hT).1
    rw [fb_X1_readJoined_L17]
    by_cases hPw : P κ w
    · obtain ⟨h4, h0, h9, h256, h11⟩ := (hP q e κ w hT).2 hPw
      have hqz := hT.fact.2.2.2.2.2.2.2 h0
      have hqe := hT.fact.2.2.2.2.2.2.1 h4 h0
      have hrk := hp1.mpr hPw
      clear hp1
      rw [hgo i' μ x q e κ w hT hm hPw, if_neg (nI_ge (by omega) (by decide)), hx.2.2.1, rankOf_e σ (by omega), bc_s, if_pos hrk, bv_e, hx.2.2.1]
      obtain ⟨q1, e1, κ1, w1, σ1, μ1, a1, a2, hT1, hx1, hm1, a3, a4, a5⟩ := adv2 hb hz hn hT h4 hx hm
      rw [a1, a2, bc_s, bc_s, nI_1, nI_1]
      obtain ⟨σ2, y, μ2, c1, c2, c3, c4, c5⟩ := hA d hd σ1 μ1 q1 e1 κ1 w1 m hT1 hx1 hm1 (by omega)
      rw [c1, c2, bc_s, bc_s]
      obtain ⟨i, rfl⟩ : ∃ k, i = k + 1 := ⟨i - 1, by omega⟩
      obtain ⟨i', rfl⟩ : ∃ k, i' = k + 1 := ⟨i' - 1, by omega⟩
      have fP : FrP μ μ2 := a5.P.tr c4
      have fR : FrR kk σ σ2 := (a4.R kk).tr c3
      rcases c5 with ⟨b1, b2, b3⟩ | ⟨q2, e2, κ2, w2, m2, hT2, hx2, hm2, k1, k2, k3, k4, k5⟩
      · obtain ⟨σ3, p1, p2, p3, p4⟩ := putB (kk := kk) b1 ((-1 : Int32) - nI (tkx κ w))
        rw [p1, bc_s, rjB p2 hr, hbad i' μ2 _ b2]
        exact ⟨σ3, _, μ2, rfl, rfl, fR.tr p4, fP, Or.inl ⟨p2, b2, by rw [p3]; exact b3⟩⟩
      · have hq2 := hT2.fact.1
        obtain ⟨σ3, p1, p2, p3, p4, p5⟩ := putX (kk := kk) hx2 (show m2 < 160 by omega) ((-1 : Int32) - nI (tkx κ w))
        rw [p1, bc_s]
        have hNm1 : Nm μ1 = Nm μ := Nm_fr a5.P
        have hNm2 : Nm μ2 = Nm μ := Nm_fr fP
        have hC1 : Cd (Nm μ2) (σ3 11 kk) m0 (m2 + 1) (5 * o + r) (jnd (nI (tkx κ w)) x y) := by
          rw [hNm2]
          refine Cd.bin (m1 := m) (a := x) (b := y) (hC.cong fun j j1 j2 => ?_) ((hNm1 ▸ k5).cong fun j j1 j2 => p4 j (by omega)) p3 (fun st => stp_bin h9 h256 h11 _ _ _ _)
          rw [p4 j (by omega), k4 j j2, a4 11 kk j (by omega)]
        obtain ⟨σ4, v, μ4, r1, r2, r3, r4, r5⟩ := ih (i + 1) (i' + 1) (c + 1) σ3 μ2 (jnd (nI (tkx κ w)) x y) q2 e2 κ2 w2 m0 (m2 + 1) (by omega) (by omega) (by omega) (by omega) hT2 p2 hm2 (by omega) hC1
        refine ⟨σ4, v, μ4, r1, r2, (fR.tr p5).tr r3, fP.tr r4, ?_⟩
        rcases r5 with r5 | ⟨q5, e5, κ5, w5, m5, hT5, hx5, hm5, s1, s2, s3, s4, s5⟩
        · exact Or.inl r5
        · refine Or.inr ⟨q5, e5, κ5, w5, m5, hT5, hx5, hm5, by omega, by omega, by omega, fun j hj => ?_, by rw [← hNm2]; exact s5⟩
          rw [s4 j (by omega), p4 j (by omega), k4 j hj, a4 11 kk j (by omega)]
    · rw [hstop i' μ x q e κ w hT hm hPw]
      have hres : RES b z t kk (some ((), σ)) (some (x, μ)) σ μ q m0 m o (5 * o + r) := ⟨σ, x, μ, rfl, rfl, FrR.rf kk σ, FrP.rf μ, Or.inr ⟨q, e, κ, w, m, hT, hx, hm, Nat.le_refl _, Nat.le_refl _, Nat.le_refl _, fun _ _ => rfl, hC⟩⟩
      by_cases h160 : nI 160 ≤ nI c
      · rw [if_pos h160]; exact hres
      · rw [if_neg h160, hx.2.2.1, rankOf_e σ (by have := tkx_lt hT; omega), bc_s, if_neg (fun q9 => hPw (hp1.mp q9))]
        exact hres
/-- a rank whose signs come in any number -/
theorem star (hb : ∀ i, b i < 256) (hz : z ≤ 160) (hn : 160 < n) {r N : Nat} (hr : r < 5) (hr2 : ¬ r = 2) (P : Nat → Nat → Prop) (hP : ∀ q e κ w, TK b z q e κ w → (rkN (tkx κ w) = nI r ↔ P κ w) ∧ (P κ w → ¬ κ = 4 ∧ ¬ κ = 0 ∧ 9 ≤ tkx κ w ∧ tkx κ w < 256 ∧ ¬ tkx κ w = 11))
    (A A' : Wm → Option (Int32 × Wm)) (L : Nat → Wm → Int32 → Option (Int32 × Wm)) (hstop : ∀ i μ x q e κ w, TK b z q e κ w → SM b z t q e κ w o μ → ¬ P κ w → L (i + 1) μ x = some (x, μ)) (hbad : ∀ i μ x, BM μ → L (i + 1) μ x = some (x, μ))
    (hgo : ∀ i μ x q e κ w, TK b z q e κ w → SM b z t q e κ w o μ → P κ w → L (i + 1) μ x = bc (f_X6_next n μ) fun _ μ1 => bc (A μ1) fun y μ2 => L i μ2 (jnd (nI (tkx κ w)) x y))
    (hA' : ∀ μ, A' μ = bc (A μ) fun x μ1 => L n μ1 x) (hA : SimP b z t n kk (r + 1) o N A) : SimP b z t n kk r o (N + 2) A' := by
  intro d hd σ μ q e κ w m hT hx hm hmq
  obtain ⟨d, rfl⟩ : ∃ k, d = k + 2 := ⟨d - 2, by omega⟩
  have h2 : ¬ nI r = (2 : Int32) := nI_ne (by omega) (by decide) hr2
  rw [rr_eq, hA']
  unfold fb_X1_readRank
  rw [if_pos (show nI r < (5 : Int32) from nI_lt (show r < 5 by omega) (by decide)), if_neg h2]
  unfold fb_X1_readRank_J40
  rw [nI_1]
  obtain ⟨σ2, y, μ2, c1, c2, c3, c4, c5⟩ := hA (d + 1) (by omega) σ μ q e κ w m hT hx hm hmq
  rw [c1, c2, bc_s, bc_s, rj_eq]
  unfold fb_X1_readJoined
  rw [if_neg h2]
  obtain ⟨n', e9⟩ : ∃ n', n = n' + 1 := ⟨n - 1, by omega⟩
  rcases c5 with ⟨b1, b2, b3⟩ | ⟨q2, e2, κ2, w2, m2, hT2, hx2, hm2, k1, k2, k3, k4, k5⟩
  · have e1 := rjB (n := n) (kk := kk) b1 hr (i := n') (f_X1_readRank n d) (f_X1_readJoined n d) (f_X1_readOne n d) (f_X1_readBehind n d) (nI o) 160 0
    rw [← e9] at e1
    have e3 := hbad n' μ2 y b2
    rw [← e9] at e3
    rw [e1, e3, bc_s]
    exact ⟨σ2, y, μ2, rfl, rfl, c3, c4, Or.inl ⟨b1, b2, b3⟩⟩
  · have hq2 := hT2.fact.1
    have hNm2 : Nm μ2 = Nm μ := Nm_fr c4
    obtain ⟨σ4, v, μ4, r1, r2, r3, r4, r5⟩ := loop2 hb hz hn hr P hP A L hstop hbad hgo hA (d := d) (by omega) (f_X1_readJoined n d) (f_X1_readOne n d) (f_X1_readBehind n d) (z + 1) n n 0 σ2 μ2 y q2 e2 κ2 w2 m m2 (by omega) (by omega) (by omega) (by omega) hT2 hx2 hm2 (by omega) (by rw [hNm2]; exact k5.mono (by omega))
    rw [show fb_X1_readJoined_L17 n (f_X1_readRank n d) (f_X1_readJoined n d) (f_X1_readOne n d) (f_X1_readBehind n d) kk n σ2 (nI r) (nI o) (160 : Int32) (0 : Int32) = some ((), σ4) from r1, r2, bc_s]
    refine ⟨σ4, v, μ4, rfl, rfl, c3.tr r3, c4.tr r4, ?_⟩
    rcases r5 with r5 | ⟨q5, e5, κ5, w5, m5, hT5, hx5, hm5, s1, s2, s3, s4, s5⟩
    · exact Or.inl r5
    · exact Or.inr ⟨q5, e5, κ5, w5, m5, hT5, hx5, hm5, by omega, by omega, by omega, fun j hj => by rw [s4 j (by omega), k4 j hj], by rw [← hNm2]; exact s5⟩
end SI

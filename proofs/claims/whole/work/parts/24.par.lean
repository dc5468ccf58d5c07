def TK (b : Nat → Nat) (z q e κ w : Nat) : Prop := ∃ p, p ≤ z ∧ Tok b z p q e κ w
def SX (b : Nat → Nat) (z q e κ w m : Nat) (σ : Gm) : Prop := InX b z σ ∧ σ 2 0 4 = nI q ∧ σ 2 0 3 = nI (tkx κ w) ∧ (¬ κ = 4 → σ 2 0 2 = nI e) ∧ (κ = 2 → σ 2 0 5 = nI w) ∧ σ 2 0 6 = -1 ∧ σ 2 0 7 = nI m
def SM (b : Nat → Nat) (z t q e κ w o : Nat) (μ : Wm) : Prop := InM b z t μ ∧ μ.1 0 0 22 = nI q ∧ μ.1 0 0 21 = nI κ ∧ (¬ κ = 4 → μ.1 0 0 20 = nI e) ∧ (κ = 2 ∨ κ = 3 → μ.2 = lN w) ∧ μ.1 0 0 25 = 0 ∧ μ.1 0 0 24 = nI o
/-- failed -/
def BX (σ : Gm) : Prop := σ 2 0 3 = nI 258 ∧ ¬ σ 2 0 6 = -1 ∧ ∃ m, σ 2 0 7 = nI m ∧ m ≤ 160
def BM (μ : Wm) : Prop := μ.1 0 0 25 = 1
def FrR (kk : Nat) (σ σ' : Gm) : Prop := ∀ c k j, ¬ ((c = 2 ∧ k = 0 ∧ 2 ≤ j ∧ j ≤ 7) ∨ (c = 11 ∧ k = kk)) → σ' c k j = σ c k j
theorem FrR.rf (kk : Nat) (σ : Gm) : FrR kk σ σ := fun _ _ _ _ => rfl
theorem FrR.tr {kk : Nat} {a b c : Gm} (h : FrR kk a b) (g : FrR kk b c) : FrR kk a c := fun x y z q => (g x y z q).trans (h x y z q)
theorem FrR.up {kk : Nat} {σ : Gm} {j : Nat} {v : Int32} (h : 2 ≤ j ∧ j ≤ 7) : FrR kk σ (up3 σ 2 0 j v) := fun c k i q => up3_of (fun ⟨a, b, e⟩ => q (Or.inl ⟨a, b, by omega⟩))
theorem FrR.st {kk : Nat} {σ : Gm} {j : Nat} {v : Int32} : FrR kk σ (up3 σ 11 kk j v) := fun c k i q => up3_of (fun ⟨a, b, e⟩ => q (Or.inr ⟨a, b⟩))
theorem FrT.R {σ σ' : Gm} (kk : Nat) (h : FrT σ σ') : FrR kk σ σ' := fun c k j q => h c k j (by omega)
def FrP (μ μ' : Wm) : Prop := ∀ c k j, ¬ (c = 0 ∧ k = 0 ∧ 20 ≤ j ∧ j ≤ 26) → μ'.1 c k j = μ.1 c k j
theorem FrP.rf (μ : Wm) : FrP μ μ := fun _ _ _ _ => rfl
theorem FrP.tr {a b c : Wm} (h : FrP a b) (g : FrP b c) : FrP a c := fun x y z q => (g x y z q).trans (h x y z q)
theorem FrP.up {μ : Wm} {j : Nat} {v : Int32} {L : Int64} (h : 20 ≤ j ∧ j ≤ 26) : FrP μ (up3 μ.1 0 0 j v, L) := fun c k i q => u1_of (fun ⟨a, b, e⟩ => q ⟨a, b, by omega⟩)
theorem FrM.P {μ μ' : Wm} (h : FrM μ μ') : FrP μ μ' := fun c k j q => h c k j (by omega)
theorem InX.frR {b : Nat → Nat} {z kk : Nat} {σ σ' : Gm} (h : InX b z σ) (f : FrR kk σ σ') : InX b z σ' := ⟨by rw [f 2 0 1 (by omega)]; exact h.1, fun i hi => by rw [f 6 0 i (by omega)]; exact h.2 i hi⟩
theorem InM.frP {b : Nat → Nat} {z t : Nat} {μ μ' : Wm} (h : InM b z t μ) (f : FrP μ μ') : InM b z t μ' := ⟨by rw [f 0 0 18 (by omega)]; exact h.1, h.2.1, by rw [f 0 0 19 (by omega)]; exact h.2.2.1, fun i hi => by rw [f 1 0 _ (by omega)]; exact h.2.2.2 i hi⟩
theorem nI_nm1 {q : Nat} (h : q < 2 ^ 31) : ¬ nI q = (-1 : Int32) := by
  intro h2
  have h3 := congrArg Int32.toInt h2
  rw [nI_toInt h] at h3
  have h4 : ((-1 : Int32)).toInt = -1 := by decide
  omega
section PR
variable {b : Nat → Nat} {z t n q e κ w m o kk : Nat}
theorem TK.fact (h : TK b z q e κ w) : q ≤ z ∧ κ ≤ 4 ∧ (κ = 1 → w < 12 ∨ w = 258) ∧ (κ = 2 → w ≤ 9999) ∧ (κ = 3 → isS w) ∧ (¬ κ = 4 → q ≤ e ∧ e ≤ z) ∧ (¬ κ = 4 → ¬ κ = 0 → q < e) ∧ (¬ κ = 0 → q < z) := by
  obtain ⟨p, hp, hT⟩ := h
  have h1 := tok_q hT hp
  have h2 := tok_e hT hp
  rcases hT.2 with ⟨a, b1, c⟩ | ⟨a, b1, c, d, f⟩ | ⟨a, b1, c, d, f, g⟩ | ⟨a, b1, c, d, f⟩ | ⟨a, b1, c⟩
  · exact ⟨h1.2, by omega, by omega, by omega, by omega, fun h => by have := h2 h; omega, fun h => (h2 h).2.2, by omega⟩
  · refine ⟨h1.2, by omega, fun _ => ?_, by omega, by omega, fun h => by have := h2 h; omega, fun h => (h2 h).2.2, by omega⟩
    rcases f with ⟨f, -⟩ | ⟨f, -⟩ <;> omega
  · refine ⟨h1.2, by omega, by omega, fun _ => ?_, by omega, fun h => by have := h2 h; omega, fun h => (h2 h).2.2, by omega⟩
    have hd : ∀ k, k < e - q → b (q + k) - 48 ≤ 9 := fun k hk => by
      have h5 := ru_in isD b (z - q) q (q + k) (by omega) (by omega)
      unfold isD at h5
      omega
    have h6 : ∀ k, k ≤ e - q → nvv b q k < 10 ^ k := by
      intro k
      induction k with
      | zero => intro _; rw [nvv]; omega
      | succ k ih =>
        intro hk
        have h7 := ih (by omega)
        have h8 := hd k (by omega)
        rw [nvv, Nat.pow_succ]
        omega
    have h7 := h6 (e - q) (Nat.le_refl _)
    have h8 : 10 ^ (e - q) ≤ 10 ^ 4 := Nat.pow_le_pow_right (by decide) (by omega)
    omega
  · refine ⟨h1.2, by omega, by omega, by omega, fun _ => by rw [f]; exact c, fun h => by have := h2 h; omega, fun h => (h2 h).2.2, by omega⟩
  · exact ⟨h1.2, by omega, by omega, by omega, by omega, fun h => absurd a h, fun h => absurd a h, by omega⟩
theorem TK.or (h : TK b z q e κ w) : (¬ κ = 1 ∨ w < 12 ∨ w = 258) ∧ (¬ κ = 2 ∨ w ≤ 9999) ∧ (¬ κ = 3 ∨ w = 40 ∨ w = 41 ∨ w = 59 ∨ w = 43 ∨ w = 45 ∨ w = 42 ∨ w = 60 ∨ w = 61) ∧ (κ = 0 ∨ κ = 1 ∨ κ = 2 ∨ κ = 3 ∨ κ = 4) := by
  have hf := h.fact
  refine ⟨?_, ?_, ?_, by omega⟩
  · by_cases h1 : κ = 1
    · exact Or.inr (hf.2.2.1 h1)
    · exact Or.inl h1
  · by_cases h1 : κ = 2
    · exact Or.inr (hf.2.2.2.1 h1)
    · exact Or.inl h1
  · by_cases h1 : κ = 3
    · exact Or.inr (hf.2.2.2.2.1 h1)
    · exact Or.inl h1
/-- on to the next token, both sides -/
theorem adv2 (hb : ∀ i, b i < 256) (hz : z ≤ 160) (hn : 160 < n) {σ : Gm} {μ : Wm} (hT : TK b z q e κ w) (h4 : ¬ κ = 4) (hx : SX b z q e κ w m σ) (hm : SM b z t q e κ w o μ) : ∃ q' e' κ' w' σ' μ', f_X1_advance n σ = some ((), σ') ∧ f_X6_next n μ = some ((), μ') ∧ TK b z q' e' κ' w' ∧ SX b z q' e' κ' w' m σ' ∧ SM b z t q' e' κ' w' o μ' ∧ e ≤ q' ∧ FrT σ σ' ∧ FrM μ μ' := by
  have hf := hT.fact
  have hez := hf.2.2.2.2.2.1 h4
  obtain ⟨q', e', κ', w', hT'⟩ := tok_ex b hez.2
  obtain ⟨σ', a1, a2, a3, a4, a5, a6⟩ := xadv hb hz hn hx.1 (hx.2.2.2.1 h4) hez.2 hT'
  obtain ⟨μ', c1, c2, c3, c4, c5, c6⟩ := madv hb hz hn hm.1 (hm.2.2.2.1 h4) hez.2 hT'
  have h0 := tok_q hT' hez.2
  exact ⟨q', e', κ', w', σ', μ', a1, c1, ⟨e, hez.2, hT'⟩, ⟨hx.1.fr a2, a3, a4, a5, a6, (a2 2 0 6 (by omega)).trans hx.2.2.2.2.2.1, (a2 2 0 7 (by omega)).trans hx.2.2.2.2.2.2⟩, ⟨hm.1.fr c2, c3, c4, c5, c6, (c2 0 0 25 (by omega)).trans hm.2.2.2.2.2.1, (c2 0 0 24 (by omega)).trans hm.2.2.2.2.2.2⟩, h0.1, a2, c2⟩
/-- the class's fail -/
theorem failX (hz : z ≤ 160) (hqz : q ≤ z) (hmz : m ≤ 160) {σ : Gm} (hx : SX b z q e κ w m σ) : ∃ σ', f_X1_fail σ = some ((), σ') ∧ BX σ' ∧ σ' 2 0 6 = nI q ∧ FrR kk σ σ' := by
  unfold f_X1_fail
  rw [if_pos hx.2.2.2.2.2.1, bv_e, bv_e]
  exact ⟨_, rfl, ⟨up3_at _ _ _ _ _, by rw [up3_of (by omega), up3_at, hx.2.1]; exact nI_nm1 (by omega), m, by rw [up3_of (by omega), up3_of (by omega)]; exact hx.2.2.2.2.2.2, hmz⟩, by rw [up3_of (by omega), up3_at, hx.2.1], (FrR.up (by omega)).tr (FrR.up (by omega))⟩
theorem failB {σ : Gm} (hx : BX σ) : ∃ σ', f_X1_fail σ = some ((), σ') ∧ BX σ' ∧ σ' 2 0 6 = σ 2 0 6 ∧ FrR kk σ σ' := by
  unfold f_X1_fail
  obtain ⟨h1, h2, m, h3, h4⟩ := hx
  rw [if_neg h2, bv_e]
  exact ⟨_, rfl, ⟨up3_at _ _ _ _ _, by rw [up3_of (by omega)]; exact h2, m, by rw [up3_of (by omega)]; exact h3, h4⟩, up3_of (by omega), FrR.up (by omega)⟩
theorem expB {σ : Gm} (hx : BX σ) {c : Nat} (hc : c < 258) : ∃ σ', f_X1_expect n σ (nI c) = some ((), σ') ∧ BX σ' ∧ σ' 2 0 6 = σ 2 0 6 ∧ FrR kk σ σ' := by
  unfold f_X1_expect
  obtain ⟨σ', g1, g2, g3, g4⟩ := failB (kk := kk) hx
  rw [if_neg (by rw [hx.1]; exact nI_ne (by decide) (by omega) (by omega)), g1, bc_s]
  exact ⟨σ', rfl, g2, g3, g4⟩
theorem putX {σ : Gm} (hx : SX b z q e κ w m σ) (hm : m < 160) (s : Int32) : ∃ σ', f_X1_put kk σ s = some ((), σ') ∧ SX b z q e κ w (m + 1) σ' ∧ σ' 11 kk m = s ∧ (∀ j, ¬ j = m → σ' 11 kk j = σ 11 kk j) ∧ FrR kk σ σ' := by
  unfold f_X1_put
  obtain ⟨h1, h2, h3, h4, h5, h6, h7⟩ := hx
  rw [h7, if_pos (show nI m < (160 : Int32) from nI_lt hm (by decide)), gd_h (inb_nI hm (by decide)), nI_clamp (by omega), bv_e, bv_e]
  have f : FrR kk σ (up3 (up3 σ 11 kk m s) 2 0 7 ((up3 σ 11 kk m s) 2 0 7 + 1)) := FrR.st.tr (FrR.up (by omega))
  refine ⟨_, rfl, ⟨h1.frR f, ?_, ?_, ?_, ?_, ?_, ?_⟩, ?_, ?_, f⟩
  · rw [up3_of (by omega), up3_of (by omega)]; exact h2
  · rw [up3_of (by omega), up3_of (by omega)]; exact h3
  · intro h; rw [up3_of (by omega), up3_of (by omega)]; exact h4 h
  · intro h; rw [up3_of (by omega), up3_of (by omega)]; exact h5 h
  · rw [up3_of (by omega), up3_of (by omega)]; exact h6
  · rw [up3_at, up3_of (by omega), h7]; exact nI_1 m
  · rw [up3_of (by omega), up3_at]
  · intro j hj; rw [up3_of (by omega), up3_of (by omega)]
theorem putB {σ : Gm} (hx : BX σ) (s : Int32) : ∃ σ', f_X1_put kk σ s = some ((), σ') ∧ BX σ' ∧ σ' 2 0 6 = σ 2 0 6 ∧ FrR kk σ σ' := by
  unfold f_X1_put
  obtain ⟨h1, h2, m, h3, h4⟩ := hx
  rw [h3]
  by_cases h : m < 160
  · rw [if_pos (show nI m < (160 : Int32) from nI_lt h (by decide)), gd_h (inb_nI h (by decide)), bv_e, bv_e]
    refine ⟨_, rfl, ⟨?_, ?_, m + 1, ?_, by omega⟩, ?_, FrR.st.tr (FrR.up (by omega))⟩
    · rw [up3_of (by omega), up3_of (by omega)]; exact h1
    · rw [up3_of (by omega), up3_of (by omega)]; exact h2
    · rw [up3_at, up3_of (by omega), h3]; exact nI_1 m
    · rw [up3_of (by omega), up3_of (by omega)]
  · rw [if_neg (show ¬ nI m < (160 : Int32) from nI_nlt (show 160 ≤ m by omega) (by omega))]
    exact ⟨σ, rfl, ⟨h1, h2, m, h3, h4⟩, rfl, FrR.rf kk σ⟩
/-- ranks -/
def rkN (x : Nat) : Int32 := if x = 9 then 0 else if x = 10 then 1 else if x = 42 then 4 else if x = 43 then 3 else if x = 45 then 3 else if x = 60 then 2 else if x = 61 then 2 else -1
theorem rankOf_e (σ : Gm) {x : Nat} (hx : x < 2 ^ 31) : f_X1_rankOf σ (nI x) = some (rkN x, σ) := by
  unfold f_X1_rankOf rkN
  have e : ∀ m : Nat, m < 256 → (nI x = nI m ↔ x = m) := fun m hm => nI_eq hx (by omega)
  have e9 : (nI x = (9 : Int32)) ↔ x = 9 := e 9 (by decide)
  have e10 : (nI x = (10 : Int32)) ↔ x = 10 := e 10 (by decide)
  have e42 : (nI x = (42 : Int32)) ↔ x = 42 := e 42 (by decide)
  have e43 : (nI x = (43 : Int32)) ↔ x = 43 := e 43 (by decide)
  have e45 : (nI x = (45 : Int32)) ↔ x = 45 := e 45 (by decide)
  have e60 : (nI x = (60 : Int32)) ↔ x = 60 := e 60 (by decide)
  have e61 : (nI x = (61 : Int32)) ↔ x = 61 := e 61 (by decide)
  simp only [e9, e10, e42, e43, e45, e60, e61]
  repeat' split
  all_goals rfl
theorem rk4 (x : Nat) : rkN x = nI 4 ↔ x = 42 := by
  unfold rkN
  repeat' split
  all_goals (constructor <;> intro h <;> first | omega | rfl | exact absurd h (by decide))
theorem rk3 (x : Nat) : rkN x = nI 3 ↔ (x = 43 ∨ x = 45) := by
  unfold rkN
  repeat' split
  all_goals (constructor <;> intro h <;> first | omega | rfl | exact absurd h (by decide))
theorem rk2 (x : Nat) : rkN x = nI 2 ↔ (x = 60 ∨ x = 61) := by
  unfold rkN
  repeat' split
  all_goals (constructor <;> intro h <;> first | omega | rfl | exact absurd h (by decide))
theorem rk1 (x : Nat) : rkN x = nI 1 ↔ x = 10 := by
  unfold rkN
  repeat' split
  all_goals (constructor <;> intro h <;> first | omega | rfl | exact absurd h (by decide))
theorem rk0 (x : Nat) : rkN x = nI 0 ↔ x = 9 := by
  unfold rkN
  repeat' split
  all_goals (constructor <;> intro h <;> first | omega | rfl | exact absurd h (by decide))
/-- a token's word, told by kind -/
theorem tkx_s (hT : TK b z q e κ w) {c : Nat} (hc : isS c) : tkx κ w = c ↔ (κ = 3 ∧ w = c) := by
  obtain ⟨h1, h2, h3, h4⟩ := hT.or
  unfold isS at hc
  rcases h4 with rfl | rfl | rfl | rfl | rfl
  · show 257 = c ↔ (0 = 3 ∧ w = c)
    omega
  · show w = c ↔ (1 = 3 ∧ w = c)
    omega
  · show 256 = c ↔ (2 = 3 ∧ w = c)
    omega
  · show w = c ↔ (3 = 3 ∧ w = c)
    omega
  · show 258 = c ↔ (4 = 3 ∧ w = c)
    omega
theorem tkx_w (hT : TK b z q e κ w) {c : Nat} (hc : c < 12) : tkx κ w = c ↔ (κ = 1 ∧ w = c) := by
  obtain ⟨h1, h2, h3, h4⟩ := hT.or
  rcases h4 with rfl | rfl | rfl | rfl | rfl
  · show 257 = c ↔ (0 = 1 ∧ w = c)
    omega
  · show w = c ↔ (1 = 1 ∧ w = c)
    omega
  · show 256 = c ↔ (2 = 1 ∧ w = c)
    omega
  · show w = c ↔ (3 = 1 ∧ w = c)
    omega
  · show 258 = c ↔ (4 = 1 ∧ w = c)
    omega
theorem tkx_n (hT : TK b z q e κ w) : tkx κ w = 256 ↔ κ = 2 := by
  obtain ⟨h1, h2, h3, h4⟩ := hT.or
  rcases h4 with rfl | rfl | rfl | rfl | rfl
  · show 257 = 256 ↔ 0 = 2
    omega
  · show w = 256 ↔ 1 = 2
    omega
  · show 256 = 256 ↔ 2 = 2
    omega
  · show w = 256 ↔ 3 = 2
    omega
  · show 258 = 256 ↔ 4 = 2
    omega
theorem tkx_e (hT : TK b z q e κ w) : tkx κ w = 257 ↔ κ = 0 := by
  obtain ⟨h1, h2, h3, h4⟩ := hT.or
  rcases h4 with rfl | rfl | rfl | rfl | rfl
  · show 257 = 257 ↔ 0 = 0
    omega
  · show w = 257 ↔ 1 = 0
    omega
  · show 256 = 257 ↔ 2 = 0
    omega
  · show w = 257 ↔ 3 = 0
    omega
  · show 258 = 257 ↔ 4 = 0
    omega
theorem tkx_lt (hT : TK b z q e κ w) : tkx κ w ≤ 258 := by
  obtain ⟨h1, h2, h3, h4⟩ := hT.or
  rcases h4 with rfl | rfl | rfl | rfl | rfl
  · show 257 ≤ 258
    omega
  · show w ≤ 258
    omega
  · show 256 ≤ 258
    omega
  · show w ≤ 258
    omega
  · show 258 ≤ 258
    omega
/-- the reference's fail, isSign, isWord -/
theorem failM {μ : Wm} (hm : SM b z t q e κ w o μ) : ∃ μ', f_X6_fail μ = some ((), μ') ∧ BM μ' ∧ μ'.1 0 0 26 = nI q ∧ FrP μ μ' := by
  unfold f_X6_fail
  rw [if_pos hm.2.2.2.2.2.1, bv_e, bv_e]
  exact ⟨_, rfl, (u1_of (by omega)).trans (u1_at _ _ _ _ _ _), (u1_at _ _ _ _ _ _).trans ((u1_of (by omega)).trans hm.2.1), (FrP.up (by omega)).tr (FrP.up (by omega))⟩
theorem failMB {μ : Wm} (hm : BM μ) : f_X6_fail μ = some ((), μ) := by
  unfold f_X6_fail
  rw [if_neg (by rw [hm]; decide)]
theorem sgnB {μ : Wm} (hm : BM μ) (c : Int32) : f_X6_isSign μ c = some (0, μ) := by
  unfold f_X6_isSign
  rw [if_neg (by rw [hm]; decide)]
theorem sgnM {μ : Wm} (hT : TK b z q e κ w) (hm : SM b z t q e κ w o μ) {c : Nat} (hc : c < 256) : ((κ = 3 ∧ w = c) ∧ f_X6_isSign μ (nI c) = some (1, μ)) ∨ (¬ (κ = 3 ∧ w = c) ∧ f_X6_isSign μ (nI c) = some (0, μ)) := by
  have hf := hT.fact
  unfold f_X6_isSign
  rw [if_pos hm.2.2.2.2.2.1, hm.2.2.1]
  by_cases h3 : κ = 3
  · have hs := hf.2.2.2.2.1 h3
    rw [if_pos (show nI κ = (3 : Int32) by rw [h3]; rfl), hm.2.2.2.2.1 (Or.inr h3), nI_l (by omega)]
    by_cases hw : w = c
    · rw [if_pos ((lgc_eq (by omega) (by omega)).mpr hw)]
      exact Or.inl ⟨⟨h3, hw⟩, rfl⟩
    · rw [if_neg (fun q9 => hw ((lgc_eq (by unfold isS at hs; omega) (by omega)).mp q9))]
      exact Or.inr ⟨fun q9 => hw q9.2, rfl⟩
  · rw [if_neg (show ¬ nI κ = (3 : Int32) from nI_ne (by omega) (by decide) h3)]
    exact Or.inr ⟨fun q9 => h3 q9.1, rfl⟩
theorem letM (hz : z ≤ 160) {μ : Wm} (hin : InM b z t μ) (hq : μ.1 0 0 22 = nI q) (he : μ.1 0 0 20 = nI e) (hez : e ≤ z) (hqz : q ≤ z) (hb : ∀ i, b i < 256) {i c : Nat} (hi : i < 8) (hc : c < 256) : (((e ≤ q + i ∨ b (q + i) = c) ∧ (q + i < e ∨ c = 0)) ∧ f_X6_isLetter μ (nI i) (nI c) = some (1, μ)) ∨ (¬ ((e ≤ q + i ∨ b (q + i) = c) ∧ (q + i < e ∨ c = 0)) ∧ f_X6_isLetter μ (nI i) (nI c) = some (0, μ)) := by
  unfold f_X6_isLetter
  rw [hq, he, nI_add]
  by_cases h : e ≤ q + i
  · rw [if_pos (nI_le h (by omega))]
    by_cases h0 : c = 0
    · rw [if_pos (by rw [h0]; rfl)]
      exact Or.inl ⟨by omega, rfl⟩
    · rw [if_neg (show ¬ nI c = (0 : Int32) from nI_ne (by omega) (by decide) h0)]
      exact Or.inr ⟨by omega, rfl⟩
  · rw [if_neg (nI_ge (by omega) (by omega)), mb_in hz hin (by omega), bc_s]
    have hbq := hb (q + i)
    by_cases h0 : b (q + i) = c
    · rw [if_pos (by rw [h0])]
      exact Or.inl ⟨by omega, rfl⟩
    · rw [if_neg (nI_ne (by omega) (by omega) h0)]
      exact Or.inr ⟨by omega, rfl⟩
theorem wrdB {μ : Wm} (hm : BM μ) (c0 c1 c2 c3 c4 c5 c6 c7 : Int32) : f_X6_isWord μ c0 c1 c2 c3 c4 c5 c6 c7 = some (0, μ) := by
  unfold f_X6_isWord
  rw [if_neg (by rw [hm]; decide)]
theorem wrdM (hb : ∀ i, b i < 256) (hz : z ≤ 160) {μ : Wm} (hT : TK b z q e κ w) (hm : SM b z t q e κ w o μ) {c0 c1 c2 c3 c4 c5 c6 c7 : Nat} (hc : c0 < 256 ∧ c1 < 256 ∧ c2 < 256 ∧ c3 < 256 ∧ c4 < 256 ∧ c5 < 256 ∧ c6 < 256 ∧ c7 < 256) : ((κ = 1 ∧ e ≤ q + 8 ∧ ((e ≤ q ∨ b (q) = c0) ∧ (q < e ∨ c0 = 0)) ∧ ((e ≤ q + 1 ∨ b (q + 1) = c1) ∧ (q + 1 < e ∨ c1 = 0)) ∧ ((e ≤ q + 2 ∨ b (q + 2) = c2) ∧ (q + 2 < e ∨ c2 = 0)) ∧ ((e ≤ q + 3 ∨ b (q + 3) = c3) ∧ (q + 3 < e ∨ c3 = 0)) ∧ ((e ≤ q + 4 ∨ b (q + 4) = c4) ∧ (q + 4 < e ∨ c4 = 0)) ∧ ((e ≤ q + 5 ∨ b (q + 5) = c5) ∧ (q + 5 < e ∨ c5 = 0)) ∧ ((e ≤ q + 6 ∨ b (q + 6) = c6) ∧ (q + 6 < e ∨ c6 = 0)) ∧ ((e ≤ q + 7 ∨ b (q + 7) = c7) ∧ (q + 7 < e ∨ c7 = 0))) ∧ f_X6_isWord μ (nI c0) (nI c1) (nI c2) (nI c3) (nI c4) (nI c5) (nI c6) (nI c7) = some (1, μ)) ∨ (¬ (κ = 1 ∧ e ≤ q + 8 ∧ ((e ≤ q ∨ b (q) = c0) ∧ (q < e ∨ c0 = 0)) ∧ ((e ≤ q + 1 ∨ b (q + 1) = c1) ∧ (q + 1 < e ∨ c1 = 0)) ∧ ((e ≤ q + 2 ∨ b (q + 2) = c2) ∧ (q + 2 < e ∨ c2 = 0)) ∧ ((e ≤ q + 3 ∨ b (q + 3) = c3) ∧ (q + 3 < e ∨ c3 = 0)) ∧ ((e ≤ q + 4 ∨ b (q + 4) = c4) ∧ (q + 4 < e ∨ c4 = 0)) ∧ ((e ≤ q + 5 ∨ b (q + 5) = c5) ∧ (q + 5 < e ∨ c5 = 0)) ∧ ((e ≤ q + 6 ∨ b (q + 6) = c6) ∧ (q + 6 < e ∨ c6 = 0)) ∧ ((e ≤ q + 7 ∨ b (q + 7) = c7) ∧ (q + 7 < e ∨ c7 = 0))) ∧ f_X6_isWord μ (nI c0) (nI c1) (nI c2) (nI c3) (nI c4) (nI c5) (nI c6) (nI c7) = some (0, μ)) := by
  have hf := hT.fact
  unfold f_X6_isWord
  rw [if_pos hm.2.2.2.2.2.1, hm.2.2.1]
  by_cases h1 : κ = 1
  · have he := hm.2.2.2.1 (by omega)
    have hez := hf.2.2.2.2.2.1 (by omega)
    rw [if_pos (show nI κ = (1 : Int32) by rw [h1]; rfl), hm.2.1, he]
    by_cases h8 : q + 8 < e
    · rw [if_pos (show nI q + (8 : Int32) < nI e by rw [show (8 : Int32) = nI 8 from rfl, nI_add]; exact nI_lt h8 (by omega))]
      exact Or.inr ⟨fun q9 => by have := q9.2.1; omega, rfl⟩
    · rw [if_neg (show ¬ nI q + (8 : Int32) < nI e by rw [show (8 : Int32) = nI 8 from rfl, nI_add]; exact nI_nlt (by omega) (by omega))]
      rcases letM hz hm.1 hm.2.1 he hez.2 hf.1 hb (i := 0) (c := c0) (by decide) (by omega) with ⟨l0, r⟩ | ⟨l0, r⟩
      rotate_left
      · rw [show f_X6_isLetter μ (0 : Int32) (nI c0) = some (0, μ) from r, bc_s, if_pos rfl]
        exact Or.inr ⟨fun q9 => l0 (by exact q9.2.2.1), rfl⟩
      rw [show f_X6_isLetter μ (0 : Int32) (nI c0) = some (1, μ) from r, bc_s, if_neg (by decide)]
      rcases letM hz hm.1 hm.2.1 he hez.2 hf.1 hb (i := 1) (c := c1) (by decide) (by omega) with ⟨l1, r⟩ | ⟨l1, r⟩
      rotate_left
      · rw [show f_X6_isLetter μ (1 : Int32) (nI c1) = some (0, μ) from r, bc_s, if_pos rfl]
        exact Or.inr ⟨fun q9 => l1 (by exact q9.2.2.2.1), rfl⟩
      rw [show f_X6_isLetter μ (1 : Int32) (nI c1) = some (1, μ) from r, bc_s, if_neg (by decide)]
      rcases letM hz hm.1 hm.2.1 he hez.2 hf.1 hb (i := 2) (c := c2) (by decide) (by omega) with ⟨l2, r⟩ | ⟨l2, r⟩
      rotate_left
      · rw [show f_X6_isLetter μ (2 : Int32) (nI c2) = some (0, μ) from r, bc_s, if_pos rfl]
        exact Or.inr ⟨fun q9 => l2 (by exact q9.2.2.2.2.1), rfl⟩
      rw [show f_X6_isLetter μ (2 : Int32) (nI c2) = some (1, μ) from r, bc_s, if_neg (by decide)]
      rcases letM hz hm.1 hm.2.1 he hez.2 hf.1 hb (i := 3) (c := c3) (by decide) (by omega) with ⟨l3, r⟩ | ⟨l3, r⟩
      rotate_left
      · rw [show f_X6_isLetter μ (3 : Int32) (nI c3) = some (0, μ) from r, bc_s, if_pos rfl]
        exact Or.inr ⟨fun q9 => l3 (by exact q9.2.2.2.2.2.1), rfl⟩
      rw [show f_X6_isLetter μ (3 : Int32) (nI c3) = some (1, μ) from r, bc_s, if_neg (by decide)]
      rcases letM hz hm.1 hm.2.1 he hez.2 hf.1 hb (i := 4) (c := c4) (by decide) (by omega) with ⟨l4, r⟩ | ⟨l4, r⟩
      rotate_left
      · rw [show f_X6_isLetter μ (4 : Int32) (nI c4) = some (0, μ) from r, bc_s, if_pos rfl]
        exact Or.inr ⟨fun q9 => l4 (by exact q9.2.2.2.2.2.2.1), rfl⟩
      rw [show f_X6_isLetter μ (4 : Int32) (nI c4) = some (1, μ) from r, bc_s, if_neg (by decide)]
      rcases letM hz hm.1 hm.2.1 he hez.2 hf.1 hb (i := 5) (c := c5) (by decide) (by omega) with ⟨l5, r⟩ | ⟨l5, r⟩
      rotate_left
      · rw [show f_X6_isLetter μ (5 : Int32) (nI c5) = some (0, μ) from r, bc_s, if_pos rfl]
        exact Or.inr ⟨fun q9 => l5 (by exact q9.2.2.2.2.2.2.2.1), rfl⟩
      rw [show f_X6_isLetter μ (5 : Int32) (nI c5) = some (1, μ) from r, bc_s, if_neg (by decide)]
      rcases letM hz hm.1 hm.2.1 he hez.2 hf.1 hb (i := 6) (c := c6) (by decide) (by omega) with ⟨l6, r⟩ | ⟨l6, r⟩
      rotate_left
      · rw [show f_X6_isLetter μ (6 : Int32) (nI c6) = some (0, μ) from r, bc_s, if_pos rfl]
        exact Or.inr ⟨fun q9 => l6 (by exact q9.2.2.2.2.2.2.2.2.1), rfl⟩
      rw [show f_X6_isLetter μ (6 : Int32) (nI c6) = some (1, μ) from r, bc_s, if_neg (by decide)]
      rcases letM hz hm.1 hm.2.1 he hez.2 hf.1 hb (i := 7) (c := c7) (by decide) (by omega) with ⟨l7, r⟩ | ⟨l7, r⟩
      rotate_left
      · rw [show f_X6_isLetter μ (7 : Int32) (nI c7) = some (0, μ) from r, bc_s, if_pos rfl]
        exact Or.inr ⟨fun q9 => l7 (by exact q9.2.2.2.2.2.2.2.2.2), rfl⟩
      rw [show f_X6_isLetter μ (7 : Int32) (nI c7) = some (1, μ) from r, bc_s, if_neg (by decide)]
      exact Or.inl ⟨⟨h1, by omega, l0, l1, l2, l3, l4, l5, l6, l7⟩, rfl⟩
  · rw [if_neg (show ¬ nI κ = (1 : Int32) from nI_ne (by omega) (by decide) h1)]
    exact Or.inr ⟨fun q9 => h1 q9.1, rfl⟩
theorem wrd_0 (hb : ∀ i, b i < 256) (hz : z ≤ 160) {μ : Wm} (hT : TK b z q e κ w) (hm : SM b z t q e κ w o μ) : ((κ = 1 ∧ w = 0) ∧ f_X6_isWord μ (102 : Int32) (117 : Int32) (108 : Int32) (108 : Int32) (0 : Int32) (0 : Int32) (0 : Int32) (0 : Int32) = some (1, μ)) ∨ (¬ (κ = 1 ∧ w = 0) ∧ f_X6_isWord μ (102 : Int32) (117 : Int32) (108 : Int32) (108 : Int32) (0 : Int32) (0 : Int32) (0 : Int32) (0 : Int32) = some (0, μ)) := by
  have key : (κ = 1 ∧ e ≤ q + 8 ∧ ((e ≤ q ∨ b (q) = 102) ∧ (q < e ∨ (102 : Nat) = 0)) ∧ ((e ≤ q + 1 ∨ b (q + 1) = 117) ∧ (q + 1 < e ∨ (117 : Nat) = 0)) ∧ ((e ≤ q + 2 ∨ b (q + 2) = 108) ∧ (q + 2 < e ∨ (108 : Nat) = 0)) ∧ ((e ≤ q + 3 ∨ b (q + 3) = 108) ∧ (q + 3 < e ∨ (108 : Nat) = 0)) ∧ ((e ≤ q + 4 ∨ b (q + 4) = 0) ∧ (q + 4 < e ∨ (0 : Nat) = 0)) ∧ ((e ≤ q + 5 ∨ b (q + 5) = 0) ∧ (q + 5 < e ∨ (0 : Nat) = 0)) ∧ ((e ≤ q + 6 ∨ b (q + 6) = 0) ∧ (q + 6 < e ∨ (0 : Nat) = 0)) ∧ ((e ≤ q + 7 ∨ b (q + 7) = 0) ∧ (q + 7 < e ∨ (0 : Nat) = 0))) ↔ (κ = 1 ∧ w = 0) := by
    obtain ⟨p, hp, hT0⟩ := hT
    constructor
    · rintro ⟨h1, h8, l0, l1, l2, l3, l4, l5, l6, l7⟩
      refine ⟨h1, ?_⟩
      rcases hT0.2 with ⟨a, -⟩ | ⟨a, b1, c, d, f⟩ | ⟨a, -⟩ | ⟨a, -⟩ | ⟨a, -⟩
      · omega
      · have g1 : q + 3 < e := l3.2.resolve_right (by decide)
        have g2 : e ≤ q + 4 := by
          rcases l4.1 with h | h
          · exact h
          · by_cases h9 : e ≤ q + 4
            · exact h9
            · have := (ru_in isL b (z - q) q (q + 4) (by omega) (by rw [← d]; omega)).1
              omega
        have hw : isW b q e 0 := ⟨by omega, l0.1.resolve_left (by omega), l1.1.resolve_left (by omega), l2.1.resolve_left (by omega), l3.1.resolve_left (by omega)⟩
        rcases f with ⟨f1, f2⟩ | ⟨f1, f2⟩
        · exact isW_one f2 hw
        · exact absurd hw (f2 0 (by decide))
      · omega
      · omega
      · omega
    · rintro ⟨h1, rfl⟩
      rcases hT0.2 with ⟨a, -⟩ | ⟨a, b1, c, d, f⟩ | ⟨a, -⟩ | ⟨a, -⟩ | ⟨a, -⟩
      · omega
      · rcases f with ⟨f1, f2⟩ | ⟨f1, f2⟩
        · obtain ⟨ge, m0, m1, m2, m3⟩ : e = q + 4 ∧ b (q) = 102 ∧ b (q + 1) = 117 ∧ b (q + 2) = 108 ∧ b (q + 3) = 108 := f2
          exact ⟨h1, by omega, ⟨Or.inr m0, Or.inl (by omega)⟩, ⟨Or.inr m1, Or.inl (by omega)⟩, ⟨Or.inr m2, Or.inl (by omega)⟩, ⟨Or.inr m3, Or.inl (by omega)⟩, ⟨Or.inl (by omega), Or.inr rfl⟩, ⟨Or.inl (by omega), Or.inr rfl⟩, ⟨Or.inl (by omega), Or.inr rfl⟩, ⟨Or.inl (by omega), Or.inr rfl⟩⟩
        · omega
      · omega
      · omega
      · omega
  rcases wrdM hb hz hT hm (c0 := 102) (c1 := 117) (c2 := 108) (c3 := 108) (c4 := 0) (c5 := 0) (c6 := 0) (c7 := 0) (by decide) with ⟨a, r⟩ | ⟨a, r⟩
  · exact Or.inl ⟨key.mp a, r⟩
  · exact Or.inr ⟨fun q9 => a (key.mpr q9), r⟩
theorem wrd_1 (hb : ∀ i, b i < 256) (hz : z ≤ 160) {μ : Wm} (hT : TK b z q e κ w) (hm : SM b z t q e κ w o μ) : ((κ = 1 ∧ w = 1) ∧ f_X6_isWord μ (110 : Int32) (117 : Int32) (109 : Int32) (98 : Int32) (101 : Int32) (114 : Int32) (0 : Int32) (0 : Int32) = some (1, μ)) ∨ (¬ (κ = 1 ∧ w = 1) ∧ f_X6_isWord μ (110 : Int32) (117 : Int32) (109 : Int32) (98 : Int32) (101 : Int32) (114 : Int32) (0 : Int32) (0 : Int32) = some (0, μ)) := by
  have key : (κ = 1 ∧ e ≤ q + 8 ∧ ((e ≤ q ∨ b (q) = 110) ∧ (q < e ∨ (110 : Nat) = 0)) ∧ ((e ≤ q + 1 ∨ b (q + 1) = 117) ∧ (q + 1 < e ∨ (117 : Nat) = 0)) ∧ ((e ≤ q + 2 ∨ b (q + 2) = 109) ∧ (q + 2 < e ∨ (109 : Nat) = 0)) ∧ ((e ≤ q + 3 ∨ b (q + 3) = 98) ∧ (q + 3 < e ∨ (98 : Nat) = 0)) ∧ ((e ≤ q + 4 ∨ b (q + 4) = 101) ∧ (q + 4 < e ∨ (101 : Nat) = 0)) ∧ ((e ≤ q + 5 ∨ b (q + 5) = 114) ∧ (q + 5 < e ∨ (114 : Nat) = 0)) ∧ ((e ≤ q + 6 ∨ b (q + 6) = 0) ∧ (q + 6 < e ∨ (0 : Nat) = 0)) ∧ ((e ≤ q + 7 ∨ b (q + 7) = 0) ∧ (q + 7 < e ∨ (0 : Nat) = 0))) ↔ (κ = 1 ∧ w = 1) := by
    obtain ⟨p, hp, hT0⟩ := hT
    constructor
    · rintro ⟨h1, h8, l0, l1, l2, l3, l4, l5, l6, l7⟩
      refine ⟨h1, ?_⟩
      rcases hT0.2 with ⟨a, -⟩ | ⟨a, b1, c, d, f⟩ | ⟨a, -⟩ | ⟨a, -⟩ | ⟨a, -⟩
      · omega
      · have g1 : q + 5 < e := l5.2.resolve_right (by decide)
        have g2 : e ≤ q + 6 := by
          rcases l6.1 with h | h
          · exact h
          · by_cases h9 : e ≤ q + 6
            · exact h9
            · have := (ru_in isL b (z - q) q (q + 6) (by omega) (by rw [← d]; omega)).1
              omega
        have hw : isW b q e 1 := ⟨by omega, l0.1.resolve_left (by omega), l1.1.resolve_left (by omega), l2.1.resolve_left (by omega), l3.1.resolve_left (by omega), l4.1.resolve_left (by omega), l5.1.resolve_left (by omega)⟩
        rcases f with ⟨f1, f2⟩ | ⟨f1, f2⟩
        · exact isW_one f2 hw
        · exact absurd hw (f2 1 (by decide))
      · omega
      · omega
      · omega
    · rintro ⟨h1, rfl⟩
      rcases hT0.2 with ⟨a, -⟩ | ⟨a, b1, c, d, f⟩ | ⟨a, -⟩ | ⟨a, -⟩ | ⟨a, -⟩
      · omega
      · rcases f with ⟨f1, f2⟩ | ⟨f1, f2⟩
        · obtain ⟨ge, m0, m1, m2, m3, m4, m5⟩ : e = q + 6 ∧ b (q) = 110 ∧ b (q + 1) = 117 ∧ b (q + 2) = 109 ∧ b (q + 3) = 98 ∧ b (q + 4) = 101 ∧ b (q + 5) = 114 := f2
          exact ⟨h1, by omega, ⟨Or.inr m0, Or.inl (by omega)⟩, ⟨Or.inr m1, Or.inl (by omega)⟩, ⟨Or.inr m2, Or.inl (by omega)⟩, ⟨Or.inr m3, Or.inl (by omega)⟩, ⟨Or.inr m4, Or.inl (by omega)⟩, ⟨Or.inr m5, Or.inl (by omega)⟩, ⟨Or.inl (by omega), Or.inr rfl⟩, ⟨Or.inl (by omega), Or.inr rfl⟩⟩
        · omega
      · omega
      · omega
      · omega
  rcases wrdM hb hz hT hm (c0 := 110) (c1 := 117) (c2 := 109) (c3 := 98) (c4 := 101) (c5 := 114) (c6 := 0) (c7 := 0) (by decide) with ⟨a, r⟩ | ⟨a, r⟩
  · exact Or.inl ⟨key.mp a, r⟩
  · exact Or.inr ⟨fun q9 => a (key.mpr q9), r⟩
theorem wrd_2 (hb : ∀ i, b i < 256) (hz : z ≤ 160) {μ : Wm} (hT : TK b z q e κ w) (hm : SM b z t q e κ w o μ) : ((κ = 1 ∧ w = 2) ∧ f_X6_isWord μ (110 : Int32) (105 : Int32) (103 : Int32) (104 : Int32) (116 : Int32) (0 : Int32) (0 : Int32) (0 : Int32) = some (1, μ)) ∨ (¬ (κ = 1 ∧ w = 2) ∧ f_X6_isWord μ (110 : Int32) (105 : Int32) (103 : Int32) (104 : Int32) (116 : Int32) (0 : Int32) (0 : Int32) (0 : Int32) = some (0, μ)) := by
  have key : (κ = 1 ∧ e ≤ q + 8 ∧ ((e ≤ q ∨ b (q) = 110) ∧ (q < e ∨ (110 : Nat) = 0)) ∧ ((e ≤ q + 1 ∨ b (q + 1) = 105) ∧ (q + 1 < e ∨ (105 : Nat) = 0)) ∧ ((e ≤ q + 2 ∨ b (q + 2) = 103) ∧ (q + 2 < e ∨ (103 : Nat) = 0)) ∧ ((e ≤ q + 3 ∨ b (q + 3) = 104) ∧ (q + 3 < e ∨ (104 : Nat) = 0)) ∧ ((e ≤ q + 4 ∨ b (q + 4) = 116) ∧ (q + 4 < e ∨ (116 : Nat) = 0)) ∧ ((e ≤ q + 5 ∨ b (q + 5) = 0) ∧ (q + 5 < e ∨ (0 : Nat) = 0)) ∧ ((e ≤ q + 6 ∨ b (q + 6) = 0) ∧ (q + 6 < e ∨ (0 : Nat) = 0)) ∧ ((e ≤ q + 7 ∨ b (q + 7) = 0) ∧ (q + 7 < e ∨ (0 : Nat) = 0))) ↔ (κ = 1 ∧ w = 2) := by
    obtain ⟨p, hp, hT0⟩ := hT
    constructor
    · rintro ⟨h1, h8, l0, l1, l2, l3, l4, l5, l6, l7⟩
      refine ⟨h1, ?_⟩
      rcases hT0.2 with ⟨a, -⟩ | ⟨a, b1, c, d, f⟩ | ⟨a, -⟩ | ⟨a, -⟩ | ⟨a, -⟩
      · omega
      · have g1 : q + 4 < e := l4.2.resolve_right (by decide)
        have g2 : e ≤ q + 5 := by
          rcases l5.1 with h | h
          · exact h
          · by_cases h9 : e ≤ q + 5
            · exact h9
            · have := (ru_in isL b (z - q) q (q + 5) (by omega) (by rw [← d]; omega)).1
              omega
        have hw : isW b q e 2 := ⟨by omega, l0.1.resolve_left (by omega), l1.1.resolve_left (by omega), l2.1.resolve_left (by omega), l3.1.resolve_left (by omega), l4.1.resolve_left (by omega)⟩
        rcases f with ⟨f1, f2⟩ | ⟨f1, f2⟩
        · exact isW_one f2 hw
        · exact absurd hw (f2 2 (by decide))
      · omega
      · omega
      · omega
    · rintro ⟨h1, rfl⟩
      rcases hT0.2 with ⟨a, -⟩ | ⟨a, b1, c, d, f⟩ | ⟨a, -⟩ | ⟨a, -⟩ | ⟨a, -⟩
      · omega
      · rcases f with ⟨f1, f2⟩ | ⟨f1, f2⟩
        · obtain ⟨ge, m0, m1, m2, m3, m4⟩ : e = q + 5 ∧ b (q) = 110 ∧ b (q + 1) = 105 ∧ b (q + 2) = 103 ∧ b (q + 3) = 104 ∧ b (q + 4) = 116 := f2
          exact ⟨h1, by omega, ⟨Or.inr m0, Or.inl (by omega)⟩, ⟨Or.inr m1, Or.inl (by omega)⟩, ⟨Or.inr m2, Or.inl (by omega)⟩, ⟨Or.inr m3, Or.inl (by omega)⟩, ⟨Or.inr m4, Or.inl (by omega)⟩, ⟨Or.inl (by omega), Or.inr rfl⟩, ⟨Or.inl (by omega), Or.inr rfl⟩, ⟨Or.inl (by omega), Or.inr rfl⟩⟩
        · omega
      · omega
      · omega
      · omega
  rcases wrdM hb hz hT hm (c0 := 110) (c1 := 105) (c2 := 103) (c3 := 104) (c4 := 116) (c5 := 0) (c6 := 0) (c7 := 0) (by decide) with ⟨a, r⟩ | ⟨a, r⟩
  · exact Or.inl ⟨key.mp a, r⟩
  · exact Or.inr ⟨fun q9 => a (key.mpr q9), r⟩
theorem wrd_3 (hb : ∀ i, b i < 256) (hz : z ≤ 160) {μ : Wm} (hT : TK b z q e κ w) (hm : SM b z t q e κ w o μ) : ((κ = 1 ∧ w = 3) ∧ f_X6_isWord μ (108 : Int32) (97 : Int32) (109 : Int32) (112 : Int32) (0 : Int32) (0 : Int32) (0 : Int32) (0 : Int32) = some (1, μ)) ∨ (¬ (κ = 1 ∧ w = 3) ∧ f_X6_isWord μ (108 : Int32) (97 : Int32) (109 : Int32) (112 : Int32) (0 : Int32) (0 : Int32) (0 : Int32) (0 : Int32) = some (0, μ)) := by
  have key : (κ = 1 ∧ e ≤ q + 8 ∧ ((e ≤ q ∨ b (q) = 108) ∧ (q < e ∨ (108 : Nat) = 0)) ∧ ((e ≤ q + 1 ∨ b (q + 1) = 97) ∧ (q + 1 < e ∨ (97 : Nat) = 0)) ∧ ((e ≤ q + 2 ∨ b (q + 2) = 109) ∧ (q + 2 < e ∨ (109 : Nat) = 0)) ∧ ((e ≤ q + 3 ∨ b (q + 3) = 112) ∧ (q + 3 < e ∨ (112 : Nat) = 0)) ∧ ((e ≤ q + 4 ∨ b (q + 4) = 0) ∧ (q + 4 < e ∨ (0 : Nat) = 0)) ∧ ((e ≤ q + 5 ∨ b (q + 5) = 0) ∧ (q + 5 < e ∨ (0 : Nat) = 0)) ∧ ((e ≤ q + 6 ∨ b (q + 6) = 0) ∧ (q + 6 < e ∨ (0 : Nat) = 0)) ∧ ((e ≤ q + 7 ∨ b (q + 7) = 0) ∧ (q + 7 < e ∨ (0 : Nat) = 0))) ↔ (κ = 1 ∧ w = 3) := by
    obtain ⟨p, hp, hT0⟩ := hT
    constructor
    · rintro ⟨h1, h8, l0, l1, l2, l3, l4, l5, l6, l7⟩
      refine ⟨h1, ?_⟩
      rcases hT0.2 with ⟨a, -⟩ | ⟨a, b1, c, d, f⟩ | ⟨a, -⟩ | ⟨a, -⟩ | ⟨a, -⟩
      · omega
      · have g1 : q + 3 < e := l3.2.resolve_right (by decide)
        have g2 : e ≤ q + 4 := by
          rcases l4.1 with h | h
          · exact h
          · by_cases h9 : e ≤ q + 4
            · exact h9
            · have := (ru_in isL b (z - q) q (q + 4) (by omega) (by rw [← d]; omega)).1
              omega
        have hw : isW b q e 3 := ⟨by omega, l0.1.resolve_left (by omega), l1.1.resolve_left (by omega), l2.1.resolve_left (by omega), l3.1.resolve_left (by omega)⟩
        rcases f with ⟨f1, f2⟩ | ⟨f1, f2⟩
        · exact isW_one f2 hw
        · exact absurd hw (f2 3 (by decide))
      · omega
      · omega
      · omega
    · rintro ⟨h1, rfl⟩
      rcases hT0.2 with ⟨a, -⟩ | ⟨a, b1, c, d, f⟩ | ⟨a, -⟩ | ⟨a, -⟩ | ⟨a, -⟩
      · omega
      · rcases f with ⟨f1, f2⟩ | ⟨f1, f2⟩
        · obtain ⟨ge, m0, m1, m2, m3⟩ : e = q + 4 ∧ b (q) = 108 ∧ b (q + 1) = 97 ∧ b (q + 2) = 109 ∧ b (q + 3) = 112 := f2
          exact ⟨h1, by omega, ⟨Or.inr m0, Or.inl (by omega)⟩, ⟨Or.inr m1, Or.inl (by omega)⟩, ⟨Or.inr m2, Or.inl (by omega)⟩, ⟨Or.inr m3, Or.inl (by omega)⟩, ⟨Or.inl (by omega), Or.inr rfl⟩, ⟨Or.inl (by omega), Or.inr rfl⟩, ⟨Or.inl (by omega), Or.inr rfl⟩, ⟨Or.inl (by omega), Or.inr rfl⟩⟩
        · omega
      · omega
      · omega
      · omega
  rcases wrdM hb hz hT hm (c0 := 108) (c1 := 97) (c2 := 109) (c3 := 112) (c4 := 0) (c5 := 0) (c6 := 0) (c7 := 0) (by decide) with ⟨a, r⟩ | ⟨a, r⟩
  · exact Or.inl ⟨key.mp a, r⟩
  · exact Or.inr ⟨fun q9 => a (key.mpr q9), r⟩
theorem wrd_4 (hb : ∀ i, b i < 256) (hz : z ≤ 160) {μ : Wm} (hT : TK b z q e κ w) (hm : SM b z t q e κ w o μ) : ((κ = 1 ∧ w = 4) ∧ f_X6_isWord μ (97 : Int32) (115 : Int32) (107 : Int32) (101 : Int32) (100 : Int32) (0 : Int32) (0 : Int32) (0 : Int32) = some (1, μ)) ∨ (¬ (κ = 1 ∧ w = 4) ∧ f_X6_isWord μ (97 : Int32) (115 : Int32) (107 : Int32) (101 : Int32) (100 : Int32) (0 : Int32) (0 : Int32) (0 : Int32) = some (0, μ)) := by
  have key : (κ = 1 ∧ e ≤ q + 8 ∧ ((e ≤ q ∨ b (q) = 97) ∧ (q < e ∨ (97 : Nat) = 0)) ∧ ((e ≤ q + 1 ∨ b (q + 1) = 115) ∧ (q + 1 < e ∨ (115 : Nat) = 0)) ∧ ((e ≤ q + 2 ∨ b (q + 2) = 107) ∧ (q + 2 < e ∨ (107 : Nat) = 0)) ∧ ((e ≤ q + 3 ∨ b (q + 3) = 101) ∧ (q + 3 < e ∨ (101 : Nat) = 0)) ∧ ((e ≤ q + 4 ∨ b (q + 4) = 100) ∧ (q + 4 < e ∨ (100 : Nat) = 0)) ∧ ((e ≤ q + 5 ∨ b (q + 5) = 0) ∧ (q + 5 < e ∨ (0 : Nat) = 0)) ∧ ((e ≤ q + 6 ∨ b (q + 6) = 0) ∧ (q + 6 < e ∨ (0 : Nat) = 0)) ∧ ((e ≤ q + 7 ∨ b (q + 7) = 0) ∧ (q + 7 < e ∨ (0 : Nat) = 0))) ↔ (κ = 1 ∧ w = 4) := by
    obtain ⟨p, hp, hT0⟩ := hT
    constructor
    · rintro ⟨h1, h8, l0, l1, l2, l3, l4, l5, l6, l7⟩
      refine ⟨h1, ?_⟩
      rcases hT0.2 with ⟨a, -⟩ | ⟨a, b1, c, d, f⟩ | ⟨a, -⟩ | ⟨a, -⟩ | ⟨a, -⟩
      · omega
      · have g1 : q + 4 < e := l4.2.resolve_right (by decide)
        have g2 : e ≤ q + 5 := by
          rcases l5.1 with h | h
          · exact h
          · by_cases h9 : e ≤ q + 5
            · exact h9
            · have := (ru_in isL b (z - q) q (q + 5) (by omega) (by rw [← d]; omega)).1
              omega
        have hw : isW b q e 4 := ⟨by omega, l0.1.resolve_left (by omega), l1.1.resolve_left (by omega), l2.1.resolve_left (by omega), l3.1.resolve_left (by omega), l4.1.resolve_left (by omega)⟩
        rcases f with ⟨f1, f2⟩ | ⟨f1, f2⟩
        · exact isW_one f2 hw
        · exact absurd hw (f2 4 (by decide))
      · omega
      · omega
      · omega
    · rintro ⟨h1, rfl⟩
      rcases hT0.2 with ⟨a, -⟩ | ⟨a, b1, c, d, f⟩ | ⟨a, -⟩ | ⟨a, -⟩ | ⟨a, -⟩
      · omega
      · rcases f with ⟨f1, f2⟩ | ⟨f1, f2⟩
        · obtain ⟨ge, m0, m1, m2, m3, m4⟩ : e = q + 5 ∧ b (q) = 97 ∧ b (q + 1) = 115 ∧ b (q + 2) = 107 ∧ b (q + 3) = 101 ∧ b (q + 4) = 100 := f2
          exact ⟨h1, by omega, ⟨Or.inr m0, Or.inl (by omega)⟩, ⟨Or.inr m1, Or.inl (by omega)⟩, ⟨Or.inr m2, Or.inl (by omega)⟩, ⟨Or.inr m3, Or.inl (by omega)⟩, ⟨Or.inr m4, Or.inl (by omega)⟩, ⟨Or.inl (by omega), Or.inr rfl⟩, ⟨Or.inl (by omega), Or.inr rfl⟩, ⟨Or.inl (by omega), Or.inr rfl⟩⟩
        · omega
      · omega
      · omega
      · omega
  rcases wrdM hb hz hT hm (c0 := 97) (c1 := 115) (c2 := 107) (c3 := 101) (c4 := 100) (c5 := 0) (c6 := 0) (c7 := 0) (by decide) with ⟨a, r⟩ | ⟨a, r⟩
  · exact Or.inl ⟨key.mp a, r⟩
  · exact Or.inr ⟨fun q9 => a (key.mpr q9), r⟩
theorem wrd_5 (hb : ∀ i, b i < 256) (hz : z ≤ 160) {μ : Wm} (hT : TK b z q e κ w) (hm : SM b z t q e κ w o μ) : ((κ = 1 ∧ w = 5) ∧ f_X6_isWord μ (109 : Int32) (105 : Int32) (110 : Int32) (101 : Int32) (0 : Int32) (0 : Int32) (0 : Int32) (0 : Int32) = some (1, μ)) ∨ (¬ (κ = 1 ∧ w = 5) ∧ f_X6_isWord μ (109 : Int32) (105 : Int32) (110 : Int32) (101 : Int32) (0 : Int32) (0 : Int32) (0 : Int32) (0 : Int32) = some (0, μ)) := by
  have key : (κ = 1 ∧ e ≤ q + 8 ∧ ((e ≤ q ∨ b (q) = 109) ∧ (q < e ∨ (109 : Nat) = 0)) ∧ ((e ≤ q + 1 ∨ b (q + 1) = 105) ∧ (q + 1 < e ∨ (105 : Nat) = 0)) ∧ ((e ≤ q + 2 ∨ b (q + 2) = 110) ∧ (q + 2 < e ∨ (110 : Nat) = 0)) ∧ ((e ≤ q + 3 ∨ b (q + 3) = 101) ∧ (q + 3 < e ∨ (101 : Nat) = 0)) ∧ ((e ≤ q + 4 ∨ b (q + 4) = 0) ∧ (q + 4 < e ∨ (0 : Nat) = 0)) ∧ ((e ≤ q + 5 ∨ b (q + 5) = 0) ∧ (q + 5 < e ∨ (0 : Nat) = 0)) ∧ ((e ≤ q + 6 ∨ b (q + 6) = 0) ∧ (q + 6 < e ∨ (0 : Nat) = 0)) ∧ ((e ≤ q + 7 ∨ b (q + 7) = 0) ∧ (q + 7 < e ∨ (0 : Nat) = 0))) ↔ (κ = 1 ∧ w = 5) := by
    obtain ⟨p, hp, hT0⟩ := hT
    constructor
    · rintro ⟨h1, h8, l0, l1, l2, l3, l4, l5, l6, l7⟩
      refine ⟨h1, ?_⟩
      rcases hT0.2 with ⟨a, -⟩ | ⟨a, b1, c, d, f⟩ | ⟨a, -⟩ | ⟨a, -⟩ | ⟨a, -⟩
      · omega
      · have g1 : q + 3 < e := l3.2.resolve_right (by decide)
        have g2 : e ≤ q + 4 := by
          rcases l4.1 with h | h
          · exact h
          · by_cases h9 : e ≤ q + 4
            · exact h9
            · have := (ru_in isL b (z - q) q (q + 4) (by omega) (by rw [← d]; omega)).1
              omega
        have hw : isW b q e 5 := ⟨by omega, l0.1.resolve_left (by omega), l1.1.resolve_left (by omega), l2.1.resolve_left (by omega), l3.1.resolve_left (by omega)⟩
        rcases f with ⟨f1, f2⟩ | ⟨f1, f2⟩
        · exact isW_one f2 hw
        · exact absurd hw (f2 5 (by decide))
      · omega
      · omega
      · omega
    · rintro ⟨h1, rfl⟩
      rcases hT0.2 with ⟨a, -⟩ | ⟨a, b1, c, d, f⟩ | ⟨a, -⟩ | ⟨a, -⟩ | ⟨a, -⟩
      · omega
      · rcases f with ⟨f1, f2⟩ | ⟨f1, f2⟩
        · obtain ⟨ge, m0, m1, m2, m3⟩ : e = q + 4 ∧ b (q) = 109 ∧ b (q + 1) = 105 ∧ b (q + 2) = 110 ∧ b (q + 3) = 101 := f2
          exact ⟨h1, by omega, ⟨Or.inr m0, Or.inl (by omega)⟩, ⟨Or.inr m1, Or.inl (by omega)⟩, ⟨Or.inr m2, Or.inl (by omega)⟩, ⟨Or.inr m3, Or.inl (by omega)⟩, ⟨Or.inl (by omega), Or.inr rfl⟩, ⟨Or.inl (by omega), Or.inr rfl⟩, ⟨Or.inl (by omega), Or.inr rfl⟩, ⟨Or.inl (by omega), Or.inr rfl⟩⟩
        · omega
      · omega
      · omega
      · omega
  rcases wrdM hb hz hT hm (c0 := 109) (c1 := 105) (c2 := 110) (c3 := 101) (c4 := 0) (c5 := 0) (c6 := 0) (c7 := 0) (by decide) with ⟨a, r⟩ | ⟨a, r⟩
  · exact Or.inl ⟨key.mp a, r⟩
  · exact Or.inr ⟨fun q9 => a (key.mpr q9), r⟩
theorem wrd_6 (hb : ∀ i, b i < 256) (hz : z ≤ 160) {μ : Wm} (hT : TK b z q e κ w) (hm : SM b z t q e κ w o μ) : ((κ = 1 ∧ w = 6) ∧ f_X6_isWord μ (116 : Int32) (104 : Int32) (114 : Int32) (111 : Int32) (119 : Int32) (115 : Int32) (0 : Int32) (0 : Int32) = some (1, μ)) ∨ (¬ (κ = 1 ∧ w = 6) ∧ f_X6_isWord μ (116 : Int32) (104 : Int32) (114 : Int32) (111 : Int32) (119 : Int32) (115 : Int32) (0 : Int32) (0 : Int32) = some (0, μ)) := by
  have key : (κ = 1 ∧ e ≤ q + 8 ∧ ((e ≤ q ∨ b (q) = 116) ∧ (q < e ∨ (116 : Nat) = 0)) ∧ ((e ≤ q + 1 ∨ b (q + 1) = 104) ∧ (q + 1 < e ∨ (104 : Nat) = 0)) ∧ ((e ≤ q + 2 ∨ b (q + 2) = 114) ∧ (q + 2 < e ∨ (114 : Nat) = 0)) ∧ ((e ≤ q + 3 ∨ b (q + 3) = 111) ∧ (q + 3 < e ∨ (111 : Nat) = 0)) ∧ ((e ≤ q + 4 ∨ b (q + 4) = 119) ∧ (q + 4 < e ∨ (119 : Nat) = 0)) ∧ ((e ≤ q + 5 ∨ b (q + 5) = 115) ∧ (q + 5 < e ∨ (115 : Nat) = 0)) ∧ ((e ≤ q + 6 ∨ b (q + 6) = 0) ∧ (q + 6 < e ∨ (0 : Nat) = 0)) ∧ ((e ≤ q + 7 ∨ b (q + 7) = 0) ∧ (q + 7 < e ∨ (0 : Nat) = 0))) ↔ (κ = 1 ∧ w = 6) := by
    obtain ⟨p, hp, hT0⟩ := hT
    constructor
    · rintro ⟨h1, h8, l0, l1, l2, l3, l4, l5, l6, l7⟩
      refine ⟨h1, ?_⟩
      rcases hT0.2 with ⟨a, -⟩ | ⟨a, b1, c, d, f⟩ | ⟨a, -⟩ | ⟨a, -⟩ | ⟨a, -⟩
      · omega
      · have g1 : q + 5 < e := l5.2.resolve_right (by decide)
        have g2 : e ≤ q + 6 := by
          rcases l6.1 with h | h
          · exact h
          · by_cases h9 : e ≤ q + 6
            · exact h9
            · have := (ru_in isL b (z - q) q (q + 6) (by omega) (by rw [← d]; omega)).1
              omega
        have hw : isW b q e 6 := ⟨by omega, l0.1.resolve_left (by omega), l1.1.resolve_left (by omega), l2.1.resolve_left (by omega), l3.1.resolve_left (by omega), l4.1.resolve_left (by omega), l5.1.resolve_left (by omega)⟩
        rcases f with ⟨f1, f2⟩ | ⟨f1, f2⟩
        · exact isW_one f2 hw
        · exact absurd hw (f2 6 (by decide))
      · omega
      · omega
      · omega
    · rintro ⟨h1, rfl⟩
      rcases hT0.2 with ⟨a, -⟩ | ⟨a, b1, c, d, f⟩ | ⟨a, -⟩ | ⟨a, -⟩ | ⟨a, -⟩
      · omega
      · rcases f with ⟨f1, f2⟩ | ⟨f1, f2⟩
        · obtain ⟨ge, m0, m1, m2, m3, m4, m5⟩ : e = q + 6 ∧ b (q) = 116 ∧ b (q + 1) = 104 ∧ b (q + 2) = 114 ∧ b (q + 3) = 111 ∧ b (q + 4) = 119 ∧ b (q + 5) = 115 := f2
          exact ⟨h1, by omega, ⟨Or.inr m0, Or.inl (by omega)⟩, ⟨Or.inr m1, Or.inl (by omega)⟩, ⟨Or.inr m2, Or.inl (by omega)⟩, ⟨Or.inr m3, Or.inl (by omega)⟩, ⟨Or.inr m4, Or.inl (by omega)⟩, ⟨Or.inr m5, Or.inl (by omega)⟩, ⟨Or.inl (by omega), Or.inr rfl⟩, ⟨Or.inl (by omega), Or.inr rfl⟩⟩
        · omega
      · omega
      · omega
      · omega
  rcases wrdM hb hz hT hm (c0 := 116) (c1 := 104) (c2 := 114) (c3 := 111) (c4 := 119) (c5 := 115) (c6 := 0) (c7 := 0) (by decide) with ⟨a, r⟩ | ⟨a, r⟩
  · exact Or.inl ⟨key.mp a, r⟩
  · exact Or.inr ⟨fun q9 => a (key.mpr q9), r⟩
theorem wrd_7 (hb : ∀ i, b i < 256) (hz : z ≤ 160) {μ : Wm} (hT : TK b z q e κ w) (hm : SM b z t q e κ w o μ) : ((κ = 1 ∧ w = 7) ∧ f_X6_isWord μ (99 : Int32) (111 : Int32) (109 : Int32) (101 : Int32) (115 : Int32) (0 : Int32) (0 : Int32) (0 : Int32) = some (1, μ)) ∨ (¬ (κ = 1 ∧ w = 7) ∧ f_X6_isWord μ (99 : Int32) (111 : Int32) (109 : Int32) (101 : Int32) (115 : Int32) (0 : Int32) (0 : Int32) (0 : Int32) = some (0, μ)) := by
  have key : (κ = 1 ∧ e ≤ q + 8 ∧ ((e ≤ q ∨ b (q) = 99) ∧ (q < e ∨ (99 : Nat) = 0)) ∧ ((e ≤ q + 1 ∨ b (q + 1) = 111) ∧ (q + 1 < e ∨ (111 : Nat) = 0)) ∧ ((e ≤ q + 2 ∨ b (q + 2) = 109) ∧ (q + 2 < e ∨ (109 : Nat) = 0)) ∧ ((e ≤ q + 3 ∨ b (q + 3) = 101) ∧ (q + 3 < e ∨ (101 : Nat) = 0)) ∧ ((e ≤ q + 4 ∨ b (q + 4) = 115) ∧ (q + 4 < e ∨ (115 : Nat) = 0)) ∧ ((e ≤ q + 5 ∨ b (q + 5) = 0) ∧ (q + 5 < e ∨ (0 : Nat) = 0)) ∧ ((e ≤ q + 6 ∨ b (q + 6) = 0) ∧ (q + 6 < e ∨ (0 : Nat) = 0)) ∧ ((e ≤ q + 7 ∨ b (q + 7) = 0) ∧ (q + 7 < e ∨ (0 : Nat) = 0))) ↔ (κ = 1 ∧ w = 7) := by
    obtain ⟨p, hp, hT0⟩ := hT
    constructor
    · rintro ⟨h1, h8, l0, l1, l2, l3, l4, l5, l6, l7⟩
      refine ⟨h1, ?_⟩
      rcases hT0.2 with ⟨a, -⟩ | ⟨a, b1, c, d, f⟩ | ⟨a, -⟩ | ⟨a, -⟩ | ⟨a, -⟩
      · omega
      · have g1 : q + 4 < e := l4.2.resolve_right (by decide)
        have g2 : e ≤ q + 5 := by
          rcases l5.1 with h | h
          · exact h
          · by_cases h9 : e ≤ q + 5
            · exact h9
            · have := (ru_in isL b (z - q) q (q + 5) (by omega) (by rw [← d]; omega)).1
              omega
        have hw : isW b q e 7 := ⟨by omega, l0.1.resolve_left (by omega), l1.1.resolve_left (by omega), l2.1.resolve_left (by omega), l3.1.resolve_left (by omega), l4.1.resolve_left (by omega)⟩
        rcases f with ⟨f1, f2⟩ | ⟨f1, f2⟩
        · exact isW_one f2 hw
        · exact absurd hw (f2 7 (by decide))
      · omega
      · omega
      · omega
    · rintro ⟨h1, rfl⟩
      rcases hT0.2 with ⟨a, -⟩ | ⟨a, b1, c, d, f⟩ | ⟨a, -⟩ | ⟨a, -⟩ | ⟨a, -⟩
      · omega
      · rcases f with ⟨f1, f2⟩ | ⟨f1, f2⟩
        · obtain ⟨ge, m0, m1, m2, m3, m4⟩ : e = q + 5 ∧ b (q) = 99 ∧ b (q + 1) = 111 ∧ b (q + 2) = 109 ∧ b (q + 3) = 101 ∧ b (q + 4) = 115 := f2
          exact ⟨h1, by omega, ⟨Or.inr m0, Or.inl (by omega)⟩, ⟨Or.inr m1, Or.inl (by omega)⟩, ⟨Or.inr m2, Or.inl (by omega)⟩, ⟨Or.inr m3, Or.inl (by omega)⟩, ⟨Or.inr m4, Or.inl (by omega)⟩, ⟨Or.inl (by omega), Or.inr rfl⟩, ⟨Or.inl (by omega), Or.inr rfl⟩, ⟨Or.inl (by omega), Or.inr rfl⟩⟩
        · omega
      · omega
      · omega
      · omega
  rcases wrdM hb hz hT hm (c0 := 99) (c1 := 111) (c2 := 109) (c3 := 101) (c4 := 115) (c5 := 0) (c6 := 0) (c7 := 0) (by decide) with ⟨a, r⟩ | ⟨a, r⟩
  · exact Or.inl ⟨key.mp a, r⟩
  · exact Or.inr ⟨fun q9 => a (key.mpr q9), r⟩
theorem wrd_8 (hb : ∀ i, b i < 256) (hz : z ≤ 160) {μ : Wm} (hT : TK b z q e κ w) (hm : SM b z t q e κ w o μ) : ((κ = 1 ∧ w = 8) ∧ f_X6_isWord μ (112 : Int32) (97 : Int32) (121 : Int32) (115 : Int32) (0 : Int32) (0 : Int32) (0 : Int32) (0 : Int32) = some (1, μ)) ∨ (¬ (κ = 1 ∧ w = 8) ∧ f_X6_isWord μ (112 : Int32) (97 : Int32) (121 : Int32) (115 : Int32) (0 : Int32) (0 : Int32) (0 : Int32) (0 : Int32) = some (0, μ)) := by
  have key : (κ = 1 ∧ e ≤ q + 8 ∧ ((e ≤ q ∨ b (q) = 112) ∧ (q < e ∨ (112 : Nat) = 0)) ∧ ((e ≤ q + 1 ∨ b (q + 1) = 97) ∧ (q + 1 < e ∨ (97 : Nat) = 0)) ∧ ((e ≤ q + 2 ∨ b (q + 2) = 121) ∧ (q + 2 < e ∨ (121 : Nat) = 0)) ∧ ((e ≤ q + 3 ∨ b (q + 3) = 115) ∧ (q + 3 < e ∨ (115 : Nat) = 0)) ∧ ((e ≤ q + 4 ∨ b (q + 4) = 0) ∧ (q + 4 < e ∨ (0 : Nat) = 0)) ∧ ((e ≤ q + 5 ∨ b (q + 5) = 0) ∧ (q + 5 < e ∨ (0 : Nat) = 0)) ∧ ((e ≤ q + 6 ∨ b (q + 6) = 0) ∧ (q + 6 < e ∨ (0 : Nat) = 0)) ∧ ((e ≤ q + 7 ∨ b (q + 7) = 0) ∧ (q + 7 < e ∨ (0 : Nat) = 0))) ↔ (κ = 1 ∧ w = 8) := by
    obtain ⟨p, hp, hT0⟩ := hT
    constructor
    · rintro ⟨h1, h8, l0, l1, l2, l3, l4, l5, l6, l7⟩
      refine ⟨h1, ?_⟩
      rcases hT0.2 with ⟨a, -⟩ | ⟨a, b1, c, d, f⟩ | ⟨a, -⟩ | ⟨a, -⟩ | ⟨a, -⟩
      · omega
      · have g1 : q + 3 < e := l3.2.resolve_right (by decide)
        have g2 : e ≤ q + 4 := by
          rcases l4.1 with h | h
          · exact h
          · by_cases h9 : e ≤ q + 4
            · exact h9
            · have := (ru_in isL b (z - q) q (q + 4) (by omega) (by rw [← d]; omega)).1
              omega
        have hw : isW b q e 8 := ⟨by omega, l0.1.resolve_left (by omega), l1.1.resolve_left (by omega), l2.1.resolve_left (by omega), l3.1.resolve_left (by omega)⟩
        rcases f with ⟨f1, f2⟩ | ⟨f1, f2⟩
        · exact isW_one f2 hw
        · exact absurd hw (f2 8 (by decide))
      · omega
      · omega
      · omega
    · rintro ⟨h1, rfl⟩
      rcases hT0.2 with ⟨a, -⟩ | ⟨a, b1, c, d, f⟩ | ⟨a, -⟩ | ⟨a, -⟩ | ⟨a, -⟩
      · omega
      · rcases f with ⟨f1, f2⟩ | ⟨f1, f2⟩
        · obtain ⟨ge, m0, m1, m2, m3⟩ : e = q + 4 ∧ b (q) = 112 ∧ b (q + 1) = 97 ∧ b (q + 2) = 121 ∧ b (q + 3) = 115 := f2
          exact ⟨h1, by omega, ⟨Or.inr m0, Or.inl (by omega)⟩, ⟨Or.inr m1, Or.inl (by omega)⟩, ⟨Or.inr m2, Or.inl (by omega)⟩, ⟨Or.inr m3, Or.inl (by omega)⟩, ⟨Or.inl (by omega), Or.inr rfl⟩, ⟨Or.inl (by omega), Or.inr rfl⟩, ⟨Or.inl (by omega), Or.inr rfl⟩, ⟨Or.inl (by omega), Or.inr rfl⟩⟩
        · omega
      · omega
      · omega
      · omega
  rcases wrdM hb hz hT hm (c0 := 112) (c1 := 97) (c2 := 121) (c3 := 115) (c4 := 0) (c5 := 0) (c6 := 0) (c7 := 0) (by decide) with ⟨a, r⟩ | ⟨a, r⟩
  · exact Or.inl ⟨key.mp a, r⟩
  · exact Or.inr ⟨fun q9 => a (key.mpr q9), r⟩
theorem wrd_9 (hb : ∀ i, b i < 256) (hz : z ≤ 160) {μ : Wm} (hT : TK b z q e κ w) (hm : SM b z t q e κ w o μ) : ((κ = 1 ∧ w = 9) ∧ f_X6_isWord μ (111 : Int32) (114 : Int32) (0 : Int32) (0 : Int32) (0 : Int32) (0 : Int32) (0 : Int32) (0 : Int32) = some (1, μ)) ∨ (¬ (κ = 1 ∧ w = 9) ∧ f_X6_isWord μ (111 : Int32) (114 : Int32) (0 : Int32) (0 : Int32) (0 : Int32) (0 : Int32) (0 : Int32) (0 : Int32) = some (0, μ)) := by
  have key : (κ = 1 ∧ e ≤ q + 8 ∧ ((e ≤ q ∨ b (q) = 111) ∧ (q < e ∨ (111 : Nat) = 0)) ∧ ((e ≤ q + 1 ∨ b (q + 1) = 114) ∧ (q + 1 < e ∨ (114 : Nat) = 0)) ∧ ((e ≤ q + 2 ∨ b (q + 2) = 0) ∧ (q + 2 < e ∨ (0 : Nat) = 0)) ∧ ((e ≤ q + 3 ∨ b (q + 3) = 0) ∧ (q + 3 < e ∨ (0 : Nat) = 0)) ∧ ((e ≤ q + 4 ∨ b (q + 4) = 0) ∧ (q + 4 < e ∨ (0 : Nat) = 0)) ∧ ((e ≤ q + 5 ∨ b (q + 5) = 0) ∧ (q + 5 < e ∨ (0 : Nat) = 0)) ∧ ((e ≤ q + 6 ∨ b (q + 6) = 0) ∧ (q + 6 < e ∨ (0 : Nat) = 0)) ∧ ((e ≤ q + 7 ∨ b (q + 7) = 0) ∧ (q + 7 < e ∨ (0 : Nat) = 0))) ↔ (κ = 1 ∧ w = 9) := by
    obtain ⟨p, hp, hT0⟩ := hT
    constructor
    · rintro ⟨h1, h8, l0, l1, l2, l3, l4, l5, l6, l7⟩
      refine ⟨h1, ?_⟩
      rcases hT0.2 with ⟨a, -⟩ | ⟨a, b1, c, d, f⟩ | ⟨a, -⟩ | ⟨a, -⟩ | ⟨a, -⟩
      · omega
      · have g1 : q + 1 < e := l1.2.resolve_right (by decide)
        have g2 : e ≤ q + 2 := by
          rcases l2.1 with h | h
          · exact h
          · by_cases h9 : e ≤ q + 2
            · exact h9
            · have := (ru_in isL b (z - q) q (q + 2) (by omega) (by rw [← d]; omega)).1
              omega
        have hw : isW b q e 9 := ⟨by omega, l0.1.resolve_left (by omega), l1.1.resolve_left (by omega)⟩
        rcases f with ⟨f1, f2⟩ | ⟨f1, f2⟩
        · exact isW_one f2 hw
        · exact absurd hw (f2 9 (by decide))
      · omega
      · omega
      · omega
    · rintro ⟨h1, rfl⟩
      rcases hT0.2 with ⟨a, -⟩ | ⟨a, b1, c, d, f⟩ | ⟨a, -⟩ | ⟨a, -⟩ | ⟨a, -⟩
      · omega
      · rcases f with ⟨f1, f2⟩ | ⟨f1, f2⟩
        · obtain ⟨ge, m0, m1⟩ : e = q + 2 ∧ b (q) = 111 ∧ b (q + 1) = 114 := f2
          exact ⟨h1, by omega, ⟨Or.inr m0, Or.inl (by omega)⟩, ⟨Or.inr m1, Or.inl (by omega)⟩, ⟨Or.inl (by omega), Or.inr rfl⟩, ⟨Or.inl (by omega), Or.inr rfl⟩, ⟨Or.inl (by omega), Or.inr rfl⟩, ⟨Or.inl (by omega), Or.inr rfl⟩, ⟨Or.inl (by omega), Or.inr rfl⟩, ⟨Or.inl (by omega), Or.inr rfl⟩⟩
        · omega
      · omega
      · omega
      · omega
  rcases wrdM hb hz hT hm (c0 := 111) (c1 := 114) (c2 := 0) (c3 := 0) (c4 := 0) (c5 := 0) (c6 := 0) (c7 := 0) (by decide) with ⟨a, r⟩ | ⟨a, r⟩
  · exact Or.inl ⟨key.mp a, r⟩
  · exact Or.inr ⟨fun q9 => a (key.mpr q9), r⟩
theorem wrd_10 (hb : ∀ i, b i < 256) (hz : z ≤ 160) {μ : Wm} (hT : TK b z q e κ w) (hm : SM b z t q e κ w o μ) : ((κ = 1 ∧ w = 10) ∧ f_X6_isWord μ (97 : Int32) (110 : Int32) (100 : Int32) (0 : Int32) (0 : Int32) (0 : Int32) (0 : Int32) (0 : Int32) = some (1, μ)) ∨ (¬ (κ = 1 ∧ w = 10) ∧ f_X6_isWord μ (97 : Int32) (110 : Int32) (100 : Int32) (0 : Int32) (0 : Int32) (0 : Int32) (0 : Int32) (0 : Int32) = some (0, μ)) := by
  have key : (κ = 1 ∧ e ≤ q + 8 ∧ ((e ≤ q ∨ b (q) = 97) ∧ (q < e ∨ (97 : Nat) = 0)) ∧ ((e ≤ q + 1 ∨ b (q + 1) = 110) ∧ (q + 1 < e ∨ (110 : Nat) = 0)) ∧ ((e ≤ q + 2 ∨ b (q + 2) = 100) ∧ (q + 2 < e ∨ (100 : Nat) = 0)) ∧ ((e ≤ q + 3 ∨ b (q + 3) = 0) ∧ (q + 3 < e ∨ (0 : Nat) = 0)) ∧ ((e ≤ q + 4 ∨ b (q + 4) = 0) ∧ (q + 4 < e ∨ (0 : Nat) = 0)) ∧ ((e ≤ q + 5 ∨ b (q + 5) = 0) ∧ (q + 5 < e ∨ (0 : Nat) = 0)) ∧ ((e ≤ q + 6 ∨ b (q + 6) = 0) ∧ (q + 6 < e ∨ (0 : Nat) = 0)) ∧ ((e ≤ q + 7 ∨ b (q + 7) = 0) ∧ (q + 7 < e ∨ (0 : Nat) = 0))) ↔ (κ = 1 ∧ w = 10) := by
    obtain ⟨p, hp, hT0⟩ := hT
    constructor
    · rintro ⟨h1, h8, l0, l1, l2, l3, l4, l5, l6, l7⟩
      refine ⟨h1, ?_⟩
      rcases hT0.2 with ⟨a, -⟩ | ⟨a, b1, c, d, f⟩ | ⟨a, -⟩ | ⟨a, -⟩ | ⟨a, -⟩
      · omega
      · have g1 : q + 2 < e := l2.2.resolve_right (by decide)
        have g2 : e ≤ q + 3 := by
          rcases l3.1 with h | h
          · exact h
          · by_cases h9 : e ≤ q + 3
            · exact h9
            · have := (ru_in isL b (z - q) q (q + 3) (by omega) (by rw [← d]; omega)).1
              omega
        have hw : isW b q e 10 := ⟨by omega, l0.1.resolve_left (by omega), l1.1.resolve_left (by omega), l2.1.resolve_left (by omega)⟩
        rcases f with ⟨f1, f2⟩ | ⟨f1, f2⟩
        · exact isW_one f2 hw
        · exact absurd hw (f2 10 (by decide))
      · omega
      · omega
      · omega
    · rintro ⟨h1, rfl⟩
      rcases hT0.2 with ⟨a, -⟩ | ⟨a, b1, c, d, f⟩ | ⟨a, -⟩ | ⟨a, -⟩ | ⟨a, -⟩
      · omega
      · rcases f with ⟨f1, f2⟩ | ⟨f1, f2⟩
        · obtain ⟨ge, m0, m1, m2⟩ : e = q + 3 ∧ b (q) = 97 ∧ b (q + 1) = 110 ∧ b (q + 2) = 100 := f2
          exact ⟨h1, by omega, ⟨Or.inr m0, Or.inl (by omega)⟩, ⟨Or.inr m1, Or.inl (by omega)⟩, ⟨Or.inr m2, Or.inl (by omega)⟩, ⟨Or.inl (by omega), Or.inr rfl⟩, ⟨Or.inl (by omega), Or.inr rfl⟩, ⟨Or.inl (by omega), Or.inr rfl⟩, ⟨Or.inl (by omega), Or.inr rfl⟩, ⟨Or.inl (by omega), Or.inr rfl⟩⟩
        · omega
      · omega
      · omega
      · omega
  rcases wrdM hb hz hT hm (c0 := 97) (c1 := 110) (c2 := 100) (c3 := 0) (c4 := 0) (c5 := 0) (c6 := 0) (c7 := 0) (by decide) with ⟨a, r⟩ | ⟨a, r⟩
  · exact Or.inl ⟨key.mp a, r⟩
  · exact Or.inr ⟨fun q9 => a (key.mpr q9), r⟩
theorem wrd_11 (hb : ∀ i, b i < 256) (hz : z ≤ 160) {μ : Wm} (hT : TK b z q e κ w) (hm : SM b z t q e κ w o μ) : ((κ = 1 ∧ w = 11) ∧ f_X6_isWord μ (110 : Int32) (111 : Int32) (116 : Int32) (0 : Int32) (0 : Int32) (0 : Int32) (0 : Int32) (0 : Int32) = some (1, μ)) ∨ (¬ (κ = 1 ∧ w = 11) ∧ f_X6_isWord μ (110 : Int32) (111 : Int32) (116 : Int32) (0 : Int32) (0 : Int32) (0 : Int32) (0 : Int32) (0 : Int32) = some (0, μ)) := by
  have key : (κ = 1 ∧ e ≤ q + 8 ∧ ((e ≤ q ∨ b (q) = 110) ∧ (q < e ∨ (110 : Nat) = 0)) ∧ ((e ≤ q + 1 ∨ b (q + 1) = 111) ∧ (q + 1 < e ∨ (111 : Nat) = 0)) ∧ ((e ≤ q + 2 ∨ b (q + 2) = 116) ∧ (q + 2 < e ∨ (116 : Nat) = 0)) ∧ ((e ≤ q + 3 ∨ b (q + 3) = 0) ∧ (q + 3 < e ∨ (0 : Nat) = 0)) ∧ ((e ≤ q + 4 ∨ b (q + 4) = 0) ∧ (q + 4 < e ∨ (0 : Nat) = 0)) ∧ ((e ≤ q + 5 ∨ b (q + 5) = 0) ∧ (q + 5 < e ∨ (0 : Nat) = 0)) ∧ ((e ≤ q + 6 ∨ b (q + 6) = 0) ∧ (q + 6 < e ∨ (0 : Nat) = 0)) ∧ ((e ≤ q + 7 ∨ b (q + 7) = 0) ∧ (q + 7 < e ∨ (0 : Nat) = 0))) ↔ (κ = 1 ∧ w = 11) := by
    obtain ⟨p, hp, hT0⟩ := hT
    constructor
    · rintro ⟨h1, h8, l0, l1, l2, l3, l4, l5, l6, l7⟩
      refine ⟨h1, ?_⟩
      rcases hT0.2 with ⟨a, -⟩ | ⟨a, b1, c, d, f⟩ | ⟨a, -⟩ | ⟨a, -⟩ | ⟨a, -⟩
      · omega
      · have g1 : q + 2 < e := l2.2.resolve_right (by decide)
        have g2 : e ≤ q + 3 := by
          rcases l3.1 with h | h
          · exact h
          · by_cases h9 : e ≤ q + 3
            · exact h9
            · have := (ru_in isL b (z - q) q (q + 3) (by omega) (by rw [← d]; omega)).1
              omega
        have hw : isW b q e 11 := ⟨by omega, l0.1.resolve_left (by omega), l1.1.resolve_left (by omega), l2.1.resolve_left (by omega)⟩
        rcases f with ⟨f1, f2⟩ | ⟨f1, f2⟩
        · exact isW_one f2 hw
        · exact absurd hw (f2 11 (by decide))
      · omega
      · omega
      · omega
    · rintro ⟨h1, rfl⟩
      rcases hT0.2 with ⟨a, -⟩ | ⟨a, b1, c, d, f⟩ | ⟨a, -⟩ | ⟨a, -⟩ | ⟨a, -⟩
      · omega
      · rcases f with ⟨f1, f2⟩ | ⟨f1, f2⟩
        · obtain ⟨ge, m0, m1, m2⟩ : e = q + 3 ∧ b (q) = 110 ∧ b (q + 1) = 111 ∧ b (q + 2) = 116 := f2
          exact ⟨h1, by omega, ⟨Or.inr m0, Or.inl (by omega)⟩, ⟨Or.inr m1, Or.inl (by omega)⟩, ⟨Or.inr m2, Or.inl (by omega)⟩, ⟨Or.inl (by omega), Or.inr rfl⟩, ⟨Or.inl (by omega), Or.inr rfl⟩, ⟨Or.inl (by omega), Or.inr rfl⟩, ⟨Or.inl (by omega), Or.inr rfl⟩, ⟨Or.inl (by omega), Or.inr rfl⟩⟩
        · omega
      · omega
      · omega
      · omega
  rcases wrdM hb hz hT hm (c0 := 110) (c1 := 111) (c2 := 116) (c3 := 0) (c4 := 0) (c5 := 0) (c6 := 0) (c7 := 0) (by decide) with ⟨a, r⟩ | ⟨a, r⟩
  · exact Or.inl ⟨key.mp a, r⟩
  · exact Or.inr ⟨fun q9 => a (key.mpr q9), r⟩
end PR

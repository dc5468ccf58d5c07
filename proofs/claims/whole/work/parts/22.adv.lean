/-- the token from p on: it begins at q, ends at e, is of kind κ (0 end, 1 word w, 2 number w, 3 sign w, 4 none) -/
def Tok (b : Nat → Nat) (z p q e κ w : Nat) : Prop := q = ru isB b (z - p) p ∧
  ((κ = 0 ∧ q = z ∧ e = z) ∨
   (κ = 1 ∧ q < z ∧ isL (b q) ∧ e = ru isL b (z - q) q ∧ ((w < 12 ∧ isW b q e w) ∨ (w = 258 ∧ ∀ j, j < 12 → ¬ isW b q e j))) ∨
   (κ = 2 ∧ q < z ∧ isD (b q) ∧ e = ru isD b (z - q) q ∧ e ≤ q + 4 ∧ w = nvv b q (e - q)) ∨
   (κ = 3 ∧ q < z ∧ isS (b q) ∧ e = q + 1 ∧ w = b q) ∨
   (κ = 4 ∧ q < z ∧ ((isD (b q) ∧ e = ru isD b (z - q) q ∧ q + 4 < e) ∨ (¬ isL (b q) ∧ ¬ isD (b q) ∧ ¬ isS (b q)))))
theorem not_LD {x : Nat} (h : isL x) : ¬ isD x := by unfold isL at h; unfold isD; omega
theorem not_SL {x : Nat} (h : isS x) : ¬ isL x := by unfold isS at h; unfold isL; omega
theorem not_SD {x : Nat} (h : isS x) : ¬ isD x := by unfold isS at h; unfold isD; omega
theorem tok_ex (b : Nat → Nat) {z p : Nat} (h : p ≤ z) : ∃ q e κ w, Tok b z p q e κ w := by
  obtain ⟨q, hq⟩ : ∃ q, q = ru isB b (z - p) p := ⟨_, rfl⟩
  have hge := ru_ge isB b (z - p) p
  rw [← hq] at hge
  by_cases h0 : q = z
  · exact ⟨q, z, 0, 0, hq, Or.inl ⟨rfl, h0, rfl⟩⟩
  · have hlt : q < z := by omega
    by_cases h1 : isL (b q)
    · by_cases h2 : ∃ j, j < 12 ∧ isW b q (ru isL b (z - q) q) j
      · obtain ⟨j, h3, h4⟩ := h2
        exact ⟨q, _, 1, j, hq, Or.inr (Or.inl ⟨rfl, hlt, h1, rfl, Or.inl ⟨h3, h4⟩⟩)⟩
      · exact ⟨q, _, 1, 258, hq, Or.inr (Or.inl ⟨rfl, hlt, h1, rfl, Or.inr ⟨rfl, fun j hj hw => h2 ⟨j, hj, hw⟩⟩⟩)⟩
    · by_cases h2 : isD (b q)
      · by_cases h3 : ru isD b (z - q) q ≤ q + 4
        · exact ⟨q, _, 2, _, hq, Or.inr (Or.inr (Or.inl ⟨rfl, hlt, h2, rfl, h3, rfl⟩))⟩
        · exact ⟨q, _, 4, 0, hq, Or.inr (Or.inr (Or.inr (Or.inr ⟨rfl, hlt, Or.inl ⟨h2, rfl, by omega⟩⟩)))⟩
      · by_cases h3 : isS (b q)
        · exact ⟨q, q + 1, 3, b q, hq, Or.inr (Or.inr (Or.inr (Or.inl ⟨rfl, hlt, h3, rfl, rfl⟩)))⟩
        · exact ⟨q, 0, 4, 0, hq, Or.inr (Or.inr (Or.inr (Or.inr ⟨rfl, hlt, Or.inr ⟨h1, h2, h3⟩⟩)))⟩
/-- the class's word for a token -/
def tkx (κ w : Nat) : Nat := match κ with
  | 0 => 257
  | 1 => w
  | 2 => 256
  | 3 => w
  | _ => 258
section TX
variable {b : Nat → Nat} {z n p q e κ w : Nat}
theorem tok_q (h : Tok b z p q e κ w) (hp : p ≤ z) : p ≤ q ∧ q ≤ z := by
  have := ru_ge isB b (z - p) p
  rw [← h.1] at this
  omega
theorem tok_e (h : Tok b z p q e κ w) (hp : p ≤ z) (h4 : ¬ κ = 4) : q ≤ e ∧ e ≤ z ∧ (¬ κ = 0 → q < e) := by
  have hq := tok_q h hp
  have hL := ru_ge isL b (z - q) q
  have hD := ru_ge isD b (z - q) q
  rcases h.2 with ⟨a, b1, c⟩ | ⟨a, b1, c, d, -⟩ | ⟨a, b1, c, d, -⟩ | ⟨a, b1, c, d, -⟩ | ⟨a, -⟩
  · omega
  · obtain ⟨m, hm⟩ : ∃ m, z - q = m + 1 := ⟨z - q - 1, by omega⟩
    rw [hm, ru_t c] at d
    have := ru_ge isL b m (q + 1)
    omega
  · obtain ⟨m, hm⟩ : ∃ m, z - q = m + 1 := ⟨z - q - 1, by omega⟩
    rw [hm, ru_t c] at d
    have := ru_ge isD b m (q + 1)
    omega
  · omega
  · exact absurd a h4
theorem xadv (hb : ∀ i, b i < 256) (hz : z ≤ 160) (hn : 160 < n) {σ : Gm} (hin : InX b z σ) (hp : σ 2 0 2 = nI p) (hpz : p ≤ z) (hT : Tok b z p q e κ w) : ∃ σ', f_X1_advance n σ = some ((), σ') ∧ FrT σ σ' ∧ σ' 2 0 4 = nI q ∧ σ' 2 0 3 = nI (tkx κ w) ∧ (¬ κ = 4 → σ' 2 0 2 = nI e) ∧ (κ = 2 → σ' 2 0 5 = nI w) := by
  have hqz := tok_q hT hpz
  obtain ⟨σ1, h1, h2, h3⟩ := xa_blank (n := n) hb hz (z - p) p n σ (by omega) (by omega) hin hp
  rw [← hT.1] at h2
  unfold f_X1_advance
  rw [h1]
  unfold f_X1_advance_J52
  rw [bv_e]
  have f2 : FrT σ1 (up3 σ1 2 0 4 (σ1 2 0 2)) := FrT.up (by omega)
  obtain ⟨σ2, e2⟩ : ∃ σ2, σ2 = up3 σ1 2 0 4 (σ1 2 0 2) := ⟨_, rfl⟩
  rw [← e2] at f2 ⊢
  have hin2 : InX b z σ2 := (hin.fr h3).fr f2
  have hat : σ2 2 0 2 = nI q := by rw [e2, up3_of (by omega)]; exact h2
  have hpl : σ2 2 0 4 = nI q := by rw [e2, up3_at]; exact h2
  have fr2 : FrT σ σ2 := h3.tr f2
  have hcell : q < z → σ2 6 0 (nI q).toNatClampNeg = nI (b q) := fun hq => by rw [nI_clamp (by omega)]; exact hin2.2 q hq
  have hbq := hb q
  rcases hT.2 with ⟨rfl, k1, k2⟩ | ⟨rfl, k1, k2, k3, k4⟩ | ⟨rfl, k1, k2, k3, k4, k5⟩ | ⟨rfl, k1, k2, k3, k4⟩ | ⟨rfl, k1, k2⟩
  · rw [if_neg (by rw [hat, hin2.1]; exact nI_nlt (by omega) (by omega)), bv_e]
    exact ⟨_, rfl, fr2.tr (FrT.up (by omega)), (up3_of (by omega)).trans hpl, up3_at _ _ _ _ _, fun _ => (up3_of (by omega)).trans (by rw [hat, k1, k2]), fun h => by omega⟩
  · rw [if_pos (by rw [hat, hin2.1]; exact nI_lt k1 (by omega)), hat, gd_h (inb_nI (by omega) (by decide)), hcell k1, xl_letter σ2 hbq, if_pos k2, bc_s, if_neg (by decide)]
    obtain ⟨σ3, g1, g2, g3, g4⟩ := xa_letters (n := n) hb hz (z - q) q n σ2 (by omega) (by omega) hin2 hat
    rw [← k3] at g2
    have hez := ru_ge isL b (z - q) q
    rw [g1]
    unfold f_X1_advance_J135
    rw [g4, hpl, g2]
    obtain ⟨w', j1, j2⟩ := xa_word hb hz hn (hin2.fr g3) (q := q) (e := e) (by omega) (by omega)
    rw [j1, bc_s, bv_e]
    have hw : w' = w := by
      rcases j2 with ⟨a1, a2⟩ | ⟨a1, a2⟩ <;> rcases k4 with ⟨b1, b2⟩ | ⟨b1, b2⟩
      · exact isW_one a2 b2
      · exact absurd a2 (b2 _ a1)
      · exact absurd b2 (a2 _ b1)
      · omega
    exact ⟨_, rfl, (fr2.tr g3).tr (FrT.up (by omega)), (up3_of (by omega)).trans (g4.trans hpl), by rw [up3_at, hw]; rfl, fun _ => (up3_of (by omega)).trans g2, fun h => by omega⟩
  · rw [if_pos (by rw [hat, hin2.1]; exact nI_lt k1 (by omega)), hat, gd_h (inb_nI (by omega) (by decide)), hcell k1, xl_letter σ2 hbq, if_neg (fun q9 => not_LD q9 k2), bc_s, if_pos rfl, hat, gd_h (inb_nI (by omega) (by decide)), hcell k1, xl_digit σ2 hbq, if_pos k2, bc_s, if_neg (by decide)]
    unfold f_X1_readNumber
    rw [bv_e]
    have f3 : FrT σ2 (up3 σ2 2 0 5 0) := FrT.up (by omega)
    obtain ⟨σ3, g1, g2, g3, g4, g5⟩ := xa_digits (n := n) hb hz q (z - q) q n (up3 σ2 2 0 5 0) (by omega) (by omega) (Nat.le_refl _) (hin2.fr f3) ((up3_of (by omega)).trans hat) (by rw [up3_at, Nat.sub_self]; rfl)
    rw [← k3] at g2 g5
    have hez := ru_ge isD b (z - q) q
    rw [g1]
    unfold f_X1_readNumber_J68
    rw [g2, g4, up3_of (by omega), hpl, pk_sub (by omega), if_neg (show ¬ (4 : Int32) < nI (e - q) from nI_nlt (show e - q ≤ 4 by omega) (by decide)), bv_e, bc_s]
    exact ⟨_, rfl, ((fr2.tr f3).tr g3).tr (FrT.up (by omega)), (up3_of (by omega)).trans (g4.trans ((up3_of (by omega)).trans hpl)), up3_at _ _ _ _ _, fun _ => (up3_of (by omega)).trans g2, fun _ => by rw [up3_of (by omega), g5, k5]⟩
  · rw [if_pos (by rw [hat, hin2.1]; exact nI_lt k1 (by omega)), hat, gd_h (inb_nI (by omega) (by decide)), hcell k1, xl_letter σ2 hbq, if_neg (not_SL k2), bc_s, if_pos rfl, hat, gd_h (inb_nI (by omega) (by decide)), hcell k1, xl_digit σ2 hbq, if_neg (not_SD k2), bc_s, if_pos rfl, hat, gd_h (inb_nI (by omega) (by decide)), hcell k1, xl_sign σ2 hbq, if_pos k2, bc_s, if_neg (by decide), hat, gd_h (inb_nI (by omega) (by decide)), hcell k1]
    unfold f_X1_advance_J207
    rw [bv_e, bv_e]
    exact ⟨_, rfl, (fr2.tr (FrT.up (by omega))).tr (FrT.up (by omega)), (up3_of (by omega)).trans ((up3_of (by omega)).trans hpl), by rw [up3_of (by omega), up3_at, k4]; rfl, fun _ => by rw [up3_at, up3_of (by omega), hat, k3]; exact nI_1 q, fun h => by omega⟩
  · rw [if_pos (by rw [hat, hin2.1]; exact nI_lt k1 (by omega)), hat, gd_h (inb_nI (by omega) (by decide)), hcell k1, xl_letter σ2 hbq]
    rcases k2 with ⟨a1, a2, a3⟩ | ⟨a1, a2, a3⟩
    · rw [if_neg (fun q9 => not_LD q9 a1), bc_s, if_pos rfl, hat, gd_h (inb_nI (by omega) (by decide)), hcell k1, xl_digit σ2 hbq, if_pos a1, bc_s, if_neg (by decide)]
      unfold f_X1_readNumber
      rw [bv_e]
      have f3 : FrT σ2 (up3 σ2 2 0 5 0) := FrT.up (by omega)
      obtain ⟨σ3, g1, g2, g3, g4, g5⟩ := xa_digits (n := n) hb hz q (z - q) q n (up3 σ2 2 0 5 0) (by omega) (by omega) (Nat.le_refl _) (hin2.fr f3) ((up3_of (by omega)).trans hat) (by rw [up3_at, Nat.sub_self]; rfl)
      rw [← a2] at g2 g5
      have hez := ru_ge isD b (z - q) q
      rw [g1]
      unfold f_X1_readNumber_J68
      rw [g2, g4, up3_of (by omega), hpl, pk_sub (by omega), if_pos (show (4 : Int32) < nI (e - q) from nI_lt (show 4 < e - q by omega) (by omega)), bv_e, bc_s]
      exact ⟨_, rfl, ((fr2.tr f3).tr g3).tr (FrT.up (by omega)), (up3_of (by omega)).trans (g4.trans ((up3_of (by omega)).trans hpl)), up3_at _ _ _ _ _, fun h => absurd rfl h, fun h => by omega⟩
    · rw [if_neg a1, bc_s, if_pos rfl, hat, gd_h (inb_nI (by omega) (by decide)), hcell k1, xl_digit σ2 hbq, if_neg a2, bc_s, if_pos rfl, hat, gd_h (inb_nI (by omega) (by decide)), hcell k1, xl_sign σ2 hbq, if_neg a3, bc_s, if_pos rfl]
      unfold f_X1_advance_J207
      rw [bv_e, bv_e]
      exact ⟨_, rfl, (fr2.tr (FrT.up (by omega))).tr (FrT.up (by omega)), (up3_of (by omega)).trans ((up3_of (by omega)).trans hpl), by rw [up3_of (by omega), up3_at]; rfl, fun h => absurd rfl h, fun h => by omega⟩
end TX

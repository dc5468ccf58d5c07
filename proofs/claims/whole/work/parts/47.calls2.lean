/-! run, on both sides -/
section K
variable {n d C z : Nat} {V : Tx} {b : Nat → Nat} {S : Sk} {σ : Gm} {μ : Wm}
theorem TxX.of {σ' : Gm} (h : TxX V C σ) (fx : ∀ c k j, (c = 11 ∨ c = 12) → σ' c k j = σ c k j) : TxX V C σ' := by
  intro t ht
  obtain ⟨m1, m2, m3, a1, a2, a3, b1, b2, b3, hc⟩ := h t ht
  have e : σ' 11 t = σ 11 t := funext fun j => fx _ _ _ (by omega)
  rw [e]
  exact ⟨m1, m2, m3, (fx _ _ _ (by omega)).trans a1, (fx _ _ _ (by omega)).trans a2, (fx _ _ _ (by omega)).trans a3, b1, b2, b3, hc⟩
theorem TxM.of {μ' : Wm} (h : TxM n V C μ) (fm : ∀ c k j, (c = 1 ∨ c = 2) → μ'.1 c k j = μ.1 c k j) : TxM n V C μ' := by
  intro t ht
  obtain ⟨b', z', q1, q2, q3⟩ := h t ht
  exact ⟨b', z', (fm _ _ _ (by omega)).trans q1, fun i hi => (fm _ _ _ (by omega)).trans (q2 i hi), q3⟩
theorem orI {M i a : Nat} (hM : M < 256) (hi : i < 8) (h0 : ¬ M / 2 ^ i % 2 = 1) (ha : a ≤ 1) : nI M ||| (nI a <<< (nI i &&& 31)) = nI (M + a * 2 ^ i) := by
  rcases (show a = 0 ∨ a = 1 by omega) with rfl | rfl
  · have key : ∀ i, i < 8 → ∀ M, M < 256 → nI M ||| (nI 0 <<< (nI i &&& 31)) = nI (M + 0 * 2 ^ i) := by decide +kernel
    exact key i hi M hM
  · rw [Nat.one_mul]
    exact or8 hM hi h0
theorem insL_m (hB : SkB S) (h : SkM S μ) : ∀ (m i f : Nat), i + m = S.T → m < f → f_X6_inSet_L4 n f μ (nI (mk S.inn i)) (nI i) = some (nI (mk S.inn S.T), μ)
  | m, i, 0, _, h => by omega
  | 0, i, f + 1, he, _ => by
    have hT := hB.2.2.2.2.2.2.1
    unfold f_X6_inSet_L4
    rw [h.2.2.2.2.2.2.1, if_pos (nI_le (show S.T ≤ i by omega) (by omega)), show i = S.T by omega]
  | m + 1, i, f + 1, he, hk => by
    have hT := hB.2.2.2.2.2.2.1
    have hi : i < S.T := by omega
    obtain ⟨r1, r2, r3⟩ := h.2.2.2.2.2.2.2.2.1 i hi
    have hI := hB.2.2.2.2.2.2.2.2.2.2.1
    have hl := mk_lt (f := S.inn) hI i
    have h2 : 2 ^ i ≤ 2 ^ 8 := Nat.pow_le_pow_right (by omega) (by omega)
    have hz0 : ¬ mk S.inn i / 2 ^ i % 2 = 1 := by
      rw [Nat.div_eq_of_lt hl]
      decide
    unfold f_X6_inSet_L4
    rw [h.2.2.2.2.2.2.1, if_neg (show ¬ nI S.T ≤ nI i from nI_ge hi (by omega)), x32, gd_h (inb_nI (show 3 * i + 2 < 24 by omega) (by decide)), nI_clamp (show 3 * i + 2 < 2 ^ 31 by omega), r3, orI (by omega) (by omega) hz0 (hI i), bv_e, nI_1]
    exact insL_m hB h m (i + 1) f (by omega) (by omega)
theorem ins_m (hn : 600 < n) (hB : SkB S) (h : SkM S μ) : f_X6_inSet n μ = some (nI (mk S.inn S.T), μ) := by
  have hT := hB.2.2.2.2.2.2.1
  exact insL_m hB h S.T 0 n (by omega) (by omega)
theorem run_s (hn : 600 < n) (hR : RuX n V C) (h : Re n V C S z b σ μ) (a1 a2 a3 : Int32) : Go n V C z b σ μ (f_X5_run n σ a1 a2 a3) (f_X6_run n μ a1 a2 a3) := by
  obtain ⟨hB, hN, hx, hm, TX, TM, cx, cm, hC, hr, -⟩ := id h
  unfold f_X5_run f_X6_run
  rcases rng a1 (lo := 0) (hi := 30) (by decide) (by decide) with ⟨D, g1, hD, g3, g4, g5⟩ | ⟨-, g4, g5⟩
  case inr =>
    rw [show f_X5_within σ a1 (0 : Int32) (30 : Int32) = _ from g4 σ, show f_X6_in μ a1.toInt64 (0 : Int64) (30 : Int64) = _ from g5 μ, bc_s, bc_s, if_pos rfl, if_pos rfl]
    exact Go.same h _ rfl rfl
  rw [show f_X5_within σ a1 (0 : Int32) (30 : Int32) = _ from g4 σ, show f_X6_in μ a1.toInt64 (0 : Int64) (30 : Int64) = _ from g5 μ, bc_s, bc_s, if_neg (show ¬ (1 : Int32) = 0 by decide), if_neg (show ¬ (1 : Int32) = 0 by decide)]
  rcases rng a2 (lo := 0) (hi := 1073741823) (by decide) (by decide) with ⟨i2, -, -, -, g4, g5⟩ | ⟨-, g4, g5⟩
  case inr =>
    rw [show f_X5_within σ a2 (0 : Int32) (1073741823 : Int32) = _ from g4 σ, show f_X6_in μ a2.toInt64 (0 : Int64) (1073741823 : Int64) = _ from g5 μ, bc_s, bc_s, if_pos rfl, if_pos rfl]
    exact Go.same h _ rfl rfl
  rw [show f_X5_within σ a2 (0 : Int32) (1073741823 : Int32) = _ from g4 σ, show f_X6_in μ a2.toInt64 (0 : Int64) (1073741823 : Int64) = _ from g5 μ, bc_s, bc_s, if_neg (show ¬ (1 : Int32) = 0 by decide), if_neg (show ¬ (1 : Int32) = 0 by decide)]
  rcases rng a3 (lo := 0) (hi := 5) (by decide) (by decide) with ⟨i3, -, hi3, e3, g4, g5⟩ | ⟨-, g4, g5⟩
  case inr =>
    rw [show f_X5_within σ a3 (0 : Int32) (5 : Int32) = _ from g4 σ, show f_X6_in μ a3.toInt64 (0 : Int64) (5 : Int64) = _ from g5 μ, bc_s, bc_s, if_pos rfl, if_pos rfl]
    exact Go.same h _ rfl rfl
  rw [show f_X5_within σ a3 (0 : Int32) (5 : Int32) = _ from g4 σ, show f_X6_in μ a3.toInt64 (0 : Int64) (5 : Int64) = _ from g5 μ, bc_s, bc_s, if_neg (show ¬ (1 : Int32) = 0 by decide), if_neg (show ¬ (1 : Int32) = 0 by decide), g3]
  obtain ⟨σ1, p1, p2, p3⟩ := as_x (k := 2) (k1 := 0) (by decide) hB hx
  obtain ⟨μ1, q1, q2, q3⟩ := aside_m hn hB hm
  have TX1 : TxX V C σ1 := TX.of fun c k j w => p3 c k j (by omega)
  have TM1 : TxM n V C μ1 := TM.of fun c k j w => q3 c k j (by omega)
  have hm1 : SkM S μ1 := hm.fr' fun c k j w => q3 c k j (by omega)
  obtain ⟨σ2, s1, s2, s3⟩ := go_x (x := a2) hn hR hD hB p2 TX1 hr (by omega)
  obtain ⟨μ2, t1, t2, t3⟩ := go_m (x := a2) hn hD hB hm1 TM1 hr (by omega)
  rw [p1, q1, bc_s, bc_s, s1, t1, bc_s, bc_s]
  have hB2 : SkB (goS V a2 D S).1 := goF_B D 0 S 0 hB (by omega)
  have as2 : AsM S μ2 := ⟨fun x hx => (t3 _ _ _ (by omega)).trans (q2.1 x hx), fun i hi => (t3 _ _ _ (by omega)).trans (q2.2 i hi)⟩
  obtain ⟨μ3, u1, u2, u3⟩ := back_m hn hB as2 t2 goS_E
  have fin : ∀ r, Go n V C z b σ μ (some (r, σ2)) (some (r, μ3)) := fun r => ⟨r, σ2, μ3, S, rfl, rfl, h.mk hB hN ((hx.fr' fun c j w1 w2 => p3 c 0 j (by omega)).fr' fun c j w1 w2 => s3 c 0 j (by omega)) u2 hr (fun c k j w => (s3 c k j (by omega)).trans (p3 c k j (by omega))) (fun c k j w => (u3 c k j (by omega)).trans ((t3 c k j (by omega)).trans (q3 c k j (by omega)))), fun c k j w => (s3 c k j (by omega)).trans (p3 c k j (by omega)), fun c k j w => (u3 c k j (by omega)).trans ((t3 c k j (by omega)).trans (q3 c k j (by omega)))⟩
  rw [full_x s2, full_m t2, bc_s, bc_s, u1, bc_s, left_x hn hB2 s2, left_m hn hB2 t2, bc_s, bc_s, ins_m hn hB2 t2, bc_s]
  rw [u1, bc_s]
  rcases (show i3 = 0 ∨ i3 = 1 ∨ i3 = 2 ∨ i3 = 3 ∨ i3 = 4 ∨ i3 = 5 by omega) with rfl | rfl | rfl | rfl | rfl | rfl
  · rw [e3, if_pos (show nI 0 = (0 : Int32) from rfl), if_pos (show nI 0 = (0 : Int32) from rfl)]
    exact fin _
  · rw [e3, if_neg (show ¬ nI 1 = (0 : Int32) by decide), if_neg (show ¬ nI 1 = (0 : Int32) by decide), if_pos (show nI 1 = (1 : Int32) from rfl), if_neg (show ¬ (3 : Int32) ≤ nI 1 by decide), gd_h (by decide), bv_e, s2.2.2.2.1, show (nI 1 + 2).toNatClampNeg = 3 by decide, t2.2.2.2.1, bc_s]
    exact fin _
  · rw [e3, if_neg (show ¬ nI 2 = (0 : Int32) by decide), if_neg (show ¬ nI 2 = (0 : Int32) by decide), if_neg (show ¬ nI 2 = (1 : Int32) by decide), if_pos (show nI 2 = (2 : Int32) from rfl), if_neg (show ¬ (3 : Int32) ≤ nI 2 by decide), gd_h (by decide), bv_e, s2.2.2.2.2.1, show (nI 2 + 2).toNatClampNeg = 4 by decide, t2.2.2.2.2.1, bc_s]
    exact fin _
  · rw [e3, if_neg (show ¬ nI 3 = (0 : Int32) by decide), if_neg (show ¬ nI 3 = (0 : Int32) by decide), if_neg (show ¬ nI 3 = (1 : Int32) by decide), if_neg (show ¬ nI 3 = (2 : Int32) by decide), if_pos (show nI 3 = (3 : Int32) from rfl), if_pos (show (3 : Int32) ≤ nI 3 by decide)]
    exact fin _
  · rw [e3, if_neg (show ¬ nI 4 = (0 : Int32) by decide), if_neg (show ¬ nI 4 = (0 : Int32) by decide), if_neg (show ¬ nI 4 = (1 : Int32) by decide), if_neg (show ¬ nI 4 = (2 : Int32) by decide), if_neg (show ¬ nI 4 = (3 : Int32) by decide), if_pos (show nI 4 = (4 : Int32) from rfl), if_pos (show (3 : Int32) ≤ nI 4 by decide)]
    exact fin _
  · rw [e3, if_neg (show ¬ nI 5 = (0 : Int32) by decide), if_neg (show ¬ nI 5 = (0 : Int32) by decide), if_neg (show ¬ nI 5 = (1 : Int32) by decide), if_neg (show ¬ nI 5 = (2 : Int32) by decide), if_pos (show (3 : Int32) ≤ nI 5 by decide), if_neg (show ¬ nI 5 = (3 : Int32) by decide), if_neg (show ¬ nI 5 = (4 : Int32) by decide), if_neg (show ¬ nI 5 = (3 : Int32) by decide), if_neg (show ¬ nI 5 = (4 : Int32) by decide), s2.2.2.2.2.2.2.2.1, bc_s, u1, bc_s]
    exact fin _
end K

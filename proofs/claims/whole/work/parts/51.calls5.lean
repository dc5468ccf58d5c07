/-! thing on both sides -/
section K
variable {n d C z : Nat} {V : Tx} {b : Nat → Nat} {S : Sk} {σ : Gm} {μ : Wm}
theorem addT_m (h : SkM S μ) {u v : Nat} (hT : S.T < 8) {μ' : Wm} (e0 : μ'.1 8 0 (3 * S.T) = nI v) (e1 : μ'.1 8 0 (3 * S.T + 1) = nI u) (e2 : μ'.1 8 0 (3 * S.T + 2) = nI 0) (e3 : μ'.1 0 0 10 = nI (S.T + 1)) (fr : ∀ c k j, ¬ (k = 0 ∧ ((c = 8 ∧ (j = 3 * S.T ∨ j = 3 * S.T + 1 ∨ j = 3 * S.T + 2)) ∨ (c = 0 ∧ j = 10))) → μ'.1 c k j = μ.1 c k j) : SkM (addT S u v) μ' := by
  obtain ⟨h1, h2, h3, h4, h5, h6, h7, h8, h9, h10⟩ := h
  have ex : ∀ c j, ¬ ((c = 1 ∨ c = 2 ∨ c = 3) ∧ j = S.T) ∧ ¬ (c = 0 ∧ j = 6) → addT S u v c j = S c j := fun c j q => addT_k q
  have g1 : addT S u v 1 S.T = u := addT_1
  have g2 : addT S u v 2 S.T = v := addT_2
  have g3 : addT S u v 3 S.T = 0 := addT_3
  have eT : Sk.T (addT S u v) = S.T + 1 := addT_T
  generalize addT S u v = S' at ex g1 g2 g3 eT
  refine ⟨(fr _ _ _ (by omega)).trans (h1.trans (congrArg nI (ex 0 0 (by omega)).symm)), (fr _ _ _ (by omega)).trans (h2.trans (congrArg nI (ex 0 1 (by omega)).symm)), (fr _ _ _ (by omega)).trans (h3.trans (congrArg nI (ex 0 2 (by omega)).symm)), (fr _ _ _ (by omega)).trans (h4.trans (congrArg nI (ex 0 3 (by omega)).symm)), (fr _ _ _ (by omega)).trans (h5.trans (congrArg nI (ex 0 4 (by omega)).symm)), (fr _ _ _ (by omega)).trans (h6.trans (congrArg nI (ex 0 5 (by omega)).symm)), by rw [eT]; exact e3, (fr _ _ _ (by omega)).trans (h8.trans (congrArg nI (ex 0 7 (by omega)).symm)), fun i hi => ?_, fun i hi => ?_⟩
  · rw [eT] at hi
    by_cases e : i = S.T
    · subst e
      exact ⟨e0.trans (congrArg nI g2.symm), e1.trans (congrArg nI g1.symm), e2.trans (congrArg nI g3.symm)⟩
    · obtain ⟨q1, q2, q3⟩ := h9 i (by omega)
      exact ⟨(fr _ _ _ (by omega)).trans (q1.trans (congrArg nI (ex 2 i (by omega)).symm)), (fr _ _ _ (by omega)).trans (q2.trans (congrArg nI (ex 1 i (by omega)).symm)), (fr _ _ _ (by omega)).trans (q3.trans (congrArg nI (ex 3 i (by omega)).symm))⟩
  · rw [show Sk.P S' = S.P from ex 0 7 (by omega)] at hi
    obtain ⟨q1, q2, q3⟩ := h10 i hi
    exact ⟨(fr _ _ _ (by omega)).trans (q1.trans (congrArg nI (ex 5 i (by omega)).symm)), (fr _ _ _ (by omega)).trans (q2.trans (congrArg nI (ex 6 i (by omega)).symm)), (fr _ _ _ (by omega)).trans (q3.trans (congrArg nI (ex 4 i (by omega)).symm))⟩
theorem thing_s (h : Re n V C S z b σ μ) (a1 a2 : Int32) : Go n V C z b σ μ (f_X5_thing σ a1 a2) (f_X6_thing μ a1 a2) := by
  obtain ⟨hB, hN, hx, hm, TX, TM, cx, cm, hC, hr, -⟩ := id h
  have hT8 := hB.2.2.2.2.2.2.1
  unfold f_X5_thing f_X6_thing
  rcases rng a1 (lo := 1) (hi := 99) (by decide) (by decide) with ⟨u, -, hu, rfl, g4, g5⟩ | ⟨-, g4, g5⟩
  case inr =>
    rw [show f_X5_within σ a1 (1 : Int32) (99 : Int32) = _ from g4 σ, show f_X6_in μ a1.toInt64 (1 : Int64) (99 : Int64) = _ from g5 μ, bc_s, bc_s, if_pos rfl, if_pos rfl]
    exact Go.same h _ rfl rfl
  rw [show f_X5_within σ (nI u) (1 : Int32) (99 : Int32) = _ from g4 σ, show f_X6_in μ (nI u).toInt64 (1 : Int64) (99 : Int64) = _ from g5 μ, bc_s, bc_s, if_neg (show ¬ (1 : Int32) = 0 by decide), if_neg (show ¬ (1 : Int32) = 0 by decide)]
  rcases rng a2 (lo := 0) (hi := 99) (by decide) (by decide) with ⟨v, -, hv, rfl, g4, g5⟩ | ⟨-, g4, g5⟩
  case inr =>
    rw [show f_X5_within σ a2 (0 : Int32) (99 : Int32) = _ from g4 σ, show f_X6_in μ a2.toInt64 (0 : Int64) (99 : Int64) = _ from g5 μ, bc_s, bc_s, if_pos rfl, if_pos rfl]
    exact Go.same h _ rfl rfl
  rw [show f_X5_within σ (nI v) (0 : Int32) (99 : Int32) = _ from g4 σ, show f_X6_in μ (nI v).toInt64 (0 : Int64) (99 : Int64) = _ from g5 μ, bc_s, bc_s, if_neg (show ¬ (1 : Int32) = 0 by decide), if_neg (show ¬ (1 : Int32) = 0 by decide), hm.2.2.2.2.2.2.1]
  by_cases g : S.T = 8
  · have hc : f_X3_addThing 0 σ (nI u) (nI v) = some ((-4 : Int32), σ) := by
      unfold f_X3_addThing
      rw [hx.2.2.2.2.2.2.1, if_neg (show ¬ nI S.T < (8 : Int32) from nI_nlt (show 8 ≤ S.T by omega) (by omega))]
    rw [hc, bc_s, if_pos (show nI S.T = (8 : Int32) by rw [g]; rfl)]
    exact Go.same h _ rfl rfl
  have hT : S.T < 8 := by omega
  obtain ⟨σ', p1, p2, p3⟩ := addT_x (u := u) (v := v) hB hx hT
  rw [p1, bc_s, if_neg (show ¬ nI S.T = (8 : Int32) from nI_ne (by omega) (by decide) g), x3, gd_h (inb_nI (show 3 * S.T < 24 by omega) (by decide)), nI_clamp (show 3 * S.T < 2 ^ 31 by omega), bv_e]
  let μ1 : Wm := (up3 μ.1 8 0 (3 * S.T) (nI v), μ.2)
  have t1 : μ1.1 0 0 10 = nI S.T := (u1_of (by omega)).trans hm.2.2.2.2.2.2.1
  let μ2 : Wm := (up3 μ1.1 8 0 (3 * S.T + 1) (nI u), μ1.2)
  have t2 : μ2.1 0 0 10 = nI S.T := (u1_of (by omega)).trans t1
  let μ3 : Wm := (up3 μ2.1 8 0 (3 * S.T + 2) (0 : Int32), μ2.2)
  have t3 : μ3.1 0 0 10 = nI S.T := (u1_of (by omega)).trans t2
  let μ4 : Wm := (up3 μ3.1 0 0 10 (nI (S.T + 1)), μ3.2)
  have t4 : μ4.1 0 0 10 = nI (S.T + 1) := u1_at _ _ _ _ _ _
  show Go n V C z b σ μ _ (gd (inb (((3 : Int32) * (μ1.1 0 0 10)) + (1 : Int32)) 24) (bv ((up3 μ1.1 8 0 ((((3 : Int32) * (μ1.1 0 0 10)) + (1 : Int32)).toNatClampNeg) (nI u), μ1.2)) _))
  rw [t1, x31, gd_h (inb_nI (show 3 * S.T + 1 < 24 by omega) (by decide)), nI_clamp (show 3 * S.T + 1 < 2 ^ 31 by omega), bv_e]
  show Go n V C z b σ μ _ (gd (inb (((3 : Int32) * (μ2.1 0 0 10)) + (2 : Int32)) 24) (bv ((up3 μ2.1 8 0 ((((3 : Int32) * (μ2.1 0 0 10)) + (2 : Int32)).toNatClampNeg) (0 : Int32), μ2.2)) _))
  rw [t2, x32, gd_h (inb_nI (show 3 * S.T + 2 < 24 by omega) (by decide)), nI_clamp (show 3 * S.T + 2 < 2 ^ 31 by omega), bv_e]
  show Go n V C z b σ μ _ (bv ((up3 μ3.1 0 0 10 (μ3.1 0 0 10 + (1 : Int32)), μ3.2)) _)
  rw [t3, nI_1, bv_e]
  show Go n V C z b σ μ _ (some (μ4.1 0 0 10 - (1 : Int32), μ4))
  rw [t4, s1I]
  have fr : ∀ c k j, ¬ (k = 0 ∧ ((c = 8 ∧ (j = 3 * S.T ∨ j = 3 * S.T + 1 ∨ j = 3 * S.T + 2)) ∨ (c = 0 ∧ j = 10))) → μ4.1 c k j = μ.1 c k j := fun c k j q => (u1_of (by omega)).trans ((u1_of (by omega)).trans ((u1_of (by omega)).trans (u1_of (by omega))))
  have e0 : μ4.1 8 0 (3 * S.T) = nI v := (u1_of (by omega)).trans ((u1_of (by omega)).trans ((u1_of (by omega)).trans (u1_at _ _ _ _ _ _)))
  have e1 : μ4.1 8 0 (3 * S.T + 1) = nI u := (u1_of (by omega)).trans ((u1_of (by omega)).trans (u1_at _ _ _ _ _ _))
  have e2 : μ4.1 8 0 (3 * S.T + 2) = nI 0 := (u1_of (by omega)).trans (u1_at _ _ _ _ _ _)
  have hm' := addT_m (u := u) (v := v) hm hT e0 e1 e2 t4 fr
  have er : Sk.ru (addT S u v) = S.ru := addT_k (by omega)
  have en : Sk.nt (addT S u v) = S.nt := addT_k (by omega)
  exact ⟨nI S.T, σ', μ4, addT S u v, rfl, rfl, h.mk (addT_B hB hu hv hT) (by rw [en]; exact hN) p2 hm' (by rw [er]; exact hr) (fun c k j w => p3 c k j (by omega)) (fun c k j w => fr c k j (by omega)), fun c k j w => p3 c k j (by omega), fun c k j w => fr c k j (by omega)⟩
end K

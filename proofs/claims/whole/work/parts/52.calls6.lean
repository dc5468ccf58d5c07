/-! neighbour on both sides -/
section K
variable {n d C z : Nat} {V : Tx} {b : Nat → Nat} {S : Sk} {σ : Gm} {μ : Wm}
def adPn (S : Sk) (u v : Nat) : Sk := upS (upS (upS (upS S 4 S.P u) 5 S.P v) 6 S.P 0) 0 7 (S.P + 1)
theorem adPn_k {u v c j : Nat} (h : ¬ ((c = 4 ∨ c = 5 ∨ c = 6) ∧ j = S.P) ∧ ¬ (c = 0 ∧ j = 7)) : adPn S u v c j = S c j := (upS_of (by omega)).trans ((upS_of (by omega)).trans ((upS_of (by omega)).trans (upS_of (by omega))))
theorem adPn_1 {u v : Nat} : adPn S u v 4 S.P = u := (upS_of (by omega)).trans ((upS_of (by omega)).trans ((upS_of (by omega)).trans (upS_at _ _ _ _)))
theorem adPn_2 {u v : Nat} : adPn S u v 5 S.P = v := (upS_of (by omega)).trans ((upS_of (by omega)).trans (upS_at _ _ _ _))
theorem adPn_3 {u v : Nat} : adPn S u v 6 S.P = 0 := (upS_of (by omega)).trans (upS_at _ _ _ _)
theorem adPn_P {u v : Nat} : Sk.P (adPn S u v) = S.P + 1 := upS_at _ _ _ _
theorem adPn_B (hB : SkB S) {u v : Nat} (hu : u ≤ 5) (hv : v ≤ 9) (hP : S.P < 5) : SkB (adPn S u v) :=
  (((hB.up (c := 4) (j := S.P) (v := u) hu).up (c := 5) (j := S.P) (v := v) hv).up (c := 6) (j := S.P) (v := 0) (Nat.zero_le _)).up (c := 0) (j := 7) (v := S.P + 1) (show S.P + 1 ≤ 5 by omega)
theorem cl5 {M i : Nat} (hi : i < 5) (h : M < 2 ^ i) : (nI M &&& (((1 : Int32) <<< (nI i &&& 31)) ^^^ (-1 : Int32))) ||| ((0 : Int32) <<< (nI i &&& 31)) = nI M := by
  have key : ∀ i, i < 5 → ∀ M, M < 32 → M < 2 ^ i → (nI M &&& (((1 : Int32) <<< (nI i &&& 31)) ^^^ (-1 : Int32))) ||| ((0 : Int32) <<< (nI i &&& 31)) = nI M := by decide +kernel
  have h2 : 2 ^ i ≤ 2 ^ 5 := Nat.pow_le_pow_right (by omega) (by omega)
  exact key i hi M (by omega) h
theorem adPn_x (hB : SkB S) (h : SkX 0 S σ) {u v : Nat} (hP : S.P < 5) : ∃ σ', f_X3_addNeighbour 0 σ (nI u) (nI v) = some (nI S.P, σ') ∧ SkX 0 (adPn S u v) σ' ∧ ∀ c k j, ¬ ((13 ≤ c ∧ c ≤ 17) ∧ k = 0) → σ' c k j = σ c k j := by
  have hml := mk_lt (f := S.ak) (fun i => hB.2.2.2.2.2.2.2.2.2.2.2.2.2 i) S.P
  have ex : ∀ c j, ¬ ((c = 4 ∨ c = 5 ∨ c = 6) ∧ j = S.P) ∧ ¬ (c = 0 ∧ j = 7) → adPn S u v c j = S c j := fun c j q => adPn_k q
  have e1 : adPn S u v 4 S.P = u := adPn_1
  have e2 : adPn S u v 5 S.P = v := adPn_2
  have e3 : adPn S u v 6 S.P = 0 := adPn_3
  have eT : Sk.P (adPn S u v) = S.P + 1 := adPn_P
  unfold f_X3_addNeighbour f_X3_becomeAsked
  generalize hS' : adPn S u v = S' at ex e1 e2 e3 eT
  obtain ⟨h1, h2, h3, h4, h5, h6, h7, h8, h9, h10, h11, h12⟩ := h
  generalize ht : S.P = t at *
  let σ1 : Gm := up3 σ 16 0 t (nI u)
  let σ2 : Gm := up3 σ1 17 0 t (nI v)
  have f9 : σ1 13 0 13 = nI t := (up3_of (by omega)).trans h9
  have f92 : σ2 13 0 13 = nI t := (up3_of (by omega)).trans f9
  have f10 : σ2 13 0 14 = nI (mk S.ak t) := (up3_of (by omega)).trans ((up3_of (by omega)).trans h10)
  let σ3 : Gm := up3 σ2 13 0 14 (nI (mk S.ak t))
  have f93 : σ3 13 0 13 = nI t := (up3_of (by omega)).trans f92
  let σ4 : Gm := up3 σ3 13 0 13 (nI (t + 1))
  have f94 : σ4 13 0 13 = nI (t + 1) := up3_at _ _ _ _ _
  rw [h9, if_pos (show nI t < (5 : Int32) from nI_lt (show t < 5 from hP) (by decide)), gd_h (inb_nI (show t < 5 from hP) (by decide)), nI_clamp (by omega), bv_e]
  show ∃ σ', gd (inb (σ1 13 0 13) 5) (bv (up3 σ1 17 0 (σ1 13 0 13).toNatClampNeg (nI v)) _) = _ ∧ _
  rw [f9, gd_h (inb_nI (show t < 5 from hP) (by decide)), nI_clamp (by omega), bv_e]
  show ∃ σ', (bc (bv (up3 σ2 13 0 14 (((σ2 13 0 14) &&& (((1 : Int32) <<< ((σ2 13 0 13) &&& 31)) ^^^ (-1 : Int32))) ||| ((0 : Int32) <<< ((σ2 13 0 13) &&& 31)))) _) _) = _ ∧ _
  rw [f10, f92, cl5 (show t < 5 from hP) hml, bv_e, bc_s]
  show ∃ σ', bv (up3 σ3 13 0 13 ((σ3 13 0 13) + (1 : Int32))) _ = _ ∧ _
  rw [f93, nI_1, bv_e]
  have fr : ∀ c k j, ¬ (k = 0 ∧ ((c = 16 ∨ c = 17) ∧ j = t ∨ c = 13 ∧ (j = 13 ∨ j = 14))) → σ4 c k j = σ c k j := fun c k j q => (up3_of (by omega)).trans ((up3_of (by omega)).trans ((up3_of (by omega)).trans (up3_of (by omega))))
  refine ⟨σ4, ?_, ⟨(fr _ _ _ (by omega)).trans (h1.trans (congrArg nI (ex 0 0 (by omega)).symm)), (fr _ _ _ (by omega)).trans (h2.trans (congrArg nI (ex 0 1 (by omega)).symm)), (fr _ _ _ (by omega)).trans (h3.trans (congrArg nI (ex 0 2 (by omega)).symm)), (fr _ _ _ (by omega)).trans (h4.trans (congrArg nI (ex 0 3 (by omega)).symm)), (fr _ _ _ (by omega)).trans (h5.trans (congrArg nI (ex 0 4 (by omega)).symm)), (fr _ _ _ (by omega)).trans (h6.trans (congrArg nI (ex 0 5 (by omega)).symm)), (fr _ _ _ (by omega)).trans (h7.trans (congrArg nI (ex 0 6 (by omega)).symm)), ?_, ?_, ?_, ?_, ?_⟩, fun c k j q => fr c k j (by omega)⟩
  · show some (σ4 13 0 13 - (1 : Int32), σ4) = _
    rw [f94, s1I]
  · rw [fr _ _ _ (by omega), h8, show Sk.T S' = S.T from ex 0 6 (by omega)]
    exact congrArg nI (mk_congr S.T (fun j hj => ex 3 j (by omega))).symm
  · rw [eT]
    exact f94
  · rw [eT]
    refine (up3_of (by omega)).trans ((up3_at _ _ _ _ _).trans (congrArg nI ?_))
    show mk S.ak t = mk (Sk.ak S') t + S' 6 t * 2 ^ t
    rw [e3, Nat.zero_mul, Nat.add_zero]
    exact (mk_congr t (fun j hj => ex 6 j (by omega))).symm
  · intro i hi
    rw [show Sk.T S' = S.T from ex 0 6 (by omega)] at hi
    exact ⟨(fr _ _ _ (by omega)).trans ((h11 i hi).1.trans (congrArg nI (ex 1 i (by omega)).symm)), (fr _ _ _ (by omega)).trans ((h11 i hi).2.trans (congrArg nI (ex 2 i (by omega)).symm))⟩
  · intro i hi
    rw [eT] at hi
    by_cases e : i = t
    · subst e
      exact ⟨(up3_of (by omega)).trans ((up3_of (by omega)).trans ((up3_of (by omega)).trans ((up3_at _ _ _ _ _).trans (congrArg nI e1.symm)))), (up3_of (by omega)).trans ((up3_of (by omega)).trans ((up3_at _ _ _ _ _).trans (congrArg nI e2.symm)))⟩
    · exact ⟨(fr _ _ _ (by omega)).trans ((h12 i (by omega)).1.trans (congrArg nI (ex 4 i (by omega)).symm)), (fr _ _ _ (by omega)).trans ((h12 i (by omega)).2.trans (congrArg nI (ex 5 i (by omega)).symm))⟩
theorem adPn_m (h : SkM S μ) {u v : Nat} {μ' : Wm} (e0 : μ'.1 9 0 (3 * S.P) = nI v) (e1 : μ'.1 9 0 (3 * S.P + 1) = nI 0) (e2 : μ'.1 9 0 (3 * S.P + 2) = nI u) (e3 : μ'.1 0 0 11 = nI (S.P + 1)) (fr : ∀ c k j, ¬ (k = 0 ∧ ((c = 9 ∧ (j = 3 * S.P ∨ j = 3 * S.P + 1 ∨ j = 3 * S.P + 2)) ∨ (c = 0 ∧ j = 11))) → μ'.1 c k j = μ.1 c k j) : SkM (adPn S u v) μ' := by
  obtain ⟨h1, h2, h3, h4, h5, h6, h7, h8, h9, h10⟩ := h
  have ex : ∀ c j, ¬ ((c = 4 ∨ c = 5 ∨ c = 6) ∧ j = S.P) ∧ ¬ (c = 0 ∧ j = 7) → adPn S u v c j = S c j := fun c j q => adPn_k q
  have g1 : adPn S u v 4 S.P = u := adPn_1
  have g2 : adPn S u v 5 S.P = v := adPn_2
  have g3 : adPn S u v 6 S.P = 0 := adPn_3
  have eT : Sk.P (adPn S u v) = S.P + 1 := adPn_P
  generalize adPn S u v = S' at ex g1 g2 g3 eT
  refine ⟨(fr _ _ _ (by omega)).trans (h1.trans (congrArg nI (ex 0 0 (by omega)).symm)), (fr _ _ _ (by omega)).trans (h2.trans (congrArg nI (ex 0 1 (by omega)).symm)), (fr _ _ _ (by omega)).trans (h3.trans (congrArg nI (ex 0 2 (by omega)).symm)), (fr _ _ _ (by omega)).trans (h4.trans (congrArg nI (ex 0 3 (by omega)).symm)), (fr _ _ _ (by omega)).trans (h5.trans (congrArg nI (ex 0 4 (by omega)).symm)), (fr _ _ _ (by omega)).trans (h6.trans (congrArg nI (ex 0 5 (by omega)).symm)), (fr _ _ _ (by omega)).trans (h7.trans (congrArg nI (ex 0 6 (by omega)).symm)), by rw [eT]; exact e3, fun i hi => ?_, fun i hi => ?_⟩
  · rw [show Sk.T S' = S.T from ex 0 6 (by omega)] at hi
    obtain ⟨q1, q2, q3⟩ := h9 i hi
    exact ⟨(fr _ _ _ (by omega)).trans (q1.trans (congrArg nI (ex 2 i (by omega)).symm)), (fr _ _ _ (by omega)).trans (q2.trans (congrArg nI (ex 1 i (by omega)).symm)), (fr _ _ _ (by omega)).trans (q3.trans (congrArg nI (ex 3 i (by omega)).symm))⟩
  · rw [eT] at hi
    by_cases e : i = S.P
    · subst e
      exact ⟨e0.trans (congrArg nI g2.symm), e1.trans (congrArg nI g3.symm), e2.trans (congrArg nI g1.symm)⟩
    · obtain ⟨q1, q2, q3⟩ := h10 i (by omega)
      exact ⟨(fr _ _ _ (by omega)).trans (q1.trans (congrArg nI (ex 5 i (by omega)).symm)), (fr _ _ _ (by omega)).trans (q2.trans (congrArg nI (ex 6 i (by omega)).symm)), (fr _ _ _ (by omega)).trans (q3.trans (congrArg nI (ex 4 i (by omega)).symm))⟩
theorem neighbour_s (h : Re n V C S z b σ μ) (a1 a2 : Int32) : Go n V C z b σ μ (f_X5_neighbour σ a1 a2) (f_X6_neighbour μ a1 a2) := by
  obtain ⟨hB, hN, hx, hm, TX, TM, cx, cm, hC, hr, -⟩ := id h
  have hP5 := hB.2.2.2.2.2.2.2.1
  unfold f_X5_neighbour f_X5_settle f_X6_neighbour
  rcases rng a1 (lo := 0) (hi := 5) (by decide) (by decide) with ⟨u, -, hu, rfl, g4, g5⟩ | ⟨-, g4, g5⟩
  case inr =>
    rw [show f_X5_within σ a1 (0 : Int32) (5 : Int32) = _ from g4 σ, show f_X6_in μ a1.toInt64 (0 : Int64) (5 : Int64) = _ from g5 μ, bc_s, bc_s, if_pos rfl, if_pos rfl, bc_s]
    exact Go.same h _ rfl rfl
  rw [show f_X5_within σ (nI u) (0 : Int32) (5 : Int32) = _ from g4 σ, show f_X6_in μ (nI u).toInt64 (0 : Int64) (5 : Int64) = _ from g5 μ, bc_s, bc_s, if_neg (show ¬ (1 : Int32) = 0 by decide), if_neg (show ¬ (1 : Int32) = 0 by decide)]
  rcases rng a2 (lo := 0) (hi := 9) (by decide) (by decide) with ⟨v, -, hv, rfl, g4, g5⟩ | ⟨-, g4, g5⟩
  case inr =>
    rw [show f_X5_within σ a2 (0 : Int32) (9 : Int32) = _ from g4 σ, show f_X6_in μ a2.toInt64 (0 : Int64) (9 : Int64) = _ from g5 μ, bc_s, bc_s, if_pos rfl, if_pos rfl, bc_s]
    exact Go.same h _ rfl rfl
  rw [show f_X5_within σ (nI v) (0 : Int32) (9 : Int32) = _ from g4 σ, show f_X6_in μ (nI v).toInt64 (0 : Int64) (9 : Int64) = _ from g5 μ, bc_s, bc_s, if_neg (show ¬ (1 : Int32) = 0 by decide), if_neg (show ¬ (1 : Int32) = 0 by decide), hm.2.2.2.2.2.2.2.1]
  by_cases g : S.P = 5
  · have hc : f_X3_addNeighbour 0 σ (nI u) (nI v) = some ((-4 : Int32), σ) := by
      unfold f_X3_addNeighbour
      rw [hx.2.2.2.2.2.2.2.2.1, if_neg (show ¬ nI S.P < (5 : Int32) from nI_nlt (show 5 ≤ S.P by omega) (by omega))]
    rw [hc, bc_s, bc_s, if_pos (show nI S.P = (5 : Int32) by rw [g]; rfl)]
    exact Go.same h _ rfl rfl
  have hP : S.P < 5 := by omega
  obtain ⟨σ', p1, p2, p3⟩ := adPn_x (u := u) (v := v) hB hx hP
  rw [p1, bc_s, bc_s, if_neg (show ¬ nI S.P = (5 : Int32) from nI_ne (by omega) (by decide) g), x3, gd_h (inb_nI (show 3 * S.P < 15 by omega) (by decide)), nI_clamp (show 3 * S.P < 2 ^ 31 by omega), bv_e]
  let μ1 : Wm := (up3 μ.1 9 0 (3 * S.P) (nI v), μ.2)
  have t1 : μ1.1 0 0 11 = nI S.P := (u1_of (by omega)).trans hm.2.2.2.2.2.2.2.1
  let μ2 : Wm := (up3 μ1.1 9 0 (3 * S.P + 1) (0 : Int32), μ1.2)
  have t2 : μ2.1 0 0 11 = nI S.P := (u1_of (by omega)).trans t1
  let μ3 : Wm := (up3 μ2.1 9 0 (3 * S.P + 2) (nI u), μ2.2)
  have t3 : μ3.1 0 0 11 = nI S.P := (u1_of (by omega)).trans t2
  let μ4 : Wm := (up3 μ3.1 0 0 11 (nI (S.P + 1)), μ3.2)
  have t4 : μ4.1 0 0 11 = nI (S.P + 1) := u1_at _ _ _ _ _ _
  show Go n V C z b σ μ _ (gd (inb (((3 : Int32) * (μ1.1 0 0 11)) + (1 : Int32)) 15) (bv ((up3 μ1.1 9 0 ((((3 : Int32) * (μ1.1 0 0 11)) + (1 : Int32)).toNatClampNeg) (0 : Int32), μ1.2)) _))
  rw [t1, x31, gd_h (inb_nI (show 3 * S.P + 1 < 15 by omega) (by decide)), nI_clamp (show 3 * S.P + 1 < 2 ^ 31 by omega), bv_e]
  show Go n V C z b σ μ _ (gd (inb (((3 : Int32) * (μ2.1 0 0 11)) + (2 : Int32)) 15) (bv ((up3 μ2.1 9 0 ((((3 : Int32) * (μ2.1 0 0 11)) + (2 : Int32)).toNatClampNeg) (nI u), μ2.2)) _))
  rw [t2, x32, gd_h (inb_nI (show 3 * S.P + 2 < 15 by omega) (by decide)), nI_clamp (show 3 * S.P + 2 < 2 ^ 31 by omega), bv_e]
  show Go n V C z b σ μ _ (bv ((up3 μ3.1 0 0 11 (μ3.1 0 0 11 + (1 : Int32)), μ3.2)) _)
  rw [t3, nI_1, bv_e]
  show Go n V C z b σ μ _ (some (μ4.1 0 0 11 - (1 : Int32), μ4))
  rw [t4, s1I]
  have fr : ∀ c k j, ¬ (k = 0 ∧ ((c = 9 ∧ (j = 3 * S.P ∨ j = 3 * S.P + 1 ∨ j = 3 * S.P + 2)) ∨ (c = 0 ∧ j = 11))) → μ4.1 c k j = μ.1 c k j := fun c k j q => (u1_of (by omega)).trans ((u1_of (by omega)).trans ((u1_of (by omega)).trans (u1_of (by omega))))
  have e0 : μ4.1 9 0 (3 * S.P) = nI v := (u1_of (by omega)).trans ((u1_of (by omega)).trans ((u1_of (by omega)).trans (u1_at _ _ _ _ _ _)))
  have e1 : μ4.1 9 0 (3 * S.P + 1) = nI 0 := (u1_of (by omega)).trans ((u1_of (by omega)).trans (u1_at _ _ _ _ _ _))
  have e2 : μ4.1 9 0 (3 * S.P + 2) = nI u := (u1_of (by omega)).trans (u1_at _ _ _ _ _ _)
  have hm' := adPn_m (u := u) (v := v) hm e0 e1 e2 t4 fr
  have er : Sk.ru (adPn S u v) = S.ru := adPn_k (by omega)
  have en : Sk.nt (adPn S u v) = S.nt := adPn_k (by omega)
  exact ⟨nI S.P, σ', μ4, adPn S u v, rfl, rfl, h.mk (adPn_B hB hu hv hP) (by rw [en]; exact hN) p2 hm' (by rw [er]; exact hr) (fun c k j w => p3 c k j (by omega)) (fun c k j w => fr c k j (by omega)), fun c k j w => p3 c k j (by omega), fun c k j w => fr c k j (by omega)⟩
end K

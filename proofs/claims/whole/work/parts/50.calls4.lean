/-! feed, thing, neighbour on both sides -/
section K
variable {n d C z : Nat} {V : Tx} {b : Nat → Nat} {S : Sk} {σ : Gm} {μ : Wm}
theorem cl8 {M i : Nat} (hi : i < 8) (h : M < 2 ^ i) : nI M &&& (((1 : Int32) <<< (nI i &&& 31)) ^^^ (-1 : Int32)) = nI M := by
  have key : ∀ i, i < 8 → ∀ M, M < 256 → M < 2 ^ i → nI M &&& (((1 : Int32) <<< (nI i &&& 31)) ^^^ (-1 : Int32)) = nI M := by decide +kernel
  have h2 : 2 ^ i ≤ 2 ^ 8 := Nat.pow_le_pow_right (by omega) (by omega)
  exact key i hi M (by omega) h
def addT (S : Sk) (u v : Nat) : Sk := upS (upS (upS (upS S 1 S.T u) 2 S.T v) 3 S.T 0) 0 6 (S.T + 1)
theorem addT_k {u v c j : Nat} (h : ¬ ((c = 1 ∨ c = 2 ∨ c = 3) ∧ j = S.T) ∧ ¬ (c = 0 ∧ j = 6)) : addT S u v c j = S c j := (upS_of (by omega)).trans ((upS_of (by omega)).trans ((upS_of (by omega)).trans (upS_of (by omega))))
theorem addT_1 {u v : Nat} : addT S u v 1 S.T = u := (upS_of (by omega)).trans ((upS_of (by omega)).trans ((upS_of (by omega)).trans (upS_at _ _ _ _)))
theorem addT_2 {u v : Nat} : addT S u v 2 S.T = v := (upS_of (by omega)).trans ((upS_of (by omega)).trans (upS_at _ _ _ _))
theorem addT_3 {u v : Nat} : addT S u v 3 S.T = 0 := (upS_of (by omega)).trans (upS_at _ _ _ _)
theorem addT_T {u v : Nat} : Sk.T (addT S u v) = S.T + 1 := upS_at _ _ _ _
theorem addT_B (hB : SkB S) {u v : Nat} (hu : u ≤ 99) (hv : v ≤ 99) (hT : S.T < 8) : SkB (addT S u v) :=
  (((hB.up (c := 1) (j := S.T) (v := u) hu).up (c := 2) (j := S.T) (v := v) hv).up (c := 3) (j := S.T) (v := 0) (Nat.zero_le _)).up (c := 0) (j := 6) (v := S.T + 1) (show S.T + 1 ≤ 8 by omega)
theorem addT_x (hB : SkB S) (h : SkX 0 S σ) {u v : Nat} (hT : S.T < 8) : ∃ σ', f_X3_addThing 0 σ (nI u) (nI v) = some (nI S.T, σ') ∧ SkX 0 (addT S u v) σ' ∧ ∀ c k j, ¬ ((13 ≤ c ∧ c ≤ 17) ∧ k = 0) → σ' c k j = σ c k j := by
  have hml := mk_lt (f := S.inn) (fun i => hB.2.2.2.2.2.2.2.2.2.2.1 i) S.T
  have ex : ∀ c j, ¬ ((c = 1 ∨ c = 2 ∨ c = 3) ∧ j = S.T) ∧ ¬ (c = 0 ∧ j = 6) → addT S u v c j = S c j := fun c j q => addT_k q
  have e1 : addT S u v 1 S.T = u := addT_1
  have e2 : addT S u v 2 S.T = v := addT_2
  have e3 : addT S u v 3 S.T = 0 := addT_3
  have eT : Sk.T (addT S u v) = S.T + 1 := addT_T
  unfold f_X3_addThing
  generalize hS' : addT S u v = S' at ex e1 e2 e3 eT
  obtain ⟨h1, h2, h3, h4, h5, h6, h7, h8, h9, h10, h11, h12⟩ := h
  generalize ht : S.T = t at *
  let σ1 : Gm := up3 σ 14 0 t (nI u)
  let σ2 : Gm := up3 σ1 15 0 t (nI v)
  have f7 : σ1 13 0 11 = nI t := (up3_of (by omega)).trans h7
  have f72 : σ2 13 0 11 = nI t := (up3_of (by omega)).trans f7
  have f8 : σ2 13 0 12 = nI (mk S.inn t) := (up3_of (by omega)).trans ((up3_of (by omega)).trans h8)
  let σ3 : Gm := up3 σ2 13 0 12 (nI (mk S.inn t))
  have f73 : σ3 13 0 11 = nI t := (up3_of (by omega)).trans f72
  let σ4 : Gm := up3 σ3 13 0 11 (nI (t + 1))
  have f74 : σ4 13 0 11 = nI (t + 1) := up3_at _ _ _ _ _
  rw [h7, if_pos (show nI t < (8 : Int32) from nI_lt (show t < 8 from hT) (by decide)), gd_h (inb_nI (show t < 8 from hT) (by decide)), nI_clamp (by omega), bv_e]
  show ∃ σ', gd (inb (σ1 13 0 11) 8) (bv (up3 σ1 15 0 (σ1 13 0 11).toNatClampNeg (nI v)) _) = _ ∧ _
  rw [f7, gd_h (inb_nI (show t < 8 from hT) (by decide)), nI_clamp (by omega), bv_e]
  show ∃ σ', bv (up3 σ2 13 0 12 ((σ2 13 0 12) &&& (((1 : Int32) <<< ((σ2 13 0 11) &&& 31)) ^^^ (-1 : Int32)))) _ = _ ∧ _
  rw [f8, f72, cl8 (show t < 8 from hT) hml, bv_e]
  show ∃ σ', bv (up3 σ3 13 0 11 ((σ3 13 0 11) + (1 : Int32))) _ = _ ∧ _
  rw [f73, nI_1, bv_e]
  have fr : ∀ c k j, ¬ (k = 0 ∧ ((c = 14 ∨ c = 15) ∧ j = t ∨ c = 13 ∧ (j = 11 ∨ j = 12))) → σ4 c k j = σ c k j := fun c k j q => (up3_of (by omega)).trans ((up3_of (by omega)).trans ((up3_of (by omega)).trans (up3_of (by omega))))
  refine ⟨σ4, ?_, ⟨(fr _ _ _ (by omega)).trans (h1.trans (congrArg nI (ex 0 0 (by omega)).symm)), (fr _ _ _ (by omega)).trans (h2.trans (congrArg nI (ex 0 1 (by omega)).symm)), (fr _ _ _ (by omega)).trans (h3.trans (congrArg nI (ex 0 2 (by omega)).symm)), (fr _ _ _ (by omega)).trans (h4.trans (congrArg nI (ex 0 3 (by omega)).symm)), (fr _ _ _ (by omega)).trans (h5.trans (congrArg nI (ex 0 4 (by omega)).symm)), (fr _ _ _ (by omega)).trans (h6.trans (congrArg nI (ex 0 5 (by omega)).symm)), ?_, ?_, (fr _ _ _ (by omega)).trans (h9.trans (congrArg nI (ex 0 7 (by omega)).symm)), ?_, ?_, ?_⟩, fun c k j q => fr c k j (by omega)⟩
  · show some (σ4 13 0 11 - (1 : Int32), σ4) = _
    rw [f74, s1I]
  · rw [eT]
    exact f74
  · rw [eT]
    refine (up3_of (by omega)).trans ((up3_at _ _ _ _ _).trans (congrArg nI ?_))
    show mk S.inn t = mk (Sk.inn S') t + S' 3 t * 2 ^ t
    rw [e3, Nat.zero_mul, Nat.add_zero]
    exact (mk_congr t (fun j hj => ex 3 j (by omega))).symm
  · rw [fr _ _ _ (by omega), h10, show Sk.P S' = S.P from ex 0 7 (by omega)]
    exact congrArg nI (mk_congr S.P (fun j hj => ex 6 j (by omega))).symm
  · intro i hi
    rw [eT] at hi
    by_cases e : i = t
    · subst e
      exact ⟨(up3_of (by omega)).trans ((up3_of (by omega)).trans ((up3_of (by omega)).trans ((up3_at _ _ _ _ _).trans (congrArg nI e1.symm)))), (up3_of (by omega)).trans ((up3_of (by omega)).trans ((up3_at _ _ _ _ _).trans (congrArg nI e2.symm)))⟩
    · exact ⟨(fr _ _ _ (by omega)).trans ((h11 i (by omega)).1.trans (congrArg nI (ex 1 i (by omega)).symm)), (fr _ _ _ (by omega)).trans ((h11 i (by omega)).2.trans (congrArg nI (ex 2 i (by omega)).symm))⟩
  · intro i hi
    rw [show Sk.P S' = S.P from ex 0 7 (by omega)] at hi
    exact ⟨(fr _ _ _ (by omega)).trans ((h12 i hi).1.trans (congrArg nI (ex 4 i (by omega)).symm)), (fr _ _ _ (by omega)).trans ((h12 i hi).2.trans (congrArg nI (ex 5 i (by omega)).symm))⟩
theorem feed_s (h : Re n V C S z b σ μ) (a : Int32) : ∃ r σ' μ' z' b', f_X5_feed σ a = some (r, σ') ∧ f_X6_feed μ a = some (r, μ') ∧ Re n V C S z' b' σ' μ' ∧ (∀ c k j, ¬ ((c = 2 ∨ c = 6) ∧ k = 0) → σ' c k j = σ c k j) ∧ (∀ c k j, ¬ (k = 0 ∧ (c = 5 ∨ (c = 0 ∧ j = 6))) → μ'.1 c k j = μ.1 c k j) := by
  obtain ⟨hB, hN, hx, hm, TX, TM, cx, cm, hC, hr, hb, hz, hin, hz2, htp⟩ := id h
  unfold f_X5_feed f_X6_feed f_X1_append
  rcases rng a (lo := 0) (hi := 255) (by decide) (by decide) with ⟨w, -, hw, rfl, g4, g5⟩ | ⟨-, g4, g5⟩
  · rw [show f_X5_within σ (nI w) (0 : Int32) (255 : Int32) = _ from g4 σ, show f_X6_in μ (nI w).toInt64 (0 : Int64) (255 : Int64) = _ from g5 μ, bc_s, bc_s, if_neg (show ¬ (1 : Int32) = 0 by decide), if_neg (show ¬ (1 : Int32) = 0 by decide), hin.1, hz2]
    by_cases g : z = 160
    · rw [if_neg (show ¬ nI z < (160 : Int32) from nI_nlt (show 160 ≤ z by omega) (by omega)), if_pos (show nI z = (160 : Int32) by rw [g]; rfl), bc_s]
      exact ⟨_, σ, μ, z, b, rfl, rfl, h, fun _ _ _ _ => rfl, fun _ _ _ _ => rfl⟩
    · rw [if_pos (show nI z < (160 : Int32) from nI_lt (show z < 160 by omega) (by decide)), if_neg (show ¬ nI z = (160 : Int32) from nI_ne (by omega) (by decide) g), gd_h (inb_nI (show z < 160 by omega) (by decide)), gd_h (inb_nI (show z < 160 by omega) (by decide)), nI_clamp (by omega), bv_e, bv_e, bv_e, bv_e]
      let σ1 : Gm := up3 σ 6 0 z (nI w)
      let μ1 : Wm := (up3 μ.1 5 0 z (nI w), μ.2)
      have e1 : σ1 2 0 1 + (1 : Int32) = nI (z + 1) := by rw [show σ1 2 0 1 = nI z from (up3_of (by omega)).trans hin.1, nI_1]
      have e2 : μ1.1 0 0 6 + (1 : Int32) = nI (z + 1) := by rw [show μ1.1 0 0 6 = nI z from (u1_of (by omega)).trans hz2, nI_1]
      show ∃ r σ' μ' z' b', (bc (some (up3 σ1 2 0 1 (σ1 2 0 1 + (1 : Int32)) 2 0 1, up3 σ1 2 0 1 (σ1 2 0 1 + (1 : Int32)))) fun r5 σ6 => some (r5, σ6)) = _ ∧ some (((up3 μ1.1 0 0 6 (μ1.1 0 0 6 + (1 : Int32)), μ1.2) : Wm).1 0 0 6, ((up3 μ1.1 0 0 6 (μ1.1 0 0 6 + (1 : Int32)), μ1.2) : Wm)) = _ ∧ _
      rw [e1, e2, bc_s, up3_at, u1_at]
      refine ⟨nI (z + 1), _, _, z + 1, (fun i => if i = z then w else b i), rfl, rfl, ⟨hB, hN, hx.fr' (fun c j p q => (up3_of (by omega)).trans (up3_of (by omega))), hm.fr' (fun c k j q => (u1_of (by omega)).trans (u1_of (by omega))), TX.of (fun c k j q => (up3_of (by omega)).trans (up3_of (by omega))), TM.of (fun c k j q => (u1_of (by omega)).trans (u1_of (by omega))), (up3_of (by omega)).trans ((up3_of (by omega)).trans cx), (u1_of (by omega)).trans ((u1_of (by omega)).trans cm), hC, hr, ?_, by omega, ⟨up3_at _ _ _ _ _, ?_⟩, u1_at _ _ _ _ _ _, ?_⟩, fun c k j q => (up3_of (by omega)).trans (up3_of (by omega)), fun c k j q => (u1_of (by omega)).trans (u1_of (by omega))⟩
      · intro i
        by_cases e : i = z
        · show (if i = z then w else b i) < 256
          rw [if_pos e]
          omega
        · show (if i = z then w else b i) < 256
          rw [if_neg e]
          exact hb i
      · intro i hi
        by_cases e : i = z
        · subst e
          exact (up3_of (by omega)).trans ((up3_at _ _ _ _ _).trans (congrArg nI (if_pos rfl).symm))
        · exact (up3_of (by omega)).trans ((up3_of (by omega)).trans ((hin.2 i (by omega)).trans (congrArg nI (if_neg e).symm)))
      · intro i hi
        by_cases e : i = z
        · subst e
          exact (u1_of (by omega)).trans ((u1_at _ _ _ _ _ _).trans (congrArg nI (if_pos rfl).symm))
        · exact (u1_of (by omega)).trans ((u1_of (by omega)).trans ((htp i (by omega)).trans (congrArg nI (if_neg e).symm)))
  · rw [show f_X5_within σ a (0 : Int32) (255 : Int32) = _ from g4 σ, show f_X6_in μ a.toInt64 (0 : Int64) (255 : Int64) = _ from g5 μ, bc_s, bc_s, if_pos rfl, if_pos rfl]
    exact ⟨_, σ, μ, z, b, rfl, rfl, h, fun _ _ _ _ => rfl, fun _ _ _ _ => rfl⟩
end K

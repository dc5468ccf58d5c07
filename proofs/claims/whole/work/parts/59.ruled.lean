/-! the rule, the class's side -/
section K
variable {n C k : Nat} {V : Tx} {S : Sk} {σ : Gm}
theorem rul53 (hn : 600 < n) (hB : SkB S) (h : SkX k S σ) (hT : TxX V C σ) (hC : S.ru < C) {p w : Nat} (hw : w < 3) (hν : ∀ j, j < 4 → σ 7 0 j = nms S p j) : ∃ σ', f_X3_ruled_J53 n k σ (nI w) (nI (S.ak p)) (4 : Int32) = some (sayS V S w p, σ') ∧ FrN σ σ' := by
  unfold f_X3_ruled_J53
  rw [gd_h (by decide), show (4 : Int32).toNatClampNeg = 4 from rfl, bv_e, bv_e]
  let σ1 : Gm := up3 σ 7 0 4 (nI (S.ak p))
  let σ2 : Gm := up3 σ1 7 0 5 (σ1 13 k 8)
  have f1 : FrN σ σ1 := FrN.up (Or.inl rfl)
  have f2 : FrN σ σ2 := f1.tr (FrN.up (Or.inl rfl))
  have hν2 : ∀ j, j < 6 → σ2 7 0 j = nms S p j := by
    intro j hj
    by_cases e5 : j = 5
    · subst e5
      exact (up3_at _ _ _ _ _).trans ((f1 _ _ _ (by omega)).trans h.2.2.2.1)
    · by_cases e4 : j = 4
      · subst e4
        exact (up3_of (by omega)).trans (up3_at _ _ _ _ _)
      · exact (up3_of (by omega)).trans ((up3_of (by omega)).trans (hν j (by omega)))
  have h2 := h.fr f2
  have T2 := hT.fr (f2.X (kk := k))
  obtain ⟨σ', a1, f3⟩ := val_x (p := p) hn hB T2 hC hw hν2
  show ∃ σ'', (bc (f_X4_value n σ2 (σ2 13 k 10) (nI w)) fun r16 σ17 => _) = _ ∧ _
  rw [h2.2.2.2.2.2.1, a1, bc_s]
  refine ⟨σ', ?_, f2.tr f3⟩
  rcases (show w = 0 ∨ w = 1 ∨ w = 2 by omega) with rfl | rfl | rfl
  · rw [if_pos (show nI 0 = (0 : Int32) from rfl), bnd_x, bc_s]
    rfl
  · rw [if_neg (show ¬ nI 1 = (0 : Int32) by decide), if_neg (show ¬ nI 1 = (2 : Int32) by decide)]
    rfl
  · rw [if_neg (show ¬ nI 2 = (0 : Int32) by decide), if_pos (show nI 2 = (2 : Int32) from rfl)]
    unfold f_X3_bounded
    rw [bd_wi (by decide), bc_s]
    rfl
theorem rul_all (hn : 600 < n) (hB : SkB S) (h : SkX k S σ) (hT : TxX V C σ) (hC : S.ru < C) {p w : Nat} (hp : p < S.P) (hw : w < 3) : ∃ σ', f_X3_ruled n k σ (nI p) (nI w) = some (sayS V S w p, σ') ∧ FrN σ σ' := by
  have hP : S.P ≤ 5 := hB.2.2.2.2.2.2.2.1
  have hA : S.ak p ≤ 1 := hB.2.2.2.2.2.2.2.2.2.2.2.2.2 p
  unfold f_X3_ruled
  rw [full_x h, bc_s, bv_e, gd_h (inb_nI (show p < 5 by omega) (by decide)), nI_clamp (by omega), bv_e, bv_e, bv_e]
  let σ1 : Gm := up3 σ 7 0 0 (nI (fullS S))
  let σ2 : Gm := up3 σ1 7 0 1 (σ1 17 k p)
  let σ3 : Gm := up3 σ2 7 0 2 (σ2 13 k 5)
  let σ4 : Gm := up3 σ3 7 0 3 (σ3 13 k 7)
  have f1 : FrN σ σ1 := FrN.up (Or.inl rfl)
  have f2 : FrN σ σ2 := f1.tr (FrN.up (Or.inl rfl))
  have f3 : FrN σ σ3 := f2.tr (FrN.up (Or.inl rfl))
  have f4 : FrN σ σ4 := f3.tr (FrN.up (Or.inl rfl))
  have hν : ∀ j, j < 4 → σ4 7 0 j = nms S p j := by
    intro j hj
    rcases (show j = 0 ∨ j = 1 ∨ j = 2 ∨ j = 3 by omega) with rfl | rfl | rfl | rfl
    · exact (up3_of (by omega)).trans ((up3_of (by omega)).trans ((up3_of (by omega)).trans (up3_at _ _ _ _ _)))
    · exact (up3_of (by omega)).trans ((up3_of (by omega)).trans ((up3_at _ _ _ _ _).trans ((f1 _ _ _ (by omega)).trans (h.2.2.2.2.2.2.2.2.2.2.2 p hp).2)))
    · exact (up3_of (by omega)).trans ((up3_at _ _ _ _ _).trans ((f2 _ _ _ (by omega)).trans h.1))
    · exact (up3_at _ _ _ _ _).trans ((f3 _ _ _ (by omega)).trans h.2.2.1)
  have h4 := h.fr f4
  have T4 := hT.fr (f4.X (kk := k))
  show ∃ σ'', (bc (f_X3_isAsked k σ4 (nI p)) fun r9 σ10 => _) = _ ∧ _
  rw [ak_x hB h4 hp, bc_s]
  obtain ⟨σ', a1, f5⟩ := rul53 (n := n) hn hB h4 T4 hC hw hν
  by_cases g : S.ak p = 1
  · rw [g] at a1
    rw [if_pos g, if_neg (show ¬ (1 : Int32) = 0 by decide)]
    exact ⟨σ', a1, f4.tr f5⟩
  · rw [show S.ak p = 0 by omega] at a1
    rw [if_neg g, if_pos rfl]
    exact ⟨σ', a1, f4.tr f5⟩
theorem ruX (hn : 600 < n) (V : Tx) (C : Nat) : RuX n V C := fun k S σ p w hB h hT hC hp hw => rul_all hn hB h hT hC hp hw
end K

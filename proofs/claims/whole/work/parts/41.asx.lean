/-! a skip becomes another, the class's side; the rule's throws and pays -/
theorem rw2_at (G : Gm) (c k : Nat) (f : Nat → Int32) (j : Nat) : rw2 G c k f c k j = f j := if_pos ⟨rfl, rfl⟩
theorem rw2_of {G : Gm} {c k : Nat} {f : Nat → Int32} {c' k' j : Nat} (h : ¬ (c' = c ∧ k' = k)) : rw2 G c k f c' k' j = G c' k' j := if_neg h
theorem cpy_at {f g : Nat → Int32} {m j : Nat} (h : j < m) : va_cpy f g 0 0 m j = f j := by
  unfold va_cpy
  rw [if_pos (show 0 ≤ j ∧ j < 0 + m by omega), show 0 + (j - 0) = j by omega]
section K
variable {n C k k1 : Nat} {V : Tx} {S : Sk} {σ τ : Gm}
def CpP (k k1 j : Nat) (τ σ : Gm) : Prop := (∀ i, 5 ≤ i → i < j → σ 13 k i = τ 13 k1 i) ∧ ∀ c k' i, ¬ (c = 13 ∧ k' = k) → σ c k' i = τ c k' i
theorem CpP.step {j : Nat} (hk : ¬ k1 = k) (h : CpP k k1 j τ σ) : CpP k k1 (j + 1) τ (up3 σ 13 k j (σ 13 k1 j)) := by
  refine ⟨fun i h1 h2 => ?_, fun c k' i q => (up3_of (by omega)).trans (h.2 c k' i q)⟩
  by_cases e : i = j
  · subst e
    rw [up3_at, h.2 13 k1 i (by omega)]
  · rw [up3_of (by omega)]
    exact h.1 i h1 (by omega)
theorem as_x (hk : ¬ k1 = k) (hB : SkB S) (h : SkX k1 S σ) : ∃ σ', f_X3_becomeAs k k1 σ = some ((), σ') ∧ SkX k S σ' ∧ ∀ c k' j, ¬ ((13 ≤ c ∧ c ≤ 17) ∧ k' = k) → σ' c k' j = σ c k' j := by
  have hT := hB.2.2.2.2.2.2.1
  have hP := hB.2.2.2.2.2.2.2.1
  unfold f_X3_becomeAs
  rw [bv_e, bv_e, bv_e, bv_e]
  let σ1 : Gm := rw2 σ 14 k (va_cpy (σ 14 k1) (σ 14 k) 0 0 8)
  let σ2 : Gm := rw2 σ1 15 k (va_cpy (σ1 15 k1) (σ1 15 k) 0 0 8)
  let σ3 : Gm := rw2 σ2 16 k (va_cpy (σ2 16 k1) (σ2 16 k) 0 0 5)
  let σ4 : Gm := rw2 σ3 17 k (va_cpy (σ3 17 k1) (σ3 17 k) 0 0 5)
  have e14 : ∀ i, i < 8 → σ4 14 k i = σ 14 k1 i := fun i hi => (rw2_of (by omega)).trans ((rw2_of (by omega)).trans ((rw2_of (by omega)).trans ((rw2_at _ _ _ _ _).trans (cpy_at hi))))
  have e15 : ∀ i, i < 8 → σ4 15 k i = σ 15 k1 i := fun i hi => (rw2_of (by omega)).trans ((rw2_of (by omega)).trans ((rw2_at _ _ _ _ _).trans ((cpy_at hi).trans (rw2_of (by omega)))))
  have e16 : ∀ i, i < 5 → σ4 16 k i = σ 16 k1 i := fun i hi => (rw2_of (by omega)).trans ((rw2_at _ _ _ _ _).trans ((cpy_at hi).trans ((rw2_of (by omega)).trans (rw2_of (by omega)))))
  have e17 : ∀ i, i < 5 → σ4 17 k i = σ 17 k1 i := fun i hi => (rw2_at _ _ _ _ _).trans ((cpy_at hi).trans ((rw2_of (by omega)).trans ((rw2_of (by omega)).trans (rw2_of (by omega)))))
  have ef : ∀ c k' i, ¬ ((14 ≤ c ∧ c ≤ 17) ∧ k' = k) → σ4 c k' i = σ c k' i := fun c k' i q => (rw2_of (by omega)).trans ((rw2_of (by omega)).trans ((rw2_of (by omega)).trans (rw2_of (by omega))))
  have p0 : CpP k k1 5 σ4 σ4 := ⟨fun i h1 h2 => by omega, fun _ _ _ _ => rfl⟩
  have p1 := (((((((((p0.step hk).step hk).step hk).step hk).step hk).step hk).step hk).step hk).step hk).step hk
  refine ⟨_, rfl, ?_, fun c k' j q => (p1.2 c k' j (by omega)).trans (ef c k' j (by omega))⟩
  have e13 : ∀ i, 5 ≤ i → i < 15 → _ = σ 13 k1 i := fun i h1 h2 => (p1.1 i h1 h2).trans (ef 13 k1 i (by omega))
  obtain ⟨h1, h2, h3, h4, h5, h6, h7, h8, h9, h10, h11, h12⟩ := h
  exact ⟨(e13 5 (by omega) (by omega)).trans h1, (e13 6 (by omega) (by omega)).trans h2, (e13 7 (by omega) (by omega)).trans h3, (e13 8 (by omega) (by omega)).trans h4, (e13 9 (by omega) (by omega)).trans h5, (e13 10 (by omega) (by omega)).trans h6, (e13 11 (by omega) (by omega)).trans h7, (e13 12 (by omega) (by omega)).trans h8, (e13 13 (by omega) (by omega)).trans h9, (e13 14 (by omega) (by omega)).trans h10, fun i hi => ⟨(p1.2 14 k i (by omega)).trans ((e14 i (by omega)).trans (h11 i hi).1), (p1.2 15 k i (by omega)).trans ((e15 i (by omega)).trans (h11 i hi).2)⟩, fun i hi => ⟨(p1.2 16 k i (by omega)).trans ((e16 i (by omega)).trans (h12 i hi).1), (p1.2 17 k i (by omega)).trans ((e17 i (by omega)).trans (h12 i hi).2)⟩⟩
theorem nms_z (S : Sk) (p : Nat) : ∀ j, 6 ≤ j → nms S p j = 0 := fun j hj => by
  unfold nms
  rw [if_neg (by omega), if_neg (by omega), if_neg (by omega), if_neg (by omega), if_neg (by omega), if_neg (by omega)]
/-- what the rule's text tells, before its bounds -/
theorem val_x (hn : 600 < n) (hB : SkB S) (hT : TxX V C σ) (hC : S.ru < C) {p w : Nat} (hw : w < 3) (hν : ∀ j, j < 6 → σ 7 0 j = nms S p j) : ∃ σ', f_X4_value n σ (nI S.ru) (nI w) = some (rawS V S w p, σ') ∧ FrN σ σ' := by
  have hr := hB.2.2.2.2.2.1
  obtain ⟨m1, m2, m3, a1, a2, a3, b1, b2, b3, hc⟩ := hT S.ru hC
  obtain ⟨c1, c2, c3⟩ := hc (nms S p) (nms_z S p)
  rcases (show w = 0 ∨ w = 1 ∨ w = 2 by omega) with rfl | rfl | rfl
  · obtain ⟨σ', r1, r2⟩ := value0 (n := n) (by omega) b1 hr hν a1 c1
    exact ⟨σ', r1, r2.N⟩
  · obtain ⟨σ', r1, r2⟩ := valueS (n := n) (p := 0) (by omega) (by omega) b2 hr hν a1 a2 c2
    exact ⟨σ', r1, r2.N⟩
  · obtain ⟨σ', r1, r2⟩ := valueS (n := n) (p := 1) (by omega) (by omega) b3 hr hν a2 a3 c3
    exact ⟨σ', r1, r2.N⟩
end K

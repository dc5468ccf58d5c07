/-! laying aside and back, the reference's side -/
section K
variable {n C : Nat} {V : Tx} {S : Sk} {μ : Wm}
def AsM (S : Sk) (μ : Wm) : Prop := (∀ x, x < 5 → μ.1 27 0 x = nI (S 0 x)) ∧ ∀ i, i < S.T → μ.1 28 0 i = nI (S.inn i)
def FrA (μ μ' : Wm) : Prop := ∀ c k j, ¬ ((c = 27 ∨ c = 28) ∧ k = 0) → μ'.1 c k j = μ.1 c k j
theorem FrA.rf (μ : Wm) : FrA μ μ := fun _ _ _ _ => rfl
theorem FrA.tr {a b c : Wm} (h : FrA a b) (g : FrA b c) : FrA a c := fun x y z q => (g x y z q).trans (h x y z q)
theorem FrA.up {μ : Wm} {c j : Nat} {v : Int32} {L : Int64} (h : c = 27 ∨ c = 28) : FrA μ (up3 μ.1 c 0 j v, L) := fun c' k' i q => u1_of (by omega)
theorem FrY.up' {μ : Wm} {c j : Nat} {v : Int32} {L : Int64} (h : c = 7 ∨ c = 8) : FrY μ (up3 μ.1 c 0 j v, L) := FrY.up h
theorem asB : ∀ (m i f : Nat) (μ : Wm), i + m = 8 → m < f → ∃ μ', f_X6_laysAside_L27 n f μ (nI i) = some ((), μ') ∧ (∀ l, i ≤ l → l < 8 → μ'.1 28 0 l = μ.1 8 0 (3 * l + 2)) ∧ (∀ c k j, ¬ (c = 28 ∧ k = 0 ∧ i ≤ j) → μ'.1 c k j = μ.1 c k j)
  | m, i, 0, _, _, h => by omega
  | 0, i, f + 1, μ, he, _ => by
    unfold f_X6_laysAside_L27
    rw [if_pos (show (8 : Int32) ≤ nI i from nI_le (show 8 ≤ i by omega) (by omega))]
    exact ⟨μ, rfl, fun l h1 h2 => by omega, fun _ _ _ _ => rfl⟩
  | m + 1, i, f + 1, μ, he, hk => by
    unfold f_X6_laysAside_L27
    rw [if_neg (show ¬ (8 : Int32) ≤ nI i from nI_ge (show i < 8 by omega) (by decide)), x32, gd_h (inb_nI (show 3 * i + 2 < 24 by omega) (by decide)), gd_h (inb_nI (show i < 8 by omega) (by decide)), nI_clamp (by omega), nI_clamp (by omega), bv_e, nI_1]
    obtain ⟨μ', a1, a2, a3⟩ := asB m (i + 1) f (up3 μ.1 28 0 i (μ.1 8 0 (3 * i + 2)), μ.2) (by omega) (by omega)
    refine ⟨μ', a1, fun l h1 h2 => ?_, fun c k j q => (a3 c k j (by omega)).trans (u1_of (by omega))⟩
    by_cases e : l = i
    · subst e
      rw [a3 28 0 l (by omega), u1_at]
    · rw [a2 l (by omega) h2, u1_of (by omega)]
theorem asA (hn : 600 < n) : ∀ (m i f : Nat) (μ : Wm), i + m = 5 → m < f → ∃ μ', f_X6_laysAside_L2 n f μ (nI i) = some ((), μ') ∧ (∀ l, i ≤ l → l < 5 → μ'.1 27 0 l = μ.1 7 0 l) ∧ (∀ l, l < 8 → μ'.1 28 0 l = μ.1 8 0 (3 * l + 2)) ∧ (∀ c k j, ¬ ((c = 28 ∨ (c = 27 ∧ i ≤ j)) ∧ k = 0) → μ'.1 c k j = μ.1 c k j)
  | m, i, 0, _, _, h => by omega
  | 0, i, f + 1, μ, he, _ => by
    unfold f_X6_laysAside_L2
    rw [if_pos (show (5 : Int32) ≤ nI i from nI_le (show 5 ≤ i by omega) (by omega))]
    obtain ⟨μ', a1, a2, a3⟩ := asB (n := n) 8 0 n μ (by omega) (by omega)
    exact ⟨μ', a1, fun l h1 h2 => by omega, fun l h => a2 l (by omega) h, fun c k j q => a3 c k j (by omega)⟩
  | m + 1, i, f + 1, μ, he, hk => by
    unfold f_X6_laysAside_L2
    rw [if_neg (show ¬ (5 : Int32) ≤ nI i from nI_ge (show i < 5 by omega) (by decide)), gd_h (inb_nI (show i < 5 by omega) (by decide)), gd_h (inb_nI (show i < 5 by omega) (by decide)), nI_clamp (by omega), bv_e, nI_1]
    obtain ⟨μ', a1, a2, a3, a4⟩ := asA hn m (i + 1) f (up3 μ.1 27 0 i (μ.1 7 0 i), μ.2) (by omega) (by omega)
    refine ⟨μ', a1, fun l h1 h2 => ?_, fun l h => (a3 l h).trans (u1_of (by omega)), fun c k j q => (a4 c k j (by omega)).trans (u1_of (by omega))⟩
    by_cases e : l = i
    · subst e
      rw [a4 27 0 l (by omega), u1_at]
    · rw [a2 l (by omega) h2, u1_of (by omega)]
theorem sk5 (h : SkM S μ) {x : Nat} (hx : x < 5) : μ.1 7 0 x = nI (S 0 x) := by
  obtain ⟨h1, h2, h3, h4, h5, -⟩ := h
  rcases (show x = 0 ∨ x = 1 ∨ x = 2 ∨ x = 3 ∨ x = 4 by omega) with rfl | rfl | rfl | rfl | rfl
  · exact h1
  · exact h2
  · exact h3
  · exact h4
  · exact h5
theorem aside_m (hn : 600 < n) (hB : SkB S) (h : SkM S μ) : ∃ μ', f_X6_laysAside n μ = some ((), μ') ∧ AsM S μ' ∧ FrA μ μ' := by
  have hT := hB.2.2.2.2.2.2.1
  obtain ⟨μ', a1, a2, a3, a4⟩ := asA hn 5 0 n μ (by omega) (by omega)
  refine ⟨μ', a1, ⟨fun x hx => (a2 x (by omega) hx).trans (sk5 h hx), fun i hi => (a3 i (by omega)).trans (h.2.2.2.2.2.2.2.2.1 i hi).2.2⟩, fun c k j q => a4 c k j (by omega)⟩
theorem bkB : ∀ (m i f : Nat) (μ : Wm), i + m = 8 → m < f → ∃ μ', f_X6_laysBack_L27 n f μ (nI i) = some ((), μ') ∧ (∀ l, i ≤ l → l < 8 → μ'.1 8 0 (3 * l + 2) = μ.1 28 0 l) ∧ (∀ c k j, ¬ (c = 8 ∧ k = 0 ∧ ∃ l, i ≤ l ∧ j = 3 * l + 2) → μ'.1 c k j = μ.1 c k j)
  | m, i, 0, _, _, h => by omega
  | 0, i, f + 1, μ, he, _ => by
    unfold f_X6_laysBack_L27
    rw [if_pos (show (8 : Int32) ≤ nI i from nI_le (show 8 ≤ i by omega) (by omega))]
    exact ⟨μ, rfl, fun l h1 h2 => by omega, fun _ _ _ _ => rfl⟩
  | m + 1, i, f + 1, μ, he, hk => by
    unfold f_X6_laysBack_L27
    rw [if_neg (show ¬ (8 : Int32) ≤ nI i from nI_ge (show i < 8 by omega) (by decide)), x32, gd_h (inb_nI (show i < 8 by omega) (by decide)), gd_h (inb_nI (show 3 * i + 2 < 24 by omega) (by decide)), nI_clamp (by omega), nI_clamp (by omega), bv_e, nI_1]
    obtain ⟨μ', a1, a2, a3⟩ := bkB m (i + 1) f (up3 μ.1 8 0 (3 * i + 2) (μ.1 28 0 i), μ.2) (by omega) (by omega)
    refine ⟨μ', a1, fun l h1 h2 => ?_, fun c k j q => ?_⟩
    · by_cases e : l = i
      · subst e
        rw [a3 8 0 (3 * l + 2) (fun ⟨_, _, l', b1, b2⟩ => by omega), u1_at]
      · rw [a2 l (by omega) h2, u1_of (by omega)]
    · rw [a3 c k j (fun ⟨b1, b2, l', b3, b4⟩ => q ⟨b1, b2, l', by omega, b4⟩)]
      exact u1_of (fun ⟨b1, b2, b3⟩ => q ⟨b1, b2, i, Nat.le_refl i, b3⟩)
theorem bkA (hn : 600 < n) : ∀ (m i f : Nat) (μ : Wm), i + m = 5 → m < f → ∃ μ', f_X6_laysBack_L2 n f μ (nI i) = some ((), μ') ∧ (∀ l, i ≤ l → l < 5 → μ'.1 7 0 l = μ.1 27 0 l) ∧ (∀ l, l < 8 → μ'.1 8 0 (3 * l + 2) = μ.1 28 0 l) ∧ (∀ c k j, ¬ (k = 0 ∧ ((c = 7 ∧ i ≤ j) ∨ (c = 8 ∧ ∃ l, j = 3 * l + 2))) → μ'.1 c k j = μ.1 c k j)
  | m, i, 0, _, _, h => by omega
  | 0, i, f + 1, μ, he, _ => by
    unfold f_X6_laysBack_L2
    rw [if_pos (show (5 : Int32) ≤ nI i from nI_le (show 5 ≤ i by omega) (by omega))]
    obtain ⟨μ', a1, a2, a3⟩ := bkB (n := n) 8 0 n μ (by omega) (by omega)
    exact ⟨μ', a1, fun l h1 h2 => by omega, fun l h => a2 l (by omega) h, fun c k j q => a3 c k j (fun ⟨b1, b2, l', b3, b4⟩ => q ⟨b2, Or.inr ⟨b1, l', b4⟩⟩)⟩
  | m + 1, i, f + 1, μ, he, hk => by
    unfold f_X6_laysBack_L2
    rw [if_neg (show ¬ (5 : Int32) ≤ nI i from nI_ge (show i < 5 by omega) (by decide)), gd_h (inb_nI (show i < 5 by omega) (by decide)), gd_h (inb_nI (show i < 5 by omega) (by decide)), nI_clamp (by omega), bv_e, nI_1]
    obtain ⟨μ', a1, a2, a3, a4⟩ := bkA hn m (i + 1) f (up3 μ.1 7 0 i (μ.1 27 0 i), μ.2) (by omega) (by omega)
    refine ⟨μ', a1, fun l h1 h2 => ?_, fun l h => (a3 l h).trans (u1_of (by omega)), fun c k j q => (a4 c k j ?_).trans (u1_of ?_)⟩
    · by_cases e : l = i
      · subst e
        rw [a4 7 0 l (fun ⟨_, b⟩ => b.elim (fun b => by omega) (fun b => by omega)), u1_at]
      · rw [a2 l (by omega) h2, u1_of (by omega)]
    · intro ⟨b1, b2⟩
      exact q ⟨b1, b2.elim (fun b => Or.inl ⟨b.1, by omega⟩) Or.inr⟩
    · intro ⟨b1, b2, b3⟩
      exact q ⟨b2, Or.inl ⟨b1, by omega⟩⟩
/-- the same but for what days change -/
def SkE (S S' : Sk) : Prop := ∀ c j, ¬ c = 3 → ¬ (c = 0 ∧ j < 5) → S' c j = S c j
theorem back_m (hn : 600 < n) {S' : Sk} (hB : SkB S) (ha : AsM S μ) (h : SkM S' μ) (he : SkE S S') : ∃ μ', f_X6_laysBack n μ = some ((), μ') ∧ SkM S μ' ∧ (∀ c k j, ¬ (k = 0 ∧ (c = 7 ∨ c = 8)) → μ'.1 c k j = μ.1 c k j) := by
  have hT := hB.2.2.2.2.2.2.1
  obtain ⟨μ', a1, a2, a3, a4⟩ := bkA hn 5 0 n μ (by omega) (by omega)
  have eT : Sk.T S' = S.T := he 0 6 (by omega) (by omega)
  have eP : Sk.P S' = S.P := he 0 7 (by omega) (by omega)
  have fr : ∀ c k j, ¬ (k = 0 ∧ (c = 7 ∨ c = 8)) → μ'.1 c k j = μ.1 c k j := fun c k j q => a4 c k j (fun ⟨b1, b2⟩ => q ⟨b1, b2.elim (fun b => Or.inl b.1) (fun b => Or.inr b.1)⟩)
  have g : ∀ x, x < 5 → μ'.1 7 0 x = nI (S 0 x) := fun x hx => (a2 x (by omega) hx).trans (ha.1 x hx)
  obtain ⟨h1, h2, h3, h4, h5, h6, h7, h8, h9, h10⟩ := h
  refine ⟨μ', a1, ⟨g 0 (by omega), g 1 (by omega), g 2 (by omega), g 3 (by omega), g 4 (by omega), ?_, ?_, ?_, ?_, ?_⟩, fr⟩
  · rw [fr 0 0 4 (by omega), h6, show Sk.ru S' = S.ru from he 0 5 (by omega) (by omega)]
  · rw [fr 0 0 10 (by omega), h7, eT]
  · rw [fr 0 0 11 (by omega), h8, eP]
  · intro i hi
    obtain ⟨b1, b2, b3⟩ := h9 i (by rw [eT]; exact hi)
    refine ⟨?_, ?_, (a3 i (by omega)).trans (ha.2 i hi)⟩
    · rw [a4 8 0 (3 * i) (fun ⟨_, b⟩ => b.elim (fun b => by omega) (fun ⟨_, l, b⟩ => by omega)), b1, show Sk.rd S' i = S.rd i from he 2 i (by omega) (by omega)]
    · rw [a4 8 0 (3 * i + 1) (fun ⟨_, b⟩ => b.elim (fun b => by omega) (fun ⟨_, l, b⟩ => by omega)), b2, show Sk.bk S' i = S.bk i from he 1 i (by omega) (by omega)]
  · intro i hi
    obtain ⟨b1, b2, b3⟩ := h10 i (by rw [eP]; exact hi)
    rw [fr 9 0 _ (by omega), fr 9 0 _ (by omega), fr 9 0 _ (by omega), b1, b2, b3, show Sk.nb S' i = S.nb i from he 5 i (by omega) (by omega), show Sk.ak S' i = S.ak i from he 6 i (by omega) (by omega), show Sk.kd S' i = S.kd i from he 4 i (by omega) (by omega)]
    exact ⟨rfl, rfl, rfl⟩
theorem goS_E {x : Int32} {D : Nat} : SkE S (goS V x D S).1 := fun c j h g => goF_k D 0 S 0 h (by omega)
theorem passS_E (cov : Bool) : SkE S (passS V cov S).1 := fun c j h g => passS_k cov S h (by omega)
end K

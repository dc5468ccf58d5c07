/-! an image taken, the reference's side -/
section K
variable {n d C z : Nat} {V : Tx} {b : Nat → Nat} {S : Sk} {σ : Gm} {μ : Wm}
theorem imC : ∀ (m i f : Nat) (μ : Wm), i + m = 15 → m < f → ∃ μ', f_X6_image_L53 n f μ (nI i) = some (μ.1 0 0 11, μ') ∧ (∀ l, i ≤ l → l < 15 → μ'.1 31 0 l = μ.1 9 0 l) ∧ (μ'.1 0 0 32 = μ.1 0 0 11 ∧ μ'.1 0 0 33 = μ.1 0 0 10 ∧ μ'.1 0 0 34 = μ.1 0 0 4) ∧ (∀ c k j, ¬ (k = 0 ∧ ((c = 31 ∧ i ≤ j) ∨ (c = 0 ∧ 32 ≤ j ∧ j ≤ 34))) → μ'.1 c k j = μ.1 c k j)
  | m, i, 0, _, _, h => by omega
  | 0, i, f + 1, μ, he, _ => by
    unfold f_X6_image_L53
    rw [if_pos (show (15 : Int32) ≤ nI i from nI_le (show 15 ≤ i by omega) (by omega)), bv_e, bv_e, bv_e]
    refine ⟨_, congrArg (fun x => some (x, _)) ?_, fun l h1 h2 => by omega, ⟨?_, ?_, ?_⟩, fun c k j q => ?_⟩
    · exact (u1_of (by omega)).trans ((u1_of (by omega)).trans (u1_of (by omega)))
    · exact (u1_of (by omega)).trans ((u1_of (by omega)).trans (u1_at _ _ _ _ _ _))
    · exact (u1_of (by omega)).trans ((u1_at _ _ _ _ _ _).trans (u1_of (by omega)))
    · exact (u1_at _ _ _ _ _ _).trans ((u1_of (by omega)).trans (u1_of (by omega)))
    · exact (u1_of (by omega)).trans ((u1_of (by omega)).trans (u1_of (by omega)))
  | m + 1, i, f + 1, μ, he, hk => by
    unfold f_X6_image_L53
    rw [if_neg (show ¬ (15 : Int32) ≤ nI i from nI_ge (show i < 15 by omega) (by decide)), gd_h (inb_nI (show i < 15 by omega) (by decide)), gd_h (inb_nI (show i < 15 by omega) (by decide)), nI_clamp (by omega), bv_e, nI_1]
    obtain ⟨μ', a1, a2, ⟨b1, b2, b3⟩, a4⟩ := imC m (i + 1) f (up3 μ.1 31 0 i (μ.1 9 0 i), μ.2) (by omega) (by omega)
    refine ⟨μ', a1.trans (congrArg (fun x => some (x, μ')) (u1_of (by omega))), fun l h1 h2 => ?_, ⟨b1.trans (u1_of (by omega)), b2.trans (u1_of (by omega)), b3.trans (u1_of (by omega))⟩, fun c k j q => (a4 c k j (by omega)).trans (u1_of (by omega))⟩
    by_cases e : l = i
    · subst e
      rw [a4 31 0 l (by omega), u1_at]
    · rw [a2 l (by omega) h2, u1_of (by omega)]
theorem imB (hn : 600 < n) : ∀ (m i f : Nat) (μ : Wm), i + m = 24 → m < f → ∃ μ', f_X6_image_L27 n f μ (nI i) = some (μ.1 0 0 11, μ') ∧ (∀ l, i ≤ l → l < 24 → μ'.1 30 0 l = μ.1 8 0 l) ∧ (∀ l, l < 15 → μ'.1 31 0 l = μ.1 9 0 l) ∧ (μ'.1 0 0 32 = μ.1 0 0 11 ∧ μ'.1 0 0 33 = μ.1 0 0 10 ∧ μ'.1 0 0 34 = μ.1 0 0 4) ∧ (∀ c k j, ¬ (k = 0 ∧ ((c = 30 ∧ i ≤ j) ∨ c = 31 ∨ (c = 0 ∧ 32 ≤ j ∧ j ≤ 34))) → μ'.1 c k j = μ.1 c k j)
  | m, i, 0, _, _, h => by omega
  | 0, i, f + 1, μ, he, _ => by
    unfold f_X6_image_L27
    rw [if_pos (show (24 : Int32) ≤ nI i from nI_le (show 24 ≤ i by omega) (by omega))]
    obtain ⟨μ', a1, a2, a3, a4⟩ := imC (n := n) 15 0 n μ (by omega) (by omega)
    exact ⟨μ', a1, fun l h1 h2 => by omega, fun l h => a2 l (by omega) h, a3, fun c k j q => a4 c k j (by omega)⟩
  | m + 1, i, f + 1, μ, he, hk => by
    unfold f_X6_image_L27
    rw [if_neg (show ¬ (24 : Int32) ≤ nI i from nI_ge (show i < 24 by omega) (by decide)), gd_h (inb_nI (show i < 24 by omega) (by decide)), gd_h (inb_nI (show i < 24 by omega) (by decide)), nI_clamp (by omega), bv_e, nI_1]
    obtain ⟨μ', a1, a2, a3, ⟨b1, b2, b3⟩, a4⟩ := imB hn m (i + 1) f (up3 μ.1 30 0 i (μ.1 8 0 i), μ.2) (by omega) (by omega)
    refine ⟨μ', a1.trans (congrArg (fun x => some (x, μ')) (u1_of (by omega))), fun l h1 h2 => ?_, fun l h => (a3 l h).trans (u1_of (by omega)), ⟨b1.trans (u1_of (by omega)), b2.trans (u1_of (by omega)), b3.trans (u1_of (by omega))⟩, fun c k j q => (a4 c k j (by omega)).trans (u1_of (by omega))⟩
    by_cases e : l = i
    · subst e
      rw [a4 30 0 l (by omega), u1_at]
    · rw [a2 l (by omega) h2, u1_of (by omega)]
theorem imA (hn : 600 < n) : ∀ (m i f : Nat) (μ : Wm), i + m = 5 → m < f → ∃ μ', f_X6_image_L2 n f μ (nI i) = some (μ.1 0 0 11, μ') ∧ (∀ l, i ≤ l → l < 5 → μ'.1 29 0 l = μ.1 7 0 l) ∧ (∀ l, l < 24 → μ'.1 30 0 l = μ.1 8 0 l) ∧ (∀ l, l < 15 → μ'.1 31 0 l = μ.1 9 0 l) ∧ (μ'.1 0 0 32 = μ.1 0 0 11 ∧ μ'.1 0 0 33 = μ.1 0 0 10 ∧ μ'.1 0 0 34 = μ.1 0 0 4) ∧ (∀ c k j, ¬ (k = 0 ∧ ((c = 29 ∧ i ≤ j) ∨ c = 30 ∨ c = 31 ∨ (c = 0 ∧ 32 ≤ j ∧ j ≤ 34))) → μ'.1 c k j = μ.1 c k j)
  | m, i, 0, _, _, h => by omega
  | 0, i, f + 1, μ, he, _ => by
    unfold f_X6_image_L2
    rw [if_pos (show (5 : Int32) ≤ nI i from nI_le (show 5 ≤ i by omega) (by omega))]
    obtain ⟨μ', a1, a2, a3, a4, a5⟩ := imB hn 24 0 n μ (by omega) (by omega)
    exact ⟨μ', a1, fun l h1 h2 => by omega, fun l h => a2 l (by omega) h, a3, a4, fun c k j q => a5 c k j (by omega)⟩
  | m + 1, i, f + 1, μ, he, hk => by
    unfold f_X6_image_L2
    rw [if_neg (show ¬ (5 : Int32) ≤ nI i from nI_ge (show i < 5 by omega) (by decide)), gd_h (inb_nI (show i < 5 by omega) (by decide)), gd_h (inb_nI (show i < 5 by omega) (by decide)), nI_clamp (by omega), bv_e, nI_1]
    obtain ⟨μ', a1, a2, a3, a3', ⟨b1, b2, b3⟩, a4⟩ := imA hn m (i + 1) f (up3 μ.1 29 0 i (μ.1 7 0 i), μ.2) (by omega) (by omega)
    refine ⟨μ', a1.trans (congrArg (fun x => some (x, μ')) (u1_of (by omega))), fun l h1 h2 => ?_, fun l h => (a3 l h).trans (u1_of (by omega)), fun l h => (a3' l h).trans (u1_of (by omega)), ⟨b1.trans (u1_of (by omega)), b2.trans (u1_of (by omega)), b3.trans (u1_of (by omega))⟩, fun c k j q => (a4 c k j (by omega)).trans (u1_of (by omega))⟩
    by_cases e : l = i
    · subst e
      rw [a4 29 0 l (by omega), u1_at]
    · rw [a2 l (by omega) h2, u1_of (by omega)]
end K

/-! the image laid back, both sides -/
section K
variable {n d C z : Nat} {V : Tx} {b : Nat → Nat} {S : Sk} {σ : Gm} {μ : Wm}
theorem bkC3 : ∀ (m i f : Nat) (μ : Wm), i + m = 15 → m < f → ∃ μ', f_X6_back_L64 n f μ (nI i) = some (μ.1 0 0 32, μ') ∧ (∀ l, i ≤ l → l < 15 → μ'.1 9 0 l = μ.1 31 0 l) ∧ (μ'.1 0 0 11 = μ.1 0 0 32 ∧ μ'.1 0 0 10 = μ.1 0 0 33 ∧ μ'.1 0 0 4 = μ.1 0 0 34) ∧ (∀ c k j, ¬ (k = 0 ∧ ((c = 9 ∧ i ≤ j) ∨ (c = 0 ∧ (j = 11 ∨ j = 10 ∨ j = 4)))) → μ'.1 c k j = μ.1 c k j)
  | m, i, 0, _, _, h => by omega
  | 0, i, f + 1, μ, he, _ => by
    unfold f_X6_back_L64
    rw [if_pos (show (15 : Int32) ≤ nI i from nI_le (show 15 ≤ i by omega) (by omega)), bv_e, bv_e, bv_e]
    refine ⟨_, congrArg (fun x => some (x, _)) ?_, fun l h1 h2 => by omega, ⟨?_, ?_, ?_⟩, fun c k j q => ?_⟩
    · exact (u1_of (by omega)).trans ((u1_of (by omega)).trans (u1_at _ _ _ _ _ _))
    · exact (u1_of (by omega)).trans ((u1_of (by omega)).trans (u1_at _ _ _ _ _ _))
    · exact (u1_of (by omega)).trans ((u1_at _ _ _ _ _ _).trans (u1_of (by omega)))
    · exact (u1_at _ _ _ _ _ _).trans ((u1_of (by omega)).trans (u1_of (by omega)))
    · exact (u1_of (by omega)).trans ((u1_of (by omega)).trans (u1_of (by omega)))
  | m + 1, i, f + 1, μ, he, hk => by
    unfold f_X6_back_L64
    rw [if_neg (show ¬ (15 : Int32) ≤ nI i from nI_ge (show i < 15 by omega) (by decide)), gd_h (inb_nI (show i < 15 by omega) (by decide)), gd_h (inb_nI (show i < 15 by omega) (by decide)), nI_clamp (by omega), bv_e, nI_1]
    obtain ⟨μ', a1, a2, ⟨b1, b2, b3⟩, a4⟩ := bkC3 m (i + 1) f (up3 μ.1 9 0 i (μ.1 31 0 i), μ.2) (by omega) (by omega)
    refine ⟨μ', a1.trans (congrArg (fun x => some (x, μ')) (u1_of (by omega))), fun l h1 h2 => ?_, ⟨b1.trans (u1_of (by omega)), b2.trans (u1_of (by omega)), b3.trans (u1_of (by omega))⟩, fun c k j q => (a4 c k j (by omega)).trans (u1_of (by omega))⟩
    by_cases e : l = i
    · subst e
      rw [a4 9 0 l (by omega), u1_at]
    · rw [a2 l (by omega) h2, u1_of (by omega)]
theorem bkB3 (hn : 600 < n) : ∀ (m i f : Nat) (μ : Wm), i + m = 24 → m < f → ∃ μ', f_X6_back_L38 n f μ (nI i) = some (μ.1 0 0 32, μ') ∧ (∀ l, i ≤ l → l < 24 → μ'.1 8 0 l = μ.1 30 0 l) ∧ (∀ l, l < 15 → μ'.1 9 0 l = μ.1 31 0 l) ∧ (μ'.1 0 0 11 = μ.1 0 0 32 ∧ μ'.1 0 0 10 = μ.1 0 0 33 ∧ μ'.1 0 0 4 = μ.1 0 0 34) ∧ (∀ c k j, ¬ (k = 0 ∧ ((c = 8 ∧ i ≤ j) ∨ c = 9 ∨ (c = 0 ∧ (j = 11 ∨ j = 10 ∨ j = 4)))) → μ'.1 c k j = μ.1 c k j)
  | m, i, 0, _, _, h => by omega
  | 0, i, f + 1, μ, he, _ => by
    unfold f_X6_back_L38
    rw [if_pos (show (24 : Int32) ≤ nI i from nI_le (show 24 ≤ i by omega) (by omega))]
    obtain ⟨μ', a1, a2, a3, a4⟩ := bkC3 (n := n) 15 0 n μ (by omega) (by omega)
    exact ⟨μ', a1, fun l h1 h2 => by omega, fun l h => a2 l (by omega) h, a3, fun c k j q => a4 c k j (by omega)⟩
  | m + 1, i, f + 1, μ, he, hk => by
    unfold f_X6_back_L38
    rw [if_neg (show ¬ (24 : Int32) ≤ nI i from nI_ge (show i < 24 by omega) (by decide)), gd_h (inb_nI (show i < 24 by omega) (by decide)), gd_h (inb_nI (show i < 24 by omega) (by decide)), nI_clamp (by omega), bv_e, nI_1]
    obtain ⟨μ', a1, a2, a3, ⟨b1, b2, b3⟩, a4⟩ := bkB3 hn m (i + 1) f (up3 μ.1 8 0 i (μ.1 30 0 i), μ.2) (by omega) (by omega)
    refine ⟨μ', a1.trans (congrArg (fun x => some (x, μ')) (u1_of (by omega))), fun l h1 h2 => ?_, fun l h => (a3 l h).trans (u1_of (by omega)), ⟨b1.trans (u1_of (by omega)), b2.trans (u1_of (by omega)), b3.trans (u1_of (by omega))⟩, fun c k j q => (a4 c k j (by omega)).trans (u1_of (by omega))⟩
    by_cases e : l = i
    · subst e
      rw [a4 8 0 l (by omega), u1_at]
    · rw [a2 l (by omega) h2, u1_of (by omega)]
theorem bkA3 (hn : 600 < n) : ∀ (m i f : Nat) (μ : Wm), i + m = 5 → m < f → ∃ μ', f_X6_back_L13 n f μ (nI i) = some (μ.1 0 0 32, μ') ∧ (∀ l, i ≤ l → l < 5 → μ'.1 7 0 l = μ.1 29 0 l) ∧ (∀ l, l < 24 → μ'.1 8 0 l = μ.1 30 0 l) ∧ (∀ l, l < 15 → μ'.1 9 0 l = μ.1 31 0 l) ∧ (μ'.1 0 0 11 = μ.1 0 0 32 ∧ μ'.1 0 0 10 = μ.1 0 0 33 ∧ μ'.1 0 0 4 = μ.1 0 0 34) ∧ (∀ c k j, ¬ (k = 0 ∧ ((c = 7 ∧ i ≤ j) ∨ c = 8 ∨ c = 9 ∨ (c = 0 ∧ (j = 11 ∨ j = 10 ∨ j = 4)))) → μ'.1 c k j = μ.1 c k j)
  | m, i, 0, _, _, h => by omega
  | 0, i, f + 1, μ, he, _ => by
    unfold f_X6_back_L13
    rw [if_pos (show (5 : Int32) ≤ nI i from nI_le (show 5 ≤ i by omega) (by omega))]
    obtain ⟨μ', a1, a2, a3, a4, a5⟩ := bkB3 hn 24 0 n μ (by omega) (by omega)
    exact ⟨μ', a1, fun l h1 h2 => by omega, fun l h => a2 l (by omega) h, a3, a4, fun c k j q => a5 c k j (by omega)⟩
  | m + 1, i, f + 1, μ, he, hk => by
    unfold f_X6_back_L13
    rw [if_neg (show ¬ (5 : Int32) ≤ nI i from nI_ge (show i < 5 by omega) (by decide)), gd_h (inb_nI (show i < 5 by omega) (by decide)), gd_h (inb_nI (show i < 5 by omega) (by decide)), nI_clamp (by omega), bv_e, nI_1]
    obtain ⟨μ', a1, a2, a3, a3', ⟨b1, b2, b3⟩, a4⟩ := bkA3 hn m (i + 1) f (up3 μ.1 7 0 i (μ.1 29 0 i), μ.2) (by omega) (by omega)
    refine ⟨μ', a1.trans (congrArg (fun x => some (x, μ')) (u1_of (by omega))), fun l h1 h2 => ?_, fun l h => (a3 l h).trans (u1_of (by omega)), fun l h => (a3' l h).trans (u1_of (by omega)), ⟨b1.trans (u1_of (by omega)), b2.trans (u1_of (by omega)), b3.trans (u1_of (by omega))⟩, fun c k j q => (a4 c k j (by omega)).trans (u1_of (by omega))⟩
    by_cases e : l = i
    · subst e
      rw [a4 7 0 l (by omega), u1_at]
    · rw [a2 l (by omega) h2, u1_of (by omega)]
theorem back_s (hn : 600 < n) (h : Re n V C S z b σ μ) (hI : ImR C σ μ) : ∃ S' r σ' μ', f_X5_back σ = some (r, σ') ∧ f_X6_back n μ = some (r, μ') ∧ Re n V C S' z b σ' μ' ∧ ImR C σ' μ' ∧ (∀ c k j, ¬ ((13 ≤ c ∧ c ≤ 17) ∧ k = 0) → σ' c k j = σ c k j) ∧ (∀ c k j, ¬ (k = 0 ∧ (c = 7 ∨ c = 8 ∨ c = 9 ∨ (c = 0 ∧ (j = 11 ∨ j = 10 ∨ j = 4)))) → μ'.1 c k j = μ.1 c k j) := by
  unfold f_X5_back f_X6_back
  rcases id hI with ⟨g1, g2⟩ | ⟨g1, I, iB, iN, ir, ix, im⟩
  · rw [if_pos g1, if_pos g2]
    exact ⟨S, _, σ, μ, rfl, rfl, h, hI, fun _ _ _ _ => rfl, fun _ _ _ _ => rfl⟩
  have hT8 := iB.2.2.2.2.2.2.1
  have hP5 := iB.2.2.2.2.2.2.2.1
  obtain ⟨σ1, p1, p2, p3⟩ := as_x (k := 0) (k1 := 1) (by decide) iB ix
  obtain ⟨μ1, q1, q2, q3, q4, ⟨b1, b2, b3⟩, q5⟩ := bkA3 hn 5 0 n μ (by omega) (by omega)
  obtain ⟨i1, i2, i3, i4, i5, i6⟩ := id im
  have fm : ∀ c k j, ¬ (k = 0 ∧ (c = 7 ∨ c = 8 ∨ c = 9 ∨ (c = 0 ∧ (j = 11 ∨ j = 10 ∨ j = 4)))) → μ1.1 c k j = μ.1 c k j := fun c k j q => q5 c k j (by omega)
  have g : ∀ x, x < 5 → μ1.1 7 0 x = nI (I 0 x) := fun x hx => (q2 x (by omega) hx).trans (i1 x hx)
  have hm' : SkM I μ1 := by
    refine ⟨g 0 (by omega), g 1 (by omega), g 2 (by omega), g 3 (by omega), g 4 (by omega), b3.trans i6, b2.trans i5, b1.trans i4, fun i hi => ?_, fun p hp => ?_⟩
    · obtain ⟨r1, r2, r3⟩ := i2 i hi
      exact ⟨(q3 _ (by omega)).trans r1, (q3 _ (by omega)).trans r2, (q3 _ (by omega)).trans r3⟩
    · obtain ⟨r1, r2, r3⟩ := i3 p hp
      exact ⟨(q4 _ (by omega)).trans r1, (q4 _ (by omega)).trans r2, (q4 _ (by omega)).trans r3⟩
  rw [if_neg g1, p1, bc_s, if_neg (show ¬ μ.1 0 0 32 = (-1 : Int32) by rw [i4]; exact nI_nm1 (by omega)), show f_X6_back_L13 n n μ (0 : Int32) = _ from q1, i4, p2.2.2.2.2.2.2.2.2.1]
  refine ⟨I, nI I.P, σ1, μ1, rfl, rfl, h.mk iB iN p2 hm' ir (fun c k j w => p3 c k j (by omega)) (fun c k j w => fm c k j (by omega)), Or.inr ⟨?_, I, iB, iN, ir, ix.fr' fun c j w1 w2 => p3 c 1 j (by omega), ?_⟩, p3, fm⟩
  · rw [p3 _ _ _ (by omega)]
    exact g1
  · exact ⟨fun x hx => (fm _ _ _ (by omega)).trans (i1 x hx), fun i hi => ⟨(fm _ _ _ (by omega)).trans (i2 i hi).1, (fm _ _ _ (by omega)).trans (i2 i hi).2.1, (fm _ _ _ (by omega)).trans (i2 i hi).2.2⟩, fun p hp => ⟨(fm _ _ _ (by omega)).trans (i3 p hp).1, (fm _ _ _ (by omega)).trans (i3 p hp).2.1, (fm _ _ _ (by omega)).trans (i3 p hp).2.2⟩, (fm _ _ _ (by omega)).trans i4, (fm _ _ _ (by omega)).trans i5, (fm _ _ _ (by omega)).trans i6⟩
end K

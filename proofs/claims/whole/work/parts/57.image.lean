/-! an image taken, the reference's side -/
section K
variable {n d C z : Nat} {V : Tx} {b : Nat → Nat} {S : Sk} {σ : Gm} {μ : Wm}
theorem imC : ∀ (m i f : Nat) (μ : Wm), i + m = 15 → m < f → ∃ μ', f_X6_image_L53 n f μ (nI i) = some (μ.1 0 0 11, μ') ∧ (∀ l, i ≤ l → l < 15 → μ'.1 31 0 l = μ.1 9 0 l) ∧ (μ'.1 0 0 32 = μ.1 0 0 11 ∧ μ'.1 0 0 33 = μ.1 0 0 10 ∧ μ'.1 0 0 34 = μ.1 0 0 4) ∧ (∀ c k j, ¬ (k = 0 ∧ ((c = 31 ∧ i ≤ j) ∨ (c = 0 ∧ 32 ≤ j ∧ j ≤ 34))) → μ'.1 c k j = μ.1 c k j)
  | m, i, 0, _, _, h => by omega
  | 0, i, f + 1, μ, he, _ => by
    unfold f_X6_image_L53
    rw [if_pos (show (15 : Int32) ≤ nI i from nI_le (show 15 ≤ i by omega) (by omega)), bv_e, bv_e, bv_e]
    refine ⟨_, congrArg (fun x => some (x, _)) ?_, fun l h1 h2 => by omega, ⟨?_, ?_, ?_⟩, fun c k j q => ?_⟩
    · exact (u1_of (by omega)).trans ((u1_of (by omega)).trans (u1_of (by omega)))
    · exact (u1_of (by omega)).trans ((u1_of (by omega)).trans (u1_at _ _ _ _ _ _))
    · exact (u1_of (by omega)).trans ((u1_at _ _ _ _ _ _).trans (u1_of (by omega)))
    · exact (u1_at _ _ _ _ _ _).trans ((u1_of (by omega)).trans (u1_of (by omega)))
    · exact (u1_of (by omega)).trans ((u1_of (by omega)).trans (u1_of (by omega)))
  | m + 1, i, f + 1, μ, he, hk => by
    unfold f_X6_image_L53
    rw [if_neg (show ¬ (15 : Int32) ≤ nI i from nI_ge (show i < 15 by omega) (by decide)), gd_h (inb_nI (show i < 15 by omega) (by decide)), gd_h (inb_nI (show i < 15 by omega) (by decide)), nI_clamp (by omega), bv_e, nI_1]
    obtain ⟨μ', a1, a2, ⟨b1, b2, b3⟩, a4⟩ := imC m (i + 1) f (up3 μ.1 31 0 i (μ.1 9 0 i), μ.2) (by omega) (by omega)
    refine ⟨μ', a1.trans (congrArg (fun x => some (x, μ')) (u1_of (by omega))), fun l h1 h2 => ?_, ⟨b1.trans (u1_of (by omega)), b2.trans (u1_of (by omega)), b3.trans (u1_of (by omega))⟩, fun c k j q => (a4 c k j (by omega)).trans (u1_of (by omega))⟩
    by_cases e : l = i
    · subst e
      rw [a4 31 0 l (by omega), u1_at]
    · rw [a2 l (by omega) h2, u1_of (by omega)]
theorem imB (hn : 600 < n) : ∀ (m i f : Nat) (μ : Wm), i + m = 24 → m < f → ∃ μ', f_X6_image_L27 n f μ (nI i) = some (μ.1 0 0 11, μ') ∧ (∀ l, i ≤ l → l < 24 → μ'.1 30 0 l = μ.1 8 0 l) ∧ (∀ l, l < 15 → μ'.1 31 0 l = μ.1 9 0 l) ∧ (μ'.1 0 0 32 = μ.1 0 0 11 ∧ μ'.1 0 0 33 = μ.1 0 0 10 ∧ μ'.1 0 0 34 = μ.1 0 0 4) ∧ (∀ c k j, ¬ (k = 0 ∧ ((c = 30 ∧ i ≤ j) ∨ c = 31 ∨ (c = 0 ∧ 32 ≤ j ∧ j ≤ 34))) → μ'.1 c k j = μ.1 c k j)
  | m, i, 0, _, _, h => by omega
  | 0, i, f + 1, μ, he, _ => by
    unfold f_X6_image_L27
    rw [if_pos (show (24 : Int32) ≤ nI i from nI_le (show 24 ≤ i by omega) (by omega))]
    obtain ⟨μ', a1, a2, a3, a4⟩ := imC (n := n) 15 0 n μ (by omega) (by omega)
    exact ⟨μ', a1, fun l h1 h2 => by omega, fun l h => a2 l (by omega) h, a3, fun c k j q => a4 c k j (by omega)⟩
  | m + 1, i, f + 1, μ, he, hk => by
    unfold f_X6_image_L27
    rw [if_neg (show ¬ (24 : Int32) ≤ nI i from nI_ge (show i < 24 by omega) (by decide)), gd_h (inb_nI (show i < 24 by omega) (by decide)), gd_h (inb_nI (show i < 24 by omega) (by decide)), nI_clamp (by omega), bv_e, nI_1]
    obtain ⟨μ', a1, a2, a3, ⟨b1, b2, b3⟩, a4⟩ := imB hn m (i + 1) f (up3 μ.1 30 0 i (μ.1 8 0 i), μ.2) (by omega) (by omega)
    refine ⟨μ', a1.trans (congrArg (fun x => some (x, μ')) (u1_of (by omega))), fun l h1 h2 => ?_, fun l h => (a3 l h).trans (u1_of (by omega)), ⟨b1.trans (u1_of (by omega)), b2.trans (u1_of (by omega)), b3.trans (u1_of (by omega))⟩, fun c k j q => (a4 c k j (by omega)).trans (u1_of (by omega))⟩
    by_cases e : l = i
    · subst e
      rw [a4 30 0 l (by omega), u1_at]
    · rw [a2 l (by omega) h2, u1_of (by omega)]
theorem imA (hn : 600 < n) : ∀ (m i f : Nat) (μ : Wm), i + m = 5 → m < f → ∃ μ', f_X6_image_L2 n f μ (nI i) = some (μ.1 0 0 11, μ') ∧ (∀ l, i ≤ l → l < 5 → μ'.1 29 0 l = μ.1 7 0 l) ∧ (∀ l, l < 24 → μ'.1 30 0 l = μ.1 8 0 l) ∧ (∀ l, l < 15 → μ'.1 31 0 l = μ.1 9 0 l) ∧ (μ'.1 0 0 32 = μ.1 0 0 11 ∧ μ'.1 0 0 33 = μ.1 0 0 10 ∧ μ'.1 0 0 34 = μ.1 0 0 4) ∧ (∀ c k j, ¬ (k = 0 ∧ ((c = 29 ∧ i ≤ j) ∨ c = 30 ∨ c = 31 ∨ (c = 0 ∧ 32 ≤ j ∧ j ≤ 34))) → μ'.1 c k j = μ.1 c k j)
  | m, i, 0, _, _, h => by omega
  | 0, i, f + 1, μ, he, _ => by
    unfold f_X6_image_L2
    rw [if_pos (show (5 : Int32) ≤ nI i from nI_le (show 5 ≤ i by omega) (by omega))]
    obtain ⟨μ', a1, a2, a3, a4, a5⟩ := imB hn 24 0 n μ (by omega) (by omega)
    exact ⟨μ', a1, fun l h1 h2 => by omega, fun l h => a2 l (by omega) h, a3, a4, fun c k j q => a5 c k j (by omega)⟩
  | m + 1, i, f + 1, μ, he, hk => by
    unfold f_X6_image_L2
    rw [if_neg (show ¬ (5 : Int32) ≤ nI i from nI_ge (show i < 5 by omega) (by decide)), gd_h (inb_nI (show i < 5 by omega) (by decide)), gd_h (inb_nI (show i < 5 by omega) (by decide)), nI_clamp (by omega), bv_e, nI_1]
    obtain ⟨μ', a1, a2, a3, a3', ⟨b1, b2, b3⟩, a4⟩ := imA hn m (i + 1) f (up3 μ.1 29 0 i (μ.1 7 0 i), μ.2) (by omega) (by omega)
    refine ⟨μ', a1.trans (congrArg (fun x => some (x, μ')) (u1_of (by omega))), fun l h1 h2 => ?_, fun l h => (a3 l h).trans (u1_of (by omega)), fun l h => (a3' l h).trans (u1_of (by omega)), ⟨b1.trans (u1_of (by omega)), b2.trans (u1_of (by omega)), b3.trans (u1_of (by omega))⟩, fun c k j q => (a4 c k j (by omega)).trans (u1_of (by omega))⟩
    by_cases e : l = i
    · subst e
      rw [a4 29 0 l (by omega), u1_at]
    · rw [a2 l (by omega) h2, u1_of (by omega)]
def ImM (S : Sk) (μ : Wm) : Prop := (∀ x, x < 5 → μ.1 29 0 x = nI (S 0 x)) ∧ (∀ i, i < S.T → μ.1 30 0 (3 * i) = nI (S.rd i) ∧ μ.1 30 0 (3 * i + 1) = nI (S.bk i) ∧ μ.1 30 0 (3 * i + 2) = nI (S.inn i)) ∧ (∀ p, p < S.P → μ.1 31 0 (3 * p) = nI (S.nb p) ∧ μ.1 31 0 (3 * p + 1) = nI (S.ak p) ∧ μ.1 31 0 (3 * p + 2) = nI (S.kd p)) ∧ μ.1 0 0 32 = nI S.P ∧ μ.1 0 0 33 = nI S.T ∧ μ.1 0 0 34 = nI S.ru
/-- the images of both sides -/
def ImR (C : Nat) (σ : Gm) (μ : Wm) : Prop := (σ 0 0 7 = 0 ∧ μ.1 0 0 32 = -1) ∨ (¬ σ 0 0 7 = 0 ∧ ∃ I, SkB I ∧ I.nt ≤ 999 ∧ I.ru < C ∧ SkX 1 I σ ∧ ImM I μ)
theorem image_s (hn : 600 < n) (h : Re n V C S z b σ μ) : ∃ r σ' μ', f_X5_image σ = some (r, σ') ∧ f_X6_image n μ = some (r, μ') ∧ Re n V C S z b σ' μ' ∧ ImR C σ' μ' ∧ (∀ c k j, ¬ (((13 ≤ c ∧ c ≤ 17) ∧ k = 1) ∨ (c = 0 ∧ k = 0 ∧ j = 7)) → σ' c k j = σ c k j) ∧ (∀ c k j, ¬ (k = 0 ∧ (c = 29 ∨ c = 30 ∨ c = 31 ∨ (c = 0 ∧ 32 ≤ j ∧ j ≤ 34))) → μ'.1 c k j = μ.1 c k j) := by
  obtain ⟨hB, hN, hx, hm, TX, TM, cx, cm, hC, hr, -⟩ := id h
  have hT8 := hB.2.2.2.2.2.2.1
  have hP5 := hB.2.2.2.2.2.2.2.1
  unfold f_X5_image f_X6_image
  obtain ⟨σ1, p1, p2, p3⟩ := as_x (k := 1) (k1 := 0) (by decide) hB hx
  obtain ⟨μ1, q1, q2, q3, q4, ⟨b1, b2, b3⟩, q5⟩ := imA hn 5 0 n μ (by omega) (by omega)
  have e13 : up3 σ1 0 0 7 (1 : Int32) 13 0 13 = nI S.P := (up3_of (by omega)).trans ((p3 _ _ _ (by omega)).trans hx.2.2.2.2.2.2.2.2.1)
  have fx : ∀ c k j, ¬ (((13 ≤ c ∧ c ≤ 17) ∧ k = 1) ∨ (c = 0 ∧ k = 0 ∧ j = 7)) → up3 σ1 0 0 7 (1 : Int32) c k j = σ c k j := fun c k j q => (up3_of (by omega)).trans (p3 c k j (by omega))
  have fm : ∀ c k j, ¬ (k = 0 ∧ (c = 29 ∨ c = 30 ∨ c = 31 ∨ (c = 0 ∧ 32 ≤ j ∧ j ≤ 34))) → μ1.1 c k j = μ.1 c k j := fun c k j q => q5 c k j (by omega)
  rw [p1, bc_s, bv_e, e13, show f_X6_image_L2 n n μ (0 : Int32) = _ from q1, hm.2.2.2.2.2.2.2.1]
  refine ⟨nI S.P, _, μ1, rfl, rfl, h.mk hB hN (hx.fr' fun c j w1 w2 => fx c 0 j (by omega)) (hm.fr' fun c k j w => fm c k j (by omega)) hr (fun c k j w => fx c k j (by omega)) (fun c k j w => fm c k j (by omega)), Or.inr ⟨?_, S, hB, hN, hr, p2.fr' fun c j w1 w2 => up3_of (by omega), ?_⟩, fx, fm⟩
  · rw [up3_at]
    decide
  · refine ⟨fun x hx' => (q2 x (by omega) hx').trans (sk5 hm hx'), fun i hi => ?_, fun p hp => ?_, b1.trans hm.2.2.2.2.2.2.2.1, b2.trans hm.2.2.2.2.2.2.1, b3.trans hm.2.2.2.2.2.1⟩
    · obtain ⟨r1, r2, r3⟩ := hm.2.2.2.2.2.2.2.2.1 i hi
      exact ⟨(q3 _ (by omega)).trans r1, (q3 _ (by omega)).trans r2, (q3 _ (by omega)).trans r3⟩
    · obtain ⟨r1, r2, r3⟩ := fr_m hm hp
      exact ⟨(q4 _ (by omega)).trans r1, (q4 _ (by omega)).trans r2, (q4 _ (by omega)).trans r3⟩
end K

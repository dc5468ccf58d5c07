/-! film, both sides alike -/
theorem by_99 (v : Int32) (h1 : -99 ≤ v.toInt) (h2 : v.toInt ≤ 99) : v.toInt8.toInt32 = v := by
  by_cases h : (0 : Int32) ≤ v
  · have e := t_nI h
    have hx : v.toInt.toNat ≤ 99 := by omega
    generalize v.toInt.toNat = x at e hx
    subst e
    have key : ∀ x, x < 100 → (nI x).toInt8.toInt32 = nI x := by decide +kernel
    exact key x (by omega)
  · have hn : v.toInt < 0 := by
      have : ¬ (0 : Int32).toInt ≤ v.toInt := fun q => h (Int32.le_iff_toInt_le.mpr q)
      rw [show (0 : Int32).toInt = 0 by decide] at this
      omega
    have e : v = -(nI (-v.toInt).toNat) := by
      apply Int32.toInt_inj.mp
      rw [ngI (by omega)]
      omega
    have hx : (-v.toInt).toNat ≤ 99 := by omega
    generalize (-v.toInt).toNat = x at e hx
    subst e
    have key : ∀ x, x < 100 → (-(nI x)).toInt8.toInt32 = -(nI x) := by decide +kernel
    exact key x (by omega)
section K
variable {n d C z k : Nat} {V : Tx} {b : Nat → Nat} {S : Sk} {σ : Gm} {μ : Wm}
theorem delS_up (v w : Nat) : upS (delS S v) 0 0 w = upS S 0 0 w := by
  funext c j
  by_cases e : c = 0 ∧ j = 0
  · obtain ⟨rfl, rfl⟩ := e
    rw [upS_at, upS_at]
  · rw [upS_of e, upS_of e]
    exact upS_of e
theorem delS_0 : delS S 0 = S := by
  funext c j
  by_cases e : c = 0 ∧ j = 0
  · obtain ⟨rfl, rfl⟩ := e
    exact upS_at _ _ _ _
  · exact upS_of e
theorem delS_B2 (hB : SkB S) {v : Nat} (hv : S.nt + v ≤ 1100) : SkB (delS S v) := hB.up hv
theorem delS_ru (v : Nat) : (delS S v).ru = S.ru := upS_of (by omega)
theorem delS_P (v : Nat) : (delS S v).P = S.P := upS_of (by omega)
/-- what is thrown so many nights on -/
def thS (V : Tx) (S : Sk) (p i : Nat) : Int32 := throwsS V (delS S i) p false
theorem put_0 {s i sz : Nat} (hi : i < sz) (hz : sz ≤ 40) (σ : Gm) (e1 : σ 18 s 1 = 0) (e2 : σ 18 s 2 = nI sz) (v : Int32) : f_X2_put s σ (nI i) v = some ((), up3 σ 19 s i v.toInt8.toInt32) := by
  unfold f_X2_put f_X2_has
  rw [e2, if_neg (show ¬ nI i < 0 from nI_pos (by omega)), if_neg (show ¬ nI sz ≤ nI i from nI_ge hi (by omega)), bc_s, if_neg (show ¬ (1 : Int32) = 0 by decide), if_pos e1, gd_h (inb_nI (show i < 40 by omega) (by decide)), nI_clamp (by omega), bv_e]
theorem fmL_x (hR : RuX n V C) (hB : SkB S) (hr : S.ru < C) {p s N : Nat} (hp : p < S.P) (hN : S.nt + N ≤ 1100) (hN2 : N ≤ 40) : ∀ (m i f : Nat) (σ : Gm), SkX 2 (delS S i) σ → TxX V C σ → σ 18 s 1 = 0 → σ 18 s 2 = nI N → i + m = N → m < f → ∃ σ', f_X5_film_L63 n f σ (nI p) (nI N) s (nI i) = some (nI N, σ') ∧ (∀ l, i ≤ l → l < N → σ' 19 s l = thS V S p l) ∧ (∀ l, l < i → σ' 19 s l = σ 19 s l) ∧ (∀ c k j, ¬ (((c = 7 ∨ c = 8) ∧ k = 0) ∨ ((13 ≤ c ∧ c ≤ 17) ∧ k = 2) ∨ (c = 19 ∧ k = s)) → σ' c k j = σ c k j)
  | m, i, 0, _, _, _, _, _, _, h => by omega
  | 0, i, f + 1, σ, _, _, _, _, he, _ => by
    unfold f_X5_film_L63
    rw [if_pos (nI_le (show N ≤ i by omega) (by omega))]
    exact ⟨σ, rfl, fun l h1 h2 => by omega, fun _ _ => rfl, fun _ _ _ _ => rfl⟩
  | m + 1, i, f + 1, σ, hx, hT, e1, e2, he, hk => by
    unfold f_X5_film_L63
    rw [if_neg (show ¬ nI N ≤ nI i from nI_ge (by omega) (by omega))]
    have hB2 := delS_B2 hB (show S.nt + i ≤ 1100 by omega)
    obtain ⟨σ1, a1, a2⟩ := throws_x hR hB2 hx hT (by rw [delS_ru]; exact hr) (show p < (delS S i).P by rw [delS_P]; exact hp) false
    have hb := thr_b (V := V) hB2 p false
    rw [show f_X3_throwing n 2 σ (nI p) (0 : Int32) = _ from a1, bc_s, put_0 (show i < N by omega) hN2 σ1 ((a2 _ _ _ (by omega)).trans e1) ((a2 _ _ _ (by omega)).trans e2), bc_s, bv_e, by_99 _ hb.1 hb.2, nI_1]
    let σ2 : Gm := up3 σ1 19 s i (throwsS V (delS S i) p false)
    have h2 : SkX 2 (delS S i) σ2 := (hx.fr a2).fr' fun c j q1 q2 => up3_of (by omega)
    have enx : σ2 13 2 5 + (1 : Int32) = nI (S.nt + (i + 1)) := by
      rw [h2.1, show (delS S i).nt = S.nt + i from delS_nt i, nI_1]
      rfl
    have h3 : SkX 2 (delS S (i + 1)) (up3 σ2 13 2 5 (nI (S.nt + (i + 1)))) := by
      have h := h2.up5 (j := 0) (v := S.nt + (i + 1)) (by decide)
      rw [delS_up] at h
      exact h
    show ∃ σ', f_X5_film_L63 n f (up3 σ2 13 2 5 (σ2 13 2 5 + (1 : Int32))) (nI p) (nI N) s (nI (i + 1)) = _ ∧ _
    rw [enx]
    have fr : ∀ c k j, ¬ (((c = 7 ∨ c = 8) ∧ k = 0) ∨ ((13 ≤ c ∧ c ≤ 17) ∧ k = 2) ∨ (c = 19 ∧ k = s ∧ j = i)) → (up3 σ2 13 2 5 (nI (S.nt + (i + 1)))) c k j = σ c k j := fun c k j q => (up3_of (by omega)).trans ((up3_of (by omega)).trans (a2 c k j (by omega)))
    obtain ⟨σ', b1, b2, b3, b4⟩ := fmL_x hR hB hr hp hN hN2 m (i + 1) f _ h3 (hT.of fun c k j q => fr c k j (by omega)) ((fr _ _ _ (by omega)).trans e1) ((fr _ _ _ (by omega)).trans e2) (by omega) (by omega)
    refine ⟨σ', b1, fun l q1 q2 => ?_, fun l q => (b3 l (by omega)).trans (fr _ _ _ (by omega)), fun c k j q => (b4 c k j (by omega)).trans (fr c k j (by omega))⟩
    by_cases e : l = i
    · subst e
      exact (b3 l (by omega)).trans ((up3_of (by omega)).trans (up3_at _ _ _ _ _))
    · exact b2 l (by omega) q2
theorem fmL_m (hB : SkB S) (hr : S.ru < C) {p s N : Nat} (hs : s < 4) (hp : p < S.P) (hN : S.nt + N ≤ 1100) (hN2 : N ≤ 40) : ∀ (m i f y : Nat) (μ : Wm), SkM (delS S y) μ → TxM n V C μ → i + m = N → m < f → ∃ μ', f_X6_film_L49 n f μ (nI s) (nI p) (nI N) (nI S.nt) (nI i) = some (nI N, μ') ∧ SkM S μ' ∧ (∀ l, i ≤ l → l < N → μ'.1 38 0 (40 * s + l) = thS V S p l) ∧ (∀ l, l < i → μ'.1 38 0 (40 * s + l) = μ.1 38 0 (40 * s + l)) ∧ (∀ c k j, ¬ (k = 0 ∧ ((c = 0 ∧ 12 ≤ j ∧ j ≤ 26) ∨ c = 7 ∨ (c = 38 ∧ 40 * s ≤ j ∧ j < 40 * s + 40))) → μ'.1 c k j = μ.1 c k j)
  | m, i, 0, _, _, _, _, _, h => by omega
  | 0, i, f + 1, y, μ, hm, _, he, _ => by
    unfold f_X6_film_L49
    rw [if_pos (nI_le (show N ≤ i by omega) (by omega)), bv_e]
    refine ⟨_, rfl, ?_, fun l h1 h2 => by omega, fun l _ => u1_of (by omega), fun c k j q => u1_of (by omega)⟩
    have h := hm.up7 (j := 0) (v := S.nt) (by decide)
    rw [delS_up, show upS S 0 0 S.nt = S from delS_0] at h
    exact h
  | m + 1, i, f + 1, y, μ, hm, hT, he, hk => by
    unfold f_X6_film_L49
    rw [if_neg (show ¬ nI N ≤ nI i from nI_ge (by omega) (by omega)), bv_e, nI_add]
    have hm2 : SkM (delS S i) (up3 μ.1 7 0 0 (nI (S.nt + i)), μ.2) := by
      have h := hm.up7 (j := 0) (v := S.nt + i) (by decide)
      rw [delS_up] at h
      exact h
    have hB2 := delS_B2 hB (show S.nt + i ≤ 1100 by omega)
    obtain ⟨μ1, a1, a2⟩ := throws_m (V := V) hB2 hm2 (hT.of fun c k j q => u1_of (by omega)) (by rw [delS_ru]; exact hr) (show p < (delS S i).P by rw [delS_P]; exact hp) false
    rw [show f_X6_throwsOf n (up3 μ.1 7 0 0 (nI (S.nt + i)), μ.2) (nI p) (0 : Int32) = _ from a1, bc_s, x40, gd_h (inb_nI (show 40 * s + i < 160 by omega) (by decide)), nI_clamp (by omega), bv_e, nI_1]
    have fr : ∀ c k j, ¬ (k = 0 ∧ ((c = 0 ∧ 12 ≤ j ∧ j ≤ 26) ∨ c = 7 ∨ (c = 38 ∧ j = 40 * s + i))) → (up3 μ1.1 38 0 (40 * s + i) (throwsS V (delS S i) p false)) c k j = μ.1 c k j := fun c k j q => (up3_of (by omega)).trans ((a2 c k j (by omega)).trans (u1_of (by omega)))
    obtain ⟨μ', b1, b2, b3, b4, b5⟩ := fmL_m hB hr hs hp hN hN2 m (i + 1) f i (up3 μ1.1 38 0 (40 * s + i) (throwsS V (delS S i) p false), μ1.2) ((hm2.fr a2).fr' fun c k j q => u1_of (by omega)) (hT.of fun c k j q => fr c k j (by omega)) (by omega) (by omega)
    refine ⟨μ', b1, b2, fun l q1 q2 => ?_, fun l q => (b4 l (by omega)).trans (fr _ _ _ (by omega)), fun c k j q => (b5 c k j (by omega)).trans (fr c k j (by omega))⟩
    by_cases e : l = i
    · subst e
      exact (b4 l (by omega)).trans (u1_at _ _ _ _ _ _)
    · exact b3 l (by omega) q2
def GoF (n : Nat) (V : Tx) (C z : Nat) (b : Nat → Nat) (σ : Gm) (μ : Wm) (f : Option (Int32 × Gm)) (g : Option (Int32 × Wm)) : Prop := ∃ r σ' μ' S', f = some (r, σ') ∧ g = some (r, μ') ∧ Re n V C S' z b σ' μ' ∧ ShR σ' μ' ∧ (∀ c k j, ¬ (((c = 3 ∨ c = 7 ∨ c = 8) ∧ k = 0) ∨ ((13 ≤ c ∧ c ≤ 17) ∧ ¬ k = 1) ∨ c = 18 ∨ c = 19) → σ' c k j = σ c k j) ∧ (∀ c k j, ¬ ((c = 0 ∧ k = 0 ∧ (j = 4 ∨ j = 10 ∨ j = 11 ∨ (12 ≤ j ∧ j ≤ 26))) ∨ ((c = 7 ∨ c = 8 ∨ c = 9 ∨ c = 27 ∨ c = 28 ∨ (35 ≤ c ∧ c ≤ 38)) ∧ k = 0)) → μ'.1 c k j = μ.1 c k j)
theorem GoF.same {f : Option (Int32 × Gm)} {g : Option (Int32 × Wm)} (h : Re n V C S z b σ μ) (hS : ShR σ μ) (r : Int32) (hf : f = some (r, σ)) (hg : g = some (r, μ)) : GoF n V C z b σ μ f g := ⟨r, σ, μ, S, hf, hg, h, hS, fun _ _ _ _ => rfl, fun _ _ _ _ => rfl⟩
theorem sheet0_m (hn : 600 < n) {s N : Nat} (hs : s < 4) (hN : N ≤ 40) (μ : Wm) : ∃ μ', f_X6_sheet n μ (nI s) (0 : Int32) (nI N) = some (1, μ') ∧ μ'.1 35 0 s = 1 ∧ μ'.1 36 0 s = nI 0 ∧ μ'.1 37 0 s = nI N ∧ ∀ c k j, ¬ (k = 0 ∧ ((35 ≤ c ∧ c ≤ 37 ∧ j = s) ∨ (c = 38 ∧ 40 * s ≤ j ∧ j < 40 * s + 40))) → μ'.1 c k j = μ.1 c k j := by
  obtain ⟨μ', b1, b2, b3, b4, -, b6⟩ := sh59 hn hs hN (show 0 ≤ 2 by decide) μ
  refine ⟨μ', ?_, b2, b3, b4, fun c k j q => b6 c k j (by omega)⟩
  unfold f_X6_sheet f_X6_sheet_J34 f_X6_sheet_J45
  rcases sheet2 (nI s) with ⟨s', hs', -, -, g5⟩ | ⟨g4, -⟩
  · rw [g5 μ, bc_s, if_neg (show ¬ (1 : Int32) = 0 by decide), show f_X6_in μ (0 : Int32).toInt64 (-1 : Int64) (2 : Int64) = some (1, μ) from rfl, bc_s, if_neg (show ¬ (1 : Int32) = 0 by decide), if_neg (show ¬ (0 : Int32) < 0 by decide), if_pos (show nI N ≤ (40 : Int32) from nI_le hN (by decide)), if_neg (show ¬ (0 : Int32) < 0 by decide), if_pos (show (0 : Int32) ≤ nI N from nI_pos' (by omega)), if_neg (show ¬ (0 : Int32) < 0 by decide)]
    exact b1
  · have h := g4 zG
    unfold f_X5_sheetAt f_X5_within at h
    rw [if_neg (show ¬ nI s < (0 : Int32) from nI_pos (by omega)), if_neg (show ¬ (3 : Int32) < nI s from nI_nlt (show s ≤ 3 by omega) (by decide)), bc_s, if_neg (show ¬ (1 : Int32) = 0 by decide), gd_h (inb_nI (show s < 4 by omega) (by decide))] at h
    injection h with h
    injection h with h
    exact absurd h (by intro q; cases q)
theorem film_s (hn : 600 < n) (hR : RuX n V C) (h : Re n V C S z b σ μ) (hS : ShR σ μ) (a1 a2 a3 : Int32) : GoF n V C z b σ μ (f_X5_film n σ a1 a2 a3) (f_X6_film n μ a1 a2 a3) := by
  obtain ⟨hB, hN, hx, hm, TX, TM, cx, cm, hC, hr, -⟩ := id h
  unfold f_X5_film f_X6_film
  rcases sheet2 a1 with ⟨s, hs, rfl, g4, g5⟩ | ⟨g4, g5⟩
  case inr =>
    rw [g4 σ, g5 μ, bc_s, bc_s, on0, if_pos rfl]
    exact GoF.same h hS _ rfl rfl
  rw [g4 σ, g5 μ, bc_s, bc_s, on1, gd_h (ltb4 hs), if_neg (show ¬ (1 : Int32) = 0 by decide)]
  rcases one2 a2 hB with ⟨p, hp, rfl, g4, g5⟩ | ⟨-, g4, g5⟩
  case inr =>
    rw [g4 0 σ hx, g5 μ hm, bc_s, bc_s, if_pos rfl, if_pos rfl]
    exact GoF.same h hS _ rfl rfl
  rw [g4 0 σ hx, g5 μ hm, bc_s, bc_s, if_neg (show ¬ (1 : Int32) = 0 by decide), if_neg (show ¬ (1 : Int32) = 0 by decide)]
  rcases rng a3 (lo := 0) (hi := 20) (by decide) (by decide) with ⟨N, -, hN2, rfl, g4, g5⟩ | ⟨-, g4, g5⟩
  case inr =>
    rw [show f_X5_within σ a3 (0 : Int32) (20 : Int32) = _ from g4 σ, show f_X6_in μ a3.toInt64 (0 : Int64) (20 : Int64) = _ from g5 μ, bc_s, bc_s, if_pos rfl, if_pos rfl]
    exact GoF.same h hS _ rfl rfl
  rw [show f_X5_within σ (nI N) (0 : Int32) (20 : Int32) = _ from g4 σ, show f_X6_in μ (nI N).toInt64 (0 : Int64) (20 : Int64) = _ from g5 μ, bc_s, bc_s, if_neg (show ¬ (1 : Int32) = 0 by decide), if_neg (show ¬ (1 : Int32) = 0 by decide)]
  obtain ⟨σ1, a1, a2, a3, a4, a5⟩ := bcm_x hn s σ 0 (show N ≤ 40 by omega)
  have hx1 : SkX 0 S σ1 := hx.fr' fun c j p q => a5 c 0 j (by omega)
  obtain ⟨σ2, r1, r2, r3⟩ := as_x (k := 2) (k1 := 0) (by decide) hB hx1
  have fr2 : ∀ c k j, ¬ (((13 ≤ c ∧ c ≤ 17) ∧ k = 2) ∨ ((c = 18 ∨ c = 19) ∧ k = s)) → σ2 c k j = σ c k j := fun c k j q => (r3 c k j (by omega)).trans (a5 c k j (by omega))
  obtain ⟨σ3, s1, s2, s3, s4⟩ := fmL_x (N := N) hR hB hr hp (show S.nt + N ≤ 1100 by omega) (by omega) N 0 n σ2 (by rw [delS_0]; exact r2) (TX.of fun c k j q => fr2 c k j (by omega)) ((r3 _ _ _ (by omega)).trans a2) ((r3 _ _ _ (by omega)).trans a3) (by omega) (by omega)
  obtain ⟨μ1, b1, b2, b3, b4, b5⟩ := sheet0_m hn hs (show N ≤ 40 by omega) μ
  have hm1 : SkM S μ1 := hm.fr' fun c k j q => b5 c k j (by omega)
  obtain ⟨μ2, t1, t2, t3, t4, t5⟩ := fmL_m (N := N) (V := V) (n := n) hB hr hs hp (show S.nt + N ≤ 1100 by omega) (by omega) N 0 n 0 μ1 (by rw [delS_0]; exact hm1) (TM.of fun c k j q => b5 c k j (by omega)) (by omega) (by omega)
  rw [a1, bc_s, r1, bc_s, b1, bc_s, bv_e, hm1.1, show f_X5_film_L63 n n σ2 (nI p) (nI N) s (0 : Int32) = _ from s1, show f_X6_film_L49 n n μ1 (nI s) (nI p) (nI N) (nI S.nt) (0 : Int32) = _ from t1]
  have fx : ∀ c k j, ¬ (((c = 7 ∨ c = 8) ∧ k = 0) ∨ ((13 ≤ c ∧ c ≤ 17) ∧ k = 2) ∨ ((c = 18 ∨ c = 19) ∧ k = s)) → σ3 c k j = σ c k j := fun c k j q => (s4 c k j (by omega)).trans (fr2 c k j (by omega))
  have fm : ∀ c k j, ¬ (k = 0 ∧ ((c = 0 ∧ 12 ≤ j ∧ j ≤ 26) ∨ c = 7 ∨ (35 ≤ c ∧ c ≤ 37 ∧ j = s) ∨ (c = 38 ∧ 40 * s ≤ j ∧ j < 40 * s + 40))) → μ2.1 c k j = μ.1 c k j := fun c k j q => (t5 c k j (by omega)).trans (b5 c k j (by omega))
  have hS3 : ShR σ3 μ2 := by
    intro t ht
    by_cases e : t = s
    · subst e
      exact Or.inr ⟨0, N, by omega, by omega, (s4 _ _ _ (by omega)).trans ((r3 _ _ _ (by omega)).trans a2), (s4 _ _ _ (by omega)).trans ((r3 _ _ _ (by omega)).trans a3), (t5 _ _ _ (by omega)).trans b2, (t5 _ _ _ (by omega)).trans b3, (t5 _ _ _ (by omega)).trans b4, fun i hi => (s2 i (by omega) hi).trans (t3 i (by omega) hi).symm⟩
    · exact (hS t ht).fr ht (fun c j q => fx c t j (by omega)) fun c j q => fm c 0 j (by omega)
  exact ⟨nI N, σ3, μ2, S, rfl, rfl, h.mk hB hN (hx.fr' fun c j p q => fx c 0 j (by omega)) t2 hr (fun c k j w => fx c k j (by omega)) (fun c k j w => fm c k j (by omega)), hS3, fun c k j w => fx c k j (by omega), fun c k j w => fm c k j (by omega)⟩
end K

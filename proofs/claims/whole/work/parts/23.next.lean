theorem lgc_lt {x y : Nat} (hx : x < 2 ^ 31) (hy : y < 2 ^ 31) : lg_cmp (lN x) (lN y) < 0 ↔ x < y := by
  unfold lg_cmp
  rcases Nat.lt_trichotomy x y with h | h | h
  · rw [if_neg (show ¬ lN x > lN y from fun q => by have := (lN_lt hy hx).mp q; omega), if_neg (fun q => by have := (lN_eq hx hy).mp q; omega)]
    exact ⟨fun _ => h, fun _ => by decide⟩
  · rw [if_neg (show ¬ lN x > lN y from fun q => by have := (lN_lt hy hx).mp q; omega), if_pos ((lN_eq hx hy).mpr h)]
    exact ⟨fun q => absurd q (by decide), fun q => by omega⟩
  · rw [if_pos (show lN x > lN y from (lN_lt hy hx).mpr h)]
    exact ⟨fun q => absurd q (by decide), fun q => by omega⟩
theorem lgc_gt {x y : Nat} (hx : x < 2 ^ 31) (hy : y < 2 ^ 31) : 0 < lg_cmp (lN x) (lN y) ↔ y < x := by
  unfold lg_cmp
  rcases Nat.lt_trichotomy x y with h | h | h
  · rw [if_neg (show ¬ lN x > lN y from fun q => by have := (lN_lt hy hx).mp q; omega), if_neg (fun q => by have := (lN_eq hx hy).mp q; omega)]
    exact ⟨fun q => absurd q (by decide), fun q => by omega⟩
  · rw [if_neg (show ¬ lN x > lN y from fun q => by have := (lN_lt hy hx).mp q; omega), if_pos ((lN_eq hx hy).mpr h)]
    exact ⟨fun q => absurd q (by decide), fun q => by omega⟩
  · rw [if_pos (show lN x > lN y from (lN_lt hy hx).mpr h)]
    exact ⟨fun _ => h, fun _ => by decide⟩
theorem lgc_eq {x y : Nat} (hx : x < 2 ^ 31) (hy : y < 2 ^ 31) : lg_cmp (lN x) (lN y) = 0 ↔ x = y := by
  unfold lg_cmp
  rcases Nat.lt_trichotomy x y with h | h | h
  · rw [if_neg (show ¬ lN x > lN y from fun q => by have := (lN_lt hy hx).mp q; omega), if_neg (fun q => by have := (lN_eq hx hy).mp q; omega)]
    exact ⟨fun q => absurd q (by decide), fun q => by omega⟩
  · rw [if_neg (show ¬ lN x > lN y from fun q => by have := (lN_lt hy hx).mp q; omega), if_pos ((lN_eq hx hy).mpr h)]
    exact ⟨fun _ => h, fun _ => rfl⟩
  · rw [if_pos (show lN x > lN y from (lN_lt hy hx).mpr h)]
    exact ⟨fun q => absurd q (by decide), fun q => by omega⟩
theorem min_t (μ : Wm) {x a c : Nat} (hx : x < 2 ^ 31) (ha : a < 2 ^ 31) (hc : c < 2 ^ 31) (h1 : a ≤ x) (h2 : x ≤ c) : f_X6_in μ (nI x).toInt64 (lN a) (lN c) = some (1, μ) := by
  unfold f_X6_in
  rw [nI_l hx, if_neg (fun q => by have := (lgc_lt hx ha).mp q; omega), if_neg (fun q => by have := (lgc_gt hx hc).mp q; omega)]
theorem min_f (μ : Wm) {x a c : Nat} (hx : x < 2 ^ 31) (ha : a < 2 ^ 31) (hc : c < 2 ^ 31) (h : ¬ (a ≤ x ∧ x ≤ c)) : f_X6_in μ (nI x).toInt64 (lN a) (lN c) = some (0, μ) := by
  unfold f_X6_in
  rw [nI_l hx]
  by_cases h1 : x < a
  · rw [if_pos ((lgc_lt hx ha).mpr h1)]
  · rw [if_neg (fun q => h1 ((lgc_lt hx ha).mp q)), if_pos ((lgc_gt hx hc).mpr (by omega))]
/-- the reference's reader holds the bytes b, z of them, as text t -/
def InM (b : Nat → Nat) (z t : Nat) (μ : Wm) : Prop := μ.1 0 0 18 = nI (160 * t) ∧ t < 6 ∧ μ.1 0 0 19 = nI z ∧ ∀ i, i < z → μ.1 1 0 (160 * t + i) = nI (b i)
def FrM (μ μ' : Wm) : Prop := ∀ c k j, ¬ (c = 0 ∧ k = 0 ∧ (j = 20 ∨ j = 21 ∨ j = 22)) → μ'.1 c k j = μ.1 c k j
theorem FrM.rf (μ : Wm) : FrM μ μ := fun _ _ _ _ => rfl
theorem FrM.tr {a b c : Wm} (h : FrM a b) (g : FrM b c) : FrM a c := fun x y z q => (g x y z q).trans (h x y z q)
theorem FrM.up {μ : Wm} {j : Nat} {v : Int32} {L : Int64} (h : j = 20 ∨ j = 21 ∨ j = 22) : FrM μ (up3 μ.1 0 0 j v, L) := fun c k i q => up3_of (fun ⟨a, b, e⟩ => q ⟨a, b, by rw [e]; exact h⟩)
theorem FrM.lg {μ : Wm} {L : Int64} : FrM μ (μ.1, L) := fun _ _ _ _ => rfl
theorem InM.fr {b : Nat → Nat} {z t : Nat} {μ μ' : Wm} (h : InM b z t μ) (f : FrM μ μ') : InM b z t μ' := ⟨by rw [f 0 0 18 (by omega)]; exact h.1, h.2.1, by rw [f 0 0 19 (by omega)]; exact h.2.2.1, fun i hi => by rw [f 1 0 _ (by omega)]; exact h.2.2.2 i hi⟩
theorem u1_at (G : Gm) (c k j : Nat) (v : Int32) (L : Int64) : ((up3 G c k j v, L) : Wm).1 c k j = v := up3_at G c k j v
theorem u1_of {G : Gm} {c k j : Nat} {v : Int32} {L : Int64} {c' k' j' : Nat} (h : ¬ (c' = c ∧ k' = k ∧ j' = j)) : ((up3 G c k j v, L) : Wm).1 c' k' j' = G c' k' j' := up3_of h
section TM
variable {b : Nat → Nat} {z t n p q e κ w : Nat}
theorem mb_in (hz : z ≤ 160) {μ : Wm} (hin : InM b z t μ) (h : p < z) : f_X6_byteAt μ (nI p) = some (nI (b p), μ) := by
  unfold f_X6_byteAt
  have ht := hin.2.1
  rw [hin.2.2.1, if_neg (nI_ge h (by omega)), hin.1, nI_add, gd_h (inb_nI (by omega) (by decide)), nI_clamp (by omega), hin.2.2.2 p h]
theorem mb_out (hz : z ≤ 160) {μ : Wm} (hin : InM b z t μ) : f_X6_byteAt μ (nI z) = some (-1, μ) := by
  unfold f_X6_byteAt
  rw [hin.2.2.1, if_pos (nI_le (Nat.le_refl _) (by omega))]
theorem in_m1 (μ : Wm) {a c : Int64} (h : lg_cmp ((-1 : Int32).toInt64) a < 0) : f_X6_in μ ((-1 : Int32).toInt64) a c = some (0, μ) := by
  unfold f_X6_in
  rw [if_pos h]
/-- letters -/
theorem ma_letters (hb : ∀ i, b i < 256) (hz : z ≤ 160) : ∀ (m p i : Nat) (μ : Wm), p + m = z → m < i → InM b z t μ → μ.1 0 0 20 = nI p → ∃ μ', f_X6_next_L100 n i μ = some ((), μ') ∧ μ'.1 0 0 20 = nI (ru isL b m p) ∧ FrM μ μ' ∧ μ'.1 0 0 22 = μ.1 0 0 22 ∧ μ'.1 0 0 21 = μ.1 0 0 21 ∧ μ'.2 = μ.2
  | 0, p, i, μ, hm, hi, hin, hp => by
    obtain ⟨i, rfl⟩ : ∃ k, i = k + 1 := ⟨i - 1, by omega⟩
    have e : p = z := by omega
    subst e
    refine ⟨μ, ?_, by rw [ru_0]; exact hp, FrM.rf μ, rfl, rfl, rfl⟩
    rw [f_X6_next_L100, hp, mb_out hz hin, bc_s, in_m1 μ (by decide), bc_s, if_pos rfl]
  | m + 1, p, i, μ, hm, hi, hin, hp => by
    obtain ⟨i, rfl⟩ : ∃ k, i = k + 1 := ⟨i - 1, by omega⟩
    have hlt : p < z := by omega
    have hbp := hb p
    rw [f_X6_next_L100, hp, mb_in hz hin hlt, bc_s]
    by_cases h1 : isL (b p)
    · rw [show f_X6_in μ (nI (b p)).toInt64 (97 : Int64) (122 : Int64) = some (1, μ) from min_t μ (by omega) (by decide) (by decide) h1.1 h1.2, bc_s, if_neg (by decide), bv_e, hp, nI_1]
      have hfr : FrM μ (up3 μ.1 0 0 20 (nI (p + 1)), μ.2) := FrM.up (by omega)
      obtain ⟨μ', g1, g2, g3, g4, g5, g6⟩ := ma_letters hb hz m (p + 1) i _ (by omega) (by omega) (hin.fr hfr) (u1_at _ _ _ _ _ _)
      exact ⟨μ', g1, by rw [ru_t h1]; exact g2, hfr.tr g3, g4.trans (u1_of (by omega)), g5.trans (u1_of (by omega)), g6⟩
    · rw [show f_X6_in μ (nI (b p)).toInt64 (97 : Int64) (122 : Int64) = some (0, μ) from min_f μ (by omega) (by decide) (by decide) h1, bc_s, if_pos rfl]
      exact ⟨μ, rfl, by rw [ru_f h1]; exact hp, FrM.rf μ, rfl, rfl, rfl⟩
/-- digits: of the first four the number -/
theorem ma_digits (hb : ∀ i, b i < 256) (hz : z ≤ 160) (q : Nat) : ∀ (m p i : Nat) (μ : Wm), p + m = z → m < i → q ≤ p → InM b z t μ → μ.1 0 0 20 = nI p → μ.1 0 0 21 = nI 2 → μ.2 = lN (nvv b q (min (p - q) 4)) → ∃ μ', f_X6_next_L160 n i μ (nI (p - q)) = some ((), μ') ∧ μ'.1 0 0 20 = nI (ru isD b m p) ∧ FrM μ μ' ∧ μ'.1 0 0 22 = μ.1 0 0 22 ∧ μ'.1 0 0 21 = nI (if ru isD b m p - q ≤ 4 then 2 else 4) ∧ μ'.2 = lN (nvv b q (min (ru isD b m p - q) 4))
  | 0, p, i, μ, hm, hi, hq, hin, hp, h21, hv => by
    obtain ⟨i, rfl⟩ : ∃ k, i = k + 1 := ⟨i - 1, by omega⟩
    have e : p = z := by omega
    subst e
    rw [f_X6_next_L160, hp, mb_out hz hin, bc_s, in_m1 μ (by decide), bc_s, if_pos rfl, ru_0]
    by_cases h4 : p - q ≤ 4
    · rw [if_pos (show nI (p - q) ≤ (4 : Int32) from nI_le h4 (by decide)), bv_e, if_pos h4]
      exact ⟨_, rfl, (u1_of (by omega)).trans hp, FrM.up (by omega), u1_of (by omega), u1_at _ _ _ _ _ _, hv⟩
    · rw [if_neg (show ¬ nI (p - q) ≤ (4 : Int32) from nI_ge (show 4 < p - q by omega) (by omega)), bv_e, if_neg h4]
      exact ⟨_, rfl, (u1_of (by omega)).trans hp, FrM.up (by omega), u1_of (by omega), u1_at _ _ _ _ _ _, hv⟩
  | m + 1, p, i, μ, hm, hi, hq, hin, hp, h21, hv => by
    obtain ⟨i, rfl⟩ : ∃ k, i = k + 1 := ⟨i - 1, by omega⟩
    have hlt : p < z := by omega
    have hbp := hb p
    rw [f_X6_next_L160, hp, mb_in hz hin hlt, bc_s]
    by_cases h1 : isD (b p)
    · rw [show f_X6_in μ (nI (b p)).toInt64 (48 : Int64) (57 : Int64) = some (1, μ) from min_t μ (by omega) (by decide) (by decide) h1.1 h1.2, bc_s, if_neg (by decide)]
      have key : ∀ L : Int64, L = lN (nvv b q (min (p + 1 - q) 4)) → ∃ μ', f_X6_next_J216 n (f_X6_next_L160 n i) μ (nI (p - q)) L = some ((), μ') ∧ μ'.1 0 0 20 = nI (ru isD b (m + 1) p) ∧ FrM μ μ' ∧ μ'.1 0 0 22 = μ.1 0 0 22 ∧ μ'.1 0 0 21 = nI (if ru isD b (m + 1) p - q ≤ 4 then 2 else 4) ∧ μ'.2 = lN (nvv b q (min (ru isD b (m + 1) p - q) 4)) := by
        intro L hL
        unfold f_X6_next_J216
        rw [bv_e, bv_e]
        show ∃ μ', f_X6_next_L160 n i (up3 μ.1 0 0 20 (μ.1 0 0 20 + 1), L) (nI (p - q) + 1) = some ((), μ') ∧ _
        rw [hp, nI_1, nI_1, show p - q + 1 = p + 1 - q by omega, ru_t h1]
        have hfr : FrM μ (up3 μ.1 0 0 20 (nI (p + 1)), L) := FrM.up (by omega)
        obtain ⟨μ', g1, g2, g3, g4, g5, g6⟩ := ma_digits hb hz q m (p + 1) i (up3 μ.1 0 0 20 (nI (p + 1)), L) (by omega) (by omega) (by omega) (hin.fr hfr) (u1_at _ _ _ _ _ _) ((u1_of (by omega)).trans h21) hL
        exact ⟨μ', g1, g2, hfr.tr g3, g4.trans (u1_of (by omega)), g5, g6⟩
      by_cases h4 : 4 ≤ p - q
      · rw [if_pos (show (4 : Int32) ≤ nI (p - q) from nI_le h4 (by omega))]
        exact key _ (by rw [hv]; congr 2; omega)
      · rw [if_neg (show ¬ (4 : Int32) ≤ nI (p - q) from nI_ge (show p - q < 4 by omega) (by decide)), hp, mb_in hz hin hlt, bc_s]
        refine key _ ?_
        rw [hv, nI_l (by omega), show min (p + 1 - q) 4 = min (p - q) 4 + 1 by omega, nvv, show q + min (p - q) 4 = p by omega]
        show lN 10 * lN _ + lN _ - lN 48 = _
        rw [lN_mul, lN_add, lN_sub (by unfold isD at h1; omega)]
        congr 1
        unfold isD at h1
        omega
    · rw [show f_X6_in μ (nI (b p)).toInt64 (48 : Int64) (57 : Int64) = some (0, μ) from min_f μ (by omega) (by decide) (by decide) h1, bc_s, if_pos rfl, ru_f h1]
      by_cases h4 : p - q ≤ 4
      · rw [if_pos (show nI (p - q) ≤ (4 : Int32) from nI_le h4 (by decide)), bv_e, if_pos h4]
        exact ⟨_, rfl, (u1_of (by omega)).trans hp, FrM.up (by omega), u1_of (by omega), u1_at _ _ _ _ _ _, hv⟩
      · rw [if_neg (show ¬ nI (p - q) ≤ (4 : Int32) from nI_ge (show 4 < p - q by omega) (by omega)), bv_e, if_neg h4]
        exact ⟨_, rfl, (u1_of (by omega)).trans hp, FrM.up (by omega), u1_of (by omega), u1_at _ _ _ _ _ _, hv⟩
theorem nI_m1 {x : Nat} (h : x < 2 ^ 31) (m : Nat) (hm : m < 2 ^ 31) : (nI x = nI m) ↔ x = m := nI_eq h hm
/-- blanks, and the token behind them -/
theorem madv0 (hb : ∀ i, b i < 256) (hz : z ≤ 160) (hn : 160 < n) : ∀ (m p i : Nat) (μ : Wm), p + m = z → m < i → InM b z t μ → μ.1 0 0 20 = nI p → Tok b z p q e κ w → ∃ μ', f_X6_next_L0 n i μ = some ((), μ') ∧ FrM μ μ' ∧ μ'.1 0 0 22 = nI q ∧ μ'.1 0 0 21 = nI κ ∧ (¬ κ = 4 → μ'.1 0 0 20 = nI e) ∧ (κ = 2 ∨ κ = 3 → μ'.2 = lN w)
  | 0, p, i, μ, hm, hi, hin, hp, hT => by
    obtain ⟨i, rfl⟩ : ∃ k, i = k + 1 := ⟨i - 1, by omega⟩
    have e0 : p = z := by omega
    subst e0
    have hq : q = p := by have := tok_q hT (Nat.le_refl _); omega
    have hk : κ = 0 ∧ e = p := by
      rcases hT.2 with ⟨a, b1, c⟩ | ⟨a, b1, -⟩ | ⟨a, b1, -⟩ | ⟨a, b1, -⟩ | ⟨a, b1, -⟩ <;> omega
    obtain ⟨rfl, rfl⟩ := hk
    have f1 : FrM μ (up3 μ.1 0 0 22 (nI e), μ.2) := FrM.up (by omega)
    rw [f_X6_next_L0, hp, mb_out hz hin, bc_s, if_neg (by decide), hp, mb_out hz hin, bc_s, if_neg (by decide), bv_e, hp]
    rw [show (up3 μ.1 0 0 22 (nI e), μ.2).1 0 0 20 = nI e from (u1_of (by omega)).trans hp, mb_out hz (hin.fr f1), bc_s, bv_e, if_neg (by decide), bv_e, bv_e]
    refine ⟨_, rfl, ?_, ?_, ?_, fun _ => ?_, fun h => by omega⟩
    · exact ((f1.tr (FrM.up (by omega))).tr (FrM.up (by omega))).tr (FrM.up (by omega))
    · rw [hq]
      exact (u1_at _ _ _ _ _ _).trans ((u1_of (by omega)).trans ((u1_of (by omega)).trans ((u1_of (by omega)).trans hin.2.2.1)))
    · exact (u1_of (by omega)).trans (u1_at _ _ _ _ _ _)
    · exact (u1_of (by omega)).trans ((u1_of (by omega)).trans ((u1_of (by omega)).trans ((u1_of (by omega)).trans hp)))
  | m + 1, p, i, μ, hm, hi, hin, hp, hT => by
    obtain ⟨i, rfl⟩ : ∃ k, i = k + 1 := ⟨i - 1, by omega⟩
    have hlt : p < z := by omega
    have hbp := hb p
    have e32 : nI (b p) = (32 : Int32) ↔ b p = 32 := nI_eq (by omega) (b := 32) (by decide)
    have e10 : nI (b p) = (10 : Int32) ↔ b p = 10 := nI_eq (by omega) (b := 10) (by decide)
    have step : isB (b p) → ∃ μ', f_X6_next_J26 n (f_X6_next_L0 n i) μ = some ((), μ') ∧ FrM μ μ' ∧ μ'.1 0 0 22 = nI q ∧ μ'.1 0 0 21 = nI κ ∧ (¬ κ = 4 → μ'.1 0 0 20 = nI e) ∧ (κ = 2 ∨ κ = 3 → μ'.2 = lN w) := by
      intro hB
      unfold f_X6_next_J26
      rw [bv_e, hp, nI_1]
      have hfr : FrM μ (up3 μ.1 0 0 20 (nI (p + 1)), μ.2) := FrM.up (by omega)
      have hT2 : Tok b z (p + 1) q e κ w := ⟨by rw [hT.1, show z - p = (z - (p + 1)) + 1 by omega, ru_t hB], hT.2⟩
      obtain ⟨μ', g1, g2, g3⟩ := madv0 hb hz hn m (p + 1) i _ (by omega) (by omega) (hin.fr hfr) (u1_at _ _ _ _ _ _) hT2
      exact ⟨μ', g1, hfr.tr g2, g3⟩
    rw [f_X6_next_L0, hp, mb_in hz hin hlt, bc_s]
    by_cases h1 : b p = 32
    · rw [if_pos (e32.mpr h1)]
      exact step (Or.inl h1)
    · rw [if_neg (fun q9 => h1 (e32.mp q9)), hp, mb_in hz hin hlt, bc_s]
      by_cases h2 : b p = 10
      · rw [if_pos (e10.mpr h2)]
        exact step (Or.inr h2)
      · rw [if_neg (fun q9 => h2 (e10.mp q9)), bv_e, hp]
        have hq : q = p := by rw [hT.1, show z - p = m + 1 by omega, ru_f (fun q9 => q9.elim h1 h2)]
        subst hq
        have f1 : FrM μ (up3 μ.1 0 0 22 (nI q), μ.2) := FrM.up (by omega)
        rw [show (up3 μ.1 0 0 22 (nI q), μ.2).1 0 0 20 = nI q from (u1_of (by omega)).trans hp, mb_in hz (hin.fr f1) hlt, bc_s, bv_e, if_pos (nI_pos' (by omega))]
        obtain ⟨μ2, e2⟩ : ∃ μ2 : Wm, μ2 = (up3 (up3 μ.1 0 0 22 (nI q), μ.2).1 0 0 21 4, (up3 μ.1 0 0 22 (nI q), μ.2).2) := ⟨_, rfl⟩
        rw [← e2]
        have f2 : FrM μ μ2 := by rw [e2]; exact f1.tr (FrM.up (by omega))
        have h20 : μ2.1 0 0 20 = nI q := by rw [e2]; exact (u1_of (by omega)).trans ((u1_of (by omega)).trans hp)
        have h22 : μ2.1 0 0 22 = nI q := by rw [e2]; exact (u1_of (by omega)).trans (u1_at _ _ _ _ _ _)
        have h21 : μ2.1 0 0 21 = nI 4 := by rw [e2]; exact u1_at _ _ _ _ _ _
        have hin2 := hin.fr f2
        have sgn : ∀ c : Nat, c < 256 → (nI (b q) = nI c ↔ b q = c) := fun c hc => nI_eq (by omega) (by omega)
        have s40 : nI (b q) = (40 : Int32) ↔ b q = 40 := sgn 40 (by decide)
        have s41 : nI (b q) = (41 : Int32) ↔ b q = 41 := sgn 41 (by decide)
        have s42 : nI (b q) = (42 : Int32) ↔ b q = 42 := sgn 42 (by decide)
        have s43 : nI (b q) = (43 : Int32) ↔ b q = 43 := sgn 43 (by decide)
        have s45 : nI (b q) = (45 : Int32) ↔ b q = 45 := sgn 45 (by decide)
        have s59 : nI (b q) = (59 : Int32) ↔ b q = 59 := sgn 59 (by decide)
        have s60 : nI (b q) = (60 : Int32) ↔ b q = 60 := sgn 60 (by decide)
        have s61 : nI (b q) = (61 : Int32) ↔ b q = 61 := sgn 61 (by decide)
        rcases hT.2 with ⟨a, b1, c⟩ | ⟨rfl, k1, k2, k3, k4⟩ | ⟨rfl, k1, k2, k3, k4, k5⟩ | ⟨rfl, k1, k2, k3, k4⟩ | ⟨rfl, k1, k2⟩
        · omega
        · rw [show f_X6_in μ2 (nI (b q)).toInt64 (97 : Int64) (122 : Int64) = some (1, μ2) from min_t μ2 (by omega) (by decide) (by decide) k2.1 k2.2, bc_s, if_neg (by decide), bv_e]
          have f3 : FrM μ2 (up3 μ2.1 0 0 21 1, μ2.2) := FrM.up (by omega)
          obtain ⟨μ', g1, g2, g3, g4, g5, g6⟩ := ma_letters (n := n) hb hz (z - q) q n (up3 μ2.1 0 0 21 1, μ2.2) (by omega) (by omega) (hin2.fr f3) ((u1_of (by omega)).trans h20)
          exact ⟨μ', g1, (f2.tr f3).tr g3, g4.trans ((u1_of (by omega)).trans h22), g5.trans (u1_at _ _ _ _ _ _), fun _ => by rw [g2, k3], fun h => by omega⟩
        · rw [show f_X6_in μ2 (nI (b q)).toInt64 (97 : Int64) (122 : Int64) = some (0, μ2) from min_f μ2 (by omega) (by decide) (by decide) (fun q9 => not_LD q9 k2), bc_s, if_pos rfl, show f_X6_in μ2 (nI (b q)).toInt64 (48 : Int64) (57 : Int64) = some (1, μ2) from min_t μ2 (by omega) (by decide) (by decide) k2.1 k2.2, bc_s, if_neg (by decide), bv_e, bv_e]
          have f3 : FrM μ2 ((up3 μ2.1 0 0 21 2, μ2.2).1, 0) := FrM.up (by omega)
          obtain ⟨μ', g1, g2, g3, g4, g5, g6⟩ := ma_digits (n := n) hb hz q (z - q) q n ((up3 μ2.1 0 0 21 2, μ2.2).1, 0) (by omega) (by omega) (Nat.le_refl _) (hin2.fr f3) ((u1_of (by omega)).trans h20) (u1_at _ _ _ _ _ _) (by rw [Nat.sub_self]; rfl)
          rw [Nat.sub_self] at g1
          rw [← k3] at g2 g5 g6
          exact ⟨μ', g1, (f2.tr f3).tr g3, g4.trans ((u1_of (by omega)).trans h22), by rw [g5, if_pos (by omega)], fun _ => g2, fun _ => by rw [g6, k5, show min (e - q) 4 = e - q by omega]⟩
        · rw [show f_X6_in μ2 (nI (b q)).toInt64 (97 : Int64) (122 : Int64) = some (0, μ2) from min_f μ2 (by omega) (by decide) (by decide) (not_SL k2), bc_s, if_pos rfl, show f_X6_in μ2 (nI (b q)).toInt64 (48 : Int64) (57 : Int64) = some (0, μ2) from min_f μ2 (by omega) (by decide) (by decide) (not_SD k2), bc_s, if_pos rfl]
          have fin : ∃ μ', f_X6_next_J300 n μ2 (nI (b q)) = some ((), μ') ∧ FrM μ μ' ∧ μ'.1 0 0 22 = nI q ∧ μ'.1 0 0 21 = nI 3 ∧ (¬ 3 = 4 → μ'.1 0 0 20 = nI e) ∧ (3 = 2 ∨ 3 = 3 → μ'.2 = lN w) := by
            unfold f_X6_next_J300
            rw [bv_e, bv_e, bv_e]
            refine ⟨_, rfl, ((f2.tr (FrM.up (j := 21) (v := 3) (L := μ2.2) (by omega))).tr (FrM.lg (L := (nI (b q)).toInt64))).tr (FrM.up (by omega)), ?_, ?_, fun _ => ?_, fun _ => ?_⟩
            · exact (u1_of (by omega)).trans ((u1_of (by omega)).trans h22)
            · exact (u1_of (by omega)).trans (u1_at _ _ _ _ _ _)
            · refine (u1_at _ _ _ _ _ _).trans ?_
              rw [k3, ← nI_1, ← h20]
              exact congrArg (fun v => v + 1) (u1_of (by omega))
            · show (nI (b q)).toInt64 = _
              rw [nI_l (by omega), k4]
          have hS := k2
          unfold isS at hS
          simp only [s40, s41, s42, s43, s45, s59, s60, s61] at fin ⊢
          repeat' split
          all_goals first | exact fin | (exfalso; omega)
        · rw [show f_X6_in μ2 (nI (b q)).toInt64 (97 : Int64) (122 : Int64) = some (0, μ2) from min_f μ2 (by omega) (by decide) (by decide) (by
            rcases k2 with ⟨a1, -⟩ | ⟨a1, -⟩
            · exact fun q9 => not_LD q9 a1
            · exact a1), bc_s, if_pos rfl]
          rcases k2 with ⟨a1, a2, a3⟩ | ⟨a1, a2, a3⟩
          · rw [show f_X6_in μ2 (nI (b q)).toInt64 (48 : Int64) (57 : Int64) = some (1, μ2) from min_t μ2 (by omega) (by decide) (by decide) a1.1 a1.2, bc_s, if_neg (by decide), bv_e, bv_e]
            have f3 : FrM μ2 ((up3 μ2.1 0 0 21 2, μ2.2).1, 0) := FrM.up (by omega)
            obtain ⟨μ', g1, g2, g3, g4, g5, g6⟩ := ma_digits (n := n) hb hz q (z - q) q n ((up3 μ2.1 0 0 21 2, μ2.2).1, 0) (by omega) (by omega) (Nat.le_refl _) (hin2.fr f3) ((u1_of (by omega)).trans h20) (u1_at _ _ _ _ _ _) (by rw [Nat.sub_self]; rfl)
            rw [Nat.sub_self] at g1
            rw [← a2] at g2 g5 g6
            exact ⟨μ', g1, (f2.tr f3).tr g3, g4.trans ((u1_of (by omega)).trans h22), by rw [g5, if_neg (by omega)], fun h => absurd rfl h, fun h => by omega⟩
          · rw [show f_X6_in μ2 (nI (b q)).toInt64 (48 : Int64) (57 : Int64) = some (0, μ2) from min_f μ2 (by omega) (by decide) (by decide) a2, bc_s, if_pos rfl]
            unfold isS at a3
            have fin : ∃ μ' : Wm, some ((), μ2) = some ((), μ') ∧ FrM μ μ' ∧ μ'.1 0 0 22 = nI q ∧ μ'.1 0 0 21 = nI 4 ∧ (¬ 4 = 4 → μ'.1 0 0 20 = nI e) ∧ (4 = 2 ∨ 4 = 3 → μ'.2 = lN w) := ⟨μ2, rfl, f2, h22, h21, fun h => absurd rfl h, fun h => by omega⟩
            simp only [s40, s41, s42, s43, s45, s59, s60, s61] at fin ⊢
            repeat' split
            all_goals first | exact fin | (exfalso; omega)
theorem madv (hb : ∀ i, b i < 256) (hz : z ≤ 160) (hn : 160 < n) {μ : Wm} (hin : InM b z t μ) (hp : μ.1 0 0 20 = nI p) (hpz : p ≤ z) (hT : Tok b z p q e κ w) : ∃ μ', f_X6_next n μ = some ((), μ') ∧ FrM μ μ' ∧ μ'.1 0 0 22 = nI q ∧ μ'.1 0 0 21 = nI κ ∧ (¬ κ = 4 → μ'.1 0 0 20 = nI e) ∧ (κ = 2 ∨ κ = 3 → μ'.2 = lN w) := by
  unfold f_X6_next
  exact madv0 hb hz hn (z - p) p n μ (by omega) (by omega) hin hp hT
end TM

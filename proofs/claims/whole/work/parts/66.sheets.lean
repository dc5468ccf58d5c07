/-! sheets, both sides alike -/
def Sh1 (s : Nat) (σ : Gm) (μ : Wm) : Prop := (σ 18 s 1 = -1 ∧ μ.1 35 0 s = 0) ∨ ∃ so sz : Nat, so ≤ 2 ∧ sz ≤ 40 ∧ σ 18 s 1 = nI so ∧ σ 18 s 2 = nI sz ∧ μ.1 35 0 s = 1 ∧ μ.1 36 0 s = nI so ∧ μ.1 37 0 s = nI sz ∧ ∀ i, i < sz → σ 19 s i = μ.1 38 0 (40 * s + i)
def ShR (σ : Gm) (μ : Wm) : Prop := ∀ s, s < 4 → Sh1 s σ μ
theorem Sh1.fr {s : Nat} {σ σ' : Gm} {μ μ' : Wm} (h : Sh1 s σ μ) (hs : s < 4) (fx : ∀ c j, (c = 18 ∨ c = 19) → σ' c s j = σ c s j) (fm : ∀ c j, (35 ≤ c ∧ c ≤ 37 ∧ j = s) ∨ (c = 38 ∧ 40 * s ≤ j ∧ j < 40 * s + 40) → μ'.1 c 0 j = μ.1 c 0 j) : Sh1 s σ' μ' := by
  rcases h with ⟨h1, h2⟩ | ⟨so, sz, g1, g2, h1, h2, h3, h4, h5, h6⟩
  · exact Or.inl ⟨(fx _ _ (by omega)).trans h1, (fm _ _ (by omega)).trans h2⟩
  · exact Or.inr ⟨so, sz, g1, g2, (fx _ _ (by omega)).trans h1, (fx _ _ (by omega)).trans h2, (fm _ _ (by omega)).trans h3, (fm _ _ (by omega)).trans h4, (fm _ _ (by omega)).trans h5, fun i hi => (fx _ _ (by omega)).trans ((h6 i hi).trans (fm _ _ (by omega)).symm)⟩
theorem ShR.fr {σ σ' : Gm} {μ μ' : Wm} (h : ShR σ μ) (fx : ∀ c k j, (c = 18 ∨ c = 19) → σ' c k j = σ c k j) (fm : ∀ c j, (35 ≤ c ∧ c ≤ 38) → μ'.1 c 0 j = μ.1 c 0 j) : ShR σ' μ' := fun s hs => (h s hs).fr hs (fun c j q => fx c s j q) fun c j q => fm c j (by omega)
/-- one sheet is changed -/
theorem ShR.up {s : Nat} {σ σ' : Gm} {μ μ' : Wm} (h : ShR σ μ) (h1 : Sh1 s σ' μ') (fx : ∀ c k j, ¬ k = s → σ' c k j = σ c k j) (fm : ∀ c j, ¬ (35 ≤ c ∧ c ≤ 37 ∧ j = s) → ¬ (c = 38 ∧ 40 * s ≤ j ∧ j < 40 * s + 40) → μ'.1 c 0 j = μ.1 c 0 j) : ShR σ' μ' := fun t ht => by
  by_cases e : t = s
  · subst e
    exact h1
  · exact (h t ht).fr ht (fun c j q => fx c t j e) fun c j q => fm c j (by omega) (by omega)
section K
variable {n d C z k : Nat} {V : Tx} {b : Nat → Nat} {S : Sk} {σ : Gm} {μ : Wm}
theorem sheet2 (a : Int32) : (∃ s, s < 4 ∧ a = nI s ∧ (∀ σ, f_X5_sheetAt σ a = some (some s, σ)) ∧ ∀ μ, f_X6_isSheet μ a = some (1, μ)) ∨ ((∀ σ, f_X5_sheetAt σ a = some (none, σ)) ∧ ∀ μ, f_X6_isSheet μ a = some (0, μ)) := by
  unfold f_X5_sheetAt f_X6_isSheet
  rcases rng a (lo := 0) (hi := 3) (by decide) (by decide) with ⟨s, -, hs, rfl, g4, g5⟩ | ⟨-, g4, g5⟩
  · left
    refine ⟨s, by omega, rfl, fun σ => ?_, fun μ => ?_⟩
    · rw [show f_X5_within σ (nI s) (0 : Int32) (3 : Int32) = _ from g4 σ, bc_s, if_neg (show ¬ (1 : Int32) = 0 by decide), gd_h (inb_nI (show s < 4 by omega) (by decide)), nI_clamp (by omega)]
    · rw [show f_X6_in μ (nI s).toInt64 (0 : Int64) (3 : Int64) = _ from g5 μ, bc_s]
      rfl
  · right
    refine ⟨fun σ => ?_, fun μ => ?_⟩
    · rw [show f_X5_within σ a (0 : Int32) (3 : Int32) = _ from g4 σ, bc_s, if_pos rfl]
    · rw [show f_X6_in μ a.toInt64 (0 : Int64) (3 : Int64) = _ from g5 μ, bc_s]
      rfl
theorem on0 {τ : Type} {a : Option τ} {f : Nat → Option τ} : on none a f = a := rfl
theorem on1 {τ : Type} {a : Option τ} {f : Nat → Option τ} (s : Nat) : on (some s) a f = f s := rfl
theorem ltb4 {s : Nat} (h : s < 4) : ltb s 4 = true := decide_eq_true h
theorem rngm (a : Int32) : (a = -1 ∧ (∀ σ, f_X5_within σ a (-1 : Int32) (2 : Int32) = some (1, σ)) ∧ ∀ μ, f_X6_in μ a.toInt64 (-1 : Int64) (2 : Int64) = some (1, μ)) ∨ (∃ i, i ≤ 2 ∧ a = nI i ∧ (∀ σ, f_X5_within σ a (-1 : Int32) (2 : Int32) = some (1, σ)) ∧ ∀ μ, f_X6_in μ a.toInt64 (-1 : Int64) (2 : Int64) = some (1, μ)) ∨ ((∀ σ, f_X5_within σ a (-1 : Int32) (2 : Int32) = some (0, σ)) ∧ ∀ μ, f_X6_in μ a.toInt64 (-1 : Int64) (2 : Int64) = some (0, μ)) := by
  by_cases e : a = -1
  · subst e
    exact Or.inl ⟨rfl, fun σ => rfl, fun μ => rfl⟩
  right
  unfold f_X5_within f_X6_in
  by_cases h0 : (0 : Int32) ≤ a
  · have hx : a.toInt.toNat < 2 ^ 31 := by
      have h2 : a.toInt < 2 ^ 31 := Int32.toInt_lt a
      omega
    have e := t_nI h0
    generalize a.toInt.toNat = x at e hx
    subst e
    by_cases g : x ≤ 2
    · left
      refine ⟨x, g, rfl, ?_⟩
      rcases (show x = 0 ∨ x = 1 ∨ x = 2 by omega) with rfl | rfl | rfl <;> exact ⟨fun σ => rfl, fun μ => rfl⟩
    · right
      refine ⟨fun σ => ?_, fun μ => ?_⟩
      · rw [if_neg (show ¬ nI x < (-1 : Int32) from fun q => by
          have := Int32.lt_iff_toInt_lt.mp q
          rw [nI_toInt hx, show (-1 : Int32).toInt = -1 by decide] at this
          omega), if_pos (show (2 : Int32) < nI x from nI_lt (show 2 < x by omega) hx)]
      · have hp := lg_pos (x := lN x) (y := (2 : Int64)) (Int64.lt_iff_toInt_lt.mpr (by rw [lN_int hx, show (2 : Int64).toInt = 2 by decide]; omega))
        rw [nI_l hx, if_neg (show ¬ lg_cmp (lN x) (-1 : Int64) < 0 from (lg_pos (Int64.lt_iff_toInt_lt.mpr (by rw [lN_int hx, show (-1 : Int64).toInt = -1 by decide]; omega))).2), if_pos hp.1]
  · right
    have h1 : ¬ (0 : Int) ≤ a.toInt := fun q => h0 (Int32.le_iff_toInt_le.mpr q)
    have h2 : ¬ a.toInt = -1 := fun q => e (Int32.toInt_inj.mp q)
    refine ⟨fun σ => ?_, fun μ => ?_⟩
    · rw [if_pos (show a < (-1 : Int32) from Int32.lt_iff_toInt_lt.mpr (by rw [show (-1 : Int32).toInt = -1 by decide]; omega))]
    · rw [if_pos (lg_neg (show a.toInt64 < (-1 : Int64) from Int64.lt_iff_toInt_lt.mpr (by rw [Int32.toInt_toInt64, show (-1 : Int64).toInt = -1 by decide]; omega)))]
/-! a sheet made anew -/
theorem bcmL (s : Nat) : ∀ (m i f : Nat) (σ : Gm), i + m = 40 → m < f → ∃ σ', f_X2_become_L17 n s f σ (nI i) = some ((), σ') ∧ (∀ l, i ≤ l → l < 40 → σ' 19 s l = 0) ∧ ∀ c k j, ¬ (c = 19 ∧ k = s ∧ i ≤ j) → σ' c k j = σ c k j
  | m, i, 0, _, _, h => by omega
  | 0, i, f + 1, σ, he, _ => by
    unfold f_X2_become_L17
    rw [if_pos (show (40 : Int32) ≤ nI i from nI_le (show 40 ≤ i by omega) (by omega))]
    exact ⟨σ, rfl, fun l h1 h2 => by omega, fun _ _ _ _ => rfl⟩
  | m + 1, i, f + 1, σ, he, hk => by
    unfold f_X2_become_L17
    rw [if_neg (show ¬ (40 : Int32) ≤ nI i from nI_ge (show i < 40 by omega) (by decide)), gd_h (inb_nI (show i < 40 by omega) (by decide)), nI_clamp (by omega), bv_e, nI_1]
    obtain ⟨σ', a1, a2, a3⟩ := bcmL s m (i + 1) f (up3 σ 19 s i 0) (by omega) (by omega)
    refine ⟨σ', a1, fun l h1 h2 => ?_, fun c k j q => (a3 c k j (by omega)).trans (up3_of (by omega))⟩
    by_cases e : l = i
    · subst e
      rw [a3 19 s l (by omega), up3_at]
    · exact a2 l (by omega) h2
theorem bcm_x (hn : 600 < n) (s : Nat) (σ : Gm) (so : Int32) {sz : Nat} (hz : sz ≤ 40) : ∃ σ', f_X2_become n s σ so (nI sz) = some ((), σ') ∧ σ' 18 s 1 = so ∧ σ' 18 s 2 = nI sz ∧ (∀ l, l < 40 → σ' 19 s l = 0) ∧ ∀ c k j, ¬ ((c = 18 ∨ c = 19) ∧ k = s) → σ' c k j = σ c k j := by
  unfold f_X2_become
  rw [bv_e, bv_e, if_neg (show ¬ (40 : Int32) < nI sz from nI_nlt (show sz ≤ 40 from hz) (by decide))]
  obtain ⟨σ', a1, a2, a3⟩ := bcmL (n := n) s 40 0 n (up3 (up3 σ 18 s 1 so) 18 s 2 (nI sz)) (by omega) (by omega)
  exact ⟨σ', a1, (a3 _ _ _ (by omega)).trans ((up3_of (by omega)).trans (up3_at _ _ _ _ _)), (a3 _ _ _ (by omega)).trans (up3_at _ _ _ _ _), fun l h => a2 l (by omega) h, fun c k j q => (a3 c k j (by omega)).trans ((up3_of (by omega)).trans (up3_of (by omega)))⟩
theorem x40 (s i : Nat) : (40 : Int32) * nI s + nI i = nI (40 * s + i) := by
  rw [show (40 : Int32) * nI s = nI (40 * s) from pk_mul 40 s, nI_add]
theorem shL {s so sz : Nat} (hs : s < 4) (hz : sz ≤ 40) (ho : so ≤ 2) : ∀ (m i f : Nat) (μ : Wm), i + m = sz → m < f → ∃ μ', f_X6_sheet_L77 n f μ (nI s) (nI so) (nI sz) (nI i) = some (1, μ') ∧ (∀ l, i ≤ l → l < sz → μ'.1 38 0 (40 * s + l) = 0) ∧ ∀ c k j, ¬ (c = 38 ∧ k = 0 ∧ 40 * s + i ≤ j ∧ j < 40 * s + sz) → μ'.1 c k j = μ.1 c k j
  | m, i, 0, _, _, h => by omega
  | 0, i, f + 1, μ, he, _ => by
    unfold f_X6_sheet_L77
    rw [if_pos (nI_le (show sz ≤ i by omega) (by omega))]
    exact ⟨μ, rfl, fun l h1 h2 => by omega, fun _ _ _ _ => rfl⟩
  | m + 1, i, f + 1, μ, he, hk => by
    unfold f_X6_sheet_L77
    rw [if_neg (show ¬ nI sz ≤ nI i from nI_ge (by omega) (by omega)), if_neg (show ¬ nI so < (0 : Int32) from nI_pos (by omega)), x40, gd_h (inb_nI (show 40 * s + i < 160 by omega) (by decide)), nI_clamp (by omega), bv_e, nI_1]
    obtain ⟨μ', a1, a2, a3⟩ := shL hs hz ho m (i + 1) f (up3 μ.1 38 0 (40 * s + i) 0, μ.2) (by omega) (by omega)
    refine ⟨μ', a1, fun l h1 h2 => ?_, fun c k j q => (a3 c k j (by omega)).trans (u1_of (by omega))⟩
    by_cases e : l = i
    · subst e
      rw [a3 38 0 (40 * s + l) (by omega), u1_at]
    · exact a2 l (by omega) h2
theorem sh59 (hn : 600 < n) {s so sz : Nat} (hs : s < 4) (hz : sz ≤ 40) (ho : so ≤ 2) (μ : Wm) : ∃ μ', f_X6_sheet_J59 n μ (nI s) (nI so) (nI sz) (1 : Int32) (nI s) = some (1, μ') ∧ μ'.1 35 0 s = 1 ∧ μ'.1 36 0 s = nI so ∧ μ'.1 37 0 s = nI sz ∧ (∀ l, l < sz → μ'.1 38 0 (40 * s + l) = 0) ∧ ∀ c k j, ¬ (k = 0 ∧ ((35 ≤ c ∧ c ≤ 37 ∧ j = s) ∨ (c = 38 ∧ 40 * s ≤ j ∧ j < 40 * s + sz))) → μ'.1 c k j = μ.1 c k j := by
  unfold f_X6_sheet_J59
  rw [gd_h (inb_nI (show s < 4 by omega) (by decide)), gd_h (show zb 1 = true by decide), bv_e, gd_h (inb_nI (show s < 4 by omega) (by decide)), bv_e, gd_h (inb_nI (show s < 4 by omega) (by decide)), bv_e, nI_clamp (by omega)]
  obtain ⟨μ', a1, a2, a3⟩ := shL (n := n) hs hz ho sz 0 n (up3 (up3 (up3 μ.1 35 0 s 1) 36 0 s (nI so)) 37 0 s (nI sz), μ.2) (by omega) (by omega)
  exact ⟨μ', a1, (a3 _ _ _ (by omega)).trans ((u1_of (by omega)).trans ((up3_of (by omega)).trans (up3_at _ _ _ _ _))), (a3 _ _ _ (by omega)).trans ((u1_of (by omega)).trans (up3_at _ _ _ _ _)), (a3 _ _ _ (by omega)).trans (u1_at _ _ _ _ _ _), fun l h => a2 l (by omega) h, fun c k j q => (a3 c k j (by omega)).trans ((u1_of (by omega)).trans ((up3_of (by omega)).trans (up3_of (by omega))))⟩
def GoS (n : Nat) (V : Tx) (C : Nat) (S : Sk) (z : Nat) (b : Nat → Nat) (σ : Gm) (μ : Wm) (f : Option (Int32 × Gm)) (g : Option (Int32 × Wm)) : Prop := ∃ r σ' μ', f = some (r, σ') ∧ g = some (r, μ') ∧ Re n V C S z b σ' μ' ∧ ShR σ' μ' ∧ (∀ c k j, ¬ (c = 18 ∨ c = 19) → σ' c k j = σ c k j) ∧ ∀ c k j, ¬ ((35 ≤ c ∧ c ≤ 38) ∧ k = 0) → μ'.1 c k j = μ.1 c k j
theorem GoS.fin {f : Option (Int32 × Gm)} {g : Option (Int32 × Wm)} {σ' : Gm} {μ' : Wm} (h : Re n V C S z b σ μ) (r : Int32) (hf : f = some (r, σ')) (hg : g = some (r, μ')) (hS : ShR σ' μ') (fx : ∀ c k j, ¬ (c = 18 ∨ c = 19) → σ' c k j = σ c k j) (fm : ∀ c k j, ¬ ((35 ≤ c ∧ c ≤ 38) ∧ k = 0) → μ'.1 c k j = μ.1 c k j) : GoS n V C S z b σ μ f g :=
  ⟨r, σ', μ', hf, hg, h.mk h.1 h.2.1 (h.2.2.1.fr' fun c j p q => fx c 0 j (by omega)) (h.2.2.2.1.fr' fun c k j q => fm c k j (by omega)) h.2.2.2.2.2.2.2.2.2.1 (fun c k j w => fx c k j (by omega)) (fun c k j w => fm c k j (by omega)), hS, fx, fm⟩
theorem GoS.same {f : Option (Int32 × Gm)} {g : Option (Int32 × Wm)} (h : Re n V C S z b σ μ) (hS : ShR σ μ) (r : Int32) (hf : f = some (r, σ)) (hg : g = some (r, μ)) : GoS n V C S z b σ μ f g := GoS.fin h r hf hg hS (fun _ _ _ _ => rfl) fun _ _ _ _ => rfl
theorem sheet_s (hn : 600 < n) (h : Re n V C S z b σ μ) (hS : ShR σ μ) (a1 a2 a3 : Int32) : GoS n V C S z b σ μ (f_X5_sheet n σ a1 a2 a3) (f_X6_sheet n μ a1 a2 a3) := by
  unfold f_X5_sheet f_X6_sheet
  rcases sheet2 a1 with ⟨s, hs, rfl, g4, g5⟩ | ⟨g4, g5⟩
  case inr =>
    rw [g4 σ, g5 μ, bc_s, bc_s, on0, if_pos rfl]
    exact GoS.same h hS _ rfl rfl
  rw [g4 σ, g5 μ, bc_s, bc_s, on1, gd_h (ltb4 hs), if_neg (show ¬ (1 : Int32) = 0 by decide)]
  rcases rngm a2 with ⟨rfl, g4, g5⟩ | ⟨so, ho, rfl, g4, g5⟩ | ⟨g4, g5⟩
  · rw [g4 σ, g5 μ, bc_s, bc_s, if_neg (show ¬ (1 : Int32) = 0 by decide), if_neg (show ¬ (1 : Int32) = 0 by decide), if_pos rfl, if_pos (show (-1 : Int32) < 0 by decide)]
    obtain ⟨σ', a1, a2, a3', a4, a5⟩ := bcm_x hn s σ (-1) (show 0 ≤ 40 by decide)
    rw [show f_X2_become n s σ (-1 : Int32) (0 : Int32) = _ from a1, bc_s]
    have lp : ∀ μ1 : Wm, f_X6_sheet_L77 n n μ1 (nI s) (-1 : Int32) a3 (0 : Int32) = some (1, μ1) := by
      intro μ1
      obtain ⟨f, hf⟩ : ∃ f, n = f + 1 := ⟨n - 1, by omega⟩
      rw [show f_X6_sheet_L77 n n μ1 = f_X6_sheet_L77 n (f + 1) μ1 by rw [← hf], f_X6_sheet_L77]
      by_cases g : a3 ≤ (0 : Int32)
      · rw [if_pos g]
      · rw [if_neg g, if_pos (show (-1 : Int32) < 0 by decide)]
    unfold f_X6_sheet_J34 f_X6_sheet_J45 f_X6_sheet_J59
    rw [if_pos (show (-1 : Int32) < 0 by decide), if_pos (show (-1 : Int32) < 0 by decide), gd_h (inb_nI (show s < 4 by omega) (by decide)), gd_h (show zb 0 = true by decide), bv_e, gd_h (inb_nI (show s < 4 by omega) (by decide)), bv_e, gd_h (inb_nI (show s < 4 by omega) (by decide)), bv_e, nI_clamp (by omega), lp]
    refine GoS.fin h _ rfl rfl (hS.up (s := s) (Or.inl ⟨a2, ?_⟩) (fun c k j q => a5 c k j (by omega)) (fun c j q1 q2 => (u1_of (by omega)).trans ((up3_of (by omega)).trans (up3_of (by omega))))) (fun c k j q => a5 c k j (by omega)) (fun c k j q => (u1_of (by omega)).trans ((up3_of (by omega)).trans (up3_of (by omega))))
    exact (u1_of (by omega)).trans ((u1_of (by omega)).trans (u1_at _ _ _ _ _ _))
  · rw [g4 σ, g5 μ, bc_s, bc_s, if_neg (show ¬ (1 : Int32) = 0 by decide), if_neg (show ¬ (1 : Int32) = 0 by decide), if_neg (show ¬ nI so = (-1 : Int32) from nI_nm1 (by omega)), if_neg (show ¬ nI so < (0 : Int32) from nI_pos (by omega))]
    by_cases q1 : a3 ≤ (40 : Int32)
    · rw [if_pos q1, if_pos q1]
      unfold f_X6_sheet_J34 f_X6_sheet_J45
      rw [if_neg (show ¬ nI so < (0 : Int32) from nI_pos (by omega)), if_neg (show ¬ nI so < (0 : Int32) from nI_pos (by omega))]
      by_cases q2 : (0 : Int32) ≤ a3
      · rw [if_pos q2, if_pos q2]
        have e := t_nI q2
        have hz : a3.toInt.toNat ≤ 40 := by
          have := Int32.le_iff_toInt_le.mp q1
          rw [show (40 : Int32).toInt = 40 by decide] at this
          omega
        generalize a3.toInt.toNat = sz at e hz
        subst e
        obtain ⟨σ', a1, a2, a3, a4, a5⟩ := bcm_x hn s σ (nI so) hz
        obtain ⟨μ', b1, b2, b3, b4, b5, b6⟩ := sh59 hn hs hz ho μ
        rw [a1, bc_s, b1]
        exact GoS.fin h _ rfl rfl (hS.up (s := s) (Or.inr ⟨so, sz, ho, hz, a2, a3, b2, b3, b4, fun i hi => (a4 i (by omega)).trans (b5 i hi).symm⟩) (fun c k j q => a5 c k j (by omega)) (fun c j q1 q2 => b6 c 0 j (by omega))) (fun c k j q => a5 c k j (by omega)) (fun c k j q => b6 c k j (by omega))
      · rw [if_neg q2, if_neg q2]
        exact GoS.same h hS _ rfl rfl
    · rw [if_neg q1, if_neg q1]
      exact GoS.same h hS _ rfl rfl
  · rw [g4 σ, g5 μ, bc_s, bc_s, if_pos rfl, if_pos rfl]
    exact GoS.same h hS _ rfl rfl
theorem miss_x {s : Nat} {σ : Gm} (h : σ 18 s 1 = -1) : f_X2_isMissing s σ = some (1, σ) := by
  unfold f_X2_isMissing
  rw [if_pos h]
theorem there_x {s so : Nat} {σ : Gm} (ho : so ≤ 2) (h : σ 18 s 1 = nI so) : f_X2_isMissing s σ = some (0, σ) := by
  unfold f_X2_isMissing
  rw [if_neg (by rw [h]; exact nI_nm1 (by omega))]
theorem cell_s (h : Re n V C S z b σ μ) (hS : ShR σ μ) (a1 a2 a3 : Int32) : GoS n V C S z b σ μ (f_X5_cell σ a1 a2 a3) (f_X6_cell μ a1 a2 a3) := by
  unfold f_X5_cell f_X6_cell
  rcases sheet2 a1 with ⟨s, hs, rfl, g4, g5⟩ | ⟨g4, g5⟩
  case inr =>
    rw [g4 σ, g5 μ, bc_s, bc_s, on0, if_pos rfl]
    exact GoS.same h hS _ rfl rfl
  rw [g4 σ, g5 μ, bc_s, bc_s, on1, gd_h (ltb4 hs), if_neg (show ¬ (1 : Int32) = 0 by decide), gd_h (inb_nI (show s < 4 by omega) (by decide)), nI_clamp (by omega), gd_h (inb_nI (show s < 4 by omega) (by decide))]
  rcases hS s hs with ⟨h1, h2⟩ | ⟨so, sz, ho, hz, e1, e2, e3, e4, e5, e6⟩
  · rw [miss_x h1, bc_s, if_neg (show ¬ (1 : Int32) = 0 by decide), h2, if_pos rfl]
    exact GoS.same h hS _ rfl rfl
  rw [there_x ho e1, bc_s, if_pos rfl, e3, if_neg (show ¬ (1 : Int32) = 0 by decide), e5]
  unfold f_X2_put f_X2_has
  rw [e2]
  rcases idx a2 (T := sz) (by omega) with ⟨i, hi, rfl, k1, k2, k3⟩ | ⟨-, k1, k3⟩
  · rw [if_neg k1, if_neg k2, k3 μ, bc_s, bc_s, if_neg (show ¬ (1 : Int32) = 0 by decide), if_neg (show ¬ (1 : Int32) = 0 by decide), gd_h (inb_nI (show s < 4 by omega) (by decide)), gd_h (inb_nI (show s < 4 by omega) (by decide)), e2, if_neg k1, if_neg k2, bc_s, if_neg (show ¬ (1 : Int32) = 0 by decide), e1, e4, x40, gd_h (inb_nI (show i < 40 by omega) (by decide)), gd_h (inb_nI (show i < 40 by omega) (by decide)), gd_h (inb_nI (show i < 40 by omega) (by decide)), gd_h (inb_nI (show 40 * s + i < 160 by omega) (by decide)), gd_h (inb_nI (show 40 * s + i < 160 by omega) (by decide)), gd_h (inb_nI (show 40 * s + i < 160 by omega) (by decide)), nI_clamp (show i < 2 ^ 31 by omega), nI_clamp (show 40 * s + i < 2 ^ 31 by omega)]
    have fin : ∀ v : Int32, GoS n V C S z b σ μ (some ((1 : Int32), up3 σ 19 s i v)) (some ((1 : Int32), (up3 μ.1 38 0 (40 * s + i) v, μ.2))) := by
      intro v
      refine GoS.fin h _ rfl rfl (hS.up (s := s) (Or.inr ⟨so, sz, ho, hz, (up3_of (by omega)).trans e1, (up3_of (by omega)).trans e2, (u1_of (by omega)).trans e3, (u1_of (by omega)).trans e4, (u1_of (by omega)).trans e5, fun l hl => ?_⟩) (fun c k j q => up3_of (by omega)) (fun c j q1 q2 => u1_of (by omega))) (fun c k j q => up3_of (by omega)) (fun c k j q => u1_of (by omega))
      by_cases e : l = i
      · subst e
        rw [up3_at, u1_at]
      · rw [up3_of (by omega), u1_of (by omega)]
        exact e6 l hl
    by_cases q0 : nI so = (0 : Int32)
    · rw [if_pos q0, if_pos q0]
      exact fin _
    · rw [if_neg q0, if_neg q0]
      by_cases q1 : nI so = (1 : Int32)
      · rw [if_pos q1, if_pos q1]
        exact fin _
      · rw [if_neg q1, if_neg q1]
        exact fin _
  · have e0 : (if a2 < 0 then some ((0 : Int32), σ) else if nI sz ≤ a2 then some ((0 : Int32), σ) else some ((1 : Int32), σ)) = some (0, σ) := by
      by_cases g : a2 < 0
      · rw [if_pos g]
      · rw [if_neg g, if_pos (k1.resolve_left g)]
    rw [e0, k3 μ, bc_s, bc_s, if_pos rfl, if_pos rfl]
    exact GoS.same h hS _ rfl rfl
end K

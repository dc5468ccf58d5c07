/-! arguments within bounds, both sides alike -/
theorem lg_neg {x y : Int64} (h : x < y) : lg_cmp x y < 0 := by
  unfold lg_cmp
  have h' := Int64.lt_iff_toInt_lt.mp h
  rw [if_neg (show ¬ x > y from fun q => by have := Int64.lt_iff_toInt_lt.mp q; omega), if_neg (show ¬ x = y from fun q => by rw [q] at h'; omega)]
  decide
theorem lg_pos {x y : Int64} (h : y < x) : 0 < lg_cmp x y ∧ ¬ lg_cmp x y < 0 := by
  unfold lg_cmp
  rw [if_pos (show x > y from h)]
  decide
theorem lN_int {x : Nat} (h : x < 2 ^ 31) : (lN x).toInt = (x : Int) := by
  rw [← nI_l h, Int32.toInt_toInt64, nI_toInt h]
theorem in_neg (μ : Wm) {a : Int32} {lo : Nat} (c : Int64) (h : ¬ (0 : Int32) ≤ a) (hl : lo < 2 ^ 31) : f_X6_in μ a.toInt64 (lN lo) c = some (0, μ) := by
  unfold f_X6_in
  have h1 : ¬ (0 : Int) ≤ a.toInt := fun q => h (Int32.le_iff_toInt_le.mpr q)
  rw [if_pos (lg_neg (Int64.lt_iff_toInt_lt.mpr (by rw [Int32.toInt_toInt64, lN_int hl]; omega)))]
section K
variable {n d C z k T : Nat} {V : Tx} {b : Nat → Nat} {S : Sk} {σ : Gm} {μ : Wm}
/-- a number within bounds, or not, on both sides -/
theorem rng (a : Int32) {lo hi : Nat} (hl : lo < 2 ^ 31) (hh : hi < 2 ^ 31) : (∃ i, lo ≤ i ∧ i ≤ hi ∧ a = nI i ∧ (∀ σ, f_X5_within σ a (nI lo) (nI hi) = some (1, σ)) ∧ ∀ μ, f_X6_in μ a.toInt64 (lN lo) (lN hi) = some (1, μ)) ∨ ((¬ ∃ i, lo ≤ i ∧ i ≤ hi ∧ a = nI i) ∧ (∀ σ, f_X5_within σ a (nI lo) (nI hi) = some (0, σ)) ∧ ∀ μ, f_X6_in μ a.toInt64 (lN lo) (lN hi) = some (0, μ)) := by
  unfold f_X5_within
  by_cases h0 : (0 : Int32) ≤ a
  · have hx : a.toInt.toNat < 2 ^ 31 := by
      have h2 : a.toInt < 2 ^ 31 := Int32.toInt_lt a
      omega
    have e := t_nI h0
    generalize a.toInt.toNat = x at e hx
    subst e
    by_cases g : lo ≤ x ∧ x ≤ hi
    · left
      refine ⟨x, g.1, g.2, rfl, fun σ => ?_, fun μ => min_t μ hx hl hh g.1 g.2⟩
      rw [if_neg (nI_nlt g.1 hx), if_neg (nI_nlt g.2 hh)]
    · right
      refine ⟨fun ⟨i, q1, q2, q3⟩ => g ?_, fun σ => ?_, fun μ => min_f μ hx hl hh g⟩
      · have := (nI_eq hx (show i < 2 ^ 31 by omega)).mp q3
        omega
      · by_cases g1 : x < lo
        · rw [if_pos (nI_lt g1 hl)]
        · rw [if_neg (nI_nlt (by omega) hx), if_pos (nI_lt (show hi < x by omega) hx)]
  · right
    refine ⟨fun ⟨i, q1, q2, q3⟩ => h0 (q3 ▸ nI_pos' (by omega)), fun σ => ?_, fun μ => in_neg μ _ h0 hl⟩
    have h1 : ¬ (0 : Int) ≤ a.toInt := fun q => h0 (Int32.le_iff_toInt_le.mpr q)
    rw [if_pos (Int32.lt_iff_toInt_lt.mpr (by rw [nI_toInt hl]; omega))]
/-- a place below how many there are, or not -/
theorem idx (a : Int32) {T : Nat} (hT : T < 2 ^ 31) : (∃ i, i < T ∧ a = nI i ∧ (¬ a < 0) ∧ (¬ nI T ≤ a) ∧ ∀ μ, f_X6_in μ a.toInt64 (0 : Int64) ((nI T - (1 : Int32)).toInt64) = some (1, μ)) ∨ ((¬ ∃ i, i < T ∧ a = nI i) ∧ (a < 0 ∨ nI T ≤ a) ∧ ∀ μ, f_X6_in μ a.toInt64 (0 : Int64) ((nI T - (1 : Int32)).toInt64) = some (0, μ)) := by
  by_cases h0 : (0 : Int32) ≤ a
  · have hx : a.toInt.toNat < 2 ^ 31 := by
      have h2 : a.toInt < 2 ^ 31 := Int32.toInt_lt a
      omega
    have e := t_nI h0
    generalize a.toInt.toNat = x at e hx
    subst e
    by_cases g : x < T
    · left
      refine ⟨x, g, rfl, nI_pos hx, nI_ge g hT, fun μ => ?_⟩
      rw [show nI T - (1 : Int32) = nI (T - 1) from pk_sub (show 1 ≤ T by omega), nI_l (show T - 1 < 2 ^ 31 by omega)]
      exact min_t μ (a := 0) hx (show 0 < 2 ^ 31 by decide) (by omega) (by omega) (by omega)
    · right
      refine ⟨fun ⟨i, q1, q3⟩ => g ?_, Or.inr (nI_le (by omega) hx), fun μ => ?_⟩
      · have := (nI_eq hx (show i < 2 ^ 31 by omega)).mp q3
        omega
      · by_cases hz : T = 0
        · subst hz
          unfold f_X6_in
          have hp := lg_pos (x := (nI x).toInt64) (y := (nI 0 - (1 : Int32)).toInt64) (Int64.lt_iff_toInt_lt.mpr (by rw [nI_l hx, lN_int hx, show (nI 0 - (1 : Int32)).toInt64.toInt = -1 by decide]; omega))
          rw [if_neg (show ¬ lg_cmp (nI x).toInt64 (0 : Int64) < 0 from fun q => by
            rw [nI_l hx] at q
            have := (lgc_lt hx (show 0 < 2 ^ 31 by decide)).mp q
            omega), if_pos hp.1]
        · rw [show nI T - (1 : Int32) = nI (T - 1) from pk_sub (show 1 ≤ T by omega), nI_l (show T - 1 < 2 ^ 31 by omega)]
          exact min_f μ (a := 0) hx (show 0 < 2 ^ 31 by decide) (by omega) (by omega)
  · right
    have h1 : ¬ (0 : Int) ≤ a.toInt := fun q => h0 (Int32.le_iff_toInt_le.mpr q)
    exact ⟨fun ⟨i, q1, q3⟩ => h0 (q3 ▸ nI_pos' (by omega)), Or.inl (Int32.lt_iff_toInt_lt.mpr (by rw [show (0 : Int32).toInt = 0 from rfl]; omega)), fun μ => in_neg μ _ h0 (show 0 < 2 ^ 31 by decide)⟩
theorem thing2 (a : Int32) (hB : SkB S) : (∃ i, i < S.T ∧ a = nI i ∧ (∀ k σ, SkX k S σ → f_X3_hasThing k σ a = some (1, σ)) ∧ ∀ μ, SkM S μ → f_X6_isThing μ a = some (1, μ)) ∨ ((¬ ∃ i, i < S.T ∧ a = nI i) ∧ (∀ k σ, SkX k S σ → f_X3_hasThing k σ a = some (0, σ)) ∧ ∀ μ, SkM S μ → f_X6_isThing μ a = some (0, μ)) := by
  have hT := hB.2.2.2.2.2.2.1
  unfold f_X3_hasThing f_X6_isThing
  rcases idx a (T := S.T) (by omega) with ⟨i, h1, h2, h3, h4, h5⟩ | ⟨h1, h2, h3⟩
  · left
    refine ⟨i, h1, h2, fun k σ h => ?_, fun μ h => ?_⟩
    · rw [if_neg h3, h.2.2.2.2.2.2.1, if_neg h4]
    · rw [h.2.2.2.2.2.2.1, h5 μ]
      rfl
  · right
    refine ⟨h1, fun k σ h => ?_, fun μ h => ?_⟩
    · rw [h.2.2.2.2.2.2.1]
      rcases h2 with g | g
      · rw [if_pos g]
      · rw [if_pos g]
        by_cases q : a < 0
        · rw [if_pos q]
        · rw [if_neg q]
    · rw [h.2.2.2.2.2.2.1, h3 μ]
      rfl
theorem one2 (a : Int32) (hB : SkB S) : (∃ i, i < S.P ∧ a = nI i ∧ (∀ k σ, SkX k S σ → f_X3_hasNeighbour k σ a = some (1, σ)) ∧ ∀ μ, SkM S μ → f_X6_isOne μ a = some (1, μ)) ∨ ((¬ ∃ i, i < S.P ∧ a = nI i) ∧ (∀ k σ, SkX k S σ → f_X3_hasNeighbour k σ a = some (0, σ)) ∧ ∀ μ, SkM S μ → f_X6_isOne μ a = some (0, μ)) := by
  have hP := hB.2.2.2.2.2.2.2.1
  unfold f_X3_hasNeighbour f_X6_isOne
  rcases idx a (T := S.P) (by omega) with ⟨i, h1, h2, h3, h4, h5⟩ | ⟨h1, h2, h3⟩
  · left
    refine ⟨i, h1, h2, fun k σ h => ?_, fun μ h => ?_⟩
    · rw [if_neg h3, h.2.2.2.2.2.2.2.2.1, if_neg h4]
    · rw [h.2.2.2.2.2.2.2.1, h5 μ]
      rfl
  · right
    refine ⟨h1, fun k σ h => ?_, fun μ h => ?_⟩
    · rw [h.2.2.2.2.2.2.2.2.1]
      rcases h2 with g | g
      · rw [if_pos g]
      · rw [if_pos g]
        by_cases q : a < 0
        · rw [if_pos q]
        · rw [if_neg q]
    · rw [h.2.2.2.2.2.2.2.1, h3 μ]
      rfl
end K

/-! told, count, feed, thing on both sides -/
section K
variable {n d C z : Nat} {V : Tx} {b : Nat → Nat} {S : Sk} {σ : Gm} {μ : Wm}
/-- whether there is what is asked for, on both sides -/
theorem know2 (hB : SkB S) (hx : SkX 0 S σ) (hm : SkM S μ) (a : Int32) {w : Nat} (hw : w ≤ 16) : (f_X3_knows 0 σ (nI w) a = some (1, σ) ∧ f_X6_isOf μ (nI w) a = some (1, μ) ∧ (kT w = true → ∃ i, i < S.T ∧ a = nI i) ∧ (kO w = true → ∃ i, i < S.P ∧ a = nI i)) ∨ (f_X3_knows 0 σ (nI w) a = some (0, σ) ∧ f_X6_isOf μ (nI w) a = some (0, μ)) := by
  rw [kn_x 0 a hw, of_m a hw]
  have hTO : kT w = true → kO w = true → False := by
    have key : ∀ w, w < 17 → kT w = true → kO w = true → False := by decide
    exact key w (by omega)
  by_cases g : kT w = true
  · rw [if_pos g, if_pos g]
    rcases thing2 a hB with ⟨i, h1, h2, h3, h4⟩ | ⟨-, h3, h4⟩
    · left
      rw [h3 0 σ hx, h4 μ hm]
      exact ⟨rfl, rfl, fun _ => ⟨i, h1, h2⟩, fun q => (hTO g q).elim⟩
    · right
      rw [h3 0 σ hx, h4 μ hm]
      exact ⟨rfl, rfl⟩
  · rw [if_neg g, if_neg g]
    by_cases q : kO w = true
    · rw [if_pos q, if_pos q]
      rcases one2 a hB with ⟨i, h1, h2, h3, h4⟩ | ⟨-, h3, h4⟩
      · left
        rw [h3 0 σ hx, h4 μ hm]
        exact ⟨rfl, rfl, fun x => (g x).elim, fun _ => ⟨i, h1, h2⟩⟩
      · right
        rw [h3 0 σ hx, h4 μ hm]
        exact ⟨rfl, rfl⟩
    · rw [if_neg q, if_neg q]
      exact Or.inl ⟨rfl, rfl, fun x => (g x).elim, fun x => (q x).elim⟩
/-- a number out of 0 .. hi, for the class's own tests -/
theorem out_of {a : Int32} {hi : Nat} (hh : hi < 2 ^ 31) (h : ¬ ∃ i, 0 ≤ i ∧ i ≤ hi ∧ a = nI i) : a < 0 ∨ nI hi < a := by
  by_cases h0 : (0 : Int32) ≤ a
  · right
    have hx : a.toInt.toNat < 2 ^ 31 := by
      have h2 : a.toInt < 2 ^ 31 := Int32.toInt_lt a
      omega
    have e := t_nI h0
    generalize a.toInt.toNat = x at e hx
    subst e
    exact nI_lt (by
      by_cases g : hi < x
      · exact g
      · exact (h ⟨x, by omega, by omega, rfl⟩).elim) hx
  · left
    have h1 : ¬ (0 : Int) ≤ a.toInt := fun q => h0 (Int32.le_iff_toInt_le.mpr q)
    exact Int32.lt_iff_toInt_lt.mpr (by rw [show (0 : Int32).toInt = 0 from rfl]; omega)
theorem ne_of_out {a : Int32} {hi : Nat} (h : ¬ ∃ i, 0 ≤ i ∧ i ≤ hi ∧ a = nI i) {w : Nat} (hw : w ≤ hi) : ¬ a = nI w := fun q => h ⟨w, by omega, hw, q⟩
theorem told_s (hn : 600 < n) (hR : RuX n V C) (h : Re n V C S z b σ μ) (a1 a2 : Int32) : Go n V C z b σ μ (f_X5_told n σ a1 a2) (f_X6_told n μ a1 a2) := by
  obtain ⟨hB, hN, hx, hm, TX, TM, cx, cm, hC, hr, -⟩ := id h
  rw [told_e]
  unfold f_X5_told
  rcases rng a2 (lo := 0) (hi := 16) (by decide) (by decide) with ⟨w, -, hw, rfl, -, g5⟩ | ⟨hno, -, g5⟩
  · rw [show f_X6_in μ (nI w).toInt64 (0 : Int64) (16 : Int64) = _ from g5 μ, bc_s, if_neg (show ¬ (1 : Int32) = 0 by decide)]
    rcases know2 hB hx hm a1 hw with ⟨k1, k2, k3, k4⟩ | ⟨k1, k2⟩
    · obtain ⟨r, σ', μ', p1, p2, p3, p4⟩ := tell_s hn hR hB hx hm TX TM hr hw k3 k4
      rw [k1, k2, bc_s, bc_s, if_neg (show ¬ (1 : Int32) = 0 by decide), if_neg (show ¬ (1 : Int32) = 0 by decide), p1, bc_s, p2]
      exact Go.read h _ rfl rfl p3 p4
    · rw [k1, k2, bc_s, bc_s, if_pos rfl, if_pos rfl]
      exact Go.same h _ rfl rfl
  · rw [show f_X6_in μ a2.toInt64 (0 : Int64) (16 : Int64) = _ from g5 μ, bc_s, if_pos rfl]
    have hk : f_X3_knows 0 σ a2 a1 = some (0, σ) := by
      unfold f_X3_knows
      rw [if_neg (show ¬ a2 = (5 : Int32) from ne_of_out hno (w := 5) (by decide)), if_neg (show ¬ a2 = (6 : Int32) from ne_of_out hno (w := 6) (by decide)), if_neg (show ¬ a2 = (7 : Int32) from ne_of_out hno (w := 7) (by decide)), if_neg (show ¬ a2 = (8 : Int32) from ne_of_out hno (w := 8) (by decide)), if_neg (show ¬ a2 = (9 : Int32) from ne_of_out hno (w := 9) (by decide)), if_neg (show ¬ a2 = (10 : Int32) from ne_of_out hno (w := 10) (by decide)), if_neg (show ¬ a2 = (11 : Int32) from ne_of_out hno (w := 11) (by decide)), if_neg (show ¬ a2 = (12 : Int32) from ne_of_out hno (w := 12) (by decide)), if_neg (show ¬ a2 = (13 : Int32) from ne_of_out hno (w := 13) (by decide))]
      rcases out_of (by decide) hno with g | g
      · rw [if_pos g]
      · rw [if_pos (show (16 : Int32) < a2 from g)]
        by_cases q : a2 < 0
        · rw [if_pos q]
        · rw [if_neg q]
    rw [hk, bc_s, if_pos rfl]
    exact Go.same h _ rfl rfl
theorem count_s (h : Re n V C S z b σ μ) (a : Int32) : Go n V C z b σ μ (f_X5_count σ a) (f_X6_count μ a) := by
  obtain ⟨hB, hN, hx, hm, TX, TM, cx, cm, hC, hr, hb, hz, hin, hz2, -⟩ := id h
  unfold f_X5_count f_X6_count
  rcases rng a (lo := 0) (hi := 5) (by decide) (by decide) with ⟨w, -, hw, rfl, -, g5⟩ | ⟨hno, -, g5⟩
  · rw [show f_X6_in μ (nI w).toInt64 (0 : Int64) (5 : Int64) = _ from g5 μ, bc_s, if_neg (show ¬ (1 : Int32) = 0 by decide), hx.2.2.2.2.2.2.2.2.1, hx.2.2.2.2.2.2.1, hx.1, cx, hin.1, hx.2.2.2.2.2.1, hm.2.2.2.2.2.2.2.1, hm.2.2.2.2.2.2.1, hm.1, cm, hz2, hm.2.2.2.2.2.1]
    rcases (show w = 0 ∨ w = 1 ∨ w = 2 ∨ w = 3 ∨ w = 4 ∨ w = 5 by omega) with rfl | rfl | rfl | rfl | rfl | rfl
    · exact Go.same h (nI S.P) rfl rfl
    · exact Go.same h (nI S.T) rfl rfl
    · exact Go.same h (nI S.nt) rfl rfl
    · exact Go.same h (nI C) rfl rfl
    · exact Go.same h (nI z) rfl rfl
    · exact Go.same h (nI S.ru) rfl rfl
  · rw [show f_X6_in μ a.toInt64 (0 : Int64) (5 : Int64) = _ from g5 μ, bc_s, if_pos rfl, if_neg (show ¬ a = (0 : Int32) from ne_of_out hno (w := 0) (by decide)), if_neg (show ¬ a = (1 : Int32) from ne_of_out hno (w := 1) (by decide)), if_neg (show ¬ a = (2 : Int32) from ne_of_out hno (w := 2) (by decide)), if_neg (show ¬ a = (3 : Int32) from ne_of_out hno (w := 3) (by decide)), if_neg (show ¬ a = (4 : Int32) from ne_of_out hno (w := 4) (by decide)), if_neg (show ¬ a = (5 : Int32) from ne_of_out hno (w := 5) (by decide))]
    exact Go.same h _ rfl rfl
end K

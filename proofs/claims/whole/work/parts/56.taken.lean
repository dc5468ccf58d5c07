/-! taken, both sides -/
section K
variable {n d C z : Nat} {V : Tx} {b : Nat → Nat} {S : Sk} {σ : Gm} {μ : Wm}
def und (u w : Nat) : Bool := u == w || w == 0 || (u == 3 && w == 1) || (u == 4 && w == 2)
theorem und_x (m : Nat) (σ : Gm) {u w : Nat} (hu : u ≤ 5) (hw : w ≤ 5) : f_X5_isUnder_L4 n (m + 8) σ (nI w) (nI u) (0 : Int32) = some (if und u w then 1 else 0, σ) := by
  rcases (show u = 0 ∨ u = 1 ∨ u = 2 ∨ u = 3 ∨ u = 4 ∨ u = 5 by omega) with rfl | rfl | rfl | rfl | rfl | rfl <;> rcases (show w = 0 ∨ w = 1 ∨ w = 2 ∨ w = 3 ∨ w = 4 ∨ w = 5 by omega) with rfl | rfl | rfl | rfl | rfl | rfl <;> rfl
theorem und_m (m : Nat) (μ : Wm) (x0 : Int32) {u w : Nat} (hu : u ≤ 5) (hw : w ≤ 5) : f_X6_taken_L37 n (m + 8) μ x0 (nI w) (nI u) = if und u w then gd (inb ((3 : Int32) * x0) 15) (some (μ.1 9 0 ((3 : Int32) * x0).toNatClampNeg, μ)) else some ((-13 : Int32), μ) := by
  rcases (show u = 0 ∨ u = 1 ∨ u = 2 ∨ u = 3 ∨ u = 4 ∨ u = 5 by omega) with rfl | rfl | rfl | rfl | rfl | rfl <;> rcases (show w = 0 ∨ w = 1 ∨ w = 2 ∨ w = 3 ∨ w = 4 ∨ w = 5 by omega) with rfl | rfl | rfl | rfl | rfl | rfl <;> rfl
theorem taken_s (hn : 600 < n) (h : Re n V C S z b σ μ) (a1 a2 : Int32) : Go n V C z b σ μ (f_X5_taken n σ a1 a2) (f_X6_taken n μ a1 a2) := by
  obtain ⟨hB, hN, hx, hm, TX, TM, cx, cm, hC, hr, -⟩ := id h
  have hP5 := hB.2.2.2.2.2.2.2.1
  unfold f_X5_taken f_X6_taken
  rcases rng a2 (lo := 0) (hi := 5) (by decide) (by decide) with ⟨w, -, hw, rfl, g4, g5⟩ | ⟨-, g4, g5⟩
  case inr =>
    rw [show f_X5_within σ a2 (0 : Int32) (5 : Int32) = _ from g4 σ, show f_X6_in μ a2.toInt64 (0 : Int64) (5 : Int64) = _ from g5 μ, bc_s, bc_s, if_pos rfl, if_pos rfl]
    exact Go.same h _ rfl rfl
  rw [show f_X5_within σ (nI w) (0 : Int32) (5 : Int32) = _ from g4 σ, show f_X6_in μ (nI w).toInt64 (0 : Int64) (5 : Int64) = _ from g5 μ, bc_s, bc_s, if_neg (show ¬ (1 : Int32) = 0 by decide), if_neg (show ¬ (1 : Int32) = 0 by decide)]
  rcases one2 a1 hB with ⟨p, hp, rfl, h3, h4⟩ | ⟨-, h3, h4⟩
  case inr =>
    rw [h3 0 σ hx, h4 μ hm, bc_s, bc_s, if_pos rfl, if_pos rfl]
    exact Go.same h _ rfl rfl
  have hK : S.kd p ≤ 5 := hB.2.2.2.2.2.2.2.2.2.2.2.1 p
  obtain ⟨t1, t2⟩ := hx.2.2.2.2.2.2.2.2.2.2.2 p hp
  obtain ⟨m, rfl⟩ : ∃ m, n = m + 8 := ⟨n - 8, by omega⟩
  unfold f_X5_isUnder
  rw [h3 0 σ hx, h4 μ hm, bc_s, bc_s, if_neg (show ¬ (1 : Int32) = 0 by decide), if_neg (show ¬ (1 : Int32) = 0 by decide), gd_h (inb_nI (show p < 5 by omega) (by decide)), nI_clamp (show p < 2 ^ 31 by omega), t1, und_x m σ hK hw, bc_s, gd_h (inb_nI (show p < 5 by omega) (by decide)), t2, kd_m hB hm hp, und_m m μ (nI p) hK hw, x3, gd_h (inb_nI (show 3 * p < 15 by omega) (by decide)), nI_clamp (show 3 * p < 2 ^ 31 by omega), (fr_m hm hp).1]
  cases und (S.kd p) w
  · exact Go.same h _ rfl rfl
  · exact Go.same h _ rfl rfl
end K

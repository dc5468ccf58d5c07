/-! set on both sides (laid by lay_set.py) -/
section K
variable {n d C z : Nat} {V : Tx} {b : Nat → Nat} {S : Sk} {σ : Gm} {μ : Wm}
def most (w : Nat) : Nat := if w = 2 ∨ w = 7 then 1 else if w = 5 then 99 else if w = 6 then 9 else 999
theorem mo_x {w : Nat} (hw : w ≤ 7) : f_X5_mostOf σ (nI w) = some (nI (most w), σ) := by
  unfold f_X5_mostOf
  rcases (show w = 0 ∨ w = 1 ∨ w = 2 ∨ w = 3 ∨ w = 4 ∨ w = 5 ∨ w = 6 ∨ w = 7 by omega) with rfl | rfl | rfl | rfl | rfl | rfl | rfl | rfl
  · rw [if_pos (show nI 0 = (0 : Int32) from rfl)]
    rfl
  · rw [if_neg (show ¬ nI 1 = (0 : Int32) by decide), if_neg (show ¬ nI 1 = (2 : Int32) by decide), if_neg (show ¬ nI 1 = (5 : Int32) by decide), if_neg (show ¬ nI 1 = (6 : Int32) by decide), if_neg (show ¬ nI 1 = (7 : Int32) by decide)]
    rfl
  · rw [if_neg (show ¬ nI 2 = (0 : Int32) by decide), if_pos (show nI 2 = (2 : Int32) from rfl)]
    rfl
  · rw [if_neg (show ¬ nI 3 = (0 : Int32) by decide), if_neg (show ¬ nI 3 = (2 : Int32) by decide), if_neg (show ¬ nI 3 = (5 : Int32) by decide), if_neg (show ¬ nI 3 = (6 : Int32) by decide), if_neg (show ¬ nI 3 = (7 : Int32) by decide)]
    rfl
  · rw [if_neg (show ¬ nI 4 = (0 : Int32) by decide), if_neg (show ¬ nI 4 = (2 : Int32) by decide), if_neg (show ¬ nI 4 = (5 : Int32) by decide), if_neg (show ¬ nI 4 = (6 : Int32) by decide), if_neg (show ¬ nI 4 = (7 : Int32) by decide)]
    rfl
  · rw [if_neg (show ¬ nI 5 = (0 : Int32) by decide), if_neg (show ¬ nI 5 = (2 : Int32) by decide), if_pos (show nI 5 = (5 : Int32) from rfl)]
    rfl
  · rw [if_neg (show ¬ nI 6 = (0 : Int32) by decide), if_neg (show ¬ nI 6 = (2 : Int32) by decide), if_neg (show ¬ nI 6 = (5 : Int32) by decide), if_pos (show nI 6 = (6 : Int32) from rfl)]
    rfl
  · rw [if_neg (show ¬ nI 7 = (0 : Int32) by decide), if_neg (show ¬ nI 7 = (2 : Int32) by decide), if_neg (show ¬ nI 7 = (5 : Int32) by decide), if_neg (show ¬ nI 7 = (6 : Int32) by decide), if_pos (show nI 7 = (7 : Int32) from rfl)]
    rfl
theorem mo_m {w : Nat} (hw : w ≤ 7) : f_X6_mostOf μ (nI w) = some (nI (most w), μ) := by
  unfold f_X6_mostOf
  rcases (show w = 0 ∨ w = 1 ∨ w = 2 ∨ w = 3 ∨ w = 4 ∨ w = 5 ∨ w = 6 ∨ w = 7 by omega) with rfl | rfl | rfl | rfl | rfl | rfl | rfl | rfl
  · rw [if_neg (show ¬ nI 0 = (2 : Int32) by decide), if_neg (show ¬ nI 0 = (7 : Int32) by decide), if_neg (show ¬ nI 0 = (5 : Int32) by decide), if_neg (show ¬ nI 0 = (6 : Int32) by decide)]
    rfl
  · rw [if_neg (show ¬ nI 1 = (2 : Int32) by decide), if_neg (show ¬ nI 1 = (7 : Int32) by decide), if_neg (show ¬ nI 1 = (5 : Int32) by decide), if_neg (show ¬ nI 1 = (6 : Int32) by decide)]
    rfl
  · rw [if_pos (show nI 2 = (2 : Int32) from rfl)]
    rfl
  · rw [if_neg (show ¬ nI 3 = (2 : Int32) by decide), if_neg (show ¬ nI 3 = (7 : Int32) by decide), if_neg (show ¬ nI 3 = (5 : Int32) by decide), if_neg (show ¬ nI 3 = (6 : Int32) by decide)]
    rfl
  · rw [if_neg (show ¬ nI 4 = (2 : Int32) by decide), if_neg (show ¬ nI 4 = (7 : Int32) by decide), if_neg (show ¬ nI 4 = (5 : Int32) by decide), if_neg (show ¬ nI 4 = (6 : Int32) by decide)]
    rfl
  · rw [if_neg (show ¬ nI 5 = (2 : Int32) by decide), if_neg (show ¬ nI 5 = (7 : Int32) by decide), if_pos (show nI 5 = (5 : Int32) from rfl)]
    rfl
  · rw [if_neg (show ¬ nI 6 = (2 : Int32) by decide), if_neg (show ¬ nI 6 = (7 : Int32) by decide), if_neg (show ¬ nI 6 = (5 : Int32) by decide), if_pos (show nI 6 = (6 : Int32) from rfl)]
    rfl
  · rw [if_neg (show ¬ nI 7 = (2 : Int32) by decide), if_pos (show nI 7 = (7 : Int32) from rfl)]
    rfl
theorem put_s (hB : SkB S) (hN : S.nt ≤ 999) (hx : SkX 0 S σ) (hm : SkM S μ) {a : Int32} {w v : Nat} (hw : w ≤ 7) (hv : v ≤ most w) (hT : kT w = true → ∃ i, i < S.T ∧ a = nI i) (hO : kO w = true → ∃ i, i < S.P ∧ a = nI i) : ∃ σ' μ' S', f_X3_become 0 σ (nI w) a (nI v) = some ((), σ') ∧ f_X6_lays μ (nI w) a (nI v) = some ((), μ') ∧ SkB S' ∧ S'.nt ≤ 999 ∧ SkX 0 S' σ' ∧ SkM S' μ' ∧ S'.ru = S.ru ∧ (∀ c k j, ¬ ((13 ≤ c ∧ c ≤ 17) ∧ k = 0) → σ' c k j = σ c k j) ∧ (∀ c k j, ¬ ((c = 7 ∨ c = 8 ∨ c = 9) ∧ k = 0) → μ'.1 c k j = μ.1 c k j) := by
  have hT8 := hB.2.2.2.2.2.2.1
  have hP5 := hB.2.2.2.2.2.2.2.1
  unfold f_X3_become f_X6_lays
  rcases (show w = 0 ∨ w = 1 ∨ w = 2 ∨ w = 3 ∨ w = 4 ∨ w = 5 ∨ w = 6 ∨ w = 7 by omega) with rfl | rfl | rfl | rfl | rfl | rfl | rfl | rfl
  · rw [if_pos (show nI 0 = (0 : Int32) from rfl), if_neg (show ¬ (5 : Int32) ≤ nI 0 by decide), gd_h (by decide), bv_e, bv_e, show (nI 0).toNatClampNeg = 0 by decide]
    exact ⟨_, _, upS S 0 0 v, rfl, rfl, hB.up (Nat.le_trans hv (by decide)), show Sk.nt (upS S 0 0 v) ≤ 999 from by rw [show Sk.nt (upS S 0 0 v) = v from upS_at S 0 0 v]; exact hv, hx.up5 (j := 0) (by decide), hm.up7 (j := 0) (by decide), upS_of (by omega), fun c k j q => up3_of (by omega), fun c k j q => u1_of (by omega)⟩
  · rw [if_neg (show ¬ nI 1 = (0 : Int32) by decide), if_pos (show nI 1 = (1 : Int32) from rfl), if_neg (show ¬ (5 : Int32) ≤ nI 1 by decide), gd_h (by decide), bv_e, bv_e, show (nI 1).toNatClampNeg = 1 by decide]
    exact ⟨_, _, upS S 0 1 v, rfl, rfl, hB.up (Nat.le_trans hv (by decide)), show Sk.nt (upS S 0 1 v) ≤ 999 from by rw [show Sk.nt (upS S 0 1 v) = S.nt from upS_of (by omega)]; exact hN, hx.up5 (j := 1) (by decide), hm.up7 (j := 1) (by decide), upS_of (by omega), fun c k j q => up3_of (by omega), fun c k j q => u1_of (by omega)⟩
  · rw [if_neg (show ¬ nI 2 = (0 : Int32) by decide), if_neg (show ¬ nI 2 = (1 : Int32) by decide), if_pos (show nI 2 = (2 : Int32) from rfl), if_neg (show ¬ (5 : Int32) ≤ nI 2 by decide), gd_h (by decide), bv_e, bv_e, show (nI 2).toNatClampNeg = 2 by decide]
    exact ⟨_, _, upS S 0 2 v, rfl, rfl, hB.up (Nat.le_trans hv (by decide)), show Sk.nt (upS S 0 2 v) ≤ 999 from by rw [show Sk.nt (upS S 0 2 v) = S.nt from upS_of (by omega)]; exact hN, hx.up5 (j := 2) (by decide), hm.up7 (j := 2) (by decide), upS_of (by omega), fun c k j q => up3_of (by omega), fun c k j q => u1_of (by omega)⟩
  · rw [if_neg (show ¬ nI 3 = (0 : Int32) by decide), if_neg (show ¬ nI 3 = (1 : Int32) by decide), if_neg (show ¬ nI 3 = (2 : Int32) by decide), if_pos (show nI 3 = (3 : Int32) from rfl), if_neg (show ¬ (5 : Int32) ≤ nI 3 by decide), gd_h (by decide), bv_e, bv_e, show (nI 3).toNatClampNeg = 3 by decide]
    exact ⟨_, _, upS S 0 3 v, rfl, rfl, hB.up (Nat.le_trans hv (by decide)), show Sk.nt (upS S 0 3 v) ≤ 999 from by rw [show Sk.nt (upS S 0 3 v) = S.nt from upS_of (by omega)]; exact hN, hx.up5 (j := 3) (by decide), hm.up7 (j := 3) (by decide), upS_of (by omega), fun c k j q => up3_of (by omega), fun c k j q => u1_of (by omega)⟩
  · rw [if_neg (show ¬ nI 4 = (0 : Int32) by decide), if_neg (show ¬ nI 4 = (1 : Int32) by decide), if_neg (show ¬ nI 4 = (2 : Int32) by decide), if_neg (show ¬ nI 4 = (3 : Int32) by decide), if_pos (show nI 4 = (4 : Int32) from rfl), if_neg (show ¬ (5 : Int32) ≤ nI 4 by decide), gd_h (by decide), bv_e, bv_e, show (nI 4).toNatClampNeg = 4 by decide]
    exact ⟨_, _, upS S 0 4 v, rfl, rfl, hB.up (Nat.le_trans hv (by decide)), show Sk.nt (upS S 0 4 v) ≤ 999 from by rw [show Sk.nt (upS S 0 4 v) = S.nt from upS_of (by omega)]; exact hN, hx.up5 (j := 4) (by decide), hm.up7 (j := 4) (by decide), upS_of (by omega), fun c k j q => up3_of (by omega), fun c k j q => u1_of (by omega)⟩
  · obtain ⟨i, hi, rfl⟩ := hT rfl
    rw [if_neg (show ¬ nI 5 = (0 : Int32) by decide), if_neg (show ¬ nI 5 = (1 : Int32) by decide), if_neg (show ¬ nI 5 = (2 : Int32) by decide), if_neg (show ¬ nI 5 = (3 : Int32) by decide), if_neg (show ¬ nI 5 = (4 : Int32) by decide), if_pos (show nI 5 = (5 : Int32) from rfl), gd_h (inb_nI (show i < 8 by omega) (by decide)), nI_clamp (show i < 2 ^ 31 by omega), if_pos (show (5 : Int32) ≤ nI 5 by decide), if_pos (show nI 5 = (5 : Int32) from rfl), x3, gd_h (inb_nI (show 3 * i < 24 by omega) (by decide)), nI_clamp (show 3 * i < 2 ^ 31 by omega), bv_e, bv_e]
    exact ⟨_, _, upS S 2 i v, rfl, rfl, hB.up hv, show Sk.nt (upS S 2 i v) ≤ 999 from by rw [show Sk.nt (upS S 2 i v) = S.nt from upS_of (by omega)]; exact hN, hx.upRd, hm.upRd, upS_of (by omega), fun c k j q => up3_of (by omega), fun c k j q => u1_of (by omega)⟩
  · obtain ⟨i, hi, rfl⟩ := hO rfl
    rw [if_neg (show ¬ nI 6 = (0 : Int32) by decide), if_neg (show ¬ nI 6 = (1 : Int32) by decide), if_neg (show ¬ nI 6 = (2 : Int32) by decide), if_neg (show ¬ nI 6 = (3 : Int32) by decide), if_neg (show ¬ nI 6 = (4 : Int32) by decide), if_neg (show ¬ nI 6 = (5 : Int32) by decide), if_pos (show nI 6 = (6 : Int32) from rfl), gd_h (inb_nI (show i < 5 by omega) (by decide)), nI_clamp (show i < 2 ^ 31 by omega), if_pos (show (5 : Int32) ≤ nI 6 by decide), if_neg (show ¬ nI 6 = (5 : Int32) by decide), if_neg (show ¬ (8 : Int32) ≤ nI 6 by decide), show (3 : Int32) * nI i + nI 6 - (6 : Int32) = nI (3 * i + 0) from by rw [x3, nI_add]; exact pk_sub (show 6 ≤ 3 * i + 6 by omega), gd_h (inb_nI (show 3 * i + 0 < 15 by omega) (by decide)), nI_clamp (show 3 * i + 0 < 2 ^ 31 by omega), bv_e, bv_e]
    exact ⟨_, _, upS S 5 i v, rfl, rfl, hB.up hv, show Sk.nt (upS S 5 i v) ≤ 999 from by rw [show Sk.nt (upS S 5 i v) = S.nt from upS_of (by omega)]; exact hN, hx.upNb, hm.upNb, upS_of (by omega), fun c k j q => up3_of (by omega), fun c k j q => u1_of (by omega)⟩
  · obtain ⟨i, hi, rfl⟩ := hO rfl
    unfold f_X3_becomeAsked
    rw [if_neg (show ¬ nI 7 = (0 : Int32) by decide), if_neg (show ¬ nI 7 = (1 : Int32) by decide), if_neg (show ¬ nI 7 = (2 : Int32) by decide), if_neg (show ¬ nI 7 = (3 : Int32) by decide), if_neg (show ¬ nI 7 = (4 : Int32) by decide), if_neg (show ¬ nI 7 = (5 : Int32) by decide), if_neg (show ¬ nI 7 = (6 : Int32) by decide), if_pos (show (5 : Int32) ≤ nI 7 by decide), if_neg (show ¬ nI 7 = (5 : Int32) by decide), if_neg (show ¬ (8 : Int32) ≤ nI 7 by decide), show (3 : Int32) * nI i + nI 7 - (6 : Int32) = nI (3 * i + 1) from by rw [x3, nI_add]; exact pk_sub (show 6 ≤ 3 * i + 7 by omega), gd_h (inb_nI (show 3 * i + 1 < 15 by omega) (by decide)), nI_clamp (show 3 * i + 1 < 2 ^ 31 by omega), bv_e, bv_e, bc_s]
    exact ⟨_, _, upS S 6 i v, rfl, rfl, hB.up hv, show Sk.nt (upS S 6 i v) ≤ 999 from by rw [show Sk.nt (upS S 6 i v) = S.nt from upS_of (by omega)]; exact hN, hx.upAk hB hi hv, hm.upAk, upS_of (by omega), fun c k j q => up3_of (by omega), fun c k j q => u1_of (by omega)⟩
theorem set_s (hn : 600 < n) (hR : RuX n V C) (h : Re n V C S z b σ μ) (a1 a2 a3 : Int32) : Go n V C z b σ μ (f_X5_set n σ a1 a2 a3) (f_X6_set n μ a1 a2 a3) := by
  obtain ⟨hB, hN, hx, hm, TX, TM, cx, cm, hC, hr, -⟩ := id h
  unfold f_X5_set f_X6_set
  rcases rng a1 (lo := 0) (hi := 7) (by decide) (by decide) with ⟨w, -, hw, rfl, -, g5⟩ | ⟨hno, -, g5⟩
  case inr =>
    rw [show f_X6_in μ a1.toInt64 (0 : Int64) (7 : Int64) = _ from g5 μ, bc_s, if_pos rfl]
    rcases out_of (by decide) hno with g | g
    · rw [if_pos g]
      exact Go.same h _ rfl rfl
    · rw [if_pos (show (7 : Int32) < a1 from g)]
      by_cases q : a1 < 0
      · rw [if_pos q]
        exact Go.same h _ rfl rfl
      · rw [if_neg q]
        exact Go.same h _ rfl rfl
  rw [show f_X6_in μ (nI w).toInt64 (0 : Int64) (7 : Int64) = _ from g5 μ, bc_s, if_neg (show ¬ (1 : Int32) = 0 by decide), if_neg (show ¬ nI w < 0 from nI_pos (by omega)), if_neg (show ¬ (7 : Int32) < nI w from nI_nlt (show w ≤ 7 from hw) (by decide))]
  rcases know2 hB hx hm a2 (show w ≤ 16 by omega) with ⟨k1, k2, k3, k4⟩ | ⟨k1, k2⟩
  case inr =>
    rw [k1, k2, bc_s, bc_s, if_pos rfl, if_pos rfl]
    exact Go.same h _ rfl rfl
  have hmo : most w < 2 ^ 31 := by
    unfold most
    split
    · decide
    · split
      · decide
      · split <;> decide
  rw [k1, k2, bc_s, bc_s, if_neg (show ¬ (1 : Int32) = 0 by decide), if_neg (show ¬ (1 : Int32) = 0 by decide), mo_x hw, mo_m hw, bc_s, bc_s, nI_l hmo]
  rcases rng a3 (lo := 0) (hi := most w) (by decide) hmo with ⟨v, -, hv, rfl, g4, g5⟩ | ⟨-, g4, g5⟩
  case inr =>
    rw [show f_X5_within σ a3 (0 : Int32) (nI (most w)) = _ from g4 σ, show f_X6_in μ a3.toInt64 (0 : Int64) (lN (most w)) = _ from g5 μ, bc_s, bc_s, if_pos rfl, if_pos rfl]
    exact Go.same h _ rfl rfl
  rw [show f_X5_within σ (nI v) (0 : Int32) (nI (most w)) = _ from g4 σ, show f_X6_in μ (nI v).toInt64 (0 : Int64) (lN (most w)) = _ from g5 μ, bc_s, bc_s, if_neg (show ¬ (1 : Int32) = 0 by decide), if_neg (show ¬ (1 : Int32) = 0 by decide), told_e, show f_X6_in μ (nI w).toInt64 (0 : Int64) (16 : Int64) = _ from min_t μ (a := 0) (c := 16) (by omega) (by decide) (by decide) (by omega) (by omega), bc_s, if_neg (show ¬ (1 : Int32) = 0 by decide), k2, bc_s, if_neg (show ¬ (1 : Int32) = 0 by decide)]
  obtain ⟨r, σ1, μ1, p1, p2, f1, f2⟩ := tell_s hn hR hB hx hm TX TM hr (show w ≤ 16 by omega) k3 k4
  rw [p1, p2, bc_s, bc_s]
  obtain ⟨σ2, μ2, S', q1, q2, q3, q4, q5, q6, q7, q8, q9⟩ := put_s hB hN (hx.fr f1) (hm.fr f2) hw hv k3 k4
  rw [q1, q2, bc_s, bc_s]
  exact ⟨r, σ2, μ2, S', rfl, rfl, h.mk q3 q4 q5 q6 (by rw [q7]; exact hr) (fun c k j e => (q8 c k j (by omega)).trans (f1 c k j (by omega))) (fun c k j e => (q9 c k j (by omega)).trans (f2 c k j (by omega))), fun c k j e => (q8 c k j (by omega)).trans (f1 c k j (by omega)), fun c k j e => (q9 c k j (by omega)).trans (f2 c k j (by omega))⟩
end K

/-! what is told of a skip, both sides alike (laid by lay_told.py) -/
def toldT (n : Nat) (a1 a2 : Int32) (σ6 : Wm) : Option (Int32 × Wm) := (if (8 : Int32) ≤ a2 then (if (11 : Int32) ≤ a2 then (if (14 : Int32) ≤ a2 then (if a2 = (14 : Int32) then bc (f_X6_fullNow σ6) fun r20 σ21 => some (r20, σ21) else (if a2 = (15 : Int32) then bc (f_X6_roomNow σ6) fun r17 σ18 => some (r17, σ18) else bc (f_X6_leftNow n σ6) fun r14 σ15 => some (r14, σ15))) else (if a2 = (13 : Int32) then bc (f_X6_isComing n σ6 a1) fun r31 σ32 => (if r31 = 0 then some ((0 : Int32), σ32) else some ((1 : Int32), σ32)) else (if a2 = (12 : Int32) then bc (f_X6_throwsOf n σ6 a1 (1 : Int32)) fun r28 σ29 => some (r28, σ29) else bc (f_X6_throwsOf n σ6 a1 (0 : Int32)) fun r25 σ26 => some (r25, σ26)))) else (if (10 : Int32) ≤ a2 then gd (inb (((3 : Int32) * a1) + (2 : Int32)) 15) (some (σ6.1 9 0 (((3 : Int32) * a1) + (2 : Int32)).toNatClampNeg, σ6)) else gd (inb ((((3 : Int32) * a1) + a2) - (7 : Int32)) 24) (some (σ6.1 8 0 ((((3 : Int32) * a1) + a2) - (7 : Int32)).toNatClampNeg, σ6)))) else (if (5 : Int32) ≤ a2 then (if a2 = (5 : Int32) then gd (inb ((3 : Int32) * a1) 24) (some (σ6.1 8 0 ((3 : Int32) * a1).toNatClampNeg, σ6)) else gd (inb ((((3 : Int32) * a1) + a2) - (6 : Int32)) 15) (some (σ6.1 9 0 ((((3 : Int32) * a1) + a2) - (6 : Int32)).toNatClampNeg, σ6))) else gd (inb a2 5) (some (σ6.1 7 0 a2.toNatClampNeg, σ6))))
section K
variable {n d C z : Nat} {V : Tx} {b : Nat → Nat} {S : Sk} {σ : Gm} {μ : Wm}
theorem told_e (a1 a2 : Int32) : f_X6_told n μ a1 a2 = bc (f_X6_in μ a2.toInt64 (0 : Int64) (16 : Int64)) fun r1 σ2 => (if r1 = 0 then some ((-1000 : Int32), σ2) else bc (f_X6_isOf σ2 a2 a1) fun r5 σ6 => (if r5 = 0 then some ((-1000 : Int32), σ6) else toldT n a1 a2 σ6)) := rfl
def kT (w : Nat) : Bool := w == 5 || w == 8 || w == 9
def kO (w : Nat) : Bool := w == 6 || w == 7 || (10 ≤ w && w ≤ 13)
theorem kn_x (k : Nat) (a : Int32) {w : Nat} (hw : w ≤ 16) : f_X3_knows k σ (nI w) a = if kT w then (bc (f_X3_hasThing k σ a) fun r s => gd (zb r) (some (r, s))) else if kO w then (bc (f_X3_hasNeighbour k σ a) fun r s => gd (zb r) (some (r, s))) else some (1, σ) := by
  unfold f_X3_knows
  rcases (show w = 0 ∨ w = 1 ∨ w = 2 ∨ w = 3 ∨ w = 4 ∨ w = 5 ∨ w = 6 ∨ w = 7 ∨ w = 8 ∨ w = 9 ∨ w = 10 ∨ w = 11 ∨ w = 12 ∨ w = 13 ∨ w = 14 ∨ w = 15 ∨ w = 16 by omega) with rfl | rfl | rfl | rfl | rfl | rfl | rfl | rfl | rfl | rfl | rfl | rfl | rfl | rfl | rfl | rfl | rfl
  · rw [if_neg (show ¬ nI 0 = (5 : Int32) by decide), if_neg (show ¬ nI 0 = (6 : Int32) by decide), if_neg (show ¬ nI 0 = (7 : Int32) by decide), if_neg (show ¬ nI 0 = (8 : Int32) by decide), if_neg (show ¬ nI 0 = (9 : Int32) by decide), if_neg (show ¬ nI 0 = (10 : Int32) by decide), if_neg (show ¬ nI 0 = (11 : Int32) by decide), if_neg (show ¬ nI 0 = (12 : Int32) by decide), if_neg (show ¬ nI 0 = (13 : Int32) by decide), if_neg (show ¬ nI 0 < 0 by decide), if_neg (show ¬ (16 : Int32) < nI 0 by decide)]
    rfl
  · rw [if_neg (show ¬ nI 1 = (5 : Int32) by decide), if_neg (show ¬ nI 1 = (6 : Int32) by decide), if_neg (show ¬ nI 1 = (7 : Int32) by decide), if_neg (show ¬ nI 1 = (8 : Int32) by decide), if_neg (show ¬ nI 1 = (9 : Int32) by decide), if_neg (show ¬ nI 1 = (10 : Int32) by decide), if_neg (show ¬ nI 1 = (11 : Int32) by decide), if_neg (show ¬ nI 1 = (12 : Int32) by decide), if_neg (show ¬ nI 1 = (13 : Int32) by decide), if_neg (show ¬ nI 1 < 0 by decide), if_neg (show ¬ (16 : Int32) < nI 1 by decide)]
    rfl
  · rw [if_neg (show ¬ nI 2 = (5 : Int32) by decide), if_neg (show ¬ nI 2 = (6 : Int32) by decide), if_neg (show ¬ nI 2 = (7 : Int32) by decide), if_neg (show ¬ nI 2 = (8 : Int32) by decide), if_neg (show ¬ nI 2 = (9 : Int32) by decide), if_neg (show ¬ nI 2 = (10 : Int32) by decide), if_neg (show ¬ nI 2 = (11 : Int32) by decide), if_neg (show ¬ nI 2 = (12 : Int32) by decide), if_neg (show ¬ nI 2 = (13 : Int32) by decide), if_neg (show ¬ nI 2 < 0 by decide), if_neg (show ¬ (16 : Int32) < nI 2 by decide)]
    rfl
  · rw [if_neg (show ¬ nI 3 = (5 : Int32) by decide), if_neg (show ¬ nI 3 = (6 : Int32) by decide), if_neg (show ¬ nI 3 = (7 : Int32) by decide), if_neg (show ¬ nI 3 = (8 : Int32) by decide), if_neg (show ¬ nI 3 = (9 : Int32) by decide), if_neg (show ¬ nI 3 = (10 : Int32) by decide), if_neg (show ¬ nI 3 = (11 : Int32) by decide), if_neg (show ¬ nI 3 = (12 : Int32) by decide), if_neg (show ¬ nI 3 = (13 : Int32) by decide), if_neg (show ¬ nI 3 < 0 by decide), if_neg (show ¬ (16 : Int32) < nI 3 by decide)]
    rfl
  · rw [if_neg (show ¬ nI 4 = (5 : Int32) by decide), if_neg (show ¬ nI 4 = (6 : Int32) by decide), if_neg (show ¬ nI 4 = (7 : Int32) by decide), if_neg (show ¬ nI 4 = (8 : Int32) by decide), if_neg (show ¬ nI 4 = (9 : Int32) by decide), if_neg (show ¬ nI 4 = (10 : Int32) by decide), if_neg (show ¬ nI 4 = (11 : Int32) by decide), if_neg (show ¬ nI 4 = (12 : Int32) by decide), if_neg (show ¬ nI 4 = (13 : Int32) by decide), if_neg (show ¬ nI 4 < 0 by decide), if_neg (show ¬ (16 : Int32) < nI 4 by decide)]
    rfl
  · rw [if_pos (show nI 5 = (5 : Int32) from rfl)]
    rfl
  · rw [if_neg (show ¬ nI 6 = (5 : Int32) by decide), if_pos (show nI 6 = (6 : Int32) from rfl)]
    rfl
  · rw [if_neg (show ¬ nI 7 = (5 : Int32) by decide), if_neg (show ¬ nI 7 = (6 : Int32) by decide), if_pos (show nI 7 = (7 : Int32) from rfl)]
    rfl
  · rw [if_neg (show ¬ nI 8 = (5 : Int32) by decide), if_neg (show ¬ nI 8 = (6 : Int32) by decide), if_neg (show ¬ nI 8 = (7 : Int32) by decide), if_pos (show nI 8 = (8 : Int32) from rfl)]
    rfl
  · rw [if_neg (show ¬ nI 9 = (5 : Int32) by decide), if_neg (show ¬ nI 9 = (6 : Int32) by decide), if_neg (show ¬ nI 9 = (7 : Int32) by decide), if_neg (show ¬ nI 9 = (8 : Int32) by decide), if_pos (show nI 9 = (9 : Int32) from rfl)]
    rfl
  · rw [if_neg (show ¬ nI 10 = (5 : Int32) by decide), if_neg (show ¬ nI 10 = (6 : Int32) by decide), if_neg (show ¬ nI 10 = (7 : Int32) by decide), if_neg (show ¬ nI 10 = (8 : Int32) by decide), if_neg (show ¬ nI 10 = (9 : Int32) by decide), if_pos (show nI 10 = (10 : Int32) from rfl)]
    rfl
  · rw [if_neg (show ¬ nI 11 = (5 : Int32) by decide), if_neg (show ¬ nI 11 = (6 : Int32) by decide), if_neg (show ¬ nI 11 = (7 : Int32) by decide), if_neg (show ¬ nI 11 = (8 : Int32) by decide), if_neg (show ¬ nI 11 = (9 : Int32) by decide), if_neg (show ¬ nI 11 = (10 : Int32) by decide), if_pos (show nI 11 = (11 : Int32) from rfl)]
    rfl
  · rw [if_neg (show ¬ nI 12 = (5 : Int32) by decide), if_neg (show ¬ nI 12 = (6 : Int32) by decide), if_neg (show ¬ nI 12 = (7 : Int32) by decide), if_neg (show ¬ nI 12 = (8 : Int32) by decide), if_neg (show ¬ nI 12 = (9 : Int32) by decide), if_neg (show ¬ nI 12 = (10 : Int32) by decide), if_neg (show ¬ nI 12 = (11 : Int32) by decide), if_pos (show nI 12 = (12 : Int32) from rfl)]
    rfl
  · rw [if_neg (show ¬ nI 13 = (5 : Int32) by decide), if_neg (show ¬ nI 13 = (6 : Int32) by decide), if_neg (show ¬ nI 13 = (7 : Int32) by decide), if_neg (show ¬ nI 13 = (8 : Int32) by decide), if_neg (show ¬ nI 13 = (9 : Int32) by decide), if_neg (show ¬ nI 13 = (10 : Int32) by decide), if_neg (show ¬ nI 13 = (11 : Int32) by decide), if_neg (show ¬ nI 13 = (12 : Int32) by decide), if_pos (show nI 13 = (13 : Int32) from rfl)]
    rfl
  · rw [if_neg (show ¬ nI 14 = (5 : Int32) by decide), if_neg (show ¬ nI 14 = (6 : Int32) by decide), if_neg (show ¬ nI 14 = (7 : Int32) by decide), if_neg (show ¬ nI 14 = (8 : Int32) by decide), if_neg (show ¬ nI 14 = (9 : Int32) by decide), if_neg (show ¬ nI 14 = (10 : Int32) by decide), if_neg (show ¬ nI 14 = (11 : Int32) by decide), if_neg (show ¬ nI 14 = (12 : Int32) by decide), if_neg (show ¬ nI 14 = (13 : Int32) by decide), if_neg (show ¬ nI 14 < 0 by decide), if_neg (show ¬ (16 : Int32) < nI 14 by decide)]
    rfl
  · rw [if_neg (show ¬ nI 15 = (5 : Int32) by decide), if_neg (show ¬ nI 15 = (6 : Int32) by decide), if_neg (show ¬ nI 15 = (7 : Int32) by decide), if_neg (show ¬ nI 15 = (8 : Int32) by decide), if_neg (show ¬ nI 15 = (9 : Int32) by decide), if_neg (show ¬ nI 15 = (10 : Int32) by decide), if_neg (show ¬ nI 15 = (11 : Int32) by decide), if_neg (show ¬ nI 15 = (12 : Int32) by decide), if_neg (show ¬ nI 15 = (13 : Int32) by decide), if_neg (show ¬ nI 15 < 0 by decide), if_neg (show ¬ (16 : Int32) < nI 15 by decide)]
    rfl
  · rw [if_neg (show ¬ nI 16 = (5 : Int32) by decide), if_neg (show ¬ nI 16 = (6 : Int32) by decide), if_neg (show ¬ nI 16 = (7 : Int32) by decide), if_neg (show ¬ nI 16 = (8 : Int32) by decide), if_neg (show ¬ nI 16 = (9 : Int32) by decide), if_neg (show ¬ nI 16 = (10 : Int32) by decide), if_neg (show ¬ nI 16 = (11 : Int32) by decide), if_neg (show ¬ nI 16 = (12 : Int32) by decide), if_neg (show ¬ nI 16 = (13 : Int32) by decide), if_neg (show ¬ nI 16 < 0 by decide), if_neg (show ¬ (16 : Int32) < nI 16 by decide)]
    rfl
theorem of_m (a : Int32) {w : Nat} (hw : w ≤ 16) : f_X6_isOf μ (nI w) a = if kT w then (bc (f_X6_isThing μ a) fun r s => gd (zb r) (some (r, s))) else if kO w then (bc (f_X6_isOne μ a) fun r s => gd (zb r) (some (r, s))) else some (1, μ) := by
  unfold f_X6_isOf
  rcases (show w = 0 ∨ w = 1 ∨ w = 2 ∨ w = 3 ∨ w = 4 ∨ w = 5 ∨ w = 6 ∨ w = 7 ∨ w = 8 ∨ w = 9 ∨ w = 10 ∨ w = 11 ∨ w = 12 ∨ w = 13 ∨ w = 14 ∨ w = 15 ∨ w = 16 by omega) with rfl | rfl | rfl | rfl | rfl | rfl | rfl | rfl | rfl | rfl | rfl | rfl | rfl | rfl | rfl | rfl | rfl
  · rw [if_pos (show nI 0 < (5 : Int32) by decide)]
    rfl
  · rw [if_pos (show nI 1 < (5 : Int32) by decide)]
    rfl
  · rw [if_pos (show nI 2 < (5 : Int32) by decide)]
    rfl
  · rw [if_pos (show nI 3 < (5 : Int32) by decide)]
    rfl
  · rw [if_pos (show nI 4 < (5 : Int32) by decide)]
    rfl
  · rw [if_neg (show ¬ nI 5 < (5 : Int32) by decide), if_pos (show nI 5 ≤ (13 : Int32) by decide), if_pos (show nI 5 = (5 : Int32) from rfl)]
    rfl
  · rw [if_neg (show ¬ nI 6 < (5 : Int32) by decide), if_pos (show nI 6 ≤ (13 : Int32) by decide), if_neg (show ¬ nI 6 = (5 : Int32) by decide), if_neg (show ¬ nI 6 = (8 : Int32) by decide), if_neg (show ¬ nI 6 = (9 : Int32) by decide)]
    rfl
  · rw [if_neg (show ¬ nI 7 < (5 : Int32) by decide), if_pos (show nI 7 ≤ (13 : Int32) by decide), if_neg (show ¬ nI 7 = (5 : Int32) by decide), if_neg (show ¬ nI 7 = (8 : Int32) by decide), if_neg (show ¬ nI 7 = (9 : Int32) by decide)]
    rfl
  · rw [if_neg (show ¬ nI 8 < (5 : Int32) by decide), if_pos (show nI 8 ≤ (13 : Int32) by decide), if_neg (show ¬ nI 8 = (5 : Int32) by decide), if_pos (show nI 8 = (8 : Int32) from rfl)]
    rfl
  · rw [if_neg (show ¬ nI 9 < (5 : Int32) by decide), if_pos (show nI 9 ≤ (13 : Int32) by decide), if_neg (show ¬ nI 9 = (5 : Int32) by decide), if_neg (show ¬ nI 9 = (8 : Int32) by decide), if_pos (show nI 9 = (9 : Int32) from rfl)]
    rfl
  · rw [if_neg (show ¬ nI 10 < (5 : Int32) by decide), if_pos (show nI 10 ≤ (13 : Int32) by decide), if_neg (show ¬ nI 10 = (5 : Int32) by decide), if_neg (show ¬ nI 10 = (8 : Int32) by decide), if_neg (show ¬ nI 10 = (9 : Int32) by decide)]
    rfl
  · rw [if_neg (show ¬ nI 11 < (5 : Int32) by decide), if_pos (show nI 11 ≤ (13 : Int32) by decide), if_neg (show ¬ nI 11 = (5 : Int32) by decide), if_neg (show ¬ nI 11 = (8 : Int32) by decide), if_neg (show ¬ nI 11 = (9 : Int32) by decide)]
    rfl
  · rw [if_neg (show ¬ nI 12 < (5 : Int32) by decide), if_pos (show nI 12 ≤ (13 : Int32) by decide), if_neg (show ¬ nI 12 = (5 : Int32) by decide), if_neg (show ¬ nI 12 = (8 : Int32) by decide), if_neg (show ¬ nI 12 = (9 : Int32) by decide)]
    rfl
  · rw [if_neg (show ¬ nI 13 < (5 : Int32) by decide), if_pos (show nI 13 ≤ (13 : Int32) by decide), if_neg (show ¬ nI 13 = (5 : Int32) by decide), if_neg (show ¬ nI 13 = (8 : Int32) by decide), if_neg (show ¬ nI 13 = (9 : Int32) by decide)]
    rfl
  · rw [if_neg (show ¬ nI 14 < (5 : Int32) by decide), if_neg (show ¬ nI 14 ≤ (13 : Int32) by decide)]
    rfl
  · rw [if_neg (show ¬ nI 15 < (5 : Int32) by decide), if_neg (show ¬ nI 15 ≤ (13 : Int32) by decide)]
    rfl
  · rw [if_neg (show ¬ nI 16 < (5 : Int32) by decide), if_neg (show ¬ nI 16 ≤ (13 : Int32) by decide)]
    rfl
theorem tell_s (hn : 600 < n) (hR : RuX n V C) (hB : SkB S) (hx : SkX 0 S σ) (hm : SkM S μ) (TX : TxX V C σ) (TM : TxM n V C μ) (hr : S.ru < C) {a : Int32} {w : Nat} (hw : w ≤ 16) (hT : kT w = true → ∃ i, i < S.T ∧ a = nI i) (hO : kO w = true → ∃ i, i < S.P ∧ a = nI i) : ∃ r σ' μ', f_X3_amount n 0 σ (nI w) a = some (r, σ') ∧ toldT n a (nI w) μ = some (r, μ') ∧ FrN σ σ' ∧ FrW μ μ' := by
  unfold f_X3_amount toldT
  rcases (show w = 0 ∨ w = 1 ∨ w = 2 ∨ w = 3 ∨ w = 4 ∨ w = 5 ∨ w = 6 ∨ w = 7 ∨ w = 8 ∨ w = 9 ∨ w = 10 ∨ w = 11 ∨ w = 12 ∨ w = 13 ∨ w = 14 ∨ w = 15 ∨ w = 16 by omega) with rfl | rfl | rfl | rfl | rfl | rfl | rfl | rfl | rfl | rfl | rfl | rfl | rfl | rfl | rfl | rfl | rfl
  · rw [if_pos (show nI 0 = (0 : Int32) from rfl), if_neg (show ¬ (8 : Int32) ≤ nI 0 by decide), if_neg (show ¬ (5 : Int32) ≤ nI 0 by decide), gd_h (by decide), show (nI 0).toNatClampNeg = 0 by decide, hx.1, sk5 hm (show 0 < 5 by decide)]
    exact ⟨_, σ, μ, rfl, rfl, FrN.rf σ, FrW.rf μ⟩
  · rw [if_neg (show ¬ nI 1 = (0 : Int32) by decide), if_pos (show nI 1 = (1 : Int32) from rfl), if_neg (show ¬ (8 : Int32) ≤ nI 1 by decide), if_neg (show ¬ (5 : Int32) ≤ nI 1 by decide), gd_h (by decide), show (nI 1).toNatClampNeg = 1 by decide, hx.2.1, sk5 hm (show 1 < 5 by decide)]
    exact ⟨_, σ, μ, rfl, rfl, FrN.rf σ, FrW.rf μ⟩
  · rw [if_neg (show ¬ nI 2 = (0 : Int32) by decide), if_neg (show ¬ nI 2 = (1 : Int32) by decide), if_pos (show nI 2 = (2 : Int32) from rfl), if_neg (show ¬ (8 : Int32) ≤ nI 2 by decide), if_neg (show ¬ (5 : Int32) ≤ nI 2 by decide), gd_h (by decide), show (nI 2).toNatClampNeg = 2 by decide, hx.2.2.1, sk5 hm (show 2 < 5 by decide)]
    exact ⟨_, σ, μ, rfl, rfl, FrN.rf σ, FrW.rf μ⟩
  · rw [if_neg (show ¬ nI 3 = (0 : Int32) by decide), if_neg (show ¬ nI 3 = (1 : Int32) by decide), if_neg (show ¬ nI 3 = (2 : Int32) by decide), if_pos (show nI 3 = (3 : Int32) from rfl), if_neg (show ¬ (8 : Int32) ≤ nI 3 by decide), if_neg (show ¬ (5 : Int32) ≤ nI 3 by decide), gd_h (by decide), show (nI 3).toNatClampNeg = 3 by decide, hx.2.2.2.1, sk5 hm (show 3 < 5 by decide)]
    exact ⟨_, σ, μ, rfl, rfl, FrN.rf σ, FrW.rf μ⟩
  · rw [if_neg (show ¬ nI 4 = (0 : Int32) by decide), if_neg (show ¬ nI 4 = (1 : Int32) by decide), if_neg (show ¬ nI 4 = (2 : Int32) by decide), if_neg (show ¬ nI 4 = (3 : Int32) by decide), if_pos (show nI 4 = (4 : Int32) from rfl), if_neg (show ¬ (8 : Int32) ≤ nI 4 by decide), if_neg (show ¬ (5 : Int32) ≤ nI 4 by decide), gd_h (by decide), show (nI 4).toNatClampNeg = 4 by decide, hx.2.2.2.2.1, sk5 hm (show 4 < 5 by decide)]
    exact ⟨_, σ, μ, rfl, rfl, FrN.rf σ, FrW.rf μ⟩
  · obtain ⟨i, hi, rfl⟩ := hT rfl
    have hT8 := hB.2.2.2.2.2.2.1
    obtain ⟨r1, r2, r3⟩ := hm.2.2.2.2.2.2.2.2.1 i hi
    have hI := hB.2.2.2.2.2.2.2.2.2.2.1 i
    rw [if_neg (show ¬ nI 5 = (0 : Int32) by decide), if_neg (show ¬ nI 5 = (1 : Int32) by decide), if_neg (show ¬ nI 5 = (2 : Int32) by decide), if_neg (show ¬ nI 5 = (3 : Int32) by decide), if_neg (show ¬ nI 5 = (4 : Int32) by decide), if_pos (show nI 5 = (5 : Int32) from rfl), if_neg (show ¬ (8 : Int32) ≤ nI 5 by decide), if_pos (show (5 : Int32) ≤ nI 5 by decide), if_pos (show nI 5 = (5 : Int32) from rfl), gd_h (inb_nI (show i < 8 by omega) (by decide)), nI_clamp (show i < 2 ^ 31 by omega), (hx.2.2.2.2.2.2.2.2.2.2.1 i hi).2, x3, gd_h (inb_nI (show 3 * i < 24 by omega) (by decide)), nI_clamp (show 3 * i < 2 ^ 31 by omega), r1]
    exact ⟨_, σ, μ, rfl, rfl, FrN.rf σ, FrW.rf μ⟩
  · obtain ⟨i, hi, rfl⟩ := hO rfl
    have hP5 := hB.2.2.2.2.2.2.2.1
    obtain ⟨r1, r2, r3⟩ := fr_m hm hi
    obtain ⟨t1, t2⟩ := hx.2.2.2.2.2.2.2.2.2.2.2 i hi
    have hA := hB.2.2.2.2.2.2.2.2.2.2.2.2.2 i
    rw [if_neg (show ¬ nI 6 = (0 : Int32) by decide), if_neg (show ¬ nI 6 = (1 : Int32) by decide), if_neg (show ¬ nI 6 = (2 : Int32) by decide), if_neg (show ¬ nI 6 = (3 : Int32) by decide), if_neg (show ¬ nI 6 = (4 : Int32) by decide), if_neg (show ¬ nI 6 = (5 : Int32) by decide), if_pos (show nI 6 = (6 : Int32) from rfl), if_neg (show ¬ (8 : Int32) ≤ nI 6 by decide), if_pos (show (5 : Int32) ≤ nI 6 by decide), if_neg (show ¬ nI 6 = (5 : Int32) by decide), gd_h (inb_nI (show i < 5 by omega) (by decide)), nI_clamp (show i < 2 ^ 31 by omega), t2, show (3 : Int32) * nI i + nI 6 - (6 : Int32) = nI (3 * i + 0) from by rw [x3, nI_add]; exact pk_sub (show 6 ≤ 3 * i + 6 by omega), gd_h (inb_nI (show 3 * i + 0 < 15 by omega) (by decide)), nI_clamp (show 3 * i + 0 < 2 ^ 31 by omega), show μ.1 9 0 (3 * i + 0) = _ from r1]
    exact ⟨_, σ, μ, rfl, rfl, FrN.rf σ, FrW.rf μ⟩
  · obtain ⟨i, hi, rfl⟩ := hO rfl
    have hP5 := hB.2.2.2.2.2.2.2.1
    obtain ⟨r1, r2, r3⟩ := fr_m hm hi
    obtain ⟨t1, t2⟩ := hx.2.2.2.2.2.2.2.2.2.2.2 i hi
    have hA := hB.2.2.2.2.2.2.2.2.2.2.2.2.2 i
    rw [if_neg (show ¬ nI 7 = (0 : Int32) by decide), if_neg (show ¬ nI 7 = (1 : Int32) by decide), if_neg (show ¬ nI 7 = (2 : Int32) by decide), if_neg (show ¬ nI 7 = (3 : Int32) by decide), if_neg (show ¬ nI 7 = (4 : Int32) by decide), if_neg (show ¬ nI 7 = (5 : Int32) by decide), if_neg (show ¬ nI 7 = (6 : Int32) by decide), if_pos (show nI 7 = (7 : Int32) from rfl), if_neg (show ¬ (8 : Int32) ≤ nI 7 by decide), if_pos (show (5 : Int32) ≤ nI 7 by decide), if_neg (show ¬ nI 7 = (5 : Int32) by decide), ak_x hB hx hi, bc_s, show (3 : Int32) * nI i + nI 7 - (6 : Int32) = nI (3 * i + 1) from by rw [x3, nI_add]; exact pk_sub (show 6 ≤ 3 * i + 7 by omega), gd_h (inb_nI (show 3 * i + 1 < 15 by omega) (by decide)), nI_clamp (show 3 * i + 1 < 2 ^ 31 by omega), show μ.1 9 0 (3 * i + 1) = _ from r2]
    refine ⟨nI (S.ak i), σ, μ, ?_, rfl, FrN.rf σ, FrW.rf μ⟩
    rcases (show S.ak i = 0 ∨ S.ak i = 1 by omega) with g | g <;> rw [g] <;> rfl
  · obtain ⟨i, hi, rfl⟩ := hT rfl
    have hT8 := hB.2.2.2.2.2.2.1
    obtain ⟨r1, r2, r3⟩ := hm.2.2.2.2.2.2.2.2.1 i hi
    have hI := hB.2.2.2.2.2.2.2.2.2.2.1 i
    rw [if_neg (show ¬ nI 8 = (0 : Int32) by decide), if_neg (show ¬ nI 8 = (1 : Int32) by decide), if_neg (show ¬ nI 8 = (2 : Int32) by decide), if_neg (show ¬ nI 8 = (3 : Int32) by decide), if_neg (show ¬ nI 8 = (4 : Int32) by decide), if_neg (show ¬ nI 8 = (5 : Int32) by decide), if_neg (show ¬ nI 8 = (6 : Int32) by decide), if_neg (show ¬ nI 8 = (7 : Int32) by decide), if_pos (show nI 8 = (8 : Int32) from rfl), if_pos (show (8 : Int32) ≤ nI 8 by decide), if_neg (show ¬ (11 : Int32) ≤ nI 8 by decide), if_neg (show ¬ (10 : Int32) ≤ nI 8 by decide), gd_h (inb_nI (show i < 8 by omega) (by decide)), nI_clamp (show i < 2 ^ 31 by omega), (hx.2.2.2.2.2.2.2.2.2.2.1 i hi).1, show (3 : Int32) * nI i + nI 8 - (7 : Int32) = nI (3 * i + 1) from by rw [x3, nI_add]; exact pk_sub (show 7 ≤ 3 * i + 8 by omega), gd_h (inb_nI (show 3 * i + 1 < 24 by omega) (by decide)), nI_clamp (show 3 * i + 1 < 2 ^ 31 by omega), r2]
    exact ⟨_, σ, μ, rfl, rfl, FrN.rf σ, FrW.rf μ⟩
  · obtain ⟨i, hi, rfl⟩ := hT rfl
    have hT8 := hB.2.2.2.2.2.2.1
    obtain ⟨r1, r2, r3⟩ := hm.2.2.2.2.2.2.2.2.1 i hi
    have hI := hB.2.2.2.2.2.2.2.2.2.2.1 i
    rw [if_neg (show ¬ nI 9 = (0 : Int32) by decide), if_neg (show ¬ nI 9 = (1 : Int32) by decide), if_neg (show ¬ nI 9 = (2 : Int32) by decide), if_neg (show ¬ nI 9 = (3 : Int32) by decide), if_neg (show ¬ nI 9 = (4 : Int32) by decide), if_neg (show ¬ nI 9 = (5 : Int32) by decide), if_neg (show ¬ nI 9 = (6 : Int32) by decide), if_neg (show ¬ nI 9 = (7 : Int32) by decide), if_neg (show ¬ nI 9 = (8 : Int32) by decide), if_pos (show nI 9 = (9 : Int32) from rfl), if_pos (show (8 : Int32) ≤ nI 9 by decide), if_neg (show ¬ (11 : Int32) ≤ nI 9 by decide), if_neg (show ¬ (10 : Int32) ≤ nI 9 by decide), in_x hB hx hi, bc_s, show (3 : Int32) * nI i + nI 9 - (7 : Int32) = nI (3 * i + 2) from by rw [x3, nI_add]; exact pk_sub (show 7 ≤ 3 * i + 9 by omega), gd_h (inb_nI (show 3 * i + 2 < 24 by omega) (by decide)), nI_clamp (show 3 * i + 2 < 2 ^ 31 by omega), r3]
    refine ⟨nI (S.inn i), σ, μ, ?_, rfl, FrN.rf σ, FrW.rf μ⟩
    rcases (show S.inn i = 0 ∨ S.inn i = 1 by omega) with g | g <;> rw [g] <;> rfl
  · obtain ⟨i, hi, rfl⟩ := hO rfl
    have hP5 := hB.2.2.2.2.2.2.2.1
    obtain ⟨r1, r2, r3⟩ := fr_m hm hi
    obtain ⟨t1, t2⟩ := hx.2.2.2.2.2.2.2.2.2.2.2 i hi
    have hA := hB.2.2.2.2.2.2.2.2.2.2.2.2.2 i
    rw [if_neg (show ¬ nI 10 = (0 : Int32) by decide), if_neg (show ¬ nI 10 = (1 : Int32) by decide), if_neg (show ¬ nI 10 = (2 : Int32) by decide), if_neg (show ¬ nI 10 = (3 : Int32) by decide), if_neg (show ¬ nI 10 = (4 : Int32) by decide), if_neg (show ¬ nI 10 = (5 : Int32) by decide), if_neg (show ¬ nI 10 = (6 : Int32) by decide), if_neg (show ¬ nI 10 = (7 : Int32) by decide), if_neg (show ¬ nI 10 = (8 : Int32) by decide), if_neg (show ¬ nI 10 = (9 : Int32) by decide), if_pos (show nI 10 = (10 : Int32) from rfl), if_pos (show (8 : Int32) ≤ nI 10 by decide), if_neg (show ¬ (11 : Int32) ≤ nI 10 by decide), if_pos (show (10 : Int32) ≤ nI 10 by decide), gd_h (inb_nI (show i < 5 by omega) (by decide)), nI_clamp (show i < 2 ^ 31 by omega), t1, x32, gd_h (inb_nI (show 3 * i + 2 < 15 by omega) (by decide)), nI_clamp (show 3 * i + 2 < 2 ^ 31 by omega), r3]
    exact ⟨_, σ, μ, rfl, rfl, FrN.rf σ, FrW.rf μ⟩
  · obtain ⟨i, hi, rfl⟩ := hO rfl
    have hP5 := hB.2.2.2.2.2.2.2.1
    obtain ⟨r1, r2, r3⟩ := fr_m hm hi
    obtain ⟨t1, t2⟩ := hx.2.2.2.2.2.2.2.2.2.2.2 i hi
    have hA := hB.2.2.2.2.2.2.2.2.2.2.2.2.2 i
    obtain ⟨σ1, p1, p2⟩ := throws_x hR hB hx TX hr hi false
    obtain ⟨μ1, q1, q2⟩ := throws_m hB hm TM hr hi false
    rw [if_neg (show ¬ nI 11 = (0 : Int32) by decide), if_neg (show ¬ nI 11 = (1 : Int32) by decide), if_neg (show ¬ nI 11 = (2 : Int32) by decide), if_neg (show ¬ nI 11 = (3 : Int32) by decide), if_neg (show ¬ nI 11 = (4 : Int32) by decide), if_neg (show ¬ nI 11 = (5 : Int32) by decide), if_neg (show ¬ nI 11 = (6 : Int32) by decide), if_neg (show ¬ nI 11 = (7 : Int32) by decide), if_neg (show ¬ nI 11 = (8 : Int32) by decide), if_neg (show ¬ nI 11 = (9 : Int32) by decide), if_neg (show ¬ nI 11 = (10 : Int32) by decide), if_pos (show nI 11 = (11 : Int32) from rfl), if_pos (show (8 : Int32) ≤ nI 11 by decide), if_pos (show (11 : Int32) ≤ nI 11 by decide), if_neg (show ¬ (14 : Int32) ≤ nI 11 by decide), if_neg (show ¬ nI 11 = (13 : Int32) by decide), if_neg (show ¬ nI 11 = (12 : Int32) by decide), show f_X3_throwing n 0 σ (nI i) (0 : Int32) = _ from p1, show f_X6_throwsOf n μ (nI i) (0 : Int32) = _ from q1, bc_s, bc_s]
    exact ⟨_, σ1, μ1, rfl, rfl, p2, q2⟩
  · obtain ⟨i, hi, rfl⟩ := hO rfl
    have hP5 := hB.2.2.2.2.2.2.2.1
    obtain ⟨r1, r2, r3⟩ := fr_m hm hi
    obtain ⟨t1, t2⟩ := hx.2.2.2.2.2.2.2.2.2.2.2 i hi
    have hA := hB.2.2.2.2.2.2.2.2.2.2.2.2.2 i
    obtain ⟨σ1, p1, p2⟩ := throws_x hR hB hx TX hr hi true
    obtain ⟨μ1, q1, q2⟩ := throws_m hB hm TM hr hi true
    rw [if_neg (show ¬ nI 12 = (0 : Int32) by decide), if_neg (show ¬ nI 12 = (1 : Int32) by decide), if_neg (show ¬ nI 12 = (2 : Int32) by decide), if_neg (show ¬ nI 12 = (3 : Int32) by decide), if_neg (show ¬ nI 12 = (4 : Int32) by decide), if_neg (show ¬ nI 12 = (5 : Int32) by decide), if_neg (show ¬ nI 12 = (6 : Int32) by decide), if_neg (show ¬ nI 12 = (7 : Int32) by decide), if_neg (show ¬ nI 12 = (8 : Int32) by decide), if_neg (show ¬ nI 12 = (9 : Int32) by decide), if_neg (show ¬ nI 12 = (10 : Int32) by decide), if_neg (show ¬ nI 12 = (11 : Int32) by decide), if_pos (show nI 12 = (12 : Int32) from rfl), if_pos (show (8 : Int32) ≤ nI 12 by decide), if_pos (show (11 : Int32) ≤ nI 12 by decide), if_neg (show ¬ (14 : Int32) ≤ nI 12 by decide), if_neg (show ¬ nI 12 = (13 : Int32) by decide), if_pos (show nI 12 = (12 : Int32) from rfl), show f_X3_throwing n 0 σ (nI i) (1 : Int32) = _ from p1, show f_X6_throwsOf n μ (nI i) (1 : Int32) = _ from q1, bc_s, bc_s]
    exact ⟨_, σ1, μ1, rfl, rfl, p2, q2⟩
  · obtain ⟨i, hi, rfl⟩ := hO rfl
    have hP5 := hB.2.2.2.2.2.2.2.1
    obtain ⟨r1, r2, r3⟩ := fr_m hm hi
    obtain ⟨t1, t2⟩ := hx.2.2.2.2.2.2.2.2.2.2.2 i hi
    have hA := hB.2.2.2.2.2.2.2.2.2.2.2.2.2 i
    obtain ⟨σ1, p1, p2⟩ := comes_x hR hB hx TX hr hi
    obtain ⟨μ1, q1, q2⟩ := comes_m hB hm TM hr hi
    rw [if_neg (show ¬ nI 13 = (0 : Int32) by decide), if_neg (show ¬ nI 13 = (1 : Int32) by decide), if_neg (show ¬ nI 13 = (2 : Int32) by decide), if_neg (show ¬ nI 13 = (3 : Int32) by decide), if_neg (show ¬ nI 13 = (4 : Int32) by decide), if_neg (show ¬ nI 13 = (5 : Int32) by decide), if_neg (show ¬ nI 13 = (6 : Int32) by decide), if_neg (show ¬ nI 13 = (7 : Int32) by decide), if_neg (show ¬ nI 13 = (8 : Int32) by decide), if_neg (show ¬ nI 13 = (9 : Int32) by decide), if_neg (show ¬ nI 13 = (10 : Int32) by decide), if_neg (show ¬ nI 13 = (11 : Int32) by decide), if_neg (show ¬ nI 13 = (12 : Int32) by decide), if_pos (show nI 13 = (13 : Int32) from rfl), if_pos (show (8 : Int32) ≤ nI 13 by decide), if_pos (show (11 : Int32) ≤ nI 13 by decide), if_neg (show ¬ (14 : Int32) ≤ nI 13 by decide), if_pos (show nI 13 = (13 : Int32) from rfl), p1, q1, bc_s, bc_s]
    cases comesS V S i
    · exact ⟨0, σ1, μ1, rfl, rfl, p2, q2⟩
    · exact ⟨1, σ1, μ1, rfl, rfl, p2, q2⟩
  · rw [if_neg (show ¬ nI 14 = (0 : Int32) by decide), if_neg (show ¬ nI 14 = (1 : Int32) by decide), if_neg (show ¬ nI 14 = (2 : Int32) by decide), if_neg (show ¬ nI 14 = (3 : Int32) by decide), if_neg (show ¬ nI 14 = (4 : Int32) by decide), if_neg (show ¬ nI 14 = (5 : Int32) by decide), if_neg (show ¬ nI 14 = (6 : Int32) by decide), if_neg (show ¬ nI 14 = (7 : Int32) by decide), if_neg (show ¬ nI 14 = (8 : Int32) by decide), if_neg (show ¬ nI 14 = (9 : Int32) by decide), if_neg (show ¬ nI 14 = (10 : Int32) by decide), if_neg (show ¬ nI 14 = (11 : Int32) by decide), if_neg (show ¬ nI 14 = (12 : Int32) by decide), if_neg (show ¬ nI 14 = (13 : Int32) by decide), if_pos (show nI 14 = (14 : Int32) from rfl), if_pos (show (8 : Int32) ≤ nI 14 by decide), if_pos (show (11 : Int32) ≤ nI 14 by decide), if_pos (show (14 : Int32) ≤ nI 14 by decide), if_pos (show nI 14 = (14 : Int32) from rfl), full_x hx, full_m hm, bc_s, bc_s]
    exact ⟨_, σ, μ, rfl, rfl, FrN.rf σ, FrW.rf μ⟩
  · rw [if_neg (show ¬ nI 15 = (0 : Int32) by decide), if_neg (show ¬ nI 15 = (1 : Int32) by decide), if_neg (show ¬ nI 15 = (2 : Int32) by decide), if_neg (show ¬ nI 15 = (3 : Int32) by decide), if_neg (show ¬ nI 15 = (4 : Int32) by decide), if_neg (show ¬ nI 15 = (5 : Int32) by decide), if_neg (show ¬ nI 15 = (6 : Int32) by decide), if_neg (show ¬ nI 15 = (7 : Int32) by decide), if_neg (show ¬ nI 15 = (8 : Int32) by decide), if_neg (show ¬ nI 15 = (9 : Int32) by decide), if_neg (show ¬ nI 15 = (10 : Int32) by decide), if_neg (show ¬ nI 15 = (11 : Int32) by decide), if_neg (show ¬ nI 15 = (12 : Int32) by decide), if_neg (show ¬ nI 15 = (13 : Int32) by decide), if_neg (show ¬ nI 15 = (14 : Int32) by decide), if_pos (show nI 15 = (15 : Int32) from rfl), if_pos (show (8 : Int32) ≤ nI 15 by decide), if_pos (show (11 : Int32) ≤ nI 15 by decide), if_pos (show (14 : Int32) ≤ nI 15 by decide), if_neg (show ¬ nI 15 = (14 : Int32) by decide), if_pos (show nI 15 = (15 : Int32) from rfl), room_x hB hx, room_m hB hm, bc_s, bc_s]
    exact ⟨_, σ, μ, rfl, rfl, FrN.rf σ, FrW.rf μ⟩
  · rw [if_neg (show ¬ nI 16 = (0 : Int32) by decide), if_neg (show ¬ nI 16 = (1 : Int32) by decide), if_neg (show ¬ nI 16 = (2 : Int32) by decide), if_neg (show ¬ nI 16 = (3 : Int32) by decide), if_neg (show ¬ nI 16 = (4 : Int32) by decide), if_neg (show ¬ nI 16 = (5 : Int32) by decide), if_neg (show ¬ nI 16 = (6 : Int32) by decide), if_neg (show ¬ nI 16 = (7 : Int32) by decide), if_neg (show ¬ nI 16 = (8 : Int32) by decide), if_neg (show ¬ nI 16 = (9 : Int32) by decide), if_neg (show ¬ nI 16 = (10 : Int32) by decide), if_neg (show ¬ nI 16 = (11 : Int32) by decide), if_neg (show ¬ nI 16 = (12 : Int32) by decide), if_neg (show ¬ nI 16 = (13 : Int32) by decide), if_neg (show ¬ nI 16 = (14 : Int32) by decide), if_neg (show ¬ nI 16 = (15 : Int32) by decide), if_pos (show (8 : Int32) ≤ nI 16 by decide), if_pos (show (11 : Int32) ≤ nI 16 by decide), if_pos (show (14 : Int32) ≤ nI 16 by decide), if_neg (show ¬ nI 16 = (14 : Int32) by decide), if_neg (show ¬ nI 16 = (15 : Int32) by decide), left_x hn hB hx, left_m hn hB hm, bc_s, bc_s]
    exact ⟨_, σ, μ, rfl, rfl, FrN.rf σ, FrW.rf μ⟩
end K

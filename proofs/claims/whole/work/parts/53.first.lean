/-! the first text, both sides alike -/
def b0L : List Nat := [116, 104, 114, 111, 119, 115, 32, 57, 32, 59, 32, 99, 111, 109, 101, 115, 32, 49, 32, 59, 32, 112, 97, 121, 115, 32, 49, 32, 59, 32, 32, 32]
def b0 (i : Nat) : Nat := b0L.getD i 0
def s0 : Gm := fun c k j => if c = 2 ∧ k = 0 ∧ j = 1 then 32 else if c = 6 ∧ k = 0 then nI (b0 j) else 0
def r0 : Bool := match f_X1_read 700 100 0 0 s0 with
  | some (f, s) => decide (f = -1) && decide (s 12 0 0 = 1) && decide (s 12 0 1 = 2) && decide (s 12 0 2 = 3) && decide (s 11 0 0 = 9) && decide (s 11 0 1 = 1) && decide (s 11 0 2 = 1)
  | none => false
theorem r0_t : r0 = true := by decide +kernel
def V0 : Tx := fun _ w _ => if w = 0 then 9 else 1
theorem stp_n {ν : Nat → Int32} {s : Int32} (h1 : ¬ s < -6) (h2 : ¬ s < 0) (st : List Int32) (h : st.length ≤ 0) : stp ν s st = some (s :: st) := by
  unfold stp
  rw [if_neg h1, if_pos (show st.length < 32 by omega), if_neg h2]
theorem cd_n {ν row : Nat → Int32} {m : Nat} {s : Int32} (h : row m = s) (h1 : ¬ s < -6) (h2 : ¬ s < 0) : Cd ν row m (m + 1) 0 s := Cd.one h (stp_n h1 h2)
/-- the class's first text -/
theorem first_x {σ : Gm} (h0 : σ 12 0 0 = 1) (h1 : σ 12 0 1 = 2) (h2 : σ 12 0 2 = 3) (g0 : σ 11 0 0 = 9) (g1 : σ 11 0 1 = 1) (g2 : σ 11 0 2 = 1) : TxX V0 1 σ := fun t ht => by
  obtain rfl : t = 0 := by omega
  exact ⟨1, 2, 3, h0, h1, h2, by decide, by decide, by decide, fun ν _ => ⟨cd_n (s := 9) g0 (by decide) (by decide), cd_n (s := 1) g1 (by decide) (by decide), cd_n (s := 1) g2 (by decide) (by decide)⟩⟩
/-- the reference's first text -/
theorem first_r : RdA 700 0 b0 32 (V0 0) := by
  have hb : ∀ i, b0 i < 256 := by
    intro i
    by_cases g : i < 32
    · have key : ∀ i, i < 32 → b0 i < 256 := by decide
      exact key i g
    · have e : b0 i = 0 := by
        unfold b0
        rw [List.getD_eq_getElem?_getD, List.getElem?_eq_none (show b0L.length ≤ i from by rw [show b0L.length = 32 by decide]; omega)]
        rfl
      rw [e]
      decide
  have hin : InX b0 32 s0 := ⟨by decide, fun i hi => rfl⟩
  obtain ⟨f, σ', a1, -, a3⟩ := readAll (n := 700) (d := 100) (C := 0) hb (by decide) (by decide) (by decide) hin (by decide)
  have hr := r0_t
  unfold r0 at hr
  rw [a1] at hr
  simp only [Bool.and_eq_true, decide_eq_true_eq] at hr
  obtain ⟨⟨⟨⟨⟨⟨p0, p1⟩, p2⟩, p3⟩, p4⟩, p5⟩, p6⟩ := hr
  rcases a3 with ⟨q, -⟩ | ⟨-, m1, m2, m3, d1, d2, d3, l1, l2, l3, -, d5⟩
  · exact absurd p0 q
  · obtain rfl : 1 = m1 := nI_inj (by decide) l1 (p1.symm.trans d1)
    obtain rfl : 2 = m2 := nI_inj (by decide) l2 (p2.symm.trans d2)
    obtain rfl : 3 = m3 := nI_inj (by decide) l3 (p3.symm.trans d3)
    intro μ h1 h2 w hw
    obtain ⟨v, μ', s1, s2, -, s4, s5, s6⟩ := d5 μ h1 h2
    have t0 : Cd (Nm μ) (σ' 11 0) 0 1 0 9 := cd_n p4 (by decide) (by decide)
    have t1 : Cd (Nm μ) (σ' 11 0) 1 2 0 1 := cd_n p5 (by decide) (by decide)
    have t2 : Cd (Nm μ) (σ' 11 0) 2 3 0 1 := cd_n p6 (by decide) (by decide)
    refine ⟨μ', ?_, s2⟩
    rw [show f_X6_read 700 μ (nI 0) (nI w) = _ from s1 w hw]
    rcases (show w = 0 ∨ w = 1 ∨ w = 2 by omega) with rfl | rfl | rfl
    · rw [s4, ← t0.vOf]
      rfl
    · rw [s5, ← t1.vOf]
      rfl
    · rw [s6, ← t2.vOf]
      rfl

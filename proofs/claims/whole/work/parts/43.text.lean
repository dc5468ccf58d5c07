/-! a text taken on, both sides alike -/
def tend (n : Nat) (σ : Wm) : Option (Int32 × Wm) := gd (inb (σ.1 0 0 3) 6) (bv ((up3 σ.1 2 0 ((σ.1 0 0 3).toNatClampNeg) (σ.1 0 0 6), σ.2)) fun σ4 => bv ((up3 σ4.1 0 0 6 (0 : Int32), σ4.2)) fun σ5 => bc (f_X6_read n σ5 (σ5.1 0 0 3) (0 : Int32)) fun r6 σ7 => (if (σ7.1 0 0 25) = 0 then bv ((up3 σ7.1 0 0 3 ((σ7.1 0 0 3) + (1 : Int32)), σ7.2)) fun σ10 => some ((σ10.1 0 0 3) - (1 : Int32), σ10) else some ((-100 : Int32) - (σ7.1 0 0 26), σ7)))
def vOf (ν row : Nat → Int32) (m m' : Nat) : Int32 := match runc ν row (m' - m) m [] with
  | some (v :: _) => v
  | _ => 0
theorem Cd.vOf {ν row : Nat → Int32} {m m' : Nat} {v : Int32} (h : Cd ν row m m' 0 v) : v = vOf ν row m m' := by
  have e := h.2 [] (Nat.le_refl 0)
  unfold Jvm.Pilot.@@N@@.vOf
  rw [e]
def atNm (ν : Nat → Int32) (μ : Wm) : Wm := ((fun c k j => if c = 0 ∧ k = 0 ∧ 12 ≤ j ∧ j < 18 then ν (j - 12) else μ.1 c k j), μ.2)
theorem atNm_of {ν : Nat → Int32} {μ : Wm} {c k j : Nat} (h : ¬ (c = 0 ∧ k = 0 ∧ 12 ≤ j ∧ j < 18)) : (atNm ν μ).1 c k j = μ.1 c k j := if_neg h
theorem atNm_Nm {ν : Nat → Int32} (h : ∀ j, 6 ≤ j → ν j = 0) (μ : Wm) : Nm (atNm ν μ) = ν := by
  funext j
  unfold Nm
  by_cases g : j < 6
  · rw [if_pos g]
    refine (if_pos (show 0 = 0 ∧ 0 = 0 ∧ 12 ≤ 12 + j ∧ 12 + j < 18 by omega)).trans ?_
    rw [show 12 + j - 12 = j by omega]
  · rw [if_neg g, h j (by omega)]
section K
variable {n d C z : Nat} {V : Tx} {b : Nat → Nat} {σ : Gm} {μ : Wm}
theorem txtL (hC : C < 6) (hz : z ≤ 160) : ∀ (m i f : Nat) (μ : Wm), μ.1 0 0 6 = nI z → μ.1 0 0 3 = nI C → i + m = z → m < f → ∃ μ1, f_X6_text_L14 n f μ (nI i) = tend n μ1 ∧ (∀ l, i ≤ l → l < z → μ1.1 1 0 (160 * C + l) = μ.1 5 0 l) ∧ (∀ c k j, ¬ (c = 1 ∧ k = 0 ∧ 160 * C + i ≤ j) → μ1.1 c k j = μ.1 c k j)
  | m, i, 0, _, _, _, _, h => by omega
  | 0, i, f + 1, μ, h6, h3, he, _ => by
    unfold f_X6_text_L14
    rw [if_pos (show μ.1 0 0 6 ≤ nI i by rw [h6]; exact nI_le (show z ≤ i by omega) (by omega))]
    exact ⟨μ, rfl, fun l h1 h2 => by omega, fun _ _ _ _ => rfl⟩
  | m + 1, i, f + 1, μ, h6, h3, he, hk => by
    unfold f_X6_text_L14
    rw [if_neg (show ¬ μ.1 0 0 6 ≤ nI i by rw [h6]; exact nI_ge (show i < z by omega) (by omega)), h3, show (160 : Int32) * nI C = nI (160 * C) from pk_mul 160 C, nI_add, gd_h (inb_nI (show i < 160 by omega) (by decide)), gd_h (inb_nI (show 160 * C + i < 960 by omega) (by decide)), nI_clamp (show 160 * C + i < 2 ^ 31 by omega), nI_clamp (show i < 2 ^ 31 by omega), bv_e, nI_1]
    obtain ⟨μ1, a1, a2, a3⟩ := txtL hC hz m (i + 1) f (up3 μ.1 1 0 (160 * C + i) (μ.1 5 0 i), μ.2) ((u1_of (by omega)).trans h6) ((u1_of (by omega)).trans h3) (by omega) (by omega)
    refine ⟨μ1, a1, fun l h1 h2 => ?_, fun c k j q => (a3 c k j (by omega)).trans (u1_of (by omega))⟩
    by_cases e : l = i
    · subst e
      rw [a3 1 0 (160 * C + l) (by omega), u1_at]
    · rw [a2 l (by omega) h2, u1_of (by omega)]
theorem nI_inj {a c : Nat} (ha : a ≤ 160) (hc : c ≤ 160) (h : nI a = nI c) : a = c := (nI_eq (by omega) (by omega)).mp h
/-- what a text that both sides read alike leaves -/
theorem readAll (hb : ∀ i, b i < 256) (hz : z ≤ 160) (hn : 600 < n) (hd : 78 ≤ d) (hin : InX b z σ) (hC : C < 6) : ∃ f σ', f_X1_read n d C C σ = some (f, σ') ∧ FrD C C σ σ' ∧
    ((¬ f = -1 ∧ ∀ μ : Wm, μ.1 2 0 C = nI z → (∀ i, i < z → μ.1 1 0 (160 * C + i) = nI (b i)) → ∃ (v : Int32) (μ' : Wm), f_X6_read n μ (nI C) (0 : Int32) = some (v, μ') ∧ FrQ μ μ' ∧ μ'.1 0 0 25 = 1 ∧ μ'.1 0 0 26 = f) ∨
     (f = -1 ∧ ∃ m1 m2 m3, σ' 12 C 0 = nI m1 ∧ σ' 12 C 1 = nI m2 ∧ σ' 12 C 2 = nI m3 ∧ m1 ≤ 160 ∧ m2 ≤ 160 ∧ m3 ≤ 160 ∧ (∀ ν : Nat → Int32, (∀ j, 6 ≤ j → ν j = 0) → Cd ν (σ' 11 C) 0 m1 0 (vOf ν (σ' 11 C) 0 m1) ∧ Cd ν (σ' 11 C) m1 m2 0 (vOf ν (σ' 11 C) m1 m2) ∧ Cd ν (σ' 11 C) m2 m3 0 (vOf ν (σ' 11 C) m2 m3)) ∧
      ∀ μ : Wm, μ.1 2 0 C = nI z → (∀ i, i < z → μ.1 1 0 (160 * C + i) = nI (b i)) → ∃ (v : Nat → Int32) (μ' : Wm), (∀ w, w < 3 → f_X6_read n μ (nI C) (nI w) = some (v w, μ')) ∧ FrQ μ μ' ∧ μ'.1 0 0 25 = 0 ∧ v 0 = vOf (Nm μ) (σ' 11 C) 0 m1 ∧ v 1 = vOf (Nm μ) (σ' 11 C) m1 m2 ∧ v 2 = vOf (Nm μ) (σ' 11 C) m2 m3)) := by
  let μ0 : Wm := (fun c _ j => if c = 2 then nI z else if c = 1 then nI (b (j - 160 * C)) else 0, 0)
  have k1 : μ0.1 2 0 C = nI z := rfl
  have k2 : ∀ i, i < z → μ0.1 1 0 (160 * C + i) = nI (b i) := fun i _ => by
    show nI (b (160 * C + i - 160 * C)) = nI (b i)
    rw [show 160 * C + i - 160 * C = i by omega]
  obtain ⟨f, σ', μ1, v1, a1, a2, a3, a4, a5⟩ := readP (n := n) (d := d) (k1 := C) (k2 := C) hb hz (by omega) hd hin hC k1 k2
  refine ⟨f, σ', a1, a3, ?_⟩
  have every : ∀ μ : Wm, μ.1 2 0 C = nI z → (∀ i, i < z → μ.1 1 0 (160 * C + i) = nI (b i)) → ∃ (μ' : Wm) (v : Nat → Int32), (∀ w, w < 3 → f_X6_read n μ (nI C) (nI w) = some (v w, μ')) ∧ FrQ μ μ' ∧ RD b z C C (Nm μ) f σ' μ' v := by
    intro μ h1 h2
    obtain ⟨f', σ'', μ', v, b1, b2, b3, b4, b5⟩ := readP (n := n) (d := d) (k1 := C) (k2 := C) hb hz (by omega) hd hin hC h1 h2
    rw [a1] at b1
    injection b1 with b1
    injection b1 with e1 e2
    subst e1
    subst e2
    exact ⟨μ', v, b2, b4, b5⟩
  rcases a5 with ⟨g1, g2, g3⟩ | ⟨g1, g2, m1, m2, m3, e1, e2, e3, hm, c1, c2, c3⟩
  · left
    refine ⟨g1, fun μ h1 h2 => ?_⟩
    obtain ⟨μ', v, b2, b4, b5⟩ := every μ h1 h2
    rcases b5 with ⟨-, q2, q3⟩ | ⟨q1, -⟩
    · exact ⟨v 0, μ', b2 0 (by decide), b4, q2, q3.symm⟩
    · exact absurd q1 g1
  · right
    have l2 : m1 ≤ m2 := c2.1
    have l3 : m2 ≤ m3 := c3.1
    have again : ∀ μ : Wm, μ.1 2 0 C = nI z → (∀ i, i < z → μ.1 1 0 (160 * C + i) = nI (b i)) → ∃ (v : Nat → Int32) (μ' : Wm), (∀ w, w < 3 → f_X6_read n μ (nI C) (nI w) = some (v w, μ')) ∧ FrQ μ μ' ∧ μ'.1 0 0 25 = 0 ∧ Cd (Nm μ) (σ' 11 C) 0 m1 0 (v 0) ∧ Cd (Nm μ) (σ' 11 C) m1 m2 0 (v 1) ∧ Cd (Nm μ) (σ' 11 C) m2 m3 0 (v 2) := by
      intro μ h1 h2
      obtain ⟨μ', v, b2, b4, b5⟩ := every μ h1 h2
      rcases b5 with ⟨q1, -⟩ | ⟨-, q2, n1, n2, n3, d1, d2, d3, dm, p1, p2, p3⟩
      · exact absurd g1 q1
      · have l2' : n1 ≤ n2 := p2.1
        have l3' : n2 ≤ n3 := p3.1
        obtain rfl : m1 = n1 := nI_inj (by omega) (by omega) (e1.symm.trans d1)
        obtain rfl : m2 = n2 := nI_inj (by omega) (by omega) (e2.symm.trans d2)
        obtain rfl : m3 = n3 := nI_inj (by omega) (by omega) (e3.symm.trans d3)
        exact ⟨v, μ', b2, b4, q2, p1, p2, p3⟩
    refine ⟨g1, m1, m2, m3, e1, e2, e3, by omega, by omega, hm, fun ν hν => ?_, fun μ h1 h2 => ?_⟩
    · obtain ⟨v, μ', -, -, -, p1, p2, p3⟩ := again (atNm ν μ0) (atNm_of (by omega)) (fun i hi => (atNm_of (by omega)).trans (k2 i hi))
      rw [atNm_Nm hν] at p1 p2 p3
      rw [← p1.vOf, ← p2.vOf, ← p3.vOf]
      exact ⟨p1, p2, p3⟩
    · obtain ⟨v, μ', r1, r2, r3, p1, p2, p3⟩ := again μ h1 h2
      exact ⟨v, μ', r1, r2, r3, p1.vOf, p2.vOf, p3.vOf⟩
end K

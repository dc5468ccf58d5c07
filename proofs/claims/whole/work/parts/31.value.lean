/-! the class's stack -/
def StR (σ : Gm) (st : List Int32) : Prop := ∀ i, i < st.length → σ 8 0 i = st.getD (st.length - 1 - i) 0
def FrS (σ σ' : Gm) : Prop := ∀ c k j, ¬ (c = 8 ∧ k = 0) → σ' c k j = σ c k j
theorem FrS.rf (σ : Gm) : FrS σ σ := fun _ _ _ _ => rfl
theorem FrS.tr {a b c : Gm} (h : FrS a b) (g : FrS b c) : FrS a c := fun x y z q => (g x y z q).trans (h x y z q)
theorem FrS.up {σ : Gm} {j : Nat} {v : Int32} : FrS σ (up3 σ 8 0 j v) := fun c k i q => up3_of (by omega)
theorem StR.push {σ : Gm} {st : List Int32} (h : StR σ st) (x : Int32) : StR (up3 σ 8 0 st.length x) (x :: st) := by
  intro i hi
  rw [List.length_cons] at hi ⊢
  by_cases e : i = st.length
  · subst e
    rw [up3_at, show st.length + 1 - 1 - st.length = 0 by omega]
    rfl
  · rw [up3_of (by omega), h i (by omega), show st.length + 1 - 1 - i = (st.length - 1 - i) + 1 by omega]
    rfl
theorem StR.top {σ : Gm} {st : List Int32} {x : Int32} (h : StR σ (x :: st)) : σ 8 0 st.length = x := by
  rw [h st.length (by simp), List.length_cons, show st.length + 1 - 1 - st.length = 0 by omega]
  rfl
theorem StR.pop {σ : Gm} {st : List Int32} {x : Int32} (h : StR σ (x :: st)) : StR σ st := by
  intro i hi
  rw [h i (by simp; omega), List.length_cons, show st.length + 1 - 1 - i = (st.length - 1 - i) + 1 by omega]
  rfl
section VA
variable {n t : Nat} {ν : Nat → Int32}
theorem i32 {a : Nat} (h : a < 32) : inb (nI a) 32 = true := inb_nI h (by decide)
theorem m1I (a : Nat) : nI (a + 1) + (-1 : Int32) = nI a := pk_m1 a
theorem s1I (a : Nat) : nI (a + 1) - (1 : Int32) = nI a := nI_pred a
/-- one step -/
theorem val1 {E p i : Nat} {σ : Gm} {st st' : List Int32} (hE : E ≤ 160) (hp : p < E) (ht : t < 6) (hν : ∀ j, j < 6 → σ 7 0 j = ν j) (hS : StR σ st) (hl : st.length ≤ 32) (h : stp ν (σ 11 t p) st = some st') : ∃ σ', f_X4_value_L40 n (i + 1) σ t (nI E) (nI st.length) (nI p) = f_X4_value_L40 n i σ' t (nI E) (nI st'.length) (nI (p + 1)) ∧ StR σ' st' ∧ st'.length ≤ 32 ∧ FrS σ σ' := by
  rw [f_X4_value_L40, if_neg (nI_ge hp (by omega)), gd_h (inb_nI (show p < 160 by omega) (by decide)), nI_clamp (by omega), bv_e]
  obtain ⟨s, hs⟩ : ∃ s, s = σ 11 t p := ⟨_, rfl⟩
  rw [← hs] at h ⊢
  unfold stp at h
  by_cases h6 : s < -6
  · rw [if_pos h6] at h ⊢
    by_cases hA : s = -1000
    · rw [if_pos hA] at h ⊢
      cases st with
      | nil => cases h
      | cons a r =>
        cases h
        unfold f_X4_value_J119
        rw [List.length_cons] at hl ⊢
        rw [if_pos (show (1 : Int32) ≤ nI (r.length + 1) from nI_le (show 1 ≤ r.length + 1 by omega) (by omega)), if_pos hA, s1I, gd_h (i32 (by omega)), gd_h (i32 (by omega)), nI_clamp (by omega), bv_e, hS.top, nI_1]
        exact ⟨up3 σ 8 0 r.length (-a), rfl, hS.pop.push _, by rw [List.length_cons]; omega, FrS.up⟩
    · rw [if_neg hA] at h ⊢
      by_cases hB : s = -12
      · rw [if_pos hB] at h ⊢
        cases st with
        | nil => cases h
        | cons a r =>
          cases h
          unfold f_X4_value_J119
          rw [List.length_cons] at hl ⊢
          rw [if_pos (show (1 : Int32) ≤ nI (r.length + 1) from nI_le (show 1 ≤ r.length + 1 by omega) (by omega)), if_neg hA, s1I, gd_h (i32 (by omega)), nI_clamp (by omega), hS.top]
          by_cases ha : a = 0
          · rw [if_pos ha, gd_h (i32 (by omega)), bv_e, nI_1, if_pos ha]
            exact ⟨up3 σ 8 0 r.length 1, rfl, hS.pop.push _, by rw [List.length_cons]; omega, FrS.up⟩
          · rw [if_neg ha, gd_h (i32 (by omega)), bv_e, nI_1, if_neg ha]
            exact ⟨up3 σ 8 0 r.length 0, rfl, hS.pop.push _, by rw [List.length_cons]; omega, FrS.up⟩
      · rw [if_neg hB] at h ⊢
        match st, h, hS, hl with
        | [], h, _, _ => cases h
        | [_], h, _, _ => cases h
        | y :: a :: r, h, hS, hl =>
          cases h
          rw [List.length_cons, List.length_cons] at hl ⊢
          have hS2 := hS.pop
          have htop := hS.top
          rw [List.length_cons] at htop
          rw [if_pos (show (2 : Int32) ≤ nI (r.length + 1 + 1) from nI_le (show 2 ≤ r.length + 1 + 1 by omega) (by omega)), m1I, s1I, gd_h (i32 (by omega)), gd_h (i32 (by omega)), nI_clamp (by omega), nI_clamp (by omega), hS2.top, htop, joined_e, bc_s, gd_h (i32 (by omega)), bv_e, nI_1]
          exact ⟨up3 σ 8 0 r.length _, rfl, hS2.pop.push _, by rw [List.length_cons]; omega, FrS.up⟩
  · rw [if_neg h6] at h ⊢
    by_cases h32 : st.length < 32
    · rw [if_pos h32] at h
      rw [if_pos (show nI st.length < (32 : Int32) from nI_lt h32 (by decide))]
      by_cases h0 : s < 0
      · rw [if_pos h0] at h ⊢
        by_cases hi : inb (-1 - s) 6 = true
        · rw [if_pos hi] at h
          cases h
          rw [gd_h hi, gd_h (i32 h32), bv_e, nI_clamp (by omega), hν _ (inb_lt hi), nI_1, nI_1]
          exact ⟨_, rfl, hS.push _, by rw [List.length_cons]; omega, FrS.up⟩
        · rw [if_neg hi] at h; cases h
      · rw [if_neg h0] at h ⊢
        cases h
        rw [gd_h (i32 h32), bv_e, nI_clamp (by omega), nI_1, nI_1]
        exact ⟨_, rfl, hS.push _, by rw [List.length_cons]; omega, FrS.up⟩
    · rw [if_neg h32] at h; cases h
theorem valN {E : Nat} (hE : E ≤ 160) (ht : t < 6) : ∀ (k p i : Nat) (σ : Gm) (st st' : List Int32), p + k = E → k < i → (∀ j, j < 6 → σ 7 0 j = ν j) → StR σ st → st.length ≤ 32 → runc ν (σ 11 t) k p st = some st' → ∀ (v : Int32) (r : List Int32), st' = v :: r → ∃ σ', f_X4_value_L40 n i σ t (nI E) (nI st.length) (nI p) = some (v, σ') ∧ FrS σ σ'
  | 0, p, i, σ, st, st', hp, hi, hν, hS, hl, h, v, r, e => by
    obtain ⟨i, rfl⟩ : ∃ k, i = k + 1 := ⟨i - 1, by omega⟩
    cases h
    subst e
    have e0 : p = E := by omega
    subst e0
    rw [List.length_cons] at hl ⊢
    rw [f_X4_value_L40, if_pos (nI_le (Nat.le_refl _) (by omega)), if_neg (show ¬ nI (r.length + 1) ≤ (0 : Int32) from nI_nle (by omega) (by omega)), s1I, gd_h (i32 (by omega)), nI_clamp (by omega), hS.top]
    exact ⟨σ, rfl, FrS.rf σ⟩
  | k + 1, p, i, σ, st, st', hp, hi, hν, hS, hl, h, v, r, e => by
    obtain ⟨i, rfl⟩ : ∃ k, i = k + 1 := ⟨i - 1, by omega⟩
    unfold runc at h
    cases h1 : stp ν (σ 11 t p) st with
    | none => rw [h1] at h; cases h
    | some st1 =>
      rw [h1] at h
      obtain ⟨σ1, a1, a2, a3, a4⟩ := val1 (n := n) (i := i) hE (by omega) ht hν hS hl h1
      have hrow : σ1 11 t = σ 11 t := funext fun j => a4 11 t j (by omega)
      obtain ⟨σ2, b1, b2⟩ := valN hE ht k (p + 1) i σ1 st1 st' (by omega) (by omega) (fun j hj => by rw [a4 7 0 j (by omega)]; exact hν j hj) a2 a3 (by rw [hrow]; exact h) v r e
      exact ⟨σ2, by rw [a1]; exact b1, a4.tr b2⟩
/-- a part's worth: from m to m' -/
theorem valC (hn : 160 < n) {m m' : Nat} {v : Int32} {σ : Gm} (hE : m' ≤ 160) (ht : t < 6) (hν : ∀ j, j < 6 → σ 7 0 j = ν j) (hC : Cd ν (σ 11 t) m m' 0 v) : ∃ σ', f_X4_value_L40 n n σ t (nI m') (0 : Int32) (nI m) = some (v, σ') ∧ FrS σ σ' := by
  have hm := hC.1
  exact valN (n := n) (ν := ν) hE ht (m' - m) m n σ [] [v] (by omega) (by omega) hν (fun i hi => absurd hi (by simp)) (by simp) (hC.2 [] (by simp)) v [] rfl
/-- value(text, part) -/
theorem value0 (hn : 160 < n) {m1 : Nat} {v : Int32} {σ : Gm} (hE : m1 ≤ 160) (ht : t < 6) (hν : ∀ j, j < 6 → σ 7 0 j = ν j) (h1 : σ 12 t 0 = nI m1) (hC : Cd ν (σ 11 t) 0 m1 0 v) : ∃ σ', f_X4_value n σ (nI t) (0 : Int32) = some (v, σ') ∧ FrS σ σ' := by
  obtain ⟨σ', a, f⟩ := valC hn hE ht hν hC
  unfold f_X4_value
  rw [gd_h (inb_nI ht (by decide)), gd_h (inb_nI ht (by decide)), gd_h (by decide), nI_clamp (by omega), bv_e, if_pos rfl, show (0 : Int32).toNatClampNeg = 0 from rfl, h1]
  exact ⟨σ', a, f⟩
theorem valueS (hn : 160 < n) {p m m' : Nat} {v : Int32} {σ : Gm} (hp : p < 2) (hE : m' ≤ 160) (ht : t < 6) (hν : ∀ j, j < 6 → σ 7 0 j = ν j) (h1 : σ 12 t p = nI m) (h2 : σ 12 t (p + 1) = nI m') (hC : Cd ν (σ 11 t) m m' 0 v) : ∃ σ', f_X4_value n σ (nI t) (nI (p + 1)) = some (v, σ') ∧ FrS σ σ' := by
  obtain ⟨σ', a, f⟩ := valC hn hE ht hν hC
  unfold f_X4_value
  rw [gd_h (inb_nI ht (by decide)), gd_h (inb_nI ht (by decide)), gd_h (inb_nI (show p + 1 < 3 by omega) (by decide)), nI_clamp (by omega), nI_clamp (by omega), bv_e, if_neg (show ¬ nI (p + 1) = (0 : Int32) from nI_ne0 (by omega) (by omega)), gd_h (inb_nI ht (by decide)), s1I, gd_h (inb_nI (show p < 3 by omega) (by decide)), nI_clamp (by omega), bv_e, h1, h2]
  exact ⟨σ', a, f⟩
end VA

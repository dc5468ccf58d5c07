/-! pure: reading a state, running -/
theorem bc_s {ρ S τ : Type} (r : ρ) (s : S) (f : ρ → S → Option τ) : bc (some (r, s)) f = f r s := rfl
theorem gd_t {τ : Type} (x : Option τ) : gd true x = x := rfl
theorem gd_h {τ : Type} {b : Bool} {x : Option τ} (h : b = true) : gd b x = x := by rw [h]; rfl
theorem bv_e {α τ : Type} (x : α) (f : α → Option τ) : bv x f = f x := rfl
theorem up3_rd (G : Gm) (c k j : Nat) (v : Int32) (c' k' j' : Nat) : up3 G c k j v c' k' j' = if c' = c ∧ k' = k ∧ j' = j then v else G c' k' j' := rfl
theorem up3_at (G : Gm) (c k j : Nat) (v : Int32) : up3 G c k j v c k j = v := by rw [up3_rd, if_pos ⟨rfl, rfl, rfl⟩]
theorem up3_of {G : Gm} {c k j : Nat} {v : Int32} {c' k' j' : Nat} (h : ¬ (c' = c ∧ k' = k ∧ j' = j)) : up3 G c k j v c' k' j' = G c' k' j' := by rw [up3_rd, if_neg h]
theorem nI_ne {x m : Nat} (hx : x < 2 ^ 31) (hm : m < 2 ^ 31) (h : ¬ x = m) : ¬ nI x = nI m := fun q => h ((nI_eq hx hm).mp q)
theorem inb_nI {p k : Nat} (h : p < k) (hk : k < 2 ^ 31) : inb (nI p) k = true := by
  unfold inb
  exact decide_eq_true (nI_in h hk)
/-- kinds of bytes -/
def isB (x : Nat) : Prop := x = 32 ∨ x = 10
def isL (x : Nat) : Prop := 97 ≤ x ∧ x ≤ 122
def isD (x : Nat) : Prop := 48 ≤ x ∧ x ≤ 57
def isS (x : Nat) : Prop := x = 40 ∨ x = 41 ∨ x = 59 ∨ x = 43 ∨ x = 45 ∨ x = 42 ∨ x = 60 ∨ x = 61
theorem dB (x : Nat) : isB x ∨ ¬ isB x := Classical.em _
/-- where a run of bytes of a kind ends -/
noncomputable def ru (P : Nat → Prop) (b : Nat → Nat) : Nat → Nat → Nat
  | 0, p => p
  | m + 1, p => @ite _ (P (b p)) (Classical.propDecidable _) (ru P b m (p + 1)) p
theorem ru_0 (P : Nat → Prop) (b : Nat → Nat) (p : Nat) : ru P b 0 p = p := rfl
theorem ru_t {P : Nat → Prop} {b : Nat → Nat} {m p : Nat} (h : P (b p)) : ru P b (m + 1) p = ru P b m (p + 1) := if_pos h
theorem ru_f {P : Nat → Prop} {b : Nat → Nat} {m p : Nat} (h : ¬ P (b p)) : ru P b (m + 1) p = p := if_neg h
theorem ru_ge (P : Nat → Prop) (b : Nat → Nat) : ∀ m p, p ≤ ru P b m p ∧ ru P b m p ≤ p + m
  | 0, p => by rw [ru_0]; omega
  | m + 1, p => by
    rcases Classical.em (P (b p)) with h | h
    · rw [ru_t h]
      have := ru_ge P b m (p + 1)
      omega
    · rw [ru_f h]; omega
theorem ru_in (P : Nat → Prop) (b : Nat → Nat) : ∀ m p i, p ≤ i → i < ru P b m p → P (b i)
  | 0, p, i, h1, h2 => by rw [ru_0] at h2; omega
  | m + 1, p, i, h1, h2 => by
    rcases Classical.em (P (b p)) with h | h
    · rw [ru_t h] at h2
      rcases Nat.eq_or_lt_of_le h1 with rfl | h3
      · exact h
      · exact ru_in P b m (p + 1) i h3 h2
    · rw [ru_f h] at h2; omega
/-- the class's reader holds the bytes b, z of them -/
def InX (b : Nat → Nat) (z : Nat) (σ : Gm) : Prop := σ 2 0 1 = nI z ∧ ∀ i, i < z → σ 6 0 i = nI (b i)
/-- same but the token's own places -/
def FrT (σ σ' : Gm) : Prop := ∀ c k j, ¬ (c = 2 ∧ k = 0 ∧ (j = 2 ∨ j = 3 ∨ j = 4 ∨ j = 5)) → σ' c k j = σ c k j
theorem FrT.rf (σ : Gm) : FrT σ σ := fun _ _ _ _ => rfl
theorem FrT.tr {a b c : Gm} (h : FrT a b) (g : FrT b c) : FrT a c := fun x y z q => (g x y z q).trans (h x y z q)
theorem FrT.up {σ : Gm} {j : Nat} {v : Int32} (h : j = 2 ∨ j = 3 ∨ j = 4 ∨ j = 5) : FrT σ (up3 σ 2 0 j v) := fun c k i q => up3_of (fun ⟨a, b, e⟩ => q ⟨a, b, by rw [e]; exact h⟩)
theorem InX.fr {b : Nat → Nat} {z : Nat} {σ σ' : Gm} (h : InX b z σ) (f : FrT σ σ') : InX b z σ' := ⟨by rw [f 2 0 1 (by omega)]; exact h.1, fun i hi => by rw [f 6 0 i (by omega)]; exact h.2 i hi⟩
section TX
variable {b : Nat → Nat} {z n : Nat}
theorem xl_letter (σ : Gm) {x : Nat} (hx : x < 256) : f_X1_isLetter σ (nI x) = some (@ite _ (isL x) (Classical.propDecidable _) (1 : Int32) 0, σ) := by
  unfold f_X1_isLetter
  by_cases h1 : x < 97
  · rw [if_pos (show nI x < (97 : Int32) from nI_lt h1 (by decide)), if_neg (fun q : isL x => by unfold isL at q; omega)]
  · rw [if_neg (show ¬ nI x < (97 : Int32) from nI_nlt (show 97 ≤ x by omega) (by omega))]
    by_cases h2 : 122 < x
    · rw [if_pos (show (122 : Int32) < nI x from nI_lt h2 (by omega)), if_neg (fun q : isL x => by unfold isL at q; omega)]
    · rw [if_neg (show ¬ (122 : Int32) < nI x from nI_nlt (show x ≤ 122 by omega) (by decide)), if_pos (show isL x from ⟨by omega, by omega⟩)]
theorem xl_digit (σ : Gm) {x : Nat} (hx : x < 256) : f_X1_isDigit σ (nI x) = some (@ite _ (isD x) (Classical.propDecidable _) (1 : Int32) 0, σ) := by
  unfold f_X1_isDigit
  by_cases h1 : x < 48
  · rw [if_pos (show nI x < (48 : Int32) from nI_lt h1 (by decide)), if_neg (fun q : isD x => by unfold isD at q; omega)]
  · rw [if_neg (show ¬ nI x < (48 : Int32) from nI_nlt (show 48 ≤ x by omega) (by omega))]
    by_cases h2 : 57 < x
    · rw [if_pos (show (57 : Int32) < nI x from nI_lt h2 (by omega)), if_neg (fun q : isD x => by unfold isD at q; omega)]
    · rw [if_neg (show ¬ (57 : Int32) < nI x from nI_nlt (show x ≤ 57 by omega) (by decide)), if_pos (show isD x from ⟨by omega, by omega⟩)]
theorem xl_sign (σ : Gm) {x : Nat} (hx : x < 256) : f_X1_isSign σ (nI x) = some (@ite _ (isS x) (Classical.propDecidable _) (1 : Int32) 0, σ) := by
  have key : ∀ x : Nat, x < 256 → (f_X1_isSign σ (nI x) = some (1, σ) ↔ isS x) ∧ (f_X1_isSign σ (nI x) = some (1, σ) ∨ f_X1_isSign σ (nI x) = some (0, σ)) := by
    intro x hx
    unfold f_X1_isSign isS
    have e : ∀ m : Nat, m < 256 → (nI x = nI m ↔ x = m) := fun m hm => nI_eq (by omega) (by omega)
    have e40 : (nI x = (40 : Int32)) ↔ x = 40 := e 40 (by decide)
    have e41 : (nI x = (41 : Int32)) ↔ x = 41 := e 41 (by decide)
    have e42 : (nI x = (42 : Int32)) ↔ x = 42 := e 42 (by decide)
    have e43 : (nI x = (43 : Int32)) ↔ x = 43 := e 43 (by decide)
    have e45 : (nI x = (45 : Int32)) ↔ x = 45 := e 45 (by decide)
    have e59 : (nI x = (59 : Int32)) ↔ x = 59 := e 59 (by decide)
    have e60 : (nI x = (60 : Int32)) ↔ x = 60 := e 60 (by decide)
    have e61 : (nI x = (61 : Int32)) ↔ x = 61 := e 61 (by decide)
    simp only [e40, e41, e42, e43, e45, e59, e60, e61]
    have k01 : ¬ (some ((0 : Int32), σ) = some ((1 : Int32), σ)) := by
      intro h
      have h : (0 : Int32) = 1 := congrArg Prod.fst (Option.some.inj h)
      exact absurd h (by decide)
    repeat' split
    all_goals (constructor <;> simp_all)
  obtain ⟨h1, h2⟩ := key x hx
  by_cases h : isS x
  · rw [if_pos h]; exact h1.mpr h
  · rw [if_neg h]
    rcases h2 with h2 | h2
    · exact absurd (h1.mp h2) h
    · exact h2
/-- blanks -/
theorem xa_blank (hb : ∀ i, b i < 256) (hz : z ≤ 160) : ∀ (m p i : Nat) (σ : Gm), p + m = z → m < i → InX b z σ → σ 2 0 2 = nI p → ∃ σ', f_X1_advance_L0 n i σ = f_X1_advance_J52 n σ' ∧ σ' 2 0 2 = nI (ru isB b m p) ∧ FrT σ σ'
  | 0, p, i, σ, hm, hi, hin, hp => by
    obtain ⟨i, rfl⟩ : ∃ k, i = k + 1 := ⟨i - 1, by omega⟩
    refine ⟨σ, ?_, by rw [ru_0]; exact hp, FrT.rf σ⟩
    rw [f_X1_advance_L0, if_pos (by rw [hp, hin.1]; exact nI_le (by omega) (by omega))]
  | m + 1, p, i, σ, hm, hi, hin, hp => by
    obtain ⟨i, rfl⟩ : ∃ k, i = k + 1 := ⟨i - 1, by omega⟩
    have hlt : p < z := by omega
    have hc : σ 6 0 (nI p).toNatClampNeg = nI (b p) := by rw [nI_clamp (by omega)]; exact hin.2 p hlt
    rw [f_X1_advance_L0, if_neg (by rw [hp, hin.1]; exact nI_ge hlt (by omega)), hp, gd_h (inb_nI (by omega) (by decide)), hc]
    have step : ∀ σ1, σ1 = up3 σ 2 0 2 (nI (p + 1)) → isB (b p) → ∃ σ', f_X1_advance_L0 n i σ1 = f_X1_advance_J52 n σ' ∧ σ' 2 0 2 = nI (ru isB b (m + 1) p) ∧ FrT σ σ' := by
      intro σ1 e hB
      subst e
      have hfr : FrT σ (up3 σ 2 0 2 (nI (p + 1))) := FrT.up (Or.inl rfl)
      obtain ⟨σ', h1, h2, h3⟩ := xa_blank hb hz m (p + 1) i _ (by omega) (by omega) (hin.fr hfr) (up3_at _ _ _ _ _)
      exact ⟨σ', h1, by rw [ru_t hB]; exact h2, hfr.tr h3⟩
    by_cases h1 : b p = 32
    · rw [if_pos (show nI (b p) = (32 : Int32) by rw [h1]; rfl)]
      unfold f_X1_advance_J39
      rw [bv_e, hp]
      exact step _ (by rw [nI_1]) (Or.inl h1)
    · rw [if_neg (show ¬ nI (b p) = (32 : Int32) from nI_ne (by have := hb p; omega) (by decide) h1), gd_h (inb_nI (by omega) (by decide))]
      by_cases h2 : b p = 10
      · rw [if_pos (show nI (b p) = (10 : Int32) by rw [h2]; rfl)]
        unfold f_X1_advance_J39
        rw [bv_e, hp]
        exact step _ (by rw [nI_1]) (Or.inr h2)
      · rw [if_neg (show ¬ nI (b p) = (10 : Int32) from nI_ne (by have := hb p; omega) (by decide) h2)]
        exact ⟨σ, rfl, by rw [ru_f (fun q => q.elim h1 h2)]; exact hp, FrT.rf σ⟩
/-- letters -/
theorem xa_letters (hb : ∀ i, b i < 256) (hz : z ≤ 160) : ∀ (m p i : Nat) (σ : Gm), p + m = z → m < i → InX b z σ → σ 2 0 2 = nI p → ∃ σ', f_X1_advance_L96 n i σ = f_X1_advance_J135 n σ' ∧ σ' 2 0 2 = nI (ru isL b m p) ∧ FrT σ σ' ∧ σ' 2 0 4 = σ 2 0 4
  | 0, p, i, σ, hm, hi, hin, hp => by
    obtain ⟨i, rfl⟩ : ∃ k, i = k + 1 := ⟨i - 1, by omega⟩
    refine ⟨σ, ?_, by rw [ru_0]; exact hp, FrT.rf σ, rfl⟩
    rw [f_X1_advance_L96, if_pos (by rw [hp, hin.1]; exact nI_le (by omega) (by omega))]
  | m + 1, p, i, σ, hm, hi, hin, hp => by
    obtain ⟨i, rfl⟩ : ∃ k, i = k + 1 := ⟨i - 1, by omega⟩
    have hlt : p < z := by omega
    have hc : σ 6 0 (nI p).toNatClampNeg = nI (b p) := by rw [nI_clamp (by omega)]; exact hin.2 p hlt
    rw [f_X1_advance_L96, if_neg (by rw [hp, hin.1]; exact nI_ge hlt (by omega)), hp, gd_h (inb_nI (by omega) (by decide)), hc, xl_letter σ (hb p), bc_s]
    by_cases h1 : isL (b p)
    · rw [if_pos h1, if_neg (by decide), bv_e, hp, nI_1]
      have hfr : FrT σ (up3 σ 2 0 2 (nI (p + 1))) := FrT.up (Or.inl rfl)
      obtain ⟨σ', h2, h3, h4, h5⟩ := xa_letters hb hz m (p + 1) i _ (by omega) (by omega) (hin.fr hfr) (up3_at _ _ _ _ _)
      exact ⟨σ', h2, by rw [ru_t h1]; exact h3, hfr.tr h4, h5.trans (up3_of (by omega))⟩
    · rw [if_neg h1, if_pos rfl]
      exact ⟨σ, rfl, by rw [ru_f h1]; exact hp, FrT.rf σ, rfl⟩
/-- the number of k digits from q on -/
def nvv (b : Nat → Nat) (q : Nat) : Nat → Nat
  | 0 => 0
  | k + 1 => nvv b q k * 10 + (b (q + k) - 48)
theorem nvv_lt (b : Nat → Nat) (q : Nat) (h : ∀ k, b (q + k) - 48 ≤ 9) : ∀ k, nvv b q k < 10 ^ k
  | 0 => by rw [nvv]; omega
  | k + 1 => by
    have h1 := nvv_lt b q h k
    have h2 := h k
    rw [nvv, Nat.pow_succ]
    omega
/-- digits -/
theorem xa_digits (hb : ∀ i, b i < 256) (hz : z ≤ 160) (q : Nat) : ∀ (m p i : Nat) (σ : Gm), p + m = z → m < i → q ≤ p → InX b z σ → σ 2 0 2 = nI p → σ 2 0 5 = nI (nvv b q (p - q)) → ∃ σ', f_X1_readNumber_L5 n i σ = f_X1_readNumber_J68 n σ' ∧ σ' 2 0 2 = nI (ru isD b m p) ∧ FrT σ σ' ∧ σ' 2 0 4 = σ 2 0 4 ∧ σ' 2 0 5 = nI (nvv b q (ru isD b m p - q))
  | 0, p, i, σ, hm, hi, hq, hin, hp, hv => by
    obtain ⟨i, rfl⟩ : ∃ k, i = k + 1 := ⟨i - 1, by omega⟩
    refine ⟨σ, ?_, by rw [ru_0]; exact hp, FrT.rf σ, rfl, by rw [ru_0]; exact hv⟩
    rw [f_X1_readNumber_L5, if_pos (by rw [hp, hin.1]; exact nI_le (by omega) (by omega))]
  | m + 1, p, i, σ, hm, hi, hq, hin, hp, hv => by
    obtain ⟨i, rfl⟩ : ∃ k, i = k + 1 := ⟨i - 1, by omega⟩
    have hlt : p < z := by omega
    have hc : σ 6 0 (nI p).toNatClampNeg = nI (b p) := by rw [nI_clamp (by omega)]; exact hin.2 p hlt
    rw [f_X1_readNumber_L5, if_neg (by rw [hp, hin.1]; exact nI_ge hlt (by omega)), hp, gd_h (inb_nI (by omega) (by decide)), hc, xl_digit σ (hb p), bc_s]
    by_cases h1 : isD (b p)
    · rw [if_pos h1, if_neg (by decide), hp, gd_h (inb_nI (by omega) (by decide)), bv_e, bv_e, hc, hv]
      have e1 : nI (nvv b q (p - q)) * (10 : Int32) + nI (b p) - (48 : Int32) = nI (nvv b q (p + 1 - q)) := by
        have h2 : p + 1 - q = (p - q) + 1 := by omega
        rw [h2, nvv, show q + (p - q) = p by omega]
        show nI _ * nI 10 + nI _ - nI 48 = _
        rw [pk_mul, nI_add, pk_sub (by unfold isD at h1; omega)]
        congr 1
        unfold isD at h1
        omega
      rw [e1]
      have hfr : FrT σ (up3 (up3 σ 2 0 5 (nI (nvv b q (p + 1 - q)))) 2 0 2 (nI (p + 1))) := (FrT.up (by omega)).tr (FrT.up (by omega))
      have hpp : (up3 σ 2 0 5 (nI (nvv b q (p + 1 - q)))) 2 0 2 = nI p := (up3_of (by omega)).trans hp
      rw [hpp, nI_1]
      obtain ⟨σ', h2, h3, h4, h5, h6⟩ := xa_digits hb hz q m (p + 1) i (up3 (up3 σ 2 0 5 (nI (nvv b q (p + 1 - q)))) 2 0 2 (nI (p + 1))) (by omega) (by omega) (by omega) (hin.fr hfr) (up3_at _ _ _ _ _) ((up3_of (by omega)).trans (up3_at _ _ _ _ _))
      exact ⟨σ', h2, by rw [ru_t h1]; exact h3, hfr.tr h4, h5.trans ((up3_of (by omega)).trans (up3_of (by omega))), by rw [ru_t h1]; exact h6⟩
    · rw [if_neg h1, if_pos rfl]
      exact ⟨σ, rfl, by rw [ru_f h1]; exact hp, FrT.rf σ, rfl, by rw [ru_f h1]; exact hv⟩
end TX

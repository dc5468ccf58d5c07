/-! choices, offered in order; thoughts alone change -/
/-- only the choice, names, the stack and skips in thought change -/
def FrU (σ σ' : Gm) : Prop := ∀ c k j, ¬ (((c = 3 ∨ c = 7 ∨ c = 8) ∧ k = 0) ∨ ((13 ≤ c ∧ c ≤ 17) ∧ 2 ≤ k)) → σ' c k j = σ c k j
theorem FrU.rf (σ : Gm) : FrU σ σ := fun _ _ _ _ => rfl
theorem FrU.tr {a b c : Gm} (h : FrU a b) (g : FrU b c) : FrU a c := fun x y z q => (g x y z q).trans (h x y z q)
theorem FrU.up {k j : Nat} {σ : Gm} {v : Int32} (h : 2 ≤ k) : FrU σ (up3 σ 13 k j v) := fun c' k' i q => up3_of (by omega)
theorem FrX.U {k : Nat} {a b : Gm} (h : FrX k a b) (hk : 2 ≤ k) : FrU a b := fun c k' j q => h c k' j (by omega)
theorem FrN.U {a b : Gm} (h : FrN a b) : FrU a b := fun c k' j q => h c k' j (by omega)
theorem FrU.as {k : Nat} {a b : Gm} (h : ∀ c k' j, ¬ ((13 ≤ c ∧ c ≤ 17) ∧ k' = k) → b c k' j = a c k' j) (hk : 2 ≤ k) : FrU a b := fun c k' j q => h c k' j (by omega)
theorem FrU.sk {S : Sk} {a b : Gm} (h : FrU a b) (g : SkX 0 S a) : SkX 0 S b := g.fr' fun c j p q => h c 0 j (by omega)
theorem FrU.tx {V : Tx} {C : Nat} {a b : Gm} (h : FrU a b) (g : TxX V C a) : TxX V C b := g.of fun c k j q => h c k j (by omega)
theorem FrU.fc {a b : Gm} (h : FrU a b) : FcX a b := fun c k j q => h c k j (by omega)
/-- the first of the least so far -/
def lsI (F G : Nat → Int32) (i a : Nat) : Bool := decide (F i < F a ∨ (F i = F a ∧ G i < G a))
def amI (F G : Nat → Int32) : Nat → Nat
  | 0 => 0
  | m + 1 => if lsI F G m (amI F G m) then m else amI F G m
theorem amI_lt (F G : Nat → Int32) : ∀ m, 0 < m → amI F G m < m
  | 0, h => by omega
  | m + 1, _ => by
    unfold amI
    by_cases g : lsI F G m (amI F G m) = true
    · rw [if_pos g]
      omega
    · rw [if_neg g]
      rcases (show m = 0 ∨ 0 < m by omega) with rfl | h
      · exact Nat.zero_lt_one
      · have := amI_lt F G m h
        omega
theorem i_irr (x : Int32) : ¬ x < x := fun q => by have := Int32.lt_iff_toInt_lt.mp q; omega
theorem amI_1 (F G : Nat → Int32) : amI F G 1 = 0 := by
  unfold amI
  split <;> rfl
def ChA (F G : Nat → Int32) (m : Nat) (σ : Gm) : Prop := (m = 0 → σ 3 0 2 = -1) ∧ (0 < m → σ 3 0 2 = nI (amI F G m) ∧ σ 3 0 0 = F (amI F G m) ∧ σ 3 0 1 = G (amI F G m))
theorem ChA.fr {F G : Nat → Int32} {m : Nat} {σ σ' : Gm} (h : ChA F G m σ) (f : ∀ j, σ' 3 0 j = σ 3 0 j) : ChA F G m σ' :=
  ⟨fun q => (f 2).trans (h.1 q), fun q => ⟨(f 2).trans (h.2 q).1, (f 0).trans (h.2 q).2.1, (f 1).trans (h.2 q).2.2⟩⟩
theorem of19 (σ : Gm) (x0 x1 x2 : Int32) : ∃ σ', f_X0_offer_J19 σ x0 x1 x2 = some ((), σ') ∧ σ' 3 0 0 = x0 ∧ σ' 3 0 1 = x1 ∧ σ' 3 0 2 = x2 ∧ ∀ c k j, ¬ (c = 3 ∧ k = 0) → σ' c k j = σ c k j := by
  unfold f_X0_offer_J19
  rw [bv_e, bv_e, bv_e]
  exact ⟨_, rfl, (up3_of (by omega)).trans ((up3_of (by omega)).trans (up3_at _ _ _ _ _)), (up3_of (by omega)).trans (up3_at _ _ _ _ _), up3_at _ _ _ _ _, fun c k j q => (up3_of (by omega)).trans ((up3_of (by omega)).trans (up3_of (by omega)))⟩
theorem ls_x (σ : Gm) (a b : Int32) (m : Nat) {w : Nat} (hm : m < 2 ^ 31) (hw : w < m) (h : σ 3 0 2 = nI w) : f_X0_isLess σ a b (nI m) = some (if a < σ 3 0 0 ∨ (a = σ 3 0 0 ∧ b < σ 3 0 1) then 1 else 0, σ) := by
  unfold f_X0_isLess
  rw [h, if_pos (show nI w ≤ nI m from nI_le (by omega) hm)]
  generalize σ 3 0 0 = x
  generalize σ 3 0 1 = y
  by_cases e : a = x
  · subst e
    rw [if_pos rfl]
    by_cases e2 : b = y
    · subst e2
      rw [if_pos rfl, if_neg (fun q => q.elim (i_irr a) (fun q => i_irr b q.2))]
    · rw [if_neg e2]
      by_cases g : y ≤ b
      · rw [if_pos g, if_neg (fun q => q.elim (i_irr a) (fun q => by have := Int32.lt_iff_toInt_lt.mp q.2; have := Int32.le_iff_toInt_le.mp g; omega))]
      · rw [if_neg g, if_pos (Or.inr ⟨rfl, Int32.lt_iff_toInt_lt.mpr (by have : ¬ y.toInt ≤ b.toInt := fun q => g (Int32.le_iff_toInt_le.mpr q); omega)⟩)]
  · rw [if_neg e]
    by_cases g : x ≤ a
    · rw [if_pos g, if_neg (fun q => q.elim (fun q => by have := Int32.lt_iff_toInt_lt.mp q; have := Int32.le_iff_toInt_le.mp g; omega) (fun q => e q.1))]
    · rw [if_neg g, if_pos (Or.inl (Int32.lt_iff_toInt_lt.mpr (by have : ¬ x.toInt ≤ a.toInt := fun q => g (Int32.le_iff_toInt_le.mpr q); omega)))]
theorem ofA {F G : Nat → Int32} {m : Nat} {σ : Gm} (hm : m < 2 ^ 31) (h : ChA F G m σ) : ∃ σ', f_X0_offer σ (F m) (G m) (nI m) = some ((), σ') ∧ ChA F G (m + 1) σ' ∧ ∀ c k j, ¬ (c = 3 ∧ k = 0) → σ' c k j = σ c k j := by
  unfold f_X0_offer
  obtain ⟨σ', a1, a2, a3, a4, a5⟩ := of19 σ (F m) (G m) (nI m)
  rcases (show m = 0 ∨ 0 < m by omega) with rfl | hp
  · rw [if_pos (h.1 rfl), a1]
    refine ⟨σ', rfl, ⟨fun q => by omega, fun _ => ?_⟩, a5⟩
    rw [amI_1]
    exact ⟨a4, a2, a3⟩
  · obtain ⟨b1, b2, b3⟩ := h.2 hp
    have hl := amI_lt F G m hp
    rw [b1, if_neg (show ¬ nI (amI F G m) = (-1 : Int32) from fun q => by
      have := congrArg Int32.toInt q
      rw [nI_toInt (by omega), show (-1 : Int32).toInt = -1 by decide] at this
      omega), ls_x σ _ _ m hm hl b1, bc_s, b2, b3]
    by_cases g : F m < F (amI F G m) ∨ (F m = F (amI F G m) ∧ G m < G (amI F G m))
    · rw [if_pos g, if_neg (show ¬ (1 : Int32) = 0 by decide), a1]
      refine ⟨σ', rfl, ⟨fun q => by omega, fun _ => ?_⟩, a5⟩
      rw [show amI F G (m + 1) = m from if_pos (decide_eq_true g)]
      exact ⟨a4, a2, a3⟩
    · rw [if_neg g, if_pos rfl]
      refine ⟨σ, rfl, ⟨fun q => by omega, fun _ => ?_⟩, fun _ _ _ _ => rfl⟩
      rw [show amI F G (m + 1) = amI F G m from if_neg (by rw [show lsI F G m (amI F G m) = false from decide_eq_false g]; decide)]
      exact ⟨b1, b2, b3⟩
theorem begin_x (F G : Nat → Int32) (σ : Gm) : ∃ σ', f_X0_begin σ = some ((), σ') ∧ ChA F G 0 σ' ∧ (∀ c k j, ¬ (c = 3 ∧ k = 0) → σ' c k j = σ c k j) ∧ σ' 3 0 0 = 0 ∧ σ' 3 0 1 = 0 ∧ σ' 3 0 2 = -1 := by
  unfold f_X0_begin
  rw [bv_e, bv_e, bv_e]
  exact ⟨_, rfl, ⟨fun _ => up3_at _ _ _ _ _, fun q => by omega⟩, fun c k j q => (up3_of (by omega)).trans ((up3_of (by omega)).trans (up3_of (by omega))), (up3_of (by omega)).trans ((up3_of (by omega)).trans (up3_at _ _ _ _ _)), (up3_of (by omega)).trans (up3_at _ _ _ _ _), up3_at _ _ _ _ _⟩
theorem FrU.ch {a b : Gm} (h : ∀ c k j, ¬ (c = 3 ∧ k = 0) → b c k j = a c k j) : FrU a b := fun c k j q => h c k j (by omega)
theorem sh1 {T : Nat} (h : T ≤ 8) : (1 : Int32) <<< (nI T &&& 31) = nI (2 ^ T) := by
  have key : ∀ T, T < 9 → (1 : Int32) <<< (nI T &&& 31) = nI (2 ^ T) := by decide +kernel
  exact key T (by omega)
theorem p8 {T : Nat} (h : T ≤ 8) : 2 ^ T ≤ 256 := Nat.pow_le_pow_right (by omega) h

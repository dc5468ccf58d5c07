/-! days, the reference's side -/
section K
variable {n C : Nat} {V : Tx} {S : Sk} {μ : Wm}
/-- all but what days write -/
def FrY (μ μ' : Wm) : Prop := ∀ c k j, ¬ ((c = 0 ∧ k = 0 ∧ 12 ≤ j ∧ j ≤ 26) ∨ ((c = 7 ∨ c = 8) ∧ k = 0)) → μ'.1 c k j = μ.1 c k j
theorem FrY.rf (μ : Wm) : FrY μ μ := fun _ _ _ _ => rfl
theorem FrY.tr {a b c : Wm} (h : FrY a b) (g : FrY b c) : FrY a c := fun x y z q => (g x y z q).trans (h x y z q)
theorem FrW.Y {a b : Wm} (h : FrW a b) : FrY a b := fun c k j q => h c k j (by omega)
theorem FrY.up {μ : Wm} {c j : Nat} {v : Int32} {L : Int64} (h : c = 7 ∨ c = 8) : FrY μ (up3 μ.1 c 0 j v, L) := fun c' k' i q => u1_of (by omega)
theorem TxM.fy {μ' : Wm} (h : TxM n V C μ) (f : FrY μ μ') : TxM n V C μ' := fun t ht => by
  obtain ⟨b, z, h1, h2, h3⟩ := h t ht
  exact ⟨b, z, (f _ _ _ (by omega)).trans h1, fun i hi => (f _ _ _ (by omega)).trans (h2 i hi), h3⟩
theorem SkM.up7 {j v : Nat} (h : SkM S μ) (hj : j < 5) : SkM (upS S 0 j v) (up3 μ.1 7 0 j (nI v), μ.2) := by
  obtain ⟨h1, h2, h3, h4, h5, h6, h7, h8, h9, h10⟩ := h
  have e : ∀ i, i < 5 → μ.1 7 0 i = nI (S 0 i) := by
    intro i hi
    rcases (show i = 0 ∨ i = 1 ∨ i = 2 ∨ i = 3 ∨ i = 4 by omega) with rfl | rfl | rfl | rfl | rfl
    · exact h1
    · exact h2
    · exact h3
    · exact h4
    · exact h5
  have g : ∀ i, i < 5 → ((up3 μ.1 7 0 j (nI v), μ.2) : Wm).1 7 0 i = nI (upS S 0 j v 0 i) := by
    intro i hi
    by_cases q : i = j
    · subst q
      rw [u1_at, upS_at]
    · rw [u1_of (by omega), upS_of (by omega)]
      exact e i hi
  refine ⟨g 0 (by omega), g 1 (by omega), g 2 (by omega), g 3 (by omega), g 4 (by omega), ?_, ?_, ?_, ?_, ?_⟩
  · exact (u1_of (by omega)).trans (h6.trans (by rw [show Sk.ru (upS S 0 j v) = S.ru from upS_of (by omega)]))
  · exact (u1_of (by omega)).trans (h7.trans (by rw [show Sk.T (upS S 0 j v) = S.T from upS_of (by omega)]))
  · exact (u1_of (by omega)).trans (h8.trans (by rw [show Sk.P (upS S 0 j v) = S.P from upS_of (by omega)]))
  · intro i hi
    rw [show Sk.T (upS S 0 j v) = S.T from upS_of (by omega)] at hi
    obtain ⟨a, b, c⟩ := h9 i hi
    rw [show Sk.rd (upS S 0 j v) i = S.rd i from upS_of (by omega), show Sk.bk (upS S 0 j v) i = S.bk i from upS_of (by omega), show Sk.inn (upS S 0 j v) i = S.inn i from upS_of (by omega)]
    exact ⟨(u1_of (by omega)).trans a, (u1_of (by omega)).trans b, (u1_of (by omega)).trans c⟩
  · intro i hi
    rw [show Sk.P (upS S 0 j v) = S.P from upS_of (by omega)] at hi
    obtain ⟨a, b, c⟩ := h10 i hi
    rw [show Sk.nb (upS S 0 j v) i = S.nb i from upS_of (by omega), show Sk.ak (upS S 0 j v) i = S.ak i from upS_of (by omega), show Sk.kd (upS S 0 j v) i = S.kd i from upS_of (by omega)]
    exact ⟨(u1_of (by omega)).trans a, (u1_of (by omega)).trans b, (u1_of (by omega)).trans c⟩
theorem SkM.upIn {i v : Nat} (h : SkM S μ) : SkM (upS S 3 i v) (up3 μ.1 8 0 (3 * i + 2) (nI v), μ.2) := by
  obtain ⟨h1, h2, h3, h4, h5, h6, h7, h8, h9, h10⟩ := h
  refine ⟨?_, ?_, ?_, ?_, ?_, ?_, ?_, ?_, ?_, ?_⟩
  · exact (u1_of (by omega)).trans (h1.trans (by rw [show Sk.nt (upS S 3 i v) = S.nt from upS_of (by omega)]))
  · exact (u1_of (by omega)).trans (h2.trans (by rw [show Sk.sz (upS S 3 i v) = S.sz from upS_of (by omega)]))
  · exact (u1_of (by omega)).trans (h3.trans (by rw [show Sk.lp (upS S 3 i v) = S.lp from upS_of (by omega)]))
  · exact (u1_of (by omega)).trans (h4.trans (by rw [show Sk.mi (upS S 3 i v) = S.mi from upS_of (by omega)]))
  · exact (u1_of (by omega)).trans (h5.trans (by rw [show Sk.th (upS S 3 i v) = S.th from upS_of (by omega)]))
  · exact (u1_of (by omega)).trans (h6.trans (by rw [show Sk.ru (upS S 3 i v) = S.ru from upS_of (by omega)]))
  · exact (u1_of (by omega)).trans (h7.trans (by rw [show Sk.T (upS S 3 i v) = S.T from upS_of (by omega)]))
  · exact (u1_of (by omega)).trans (h8.trans (by rw [show Sk.P (upS S 3 i v) = S.P from upS_of (by omega)]))
  · intro l hl
    rw [show Sk.T (upS S 3 i v) = S.T from upS_of (by omega)] at hl
    obtain ⟨a, b, c⟩ := h9 l hl
    rw [show Sk.rd (upS S 3 i v) l = S.rd l from upS_of (by omega), show Sk.bk (upS S 3 i v) l = S.bk l from upS_of (by omega)]
    refine ⟨(u1_of (by omega)).trans a, (u1_of (by omega)).trans b, ?_⟩
    by_cases q : l = i
    · subst q
      rw [u1_at, show Sk.inn (upS S 3 l v) l = v from upS_at _ _ _ _]
    · rw [u1_of (by omega), show Sk.inn (upS S 3 i v) l = S.inn l from upS_of (by omega)]
      exact c
  · intro l hl
    rw [show Sk.P (upS S 3 i v) = S.P from upS_of (by omega)] at hl
    obtain ⟨a, b, c⟩ := h10 l hl
    rw [show Sk.nb (upS S 3 i v) l = S.nb l from upS_of (by omega), show Sk.ak (upS S 3 i v) l = S.ak l from upS_of (by omega), show Sk.kd (upS S 3 i v) l = S.kd l from upS_of (by omega)]
    exact ⟨(u1_of (by omega)).trans a, (u1_of (by omega)).trans b, (u1_of (by omega)).trans c⟩
/-- which bound a place has -/
def bdS (c j : Nat) : Nat := if c = 0 then (if j = 0 then 1100 else if j = 2 then 1 else if j = 5 then 5 else if j = 6 then 8 else if j = 7 then 5 else 999) else if c = 1 ∨ c = 2 then 99 else if c = 3 ∨ c = 6 then 1 else if c = 4 then 5 else if c = 5 then 9 else 0
theorem SkB.at_ (h : SkB S) {c j : Nat} (hc : c < 7) (hj : c = 0 → j < 8) : S c j ≤ bdS c j := by
  obtain ⟨h1, h2, h3, h4, h5, h6, h7, h8, h9, h10, h11, h12, h13, h14⟩ := h
  rcases (show c = 0 ∨ c = 1 ∨ c = 2 ∨ c = 3 ∨ c = 4 ∨ c = 5 ∨ c = 6 by omega) with rfl | rfl | rfl | rfl | rfl | rfl | rfl
  · have hj := hj rfl
    rcases (show j = 0 ∨ j = 1 ∨ j = 2 ∨ j = 3 ∨ j = 4 ∨ j = 5 ∨ j = 6 ∨ j = 7 by omega) with rfl | rfl | rfl | rfl | rfl | rfl | rfl | rfl
    · exact h1
    · exact h2
    · exact h3
    · exact h4
    · exact h5
    · exact Nat.le_of_lt_succ h6
    · exact h7
    · exact h8
  · exact h9 j
  · exact h10 j
  · exact h11 j
  · exact h12 j
  · exact h13 j
  · exact h14 j
theorem SkB.of (h : ∀ c j, c < 7 → (c = 0 → j < 8) → S c j ≤ bdS c j) : SkB S := by
  refine ⟨h 0 0 (by omega) (by omega), h 0 1 (by omega) (by omega), h 0 2 (by omega) (by omega), h 0 3 (by omega) (by omega), h 0 4 (by omega) (by omega), Nat.lt_succ_of_le (h 0 5 (by omega) (by omega)), h 0 6 (by omega) (by omega), h 0 7 (by omega) (by omega), fun i => h 1 i (by omega) (by omega), fun i => h 2 i (by omega) (by omega), fun i => h 3 i (by omega) (by omega), fun i => h 4 i (by omega) (by omega), fun i => h 5 i (by omega) (by omega), fun i => h 6 i (by omega) (by omega)⟩
theorem SkB.up {c j v : Nat} (h : SkB S) (hv : v ≤ bdS c j) : SkB (upS S c j v) := SkB.of fun c' j' a b => by
  by_cases q : c' = c ∧ j' = j
  · obtain ⟨rfl, rfl⟩ := q
    rw [upS_at]
    exact hv
  · rw [upS_of q]
    exact h.at_ a b
/-! loading -/
def putS (S : Sk) (i : Nat) : Sk := upS (upS S 3 i 1) 0 3 (S.mi + S.bk i)
def loadS (S : Sk) (i : Nat) : Sk := if S.inn i = 0 ∧ S.rd i ≤ S.nt ∧ S.bk i ≤ roomS S then putS S i else S
def loadsF : Nat → Nat → Sk → Sk
  | 0, _, S => S
  | m + 1, i, S => loadsF m (i + 1) (loadS S i)
def loadsS (S : Sk) : Sk := loadsF S.T 0 S
theorem putS_B (h : SkB S) {i : Nat} (g : S.bk i ≤ roomS S) : SkB (putS S i) := by
  refine (h.up (show 1 ≤ bdS 3 i from Nat.le_refl 1)).up (show S.mi + S.bk i ≤ 999 from ?_)
  have h2 := h.2.1
  have h4 := h.2.2.2.1
  unfold roomS fullS at g
  omega
theorem loadS_B (h : SkB S) (i : Nat) : SkB (loadS S i) := by
  unfold loadS
  by_cases g : S.inn i = 0 ∧ S.rd i ≤ S.nt ∧ S.bk i ≤ roomS S
  · rw [if_pos g]
    exact putS_B h g.2.2
  · rw [if_neg g]
    exact h
theorem loadS_k (S : Sk) (i : Nat) {c j : Nat} (h : ¬ (c = 3 ∧ j = i) ∧ ¬ (c = 0 ∧ j = 3)) : loadS S i c j = S c j := by
  unfold loadS
  by_cases g : S.inn i = 0 ∧ S.rd i ≤ S.nt ∧ S.bk i ≤ roomS S
  · rw [if_pos g]
    exact (upS_of (by omega)).trans (upS_of (by omega))
  · rw [if_neg g]
theorem loadsF_B : ∀ m i (S : Sk), SkB S → SkB (loadsF m i S)
  | 0, _, _, h => h
  | m + 1, i, S, h => loadsF_B m (i + 1) _ (loadS_B h i)
theorem loadsF_k : ∀ m i (S : Sk) {c j : Nat}, ¬ c = 3 → ¬ (c = 0 ∧ j = 3) → loadsF m i S c j = S c j
  | 0, _, _, _, _, _, _ => rfl
  | m + 1, i, S, _, _, h, g => (loadsF_k m (i + 1) (loadS S i) h g).trans (loadS_k S i ⟨fun q => h q.1, g⟩)
theorem loadsL_m : ∀ (m i k : Nat) (S : Sk) (μ : Wm), SkB S → SkM S μ → i + m = S.T → m < k → ∃ μ', f_X6_loads_L2 n k μ (nI i) = some ((), μ') ∧ SkM (loadsF m i S) μ' ∧ FrY μ μ'
  | m, i, 0, _, _, _, _, _, h => by omega
  | 0, i, k + 1, S, μ, hB, h, he, _ => by
    have hT := hB.2.2.2.2.2.2.1
    unfold f_X6_loads_L2
    rw [h.2.2.2.2.2.2.1, if_pos (nI_le (show S.T ≤ i by omega) (by omega))]
    exact ⟨μ, rfl, h, FrY.rf μ⟩
  | m + 1, i, k + 1, S, μ, hB, h, he, hk => by
    have hT := hB.2.2.2.2.2.2.1
    have hi : i < S.T := by omega
    obtain ⟨r1, r2, r3⟩ := h.2.2.2.2.2.2.2.2.1 i hi
    have step : ∀ μ1, SkM (loadS S i) μ1 → FrY μ μ1 → ∃ μ', f_X6_loads_L2 n k μ1 (nI i + 1) = some ((), μ') ∧ SkM (loadsF (m + 1) i S) μ' ∧ FrY μ μ' := by
      intro μ1 h1 f1
      rw [nI_1]
      obtain ⟨μ', a1, a2, a3⟩ := loadsL_m m (i + 1) k (loadS S i) μ1 (loadS_B hB i) h1 (by rw [show Sk.T (loadS S i) = S.T from loadS_k S i (by omega)]; omega) (by omega)
      exact ⟨μ', a1, a2, f1.tr a3⟩
    have hI := hB.2.2.2.2.2.2.2.2.2.2.1 i
    have hR := hB.2.2.2.2.2.2.2.2.2.1 i
    have hK := hB.2.2.2.2.2.2.2.2.1 i
    have hN := hB.1
    have hZ := hB.2.1
    have hZ' : roomS S ≤ 999 := by unfold roomS; omega
    unfold f_X6_loads_L2
    rw [h.2.2.2.2.2.2.1, if_neg (show ¬ nI S.T ≤ nI i from nI_ge hi (by omega)), x32, x31, x3, gd_h (inb_nI (show 3 * i + 2 < 24 by omega) (by decide)), gd_h (inb_nI (show 3 * i < 24 by omega) (by decide)), gd_h (inb_nI (show 3 * i + 1 < 24 by omega) (by decide)), nI_clamp (show 3 * i + 2 < 2 ^ 31 by omega), nI_clamp (show 3 * i + 1 < 2 ^ 31 by omega), nI_clamp (show 3 * i < 2 ^ 31 by omega), r3, r1, h.1, room_m hB h, bc_s, r2]
    by_cases g1 : S.inn i = 0
    · rw [if_pos (show nI (S.inn i) = (0 : Int32) from (b00 hI).mpr g1)]
      by_cases g2 : S.rd i ≤ S.nt
      · rw [if_neg (show ¬ nI S.nt < nI (S.rd i) from nI_nlt g2 (by omega))]
        by_cases g3 : S.bk i ≤ roomS S
        · rw [if_neg (show ¬ nI (roomS S) < nI (S.bk i) from nI_nlt g3 (by omega)), gd_h (inb_nI (show 3 * i + 2 < 24 by omega) (by decide)), bv_e, gd_h (inb_nI (show 3 * i + 1 < 24 by omega) (by decide)), bv_e]
          have e1 : SkM (upS S 3 i 1) (up3 μ.1 8 0 (3 * i + 2) (1 : Int32), μ.2) := h.upIn
          have e2 : ((up3 μ.1 8 0 (3 * i + 2) (1 : Int32), μ.2) : Wm).1 7 0 3 + ((up3 μ.1 8 0 (3 * i + 2) (1 : Int32), μ.2) : Wm).1 8 0 (3 * i + 1) = nI (S.mi + S.bk i) := by
            rw [u1_of (by omega), u1_of (by omega), h.2.2.2.1, r2, nI_add]
          rw [e2]
          refine step _ ?_ ((FrY.up (Or.inr rfl)).tr (FrY.up (Or.inl rfl)))
          unfold loadS
          rw [if_pos (show S.inn i = 0 ∧ S.rd i ≤ S.nt ∧ S.bk i ≤ roomS S from ⟨g1, g2, g3⟩)]
          exact e1.up7 (by omega)
        · rw [if_pos (show nI (roomS S) < nI (S.bk i) from nI_lt (by omega) (by omega))]
          refine step μ ?_ (FrY.rf μ)
          unfold loadS
          rw [if_neg (by omega)]
          exact h
      · rw [if_pos (show nI S.nt < nI (S.rd i) from nI_lt (by omega) (by omega))]
        refine step μ ?_ (FrY.rf μ)
        unfold loadS
        rw [if_neg (by omega)]
        exact h
    · rw [if_neg (show ¬ nI (S.inn i) = (0 : Int32) from fun q => g1 ((b00 hI).mp q))]
      refine step μ ?_ (FrY.rf μ)
      unfold loadS
      rw [if_neg (by omega)]
      exact h
theorem loads_m (hn : 600 < n) (hB : SkB S) (h : SkM S μ) : ∃ μ', f_X6_loads n μ = some ((), μ') ∧ SkM (loadsS S) μ' ∧ FrY μ μ' := by
  have hT := hB.2.2.2.2.2.2.1
  exact loadsL_m S.T 0 n S μ hB h (by omega) (by omega)
end K

/-! passing, running, the reference's side -/
/-- a number within 0 and a bound -/
def eN (t : Int32) (r : Nat) : Nat := min t.toInt.toNat r
theorem t_nI {t : Int32} (h : (0 : Int32) ≤ t) : t = nI t.toInt.toNat := by
  have h1 : (0 : Int) ≤ t.toInt := by
    have := Int32.le_iff_toInt_le.mp h
    exact this
  have h2 : t.toInt < 2 ^ 31 := Int32.toInt_lt t
  apply Int32.toInt_inj.mp
  rw [nI_toInt (by omega)]
  omega
theorem wi_eN (t : Int32) {r : Nat} (hr : r < 2 ^ 31) : wi t 0 (nI r) = nI (eN t r) := by
  unfold wi eN
  by_cases h : (0 : Int32) ≤ t
  · rw [if_pos h]
    have hx : t.toInt.toNat < 2 ^ 31 := by
      have h2 : t.toInt < 2 ^ 31 := Int32.toInt_lt t
      omega
    generalize hy : t.toInt.toNat = y at hx
    rw [t_nI h, hy]
    by_cases g : y ≤ r
    · rw [if_pos (nI_le g hr), Nat.min_eq_left g]
    · rw [if_neg (nI_ge (by omega) hx), Nat.min_eq_right (by omega)]
  · rw [if_neg h]
    have h1 : ¬ (0 : Int) ≤ t.toInt := fun q => h (Int32.le_iff_toInt_le.mpr q)
    rw [show t.toInt.toNat = 0 by omega, Nat.zero_min]
    rfl
theorem eN_le (t : Int32) (r : Nat) : eN t r ≤ r := Nat.min_le_right _ _
theorem eN_neg {t : Int32} (h : ¬ (0 : Int32) ≤ t) (r : Nat) : eN t r = 0 := by
  have h1 : ¬ (0 : Int) ≤ t.toInt := fun q => h (Int32.le_iff_toInt_le.mpr q)
  unfold eN
  rw [show t.toInt.toNat = 0 by omega, Nat.zero_min]
section K
variable {n C : Nat} {V : Tx} {S : Sk} {μ : Wm}
/-- what is not in it -/
def leftF (S : Sk) : Nat → Nat → Nat → Nat
  | 0, _, a => a
  | m + 1, i, a => leftF S m (i + 1) (if S.inn i = 0 then a + S.bk i else a)
def leftS (S : Sk) : Nat := leftF S S.T 0 0
theorem leftF_b (hB : SkB S) : ∀ m i a, leftF S m i a ≤ a + 99 * m
  | 0, _, a => by unfold leftF; omega
  | m + 1, i, a => by
    unfold leftF
    have h := leftF_b hB m (i + 1) (if S.inn i = 0 then a + S.bk i else a)
    have hK : S.bk i ≤ 99 := hB.2.2.2.2.2.2.2.2.1 i
    split at h <;> rename_i g
    · rw [if_pos g]; omega
    · rw [if_neg g]; omega
theorem leftL_m (hB : SkB S) (h : SkM S μ) : ∀ (m i k a : Nat), i + m = S.T → m < k → f_X6_leftNow_L4 n k μ (nI a) (nI i) = some (nI (leftF S m i a), μ)
  | m, i, 0, _, _, h => by omega
  | 0, i, k + 1, a, he, _ => by
    have hT := hB.2.2.2.2.2.2.1
    unfold f_X6_leftNow_L4 leftF
    rw [h.2.2.2.2.2.2.1, if_pos (nI_le (show S.T ≤ i by omega) (by omega))]
  | m + 1, i, k + 1, a, he, hk => by
    have hT := hB.2.2.2.2.2.2.1
    have hi : i < S.T := by omega
    obtain ⟨r1, r2, r3⟩ := h.2.2.2.2.2.2.2.2.1 i hi
    have hI := hB.2.2.2.2.2.2.2.2.2.2.1 i
    unfold f_X6_leftNow_L4 leftF
    rw [h.2.2.2.2.2.2.1, if_neg (show ¬ nI S.T ≤ nI i from nI_ge hi (by omega)), x32, x31, gd_h (inb_nI (show 3 * i + 2 < 24 by omega) (by decide)), gd_h (inb_nI (show 3 * i + 1 < 24 by omega) (by decide)), nI_clamp (show 3 * i + 2 < 2 ^ 31 by omega), nI_clamp (show 3 * i + 1 < 2 ^ 31 by omega), r3, r2, bv_e, bv_e, nI_1, nI_add]
    by_cases g1 : S.inn i = 0
    · rw [if_pos (show nI (S.inn i) = (0 : Int32) from (b00 hI).mpr g1), if_pos g1]
      exact leftL_m hB h m (i + 1) k _ (by omega) (by omega)
    · rw [if_neg (show ¬ nI (S.inn i) = (0 : Int32) from fun q => g1 ((b00 hI).mp q)), if_neg g1, show nI a + (0 : Int32) = nI a from nI_add a 0]
      exact leftL_m hB h m (i + 1) k _ (by omega) (by omega)
theorem left_m (hn : 600 < n) (hB : SkB S) (h : SkM S μ) : f_X6_leftNow n μ = some (nI (leftS S), μ) := by
  have hT := hB.2.2.2.2.2.2.1
  exact leftL_m hB h S.T 0 n 0 (by omega) (by omega)
/-! one passes -/
def oneS (V : Tx) (cov : Bool) (S : Sk) (p : Nat) : Sk :=
  if comesS V S p then (if (0 : Int32) ≤ throwsS V S p cov then upS S 0 4 (S.th + eN (throwsS V S p cov) (roomS S)) else upS S 0 4 (S.th - eN (-throwsS V S p cov) S.th)) else S
def onePays (V : Tx) (cov : Bool) (S : Sk) (p : Nat) : Int32 := if comesS V S p then paysS V S p (nI (eN (throwsS V S p cov) (roomS S))) else 0
theorem oneS_B (h : SkB S) (cov : Bool) (p : Nat) : SkB (oneS V cov S p) := by
  unfold oneS
  have h2 := h.2.1
  have h5 := h.2.2.2.2.1
  by_cases g : comesS V S p
  · rw [if_pos g]
    by_cases g2 : (0 : Int32) ≤ throwsS V S p cov
    · rw [if_pos g2]
      refine h.up (show _ ≤ 999 from ?_)
      have := eN_le (throwsS V S p cov) (roomS S)
      generalize eN (throwsS V S p cov) (roomS S) = e at this
      unfold roomS fullS at this
      omega
    · rw [if_neg g2]
      exact h.up (show _ ≤ 999 by omega)
  · rw [if_neg g]
    exact h
theorem oneS_k (cov : Bool) (p : Nat) {c j : Nat} (h : ¬ (c = 0 ∧ j = 4)) : oneS V cov S p c j = S c j := by
  unfold oneS
  by_cases g : comesS V S p
  · rw [if_pos g]
    by_cases g2 : (0 : Int32) ≤ throwsS V S p cov
    · rw [if_pos g2]
      exact upS_of h
    · rw [if_neg g2]
      exact upS_of h
  · rw [if_neg g]
def passF (V : Tx) (cov : Bool) : Nat → Nat → Sk → Int32 → Sk × Int32
  | 0, _, S, a => (S, a)
  | m + 1, p, S, a => passF V cov m (p + 1) (oneS V cov S p) (a + onePays V cov S p)
def passS (V : Tx) (cov : Bool) (S : Sk) : Sk × Int32 :=
  (fun r : Sk × Int32 => (upS r.1 0 0 (r.1.nt + 1), r.2)) (passF V cov S.P 0 (loadsS S) 0)
theorem passF_B (cov : Bool) : ∀ m p (S : Sk) a, SkB S → SkB (passF V cov m p S a).1
  | 0, _, _, _, h => h
  | m + 1, p, S, a, h => passF_B cov m (p + 1) _ _ (oneS_B h cov p)
theorem passF_k (cov : Bool) : ∀ m p (S : Sk) a {c j : Nat}, ¬ (c = 0 ∧ j = 4) → (passF V cov m p S a).1 c j = S c j
  | 0, _, _, _, _, _, _ => rfl
  | m + 1, p, S, a, _, _, h => (passF_k cov m (p + 1) (oneS V cov S p) _ h).trans (oneS_k cov p h)
theorem passS_k (cov : Bool) (S : Sk) {c j : Nat} (h : ¬ c = 3) (g : ¬ (c = 0 ∧ (j = 0 ∨ j = 3 ∨ j = 4))) : (passS V cov S).1 c j = S c j :=
  (upS_of (by omega)).trans ((passF_k cov S.P 0 (loadsS S) 0 (by omega)).trans (loadsF_k S.T 0 S h (by omega)))
theorem passS_nt (cov : Bool) (S : Sk) : (passS V cov S).1.nt = S.nt + 1 := by
  show upS (passF V cov S.P 0 (loadsS S) 0).1 0 0 ((passF V cov S.P 0 (loadsS S) 0).1.nt + 1) 0 0 = S.nt + 1
  rw [upS_at, show Sk.nt (passF V cov S.P 0 (loadsS S) 0).1 = S.nt from (passF_k cov S.P 0 (loadsS S) 0 (by omega)).trans (loadsF_k S.T 0 S (by omega) (by omega))]
theorem passS_B (cov : Bool) (h : SkB S) (hN : S.nt ≤ 1099) : SkB (passS V cov S).1 := by
  refine (passF_B cov S.P 0 _ 0 (loadsF_B S.T 0 S h)).up (show _ ≤ 1100 from ?_)
  rw [show Sk.nt (passF V cov S.P 0 (loadsS S) 0).1 = S.nt from (passF_k cov S.P 0 (loadsS S) 0 (by omega)).trans (loadsF_k S.T 0 S (by omega) (by omega))]
  omega
theorem passL_m (cov : Bool) : ∀ (m p k : Nat) (S : Sk) (μ : Wm) (a : Int32), SkB S → SkM S μ → TxM n V C μ → S.ru < C → p + m = S.P → m < k → S.nt ≤ 1099 → ∃ μ', f_X6_passes_L8 n k μ (if cov then 1 else 0) a (nI p) = some ((passF V cov m p S a).2, μ') ∧ SkM (upS (passF V cov m p S a).1 0 0 (S.nt + 1)) μ' ∧ FrY μ μ'
  | m, i, 0, _, _, _, _, _, _, _, _, h, _ => by omega
  | 0, p, k + 1, S, μ, a, hB, h, _, _, he, _, hN => by
    have hP := hB.2.2.2.2.2.2.2.1
    unfold f_X6_passes_L8
    rw [h.2.2.2.2.2.2.2.1, if_pos (nI_le (show S.P ≤ p by omega) (by omega)), bv_e, h.1, nI_1]
    exact ⟨_, rfl, h.up7 (by omega), FrY.up (Or.inl rfl)⟩
  | m + 1, p, k + 1, S, μ, a, hB, h, hT, hC, he, hk, hN => by
    have hP := hB.2.2.2.2.2.2.2.1
    have hp : p < S.P := by omega
    have step : ∀ μ1, SkM (oneS V cov S p) μ1 → FrY μ μ1 → ∃ μ', f_X6_passes_L8 n k μ1 (if cov then 1 else 0) (a + onePays V cov S p) (nI p + 1) = some ((passF V cov (m + 1) p S a).2, μ') ∧ SkM (upS (passF V cov (m + 1) p S a).1 0 0 (S.nt + 1)) μ' ∧ FrY μ μ' := by
      intro μ1 h1 f1
      rw [nI_1]
      have hP' : Sk.P (oneS V cov S p) = S.P := oneS_k cov p (by omega)
      have hr' : Sk.ru (oneS V cov S p) = S.ru := oneS_k cov p (by omega)
      have hn' : Sk.nt (oneS V cov S p) = S.nt := oneS_k cov p (by omega)
      obtain ⟨μ', a1, a2, a3⟩ := passL_m cov m (p + 1) k (oneS V cov S p) μ1 (a + onePays V cov S p) (oneS_B hB cov p) h1 (hT.fy f1) (by rw [hr']; exact hC) (by rw [hP']; omega) (by omega) (by rw [hn']; exact hN)
      rw [hn'] at a2
      exact ⟨μ', a1, a2, f1.tr a3⟩
    unfold f_X6_passes_L8
    rw [h.2.2.2.2.2.2.2.1, if_neg (show ¬ nI S.P ≤ nI p from nI_ge hp (by omega))]
    obtain ⟨μ1, a1, f1⟩ := comes_m hB h hT hC hp
    rw [a1, bc_s]
    by_cases g : comesS V S p
    · rw [if_pos g, if_neg (show ¬ (1 : Int32) = 0 by decide)]
      have h1 := h.fr f1
      have T1 := hT.fr f1
      obtain ⟨μ2, a2, f2⟩ := throws_m hB h1 T1 hC hp cov
      have h2 := h1.fr f2
      have T2 := T1.fr f2
      have hZ' : roomS S ≤ 999 := by have := hB.2.1; unfold roomS; omega
      rw [a2, bc_s, room_m hB h2, bc_s, wi_m, bc_s, wi_eN _ (by omega)]
      obtain ⟨μ3, a3, f3⟩ := pays_m hB h2 T2 hC hp (nI (eN (throwsS V S p cov) (roomS S)))
      have h3 := h2.fr f3
      have hth := h3.2.2.2.2.1
      have hTh := hB.2.2.2.2.1
      have ep : onePays V cov S p = paysS V S p (nI (eN (throwsS V S p cov) (roomS S))) := if_pos g
      rw [a3, bc_s, bv_e, hth]
      by_cases g2 : (0 : Int32) ≤ throwsS V S p cov
      · rw [if_pos g2, bv_e, nI_add, ← ep]
        refine step _ ?_ ((f1.tr (f2.tr f3)).Y.tr (FrY.up (Or.inl rfl)))
        unfold oneS
        rw [if_pos g, if_pos g2]
        exact h3.up7 (by omega)
      · rw [if_neg g2, wi_m, bc_s, wi_eN _ (by omega), bv_e, ← ep, ← Int32.sub_eq_add_neg, pk_sub (eN_le _ _)]
        refine step _ ?_ ((f1.tr (f2.tr f3)).Y.tr (FrY.up (Or.inl rfl)))
        unfold oneS
        rw [if_pos g, if_neg g2]
        exact h3.up7 (by omega)
    · rw [if_neg g, if_pos rfl]
      have e0 : onePays V cov S p = 0 := if_neg g
      have e1 : oneS V cov S p = S := if_neg g
      have hs := step μ1 (by rw [e1]; exact h.fr f1) f1.Y
      rw [e0, Int32.add_zero] at hs
      exact hs
theorem passes_m (hn : 600 < n) (cov : Bool) (hB : SkB S) (h : SkM S μ) (hT : TxM n V C μ) (hC : S.ru < C) (hN : S.nt ≤ 1099) : ∃ μ', f_X6_passes n μ (if cov then 1 else 0) = some ((passS V cov S).2, μ') ∧ SkM (passS V cov S).1 μ' ∧ FrY μ μ' := by
  unfold f_X6_passes
  obtain ⟨μ1, a1, h1, f1⟩ := loads_m hn hB h
  have hP := hB.2.2.2.2.2.2.2.1
  have hP' : Sk.P (loadsS S) = S.P := loadsF_k S.T 0 S (by omega) (by omega)
  have hr' : Sk.ru (loadsS S) = S.ru := loadsF_k S.T 0 S (by omega) (by omega)
  have hn' : Sk.nt (loadsS S) = S.nt := loadsF_k S.T 0 S (by omega) (by omega)
  rw [a1, bc_s]
  obtain ⟨μ', a2, h2, f2⟩ := passL_m cov S.P 0 n (loadsS S) μ1 0 (loadsF_B S.T 0 S hB) h1 (hT.fy f1) (by rw [hr']; exact hC) (by rw [hP']; omega) (by omega) (by rw [hn']; exact hN)
  refine ⟨μ', a2, ?_, f1.tr f2⟩
  have e : Sk.nt (passF V cov S.P 0 (loadsS S) 0).1 = Sk.nt (loadsS S) := passF_k cov S.P 0 (loadsS S) 0 (by omega)
  show SkM (upS (passF V cov S.P 0 (loadsS S) 0).1 0 0 ((passF V cov S.P 0 (loadsS S) 0).1.nt + 1)) μ'
  rw [e]
  exact h2
/-! so many days -/
def bitI (x : Int32) (i : Nat) : Bool := decide (((x >>> (nI i &&& 31)) &&& (1 : Int32)) = (1 : Int32))
def goF (V : Tx) (x : Int32) : Nat → Nat → Sk → Int32 → Sk × Int32
  | 0, _, S, a => (S, a)
  | m + 1, i, S, a => goF V x m (i + 1) (passS V (bitI x i) S).1 (a + (passS V (bitI x i) S).2)
def goS (V : Tx) (x : Int32) (d : Nat) (S : Sk) : Sk × Int32 := goF V x d 0 S 0
theorem goF_B {x : Int32} : ∀ m i (S : Sk) a, SkB S → S.nt + m ≤ 1100 → SkB (goF V x m i S a).1
  | 0, _, _, _, h, _ => h
  | m + 1, i, S, a, h, hN => goF_B m (i + 1) _ _ (passS_B _ h (by omega)) (by rw [passS_nt]; omega)
theorem goF_k {x : Int32} : ∀ m i (S : Sk) a {c j : Nat}, ¬ c = 3 → ¬ (c = 0 ∧ (j = 0 ∨ j = 3 ∨ j = 4)) → (goF V x m i S a).1 c j = S c j
  | 0, _, _, _, _, _, _, _ => rfl
  | m + 1, i, S, a, _, _, h, g => (goF_k m (i + 1) _ _ h g).trans (passS_k _ S h g)
theorem goL_m (hn : 600 < n) {x : Int32} {D : Nat} (hD : D ≤ 30) : ∀ (m i k : Nat) (S : Sk) (μ : Wm) (a : Int32), SkB S → SkM S μ → TxM n V C μ → S.ru < C → i + m = D → m < k → S.nt + m ≤ 1100 → ∃ μ', f_X6_go_L5 n k μ (nI D) x a (nI i) = some ((goF V x m i S a).2, μ') ∧ SkM (goF V x m i S a).1 μ' ∧ FrY μ μ'
  | m, i, 0, _, _, _, _, _, _, _, _, h, _ => by omega
  | 0, i, k + 1, S, μ, a, hB, h, _, _, he, _, _ => by
    unfold f_X6_go_L5
    rw [if_pos (nI_le (show D ≤ i by omega) (by omega))]
    exact ⟨μ, rfl, h, FrY.rf μ⟩
  | m + 1, i, k + 1, S, μ, a, hB, h, hT, hC, he, hk, hN => by
    have step : ∀ b, bitI x i = b → ∃ μ', (bc (f_X6_passes n μ (if b then 1 else 0)) fun r7 σ8 => bv (a + r7) fun v10 => f_X6_go_L5 n k σ8 (nI D) x v10 (nI i + (1 : Int32))) = some ((goF V x (m + 1) i S a).2, μ') ∧ SkM (goF V x (m + 1) i S a).1 μ' ∧ FrY μ μ' := by
      intro b hb
      obtain ⟨μ1, a1, h1, f1⟩ := passes_m hn b hB h hT hC (by omega)
      rw [a1, bc_s, bv_e, nI_1]
      obtain ⟨μ', a2, h2, f2⟩ := goL_m hn hD m (i + 1) k (passS V b S).1 μ1 (a + (passS V b S).2) (passS_B b hB (by omega)) h1 (hT.fy f1) (by rw [show Sk.ru (passS V b S).1 = S.ru from passS_k b S (by omega) (by omega)]; exact hC) (by omega) (by omega) (by rw [passS_nt]; omega)
      unfold goF
      rw [hb]
      exact ⟨μ', a2, h2, f1.tr f2⟩
    unfold f_X6_go_L5
    rw [if_neg (show ¬ nI D ≤ nI i from nI_ge (by omega) (by omega))]
    by_cases g : ((x >>> (nI i &&& 31)) &&& (1 : Int32)) = (1 : Int32)
    · rw [if_pos g]
      exact step true (decide_eq_true g)
    · rw [if_neg g]
      exact step false (decide_eq_false g)
theorem go_m (hn : 600 < n) {x : Int32} {D : Nat} (hD : D ≤ 30) (hB : SkB S) (h : SkM S μ) (hT : TxM n V C μ) (hC : S.ru < C) (hN : S.nt + D ≤ 1100) : ∃ μ', f_X6_go n μ (nI D) x = some ((goS V x D S).2, μ') ∧ SkM (goS V x D S).1 μ' ∧ FrY μ μ' :=
  goL_m hn hD D 0 n S μ 0 hB h hT hC (by omega) (by omega) hN
end K

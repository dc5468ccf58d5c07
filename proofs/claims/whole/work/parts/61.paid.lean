/-! bounds of what is thrown and paid -/
section K
variable {n C : Nat} {V : Tx} {S : Sk}
theorem wi_rng (v : Int32) {lo hi : Int32} (h : lo ≤ hi) : lo ≤ wi v lo hi ∧ wi v lo hi ≤ hi := by
  unfold wi
  have h' := Int32.le_iff_toInt_le.mp h
  by_cases a : lo ≤ v
  · rw [if_pos a]
    by_cases b : v ≤ hi
    · rw [if_pos b]
      exact ⟨a, b⟩
    · rw [if_neg b]
      exact ⟨h, Int32.le_iff_toInt_le.mpr (by omega)⟩
  · rw [if_neg a]
    exact ⟨Int32.le_iff_toInt_le.mpr (by omega), h⟩
theorem wi_99 (v : Int32) : -99 ≤ (wi v (-99) 99).toInt ∧ (wi v (-99) 99).toInt ≤ 99 := by
  obtain ⟨a, b⟩ := wi_rng v (lo := -99) (hi := 99) (by decide)
  have a' := Int32.le_iff_toInt_le.mp a
  have b' := Int32.le_iff_toInt_le.mp b
  rw [show (-99 : Int32).toInt = -99 by decide] at a'
  rw [show (99 : Int32).toInt = 99 by decide] at b'
  exact ⟨a', b'⟩
theorem thr2_b (S : Sk) (p : Nat) (v a b : Int32) : -99 ≤ (thr2 S p v a b).toInt ∧ (thr2 S p v a b).toInt ≤ 99 := by
  unfold thr2
  split
  · exact wi_99 _
  split
  · exact wi_99 _
  split
  · split
    · exact wi_99 _
    · exact wi_99 _
  split
  · exact wi_99 _
  · exact wi_99 _
theorem thr_b (hB : SkB S) (p : Nat) (cov : Bool) : -99 ≤ (throwsS V S p cov).toInt ∧ (throwsS V S p cov).toInt ≤ 99 := by
  have hNb : S.nb p ≤ 9 := hB.2.2.2.2.2.2.2.2.2.2.2.2.1 p
  unfold throwsS
  split
  · rw [nI_toInt (by omega)]
    omega
  split
  · exact ⟨by decide, by decide⟩
  · exact thr2_b _ _ _ _ _
theorem eN_99 (hB : SkB S) (p : Nat) (cov : Bool) (r : Nat) : eN (throwsS V S p cov) r ≤ 99 := by
  have h := (thr_b (V := V) hB p cov).2
  unfold eN
  have := Nat.min_le_left (throwsS V S p cov).toInt.toNat r
  omega
theorem half (x : Nat) (h : x ≤ 891) : nI x / 2 = nI (x / 2) := by
  have key : ∀ x, x < 892 → nI x / (2 : Int32) = nI (x / 2) := by decide +kernel
  exact key x (by omega)
theorem pay_b (hB : SkB S) (p e : Nat) (he : e ≤ 99) : ∃ q, q ≤ 891 ∧ paysS V S p (nI e) = nI q := by
  have hNb : S.nb p ≤ 9 := hB.2.2.2.2.2.2.2.2.2.2.2.2.1 p
  unfold paysS
  split
  · split
    · exact ⟨S.nb p, by omega, rfl⟩
    · exact ⟨0, by omega, rfl⟩
  · have key : ∃ q, q ≤ 891 ∧ (if S.ak p = 0 then 0 else sayS V S 2 p * nI e) = nI q := by
      split
      · exact ⟨0, by omega, rfl⟩
      · have e9 : sayS V S 2 p = nI (eN (rawS V S 2 p) 9) := by
          unfold sayS
          rw [if_neg (by decide), if_neg (by decide)]
          exact wi_eN _ (by decide)
        rw [e9]
        have h9 := eN_le (rawS V S 2 p) 9
        refine ⟨eN (rawS V S 2 p) 9 * e, Nat.mul_le_mul h9 he, pk_mul _ _⟩
    obtain ⟨q, h1, h2⟩ := key
    rw [h2]
    by_cases g : S.kd p = 3
    · refine ⟨q / 2, by omega, ?_⟩
      show (if S.kd p = 3 then nI q / 2 else nI q) = _
      rw [if_pos g]
      exact half q h1
    · refine ⟨q, h1, ?_⟩
      show (if S.kd p = 3 then nI q / 2 else nI q) = _
      rw [if_neg g]
theorem onePays_b (hB : SkB S) (cov : Bool) (p : Nat) : ∃ q, q ≤ 891 ∧ onePays V cov S p = nI q := by
  unfold onePays
  split
  · exact pay_b hB p _ (eN_99 hB p cov _)
  · exact ⟨0, by omega, rfl⟩
theorem passF_b (cov : Bool) : ∀ m p (S : Sk) (a : Nat), SkB S → ∃ q, q ≤ a + 891 * m ∧ (passF V cov m p S (nI a)).2 = nI q
  | 0, _, _, a, _ => ⟨a, by omega, rfl⟩
  | m + 1, p, S, a, h => by
    obtain ⟨q, h1, h2⟩ := onePays_b (V := V) h cov p
    unfold passF
    rw [h2, nI_add]
    obtain ⟨q', h3, h4⟩ := passF_b cov m (p + 1) (oneS V cov S p) (a + q) (oneS_B h cov p)
    exact ⟨q', by omega, h4⟩
theorem passS_b (cov : Bool) (hB : SkB S) : ∃ q, q ≤ 4455 ∧ (passS V cov S).2 = nI q := by
  have hP := hB.2.2.2.2.2.2.2.1
  obtain ⟨q, h1, h2⟩ := passF_b (V := V) cov S.P 0 (loadsS S) 0 (loadsF_B S.T 0 S hB)
  exact ⟨q, by omega, h2⟩
theorem goF_b {x : Int32} : ∀ m i (S : Sk) (a : Nat), SkB S → S.nt + m ≤ 1100 → ∃ q, q ≤ a + 4455 * m ∧ (goF V x m i S (nI a)).2 = nI q
  | 0, _, _, a, _, _ => ⟨a, by omega, rfl⟩
  | m + 1, i, S, a, h, hN => by
    obtain ⟨q, h1, h2⟩ := passS_b (V := V) (bitI x i) h
    unfold goF
    rw [h2, nI_add]
    obtain ⟨q', h3, h4⟩ := goF_b m (i + 1) (passS V (bitI x i) S).1 (a + q) (passS_B _ h (by omega)) (by rw [passS_nt]; omega)
    exact ⟨q', by omega, h4⟩
theorem goS_b {x : Int32} {D : Nat} (hB : SkB S) (hN : S.nt + D ≤ 1100) : ∃ q, q ≤ 4455 * D ∧ (goS V x D S).2 = nI q := by
  obtain ⟨q, h1, h2⟩ := goF_b (V := V) (x := x) D 0 S 0 hB hN
  exact ⟨q, by omega, h2⟩
theorem left_b (hB : SkB S) : leftS S ≤ 792 := by
  have h := leftF_b hB S.T 0 0
  have hT := hB.2.2.2.2.2.2.1
  unfold leftS
  omega
end K

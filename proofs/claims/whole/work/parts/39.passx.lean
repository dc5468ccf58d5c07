/-! passing, running, the class's side -/
section K
variable {n C k : Nat} {V : Tx} {S : Sk} {σ : Gm}
theorem mm_eN (t : Int32) {r : Nat} (hr : r < 2 ^ 31) : (if nI r < (if t < (0 : Int32) then (0 : Int32) else t) then nI r else (if t < (0 : Int32) then (0 : Int32) else t)) = nI (eN t r) := by
  rw [mm_wi (nI_pos' hr), wi_eN t hr]
theorem eN_pos {t : Int32} (h : (0 : Int32) ≤ t) (r : Nat) : eN (-t) r = 0 := by
  have h1 : (0 : Int) ≤ t.toInt := Int32.le_iff_toInt_le.mp h
  have h2 : t.toInt < 2 ^ 31 := Int32.toInt_lt t
  have h3 : (-t).toInt = -t.toInt := by
    rw [Int32.toInt_neg]
    apply Int.bmod_eq_of_le <;> omega
  unfold eN
  rw [h3, show (-t.toInt).toNat = 0 by omega, Nat.zero_min]
theorem passL_x (hR : RuX n V C) (cov : Bool) : ∀ (m p f : Nat) (S : Sk) (σ : Gm) (a : Int32), SkB S → SkX k S σ → TxX V C σ → S.ru < C → p + m = S.P → m < f → S.nt ≤ 1099 → ∃ σ', f_X3_pass_L8 n k f σ (if cov then 1 else 0) a (nI p) = some ((passF V cov m p S a).2, σ') ∧ SkX k (upS (passF V cov m p S a).1 0 0 (S.nt + 1)) σ' ∧ FrX k σ σ'
  | m, i, 0, _, _, _, _, _, _, _, _, h, _ => by omega
  | 0, p, f + 1, S, σ, a, hB, h, _, _, he, _, hN => by
    have hP := hB.2.2.2.2.2.2.2.1
    unfold f_X3_pass_L8
    rw [h.2.2.2.2.2.2.2.2.1, if_pos (nI_le (show S.P ≤ p by omega) (by omega)), bv_e, h.1, nI_1]
    exact ⟨_, rfl, h.up5 (j := 0) (by omega), FrX.up⟩
  | m + 1, p, f + 1, S, σ, a, hB, h, hT, hC, he, hk, hN => by
    have hP := hB.2.2.2.2.2.2.2.1
    have hp : p < S.P := by omega
    have step : ∀ σ1, SkX k (oneS V cov S p) σ1 → FrX k σ σ1 → ∃ σ', f_X3_pass_L8 n k f σ1 (if cov then 1 else 0) (a + onePays V cov S p) (nI p + 1) = some ((passF V cov (m + 1) p S a).2, σ') ∧ SkX k (upS (passF V cov (m + 1) p S a).1 0 0 (S.nt + 1)) σ' ∧ FrX k σ σ' := by
      intro σ1 h1 f1
      rw [nI_1]
      have hP' : Sk.P (oneS V cov S p) = S.P := oneS_k cov p (by omega)
      have hr' : Sk.ru (oneS V cov S p) = S.ru := oneS_k cov p (by omega)
      have hn' : Sk.nt (oneS V cov S p) = S.nt := oneS_k cov p (by omega)
      obtain ⟨σ', a1, a2, a3⟩ := passL_x hR cov m (p + 1) f (oneS V cov S p) σ1 (a + onePays V cov S p) (oneS_B hB cov p) h1 (hT.fr f1) (by rw [hr']; exact hC) (by rw [hP']; omega) (by omega) (by rw [hn']; exact hN)
      rw [hn'] at a2
      exact ⟨σ', a1, a2, f1.tr a3⟩
    unfold f_X3_pass_L8
    rw [h.2.2.2.2.2.2.2.2.1, if_neg (show ¬ nI S.P ≤ nI p from nI_ge hp (by omega))]
    obtain ⟨σ1, a1, f1⟩ := comes_x hR hB h hT hC hp
    rw [a1, bc_s]
    by_cases g : comesS V S p
    · rw [if_pos g, if_neg (show ¬ (1 : Int32) = 0 by decide)]
      have h1 := h.fr f1
      have T1 := hT.fr (f1.X (kk := k))
      obtain ⟨σ2, a2, f2⟩ := throws_x hR hB h1 T1 hC hp cov
      have h2 := h1.fr f2
      have T2 := T1.fr (f2.X (kk := k))
      have hZ' : roomS S ≤ 999 := by have := hB.2.1; unfold roomS; omega
      have hTh := hB.2.2.2.2.1
      rw [a2, bc_s, room_x hB h2, bc_s, mm_eN _ (show roomS S < 2 ^ 31 by omega), bv_e, h2.2.2.2.2.1, mm_eN _ (show S.th < 2 ^ 31 by omega), bv_e]
      obtain ⟨σ3, a3, f3⟩ := pays_x hR hB h2 T2 hC hp (nI (eN (throwsS V S p cov) (roomS S)))
      have h3 := h2.fr f3
      have ep : onePays V cov S p = paysS V S p (nI (eN (throwsS V S p cov) (roomS S))) := if_pos g
      rw [a3, bc_s, bv_e, bv_e, h3.2.2.2.2.1, ← ep]
      by_cases g2 : (0 : Int32) ≤ throwsS V S p cov
      · rw [eN_pos g2, pk_sub (show 0 ≤ eN (throwsS V S p cov) (roomS S) by omega), Nat.sub_zero, nI_add]
        refine step _ ?_ ((f1.tr (f2.tr f3)).X.tr FrX.up)
        unfold oneS
        rw [if_pos g, if_pos g2]
        exact h3.up5 (j := 4) (by omega)
      · rw [eN_neg g2, show nI 0 - nI (eN (-throwsS V S p cov) S.th) = - nI (eN (-throwsS V S p cov) S.th) from Int32.zero_sub _, ← Int32.sub_eq_add_neg, pk_sub (eN_le _ _)]
        refine step _ ?_ ((f1.tr (f2.tr f3)).X.tr FrX.up)
        unfold oneS
        rw [if_pos g, if_neg g2]
        exact h3.up5 (j := 4) (by omega)
    · rw [if_neg g, if_pos rfl]
      have e0 : onePays V cov S p = 0 := if_neg g
      have e1 : oneS V cov S p = S := if_neg g
      have hs := step σ1 (by rw [e1]; exact h.fr f1) f1.X
      rw [e0, Int32.add_zero] at hs
      exact hs
theorem pass_x (hn : 600 < n) (hR : RuX n V C) (cov : Bool) (hB : SkB S) (h : SkX k S σ) (hT : TxX V C σ) (hC : S.ru < C) (hN : S.nt ≤ 1099) : ∃ σ', f_X3_pass n k σ (if cov then 1 else 0) = some ((passS V cov S).2, σ') ∧ SkX k (passS V cov S).1 σ' ∧ FrX k σ σ' := by
  unfold f_X3_pass
  obtain ⟨σ1, a1, h1, f1⟩ := loads_x hn hB h
  have hP := hB.2.2.2.2.2.2.2.1
  have hP' : Sk.P (loadsS S) = S.P := loadsF_k S.T 0 S (by omega) (by omega)
  have hr' : Sk.ru (loadsS S) = S.ru := loadsF_k S.T 0 S (by omega) (by omega)
  have hn' : Sk.nt (loadsS S) = S.nt := loadsF_k S.T 0 S (by omega) (by omega)
  rw [a1, bc_s]
  obtain ⟨σ', a2, h2, f2⟩ := passL_x hR cov S.P 0 n (loadsS S) σ1 0 (loadsF_B S.T 0 S hB) h1 (hT.fr f1) (by rw [hr']; exact hC) (by rw [hP']; omega) (by omega) (by rw [hn']; exact hN)
  refine ⟨σ', a2, ?_, f1.tr f2⟩
  have e : Sk.nt (passF V cov S.P 0 (loadsS S) 0).1 = Sk.nt (loadsS S) := passF_k cov S.P 0 (loadsS S) 0 (by omega)
  show SkX k (upS (passF V cov S.P 0 (loadsS S) 0).1 0 0 ((passF V cov S.P 0 (loadsS S) 0).1.nt + 1)) σ'
  rw [e]
  exact h2
theorem goL_x (hn : 600 < n) (hR : RuX n V C) {x : Int32} {D : Nat} (hD : D ≤ 30) : ∀ (m i f : Nat) (S : Sk) (σ : Gm) (a : Int32), SkB S → SkX k S σ → TxX V C σ → S.ru < C → i + m = D → m < f → S.nt + m ≤ 1100 → ∃ σ', f_X3_passAll_L5 n k f σ (nI D) x a (nI i) = some ((goF V x m i S a).2, σ') ∧ SkX k (goF V x m i S a).1 σ' ∧ FrX k σ σ'
  | m, i, 0, _, _, _, _, _, _, _, _, h, _ => by omega
  | 0, i, f + 1, S, σ, a, hB, h, _, _, he, _, _ => by
    unfold f_X3_passAll_L5
    rw [if_pos (nI_le (show D ≤ i by omega) (by omega))]
    exact ⟨σ, rfl, h, FrX.rf k σ⟩
  | m + 1, i, f + 1, S, σ, a, hB, h, hT, hC, he, hk, hN => by
    have step : ∀ b, bitI x i = b → ∃ σ', (bc (f_X3_pass n k σ (if b then 1 else 0)) fun r7 σ8 => bv (a + r7) fun v10 => f_X3_passAll_L5 n k f σ8 (nI D) x v10 (nI i + (1 : Int32))) = some ((goF V x (m + 1) i S a).2, σ') ∧ SkX k (goF V x (m + 1) i S a).1 σ' ∧ FrX k σ σ' := by
      intro b hb
      obtain ⟨σ1, a1, h1, f1⟩ := pass_x hn hR b hB h hT hC (by omega)
      rw [a1, bc_s, bv_e, nI_1]
      obtain ⟨σ', a2, h2, f2⟩ := goL_x hn hR hD m (i + 1) f (passS V b S).1 σ1 (a + (passS V b S).2) (passS_B b hB (by omega)) h1 (hT.fr f1) (by rw [show Sk.ru (passS V b S).1 = S.ru from passS_k b S (by omega) (by omega)]; exact hC) (by omega) (by omega) (by rw [passS_nt]; omega)
      unfold goF
      rw [hb]
      exact ⟨σ', a2, h2, f1.tr f2⟩
    unfold f_X3_passAll_L5
    rw [if_neg (show ¬ nI D ≤ nI i from nI_ge (by omega) (by omega))]
    by_cases g : ((x >>> (nI i &&& 31)) &&& (1 : Int32)) = (1 : Int32)
    · rw [if_pos g]
      exact step true (decide_eq_true g)
    · rw [if_neg g]
      exact step false (decide_eq_false g)
theorem go_x (hn : 600 < n) (hR : RuX n V C) {x : Int32} {D : Nat} (hD : D ≤ 30) (hB : SkB S) (h : SkX k S σ) (hT : TxX V C σ) (hC : S.ru < C) (hN : S.nt + D ≤ 1100) : ∃ σ', f_X3_passAll n k σ (nI D) x = some ((goS V x D S).2, σ') ∧ SkX k (goS V x D S).1 σ' ∧ FrX k σ σ' :=
  goL_x hn hR hD D 0 n S σ 0 hB h hT hC (by omega) (by omega) hN
end K

/-! tells, the reference's side, and both -/
section K
variable {n d C z k : Nat} {V : Tx} {b : Nat → Nat} {S : Sk} {σ : Gm} {μ : Wm}
theorem upS_up (S : Sk) (c j a v : Nat) : upS (upS S c j a) c j v = upS S c j v := by
  funext c' j'
  by_cases e : c' = c ∧ j' = j
  · obtain ⟨rfl, rfl⟩ := e
    rw [upS_at, upS_at]
  · rw [upS_of e, upS_of e, upS_of e]
theorem upS_id (S : Sk) (c j : Nat) : upS S c j (S c j) = S := by
  funext c' j'
  by_cases e : c' = c ∧ j' = j
  · obtain ⟨rfl, rfl⟩ := e
    exact upS_at _ _ _ _
  · exact upS_of e
theorem tlS_tl (w p y v : Nat) : tlS (tlS S w p y) w p v = tlS S w p v := by
  unfold tlS
  by_cases w1 : w = 1
  · rw [if_pos w1, if_pos w1, if_pos w1]
    exact upS_up _ _ _ _ _
  rw [if_neg w1, if_neg w1, if_neg w1]
  by_cases w2 : w = 2
  · rw [if_pos w2, if_pos w2, if_pos w2]
    exact upS_up _ _ _ _ _
  rw [if_neg w2, if_neg w2, if_neg w2]
  by_cases w3 : w = 3
  · rw [if_pos w3, if_pos w3, if_pos w3]
    exact upS_up _ _ _ _ _
  rw [if_neg w3, if_neg w3, if_neg w3]
  by_cases w5 : w = 5
  · rw [if_pos w5, if_pos w5, if_pos w5]
    exact upS_up _ _ _ _ _
  rw [if_neg w5, if_neg w5, if_neg w5]
  exact upS_up _ _ _ _ _
def tlB (S : Sk) (w p : Nat) : Nat := if w = 1 then S.kd p else if w = 2 then S.nb p else if w = 3 then S.mi else if w = 5 then S.ru else S.ak p
theorem tlS_id (w p : Nat) : tlS S w p (tlB S w p) = S := by
  unfold tlS tlB
  by_cases w1 : w = 1
  · rw [if_pos w1, if_pos w1]
    exact upS_id _ _ _
  rw [if_neg w1, if_neg w1]
  by_cases w2 : w = 2
  · rw [if_pos w2, if_pos w2]
    exact upS_id _ _ _
  rw [if_neg w2, if_neg w2]
  by_cases w3 : w = 3
  · rw [if_pos w3, if_pos w3]
    exact upS_id _ _ _
  rw [if_neg w3, if_neg w3]
  by_cases w5 : w = 5
  · rw [if_pos w5, if_pos w5]
    exact upS_id _ _ _
  rw [if_neg w5, if_neg w5]
  exact upS_id _ _ _
/-- the place that is laid -/
def tlW (w : Nat) : Nat := if w = 1 then 8 else if w = 2 then 6 else if w = 3 then 3 else if w = 5 then 9 else 7
/-- what trying may change -/
def FrL (μ μ' : Wm) : Prop := ∀ c k j, ¬ (k = 0 ∧ ((c = 0 ∧ (j = 4 ∨ (12 ≤ j ∧ j ≤ 26))) ∨ c = 7 ∨ c = 9)) → μ'.1 c k j = μ.1 c k j
theorem lays_m {w p v : Nat} (hw : w = 1 ∨ w = 2 ∨ w = 3 ∨ w = 5 ∨ w = 7) (hp : p < 5) (h : SkM S μ) : ∃ μ', f_X6_lays μ (nI (tlW w)) (nI p) (nI v) = some ((), μ') ∧ SkM (tlS S w p v) μ' ∧ FrL μ μ' := by
  unfold f_X6_lays
  rcases hw with rfl | rfl | rfl | rfl | rfl
  · rw [show tlW 1 = 8 from rfl, if_pos (show (5 : Int32) ≤ nI 8 by decide), if_neg (show ¬ nI 8 = (5 : Int32) by decide), if_pos (show (8 : Int32) ≤ nI 8 by decide), if_pos (show nI 8 = (8 : Int32) from rfl), x32, gd_h (inb_nI (show 3 * p + 2 < 15 by omega) (by decide)), nI_clamp (by omega), bv_e]
    exact ⟨_, rfl, h.upKd, fun c k j q => u1_of (by omega)⟩
  · rw [show tlW 2 = 6 from rfl, if_pos (show (5 : Int32) ≤ nI 6 by decide), if_neg (show ¬ nI 6 = (5 : Int32) by decide), if_neg (show ¬ (8 : Int32) ≤ nI 6 by decide), x3, nI_add, show nI (3 * p + 6) - (6 : Int32) = nI (3 * p + 6 - 6) from pk_sub (show 6 ≤ 3 * p + 6 by omega), show 3 * p + 6 - 6 = 3 * p by omega, gd_h (inb_nI (show 3 * p < 15 by omega) (by decide)), nI_clamp (by omega), bv_e]
    exact ⟨_, rfl, h.upNb, fun c k j q => u1_of (by omega)⟩
  · rw [show tlW 3 = 3 from rfl, if_neg (show ¬ (5 : Int32) ≤ nI 3 by decide), gd_h (inb_nI (show 3 < 5 by omega) (by decide)), nI_clamp (by omega), bv_e]
    exact ⟨_, rfl, h.up7 (by decide), fun c k j q => u1_of (by omega)⟩
  · rw [show tlW 5 = 9 from rfl, if_pos (show (5 : Int32) ≤ nI 9 by decide), if_neg (show ¬ nI 9 = (5 : Int32) by decide), if_pos (show (8 : Int32) ≤ nI 9 by decide), if_neg (show ¬ nI 9 = (8 : Int32) by decide), bv_e]
    exact ⟨_, rfl, h.upRu, fun c k j q => u1_of (by omega)⟩
  · rw [show tlW 7 = 7 from rfl, if_pos (show (5 : Int32) ≤ nI 7 by decide), if_neg (show ¬ nI 7 = (5 : Int32) by decide), if_neg (show ¬ (8 : Int32) ≤ nI 7 by decide), x3, nI_add, show nI (3 * p + 7) - (6 : Int32) = nI (3 * p + 7 - 6) from pk_sub (show 6 ≤ 3 * p + 7 by omega), show 3 * p + 7 - 6 = 3 * p + 1 by omega, gd_h (inb_nI (show 3 * p + 1 < 15 by omega) (by decide)), nI_clamp (by omega), bv_e]
    exact ⟨_, rfl, h.upAk, fun c k j q => u1_of (by omega)⟩
theorem orD {u i : Nat} (hi : i < 10) (hu : u < 1024) (h0 : u % 2 ^ (i + 1) = 0) : nI u ||| ((1 : Int32) <<< (nI i &&& 31)) = nI (u + 2 ^ i) := by
  have key : ∀ i, i < 10 → ∀ u, u < 1024 → u % 2 ^ (i + 1) = 0 → nI u ||| ((1 : Int32) <<< (nI i &&& 31)) = nI (u + 2 ^ i) := by decide +kernel
  exact key i hi u hu h0
theorem lsF_l {h : Nat → Nat} (L i : Nat) (hi : i < L) : lsF h (L - i) i = if h i = 1 then nI i else lsF h (L - (i + 1)) (i + 1) := by
  rw [show L - i = (L - (i + 1)) + 1 by omega]
  rfl
theorem i_dec (i : Nat) : nI (i + 1) - (1 : Int32) = nI i := pk_sub (show 1 ≤ i + 1 by omega)
theorem m1s (x : Int32) : x + (-1 : Int32) = x - (1 : Int32) := (Int32.sub_eq_add_neg x 1).symm
theorem tlL_m (hn : 600 < n) (hB : SkB S) (hN : S.nt ≤ 999) (hr : S.ru < C) (hC : C ≤ 6) {w p s sz : Nat} {g : Nat → Int32} (hw : w = 1 ∨ w = 2 ∨ w = 3 ∨ w = 5 ∨ w = 7) (hs : s < 4) (hp : p < S.P) (hz : sz ≤ 40) (x2 : Int32) : ∀ (i f y cnt : Nat) (x5 x7 : Int32) (μ : Wm), SkM (tlS S w p y) μ → TxM n V C μ → μ.1 37 0 s = nI sz → (∀ j, j < sz → μ.1 38 0 (40 * s + j) = g j) → i ≤ tlM C w → i < f → cnt + cnF (hvF V S w p g sz) i = cnF (hvF V S w p g sz) (tlM C w) → x7 = lsF (hvF V S w p g sz) (tlM C w - i) i → (tlM C w ≤ 10 → ∃ u, x5 = nI u ∧ u + mk (hvF V S w p g sz) i = mk (hvF V S w p g sz) (tlM C w) ∧ u % 2 ^ i = 0) → ∃ x5' μ', f_X6_tells_L239 n f μ (nI s) (nI p) x2 (nI (tlW w)) (nI (tlB S w p)) x5 (nI cnt) x7 (nI i - (1 : Int32)) = some (if x2 = (3 : Int32) then nI (cnF (hvF V S w p g sz) (tlM C w)) else if x2 = (4 : Int32) then lsF (hvF V S w p g sz) (tlM C w) 0 else x5', μ') ∧ (tlM C w ≤ 10 → x5' = nI (mk (hvF V S w p g sz) (tlM C w))) ∧ SkM S μ' ∧ FrL μ μ'
  | i, 0, _, _, _, _, _, _, _, _, _, _, h, _, _, _ => by omega
  | 0, f + 1, y, cnt, x5, x7, μ, hm, _, _, _, _, _, hc, h7, h5 => by
    have hP := hB.2.2.2.2.2.2.2.1
    unfold f_X6_tells_L239
    rw [if_pos (show nI 0 - (1 : Int32) < 0 by decide)]
    obtain ⟨μ', a1, a2, a3⟩ := lays_m (v := tlB S w p) hw (show p < 5 by omega) hm
    rw [tlS_tl, tlS_id] at a2
    rw [a1, bc_s]
    refine ⟨x5, μ', ?_, fun q => ?_, a2, a3⟩
    · rw [show cnF (hvF V S w p g sz) 0 = 0 from rfl, Nat.add_zero] at hc
      rw [← hc, h7]
      by_cases q3 : x2 = (3 : Int32)
      · rw [if_pos q3, if_pos q3]
      · rw [if_neg q3, if_neg q3]
        by_cases q4 : x2 = (4 : Int32)
        · rw [if_pos q4, if_pos q4]
          rfl
        · rw [if_neg q4, if_neg q4]
    · obtain ⟨u, e1, e2, -⟩ := h5 q
      rw [e1, ← e2]
      rfl
  | i + 1, f + 1, y, cnt, x5, x7, μ, hm, hT, e2, eg, hi, hf, hc, h7, h5 => by
    have hP := hB.2.2.2.2.2.2.2.1
    have hL : tlM C w ≤ 100 := by
      unfold tlM
      split
      · omega
      split
      · omega
      split
      · omega
      split <;> omega
    have hh : ∀ v, hvF V S w p g sz v ≤ 1 := fun v => hvF_1 w p g sz v
    unfold f_X6_tells_L239 f_X6_tells_J280
    rw [i_dec, if_neg (show ¬ nI i < 0 from nI_pos (by omega))]
    obtain ⟨μ1, a1, a2, a3⟩ := lays_m (v := i) hw (show p < 5 by omega) hm
    rw [tlS_tl] at a2
    have hw6 : ¬ w = 6 := by omega
    have en : (tlS S w p i).nt = S.nt := tlS_k (by omega)
    obtain ⟨μ2, b1, b2, b3⟩ := fo_m (V := V) (g := g) (sz := sz) hn (tlS_B hB hC (show i < tlM C w by omega)) (tlS_ru hr (show i < tlM C w by omega)) hs (by rw [show (tlS S w p i).P = S.P from tlS_k (by omega)]; exact hp) hz (by rw [en]; omega) a2 (hT.of fun c k j q => a3 c k j (by omega)) ((a3 _ _ _ (by omega)).trans e2) (fun j hj => (a3 _ _ _ (by omega)).trans (eg j hj))
    have hv : hvF V S w p g sz i = if foF V (tlS S w p i) p g sz 0 = -1 then 1 else 0 := if_neg hw6
    have fr : FrL μ μ2 := fun c k j q => (b3 c k j (by omega)).trans (a3 c k j q)
    have recu := fun (cnt : Nat) (x5 x7 : Int32) => tlL_m (g := g) (sz := sz) hn hB hN hr hC hw hs hp hz x2 i f i cnt x5 x7 μ2 b2 (hT.of fun c k j q => fr c k j (by omega)) ((fr _ _ _ (by omega)).trans e2) (fun j hj => (fr _ _ _ (by omega)).trans (eg j hj)) (by omega) (by omega)
    rw [a1, bc_s, b1, bc_s, m1s]
    have unc : cnF (hvF V S w p g sz) (i + 1) = cnF (hvF V S w p g sz) i + hvF V S w p g sz i := rfl
    have unm : mk (hvF V S w p g sz) (i + 1) = mk (hvF V S w p g sz) i + hvF V S w p g sz i * 2 ^ i := rfl
    have unl := lsF_l (h := hvF V S w p g sz) (tlM C w) i (by omega)
    rw [unc] at hc
    have wrap : ∀ {x : Option (Int32 × Wm)}, (∃ x5' μ', x = some (if x2 = (3 : Int32) then nI (cnF (hvF V S w p g sz) (tlM C w)) else if x2 = (4 : Int32) then lsF (hvF V S w p g sz) (tlM C w) 0 else x5', μ') ∧ (tlM C w ≤ 10 → x5' = nI (mk (hvF V S w p g sz) (tlM C w))) ∧ SkM S μ' ∧ FrL μ2 μ') → ∃ x5' μ', x = some (if x2 = (3 : Int32) then nI (cnF (hvF V S w p g sz) (tlM C w)) else if x2 = (4 : Int32) then lsF (hvF V S w p g sz) (tlM C w) 0 else x5', μ') ∧ (tlM C w ≤ 10 → x5' = nI (mk (hvF V S w p g sz) (tlM C w))) ∧ SkM S μ' ∧ FrL μ μ' := by
      rintro x ⟨x5', μ', q1, q2, q3, q4⟩
      exact ⟨x5', μ', q1, q2, q3, fun c k j q => (q4 c k j q).trans (fr c k j q)⟩
    by_cases q : foF V (tlS S w p i) p g sz 0 = -1
    · rw [if_pos q] at hv
      rw [hv] at hc unm unl
      rw [if_pos rfl] at unl
      rw [if_pos q]
      have hit : ∀ bt : Int32, (tlM C w ≤ 10 → bt = (1 : Int32) <<< (nI i &&& 31)) → ∃ x5' μ', (bv (x5 ||| bt) fun v53 => f_X6_tells_L239 n f μ2 (nI s) (nI p) x2 (nI (tlW w)) (nI (tlB S w p)) v53 (nI cnt + (1 : Int32)) (nI i) (nI i - (1 : Int32))) = some (if x2 = (3 : Int32) then nI (cnF (hvF V S w p g sz) (tlM C w)) else if x2 = (4 : Int32) then lsF (hvF V S w p g sz) (tlM C w) 0 else x5', μ') ∧ (tlM C w ≤ 10 → x5' = nI (mk (hvF V S w p g sz) (tlM C w))) ∧ SkM S μ' ∧ FrL μ μ' := by
        intro bt hbt
        rw [bv_e, nI_1]
        refine wrap (recu (cnt + 1) (x5 ||| bt) (nI i) (by omega) unl.symm fun hl => ?_)
        obtain ⟨u, u1, u2, u3⟩ := h5 hl
        rw [unm, Nat.one_mul] at u2
        have hmk := mk_lt (f := hvF V S w p g sz) hh (tlM C w)
        have h1024 : 2 ^ tlM C w ≤ 2 ^ 10 := Nat.pow_le_pow_right (by omega) hl
        refine ⟨u + 2 ^ i, ?_, by omega, ?_⟩
        · rw [u1, hbt hl]
          exact orD (by omega) (by omega) u3
        · rw [Nat.add_mod_right]
          rw [Nat.pow_succ] at u3
          exact Nat.mod_eq_zero_of_dvd (Nat.dvd_trans (Nat.dvd_mul_right _ _) (Nat.dvd_of_mod_eq_zero u3))
      by_cases q10 : (10 : Int32) ≤ nI i
      · rw [if_pos q10]
        refine hit 0 fun hl => ?_
        exact absurd q10 (nI_ge (show i < 10 by omega) (by decide))
      · rw [if_neg q10]
        exact hit _ fun _ => rfl
    · rw [if_neg q] at hv
      rw [hv] at hc unm unl
      rw [if_neg (by decide)] at unl
      rw [if_neg q]
      refine wrap (recu cnt x5 x7 (by omega) (h7.trans unl.symm) fun hl => ?_)
      obtain ⟨u, u1, u2, u3⟩ := h5 hl
      rw [unm, Nat.zero_mul, Nat.add_zero] at u2
      refine ⟨u, u1, u2, ?_⟩
      rw [Nat.pow_succ] at u3
      exact Nat.mod_eq_zero_of_dvd (Nat.dvd_trans (Nat.dvd_mul_right _ _) (Nat.dvd_of_mod_eq_zero u3))
theorem lkL_m (hn : 600 < n) (hB : SkB S) (hN : S.nt ≤ 999) (hr : S.ru < C) {s sz p0 : Nat} {g : Nat → Int32} (hs : s < 4) (hz : sz ≤ 40) : ∀ (m i f : Nat) (μ : Wm), SkM S μ → TxM n V C μ → μ.1 37 0 s = nI sz → (∀ j, j < sz → μ.1 38 0 (40 * s + j) = g j) → i + m = S.P → m < f → ∃ μ', f_X6_likeSet_L4 n f μ (nI s) (nI (mk (hvF V S 6 p0 g sz) i)) (nI i) = some (nI (mk (hvF V S 6 p0 g sz) S.P), μ') ∧ SkM S μ' ∧ FrC μ μ'
  | m, i, 0, _, _, _, _, _, _, h => by omega
  | 0, i, f + 1, μ, hm, _, _, _, he, _ => by
    have hP := hB.2.2.2.2.2.2.2.1
    unfold f_X6_likeSet_L4
    rw [hm.2.2.2.2.2.2.2.1, if_pos (nI_le (show S.P ≤ i by omega) (by omega)), show i = S.P by omega]
    exact ⟨μ, rfl, hm, fun _ _ _ _ => rfl⟩
  | m + 1, i, f + 1, μ, hm, hT, e2, eg, he, hk => by
    have hP := hB.2.2.2.2.2.2.2.1
    unfold f_X6_likeSet_L4
    rw [hm.2.2.2.2.2.2.2.1, if_neg (show ¬ nI S.P ≤ nI i from nI_ge (by omega) (by omega))]
    obtain ⟨μ1, b1, b2, b3⟩ := fo_m (V := V) (g := g) (sz := sz) hn hB hr hs (show i < S.P by omega) hz (by omega) hm hT e2 eg
    obtain ⟨μ', c1, c2, c3⟩ := lkL_m (p0 := p0) (g := g) (sz := sz) hn hB hN hr hs hz m (i + 1) f μ1 b2 (hT.of fun c k j q => b3 c k j (by omega)) ((b3 _ _ _ (by omega)).trans e2) (fun j hj => (b3 _ _ _ (by omega)).trans (eg j hj)) (by omega) (by omega)
    refine ⟨μ', ?_, c2, fun c k j q => (c3 c k j q).trans (b3 c k j q)⟩
    have hl := mk_lt (f := hvF V S 6 p0 g sz) (fun v => hvF_1 6 p0 g sz v) i
    rw [b1, bc_s, nI_1, bv_e, bv_e, orA (by omega) hl]
    have un : mk (hvF V S 6 p0 g sz) (i + 1) = mk (hvF V S 6 p0 g sz) i + hvF V S 6 p0 g sz i * 2 ^ i := rfl
    have hv : hvF V S 6 p0 g sz i = if foF V S i g sz 0 = -1 then 1 else 0 := if_pos rfl
    by_cases q : foF V S i g sz 0 = -1
    · rw [if_pos q] at hv ⊢
      rw [un, hv, Nat.one_mul] at c1
      exact c1
    · rw [if_neg q] at hv ⊢
      rw [un, hv, Nat.zero_mul, Nat.add_zero] at c1
      have e0 : nI (mk (hvF V S 6 p0 g sz) i) ||| ((0 : Int32) <<< (nI i &&& 31)) = nI (mk (hvF V S 6 p0 g sz) i) := by
        rw [show (0 : Int32) <<< (nI i &&& 31) = 0 from by
          have key : ∀ i, i < 5 → (0 : Int32) <<< (nI i &&& 31) = 0 := by decide +kernel
          exact key i (by omega), Int32.or_zero]
      rw [e0]
      exact c1
theorem told3 (hm : SkM S μ) {p : Nat} : f_X6_told n μ (nI p) (nI 3) = some (nI S.mi, μ) := by
  rw [told_e, show f_X6_in μ (nI 3).toInt64 (0 : Int64) (16 : Int64) = some (1, μ) from rfl, bc_s, if_neg (show ¬ (1 : Int32) = 0 by decide), of_m (nI p) (w := 3) (by decide), if_neg (show ¬ kT 3 = true by decide), if_neg (show ¬ kO 3 = true by decide), bc_s, if_neg (show ¬ (1 : Int32) = 0 by decide)]
  unfold toldT
  rw [if_neg (show ¬ (8 : Int32) ≤ nI 3 by decide), if_neg (show ¬ (5 : Int32) ≤ nI 3 by decide), gd_h (inb_nI (show 3 < 5 by omega) (by decide)), nI_clamp (by omega), hm.2.2.2.1]
theorem one_m (hB : SkB S) (hm : SkM S μ) {p : Nat} (hp : p < S.P) : f_X6_isOne μ (nI p) = some (1, μ) := by
  have hP := hB.2.2.2.2.2.2.2.1
  rcases one2 (nI p) hB with ⟨i, h1, h2, h3, h4⟩ | ⟨h1, h3, h4⟩
  · exact h4 μ hm
  · exact absurd ⟨p, hp, rfl⟩ h1
theorem told67 (hB : SkB S) (hm : SkM S μ) {p w : Nat} (hp : p < S.P) (hw : w = 6 ∨ w = 7) : f_X6_told n μ (nI p) (nI w) = some (if w = 6 then nI (S.nb p) else nI (S.ak p), μ) := by
  have hP := hB.2.2.2.2.2.2.2.1
  obtain ⟨q1, q2, q3⟩ := hm.2.2.2.2.2.2.2.2.2 p hp
  rw [told_e]
  unfold toldT
  rcases hw with rfl | rfl
  · rw [show f_X6_in μ (nI 6).toInt64 (0 : Int64) (16 : Int64) = some (1, μ) from rfl, bc_s, if_neg (show ¬ (1 : Int32) = 0 by decide), of_m (nI p) (w := 6) (by omega), one_m hB hm hp, if_neg (show ¬ kT 6 = true by decide), if_pos (show kO 6 = true by decide), bc_s, gd_h (show zb 1 = true by decide), bc_s, if_neg (show ¬ (1 : Int32) = 0 by decide), if_neg (show ¬ (8 : Int32) ≤ nI 6 by decide), if_pos (show (5 : Int32) ≤ nI 6 by decide), if_neg (show ¬ nI 6 = (5 : Int32) by decide), x3, nI_add, show nI (3 * p + 6) - (6 : Int32) = nI (3 * p + 6 - 6) from pk_sub (show 6 ≤ 3 * p + 6 by omega), show 3 * p + 6 - 6 = 3 * p by omega, gd_h (inb_nI (show 3 * p < 15 by omega) (by decide)), nI_clamp (by omega), q1]
    rfl
  · rw [show f_X6_in μ (nI 7).toInt64 (0 : Int64) (16 : Int64) = some (1, μ) from rfl, bc_s, if_neg (show ¬ (1 : Int32) = 0 by decide), of_m (nI p) (w := 7) (by omega), one_m hB hm hp, if_neg (show ¬ kT 7 = true by decide), if_pos (show kO 7 = true by decide), bc_s, gd_h (show zb 1 = true by decide), bc_s, if_neg (show ¬ (1 : Int32) = 0 by decide), if_neg (show ¬ (8 : Int32) ≤ nI 7 by decide), if_pos (show (5 : Int32) ≤ nI 7 by decide), if_neg (show ¬ nI 7 = (5 : Int32) by decide), x3, nI_add, show nI (3 * p + 7) - (6 : Int32) = nI (3 * p + 7 - 6) from pk_sub (show 6 ≤ 3 * p + 7 by omega), show 3 * p + 7 - 6 = 3 * p + 1 by omega, gd_h (inb_nI (show 3 * p + 1 < 15 by omega) (by decide)), nI_clamp (by omega), q2]
    rfl
/-- trying all that is asked for -/
theorem j127_m (hn : 600 < n) (hB : SkB S) (hN : S.nt ≤ 999) (hr : S.ru < C) (hC : C ≤ 6) (hm : SkM S μ) (hT : TxM n V C μ) (cm : μ.1 0 0 3 = nI C) {w p s sz : Nat} {g : Nat → Int32} (hw : w = 1 ∨ w = 2 ∨ w = 3 ∨ w = 5 ∨ w = 7) (hs : s < 4) (hp : p < S.P) (hz : sz ≤ 40) (e2 : μ.1 37 0 s = nI sz) (eg : ∀ j, j < sz → μ.1 38 0 (40 * s + j) = g j) (x2 : Int32) : ∃ x5' μ', f_X6_tells_J127 n μ (nI s) (nI p) x2 (nI (tlW w)) = some (if x2 = (3 : Int32) then nI (cnF (hvF V S w p g sz) (tlM C w)) else if x2 = (4 : Int32) then lsF (hvF V S w p g sz) (tlM C w) 0 else x5', μ') ∧ (tlM C w ≤ 10 → x5' = nI (mk (hvF V S w p g sz) (tlM C w))) ∧ SkM S μ' ∧ FrL μ μ' := by
  have hP := hB.2.2.2.2.2.2.2.1
  have hL : tlM C w ≤ 100 := by
    unfold tlM
    split
    · omega
    split
    · omega
    split
    · omega
    split <;> omega
  have main : ∃ x5' μ', f_X6_tells_L239 n n μ (nI s) (nI p) x2 (nI (tlW w)) (nI (tlB S w p)) (0 : Int32) (0 : Int32) (-1 : Int32) (nI (tlM C w) - (1 : Int32)) = some (if x2 = (3 : Int32) then nI (cnF (hvF V S w p g sz) (tlM C w)) else if x2 = (4 : Int32) then lsF (hvF V S w p g sz) (tlM C w) 0 else x5', μ') ∧ (tlM C w ≤ 10 → x5' = nI (mk (hvF V S w p g sz) (tlM C w))) ∧ SkM S μ' ∧ FrL μ μ' :=
    tlL_m (V := V) (g := g) (sz := sz) hn hB hN hr hC hw hs hp hz x2 (tlM C w) n (tlB S w p) 0 0 (-1) μ (by rw [tlS_id]; exact hm) hT e2 eg (Nat.le_refl _) (by omega) (by omega) (by rw [Nat.sub_self]; rfl) (fun _ => ⟨0, rfl, by omega, Nat.zero_mod _⟩)
  unfold f_X6_tells_J127 f_X6_tells_J170 f_X6_tells_J224
  rcases hw with rfl | rfl | rfl | rfl | rfl
  · rw [show tlW 1 = 8 from rfl] at main ⊢
    rw [if_neg (show ¬ nI 8 = (9 : Int32) by decide), if_pos (show nI 8 = (8 : Int32) from rfl), x32, gd_h (inb_nI (show 3 * p + 2 < 15 by omega) (by decide)), nI_clamp (by omega), (hm.2.2.2.2.2.2.2.2.2 p hp).2.2]
    rw [if_neg (show ¬ nI 8 = (9 : Int32) by decide), if_pos (show nI 8 = (8 : Int32) from rfl)]
    have e9 : nI (tlM C 1) - (1 : Int32) = 5 := (show nI 6 - (1 : Int32) = 5 by decide)
    rw [e9, show tlB S 1 p = S.kd p from rfl] at main
    exact main
  · rw [show tlW 2 = 6 from rfl] at main ⊢
    rw [if_neg (show ¬ nI 6 = (9 : Int32) by decide), if_neg (show ¬ nI 6 = (8 : Int32) by decide), told67 hB hm hp (Or.inl rfl), bc_s]
    rw [if_neg (show ¬ nI 6 = (9 : Int32) by decide), if_neg (show ¬ nI 6 = (8 : Int32) by decide), if_pos (show nI 6 = (6 : Int32) from rfl)]
    have e9 : nI (tlM C 2) - (1 : Int32) = 9 := (show nI 10 - (1 : Int32) = 9 by decide)
    rw [e9, show tlB S 2 p = S.nb p from rfl] at main
    rw [if_pos (show 6 = 6 from rfl)]
    exact main
  · rw [show tlW 3 = 3 from rfl] at main ⊢
    rw [if_neg (show ¬ nI 3 = (9 : Int32) by decide), if_neg (show ¬ nI 3 = (8 : Int32) by decide), told3 hm, bc_s]
    rw [if_neg (show ¬ nI 3 = (9 : Int32) by decide), if_neg (show ¬ nI 3 = (8 : Int32) by decide), if_neg (show ¬ nI 3 = (6 : Int32) by decide), if_neg (show ¬ nI 3 = (7 : Int32) by decide)]
    have e9 : nI (tlM C 3) - (1 : Int32) = 99 := (show nI 100 - (1 : Int32) = 99 by decide)
    rw [e9, show tlB S 3 p = S.mi from rfl] at main
    exact main
  · rw [show tlW 5 = 9 from rfl] at main ⊢
    rw [if_pos (show nI 9 = (9 : Int32) from rfl), hm.2.2.2.2.2.1]
    rw [if_pos (show nI 9 = (9 : Int32) from rfl), cm]
    exact main
  · rw [show tlW 7 = 7 from rfl] at main ⊢
    rw [if_neg (show ¬ nI 7 = (9 : Int32) by decide), if_neg (show ¬ nI 7 = (8 : Int32) by decide), told67 hB hm hp (Or.inr rfl), bc_s]
    rw [if_neg (show ¬ nI 7 = (9 : Int32) by decide), if_neg (show ¬ nI 7 = (8 : Int32) by decide), if_neg (show ¬ nI 7 = (6 : Int32) by decide), if_pos (show nI 7 = (7 : Int32) from rfl)]
    have e9 : nI (tlM C 7) - (1 : Int32) = 1 := (show nI 2 - (1 : Int32) = 1 by decide)
    rw [e9, show tlB S 7 p = S.ak p from rfl] at main
    rw [if_neg (show ¬ 7 = 6 by decide)]
    exact main
theorem tells_s (hn : 600 < n) (hR : RuX n V C) (h : Re n V C S z b σ μ) (hS : ShR σ μ) (a1 a2 a3 : Int32) : Go n V C z b σ μ (f_X5_tells n σ a1 a2 a3) (f_X6_tells n μ a1 a2 a3) := by
  obtain ⟨hB, hN, hx, hm, TX, TM, cx, cm, hC, hr, -⟩ := id h
  have hP := hB.2.2.2.2.2.2.2.1
  unfold f_X5_tells f_X6_tells
  rcases sheet2 a1 with ⟨s, hs, rfl, g4, g5⟩ | ⟨g4, g5⟩
  case inr =>
    rw [g4 σ, g5 μ, bc_s, bc_s, on0, if_pos rfl]
    exact Go.same h _ rfl rfl
  rw [g4 σ, g5 μ, bc_s, bc_s, on1, gd_h (ltb4 hs), if_neg (show ¬ (1 : Int32) = 0 by decide)]
  rcases one2 a2 hB with ⟨p, hp, rfl, g4, g5⟩ | ⟨-, g4, g5⟩
  case inr =>
    rw [g4 0 σ hx, g5 μ hm, bc_s, bc_s, if_pos rfl, if_pos rfl]
    exact Go.same h _ rfl rfl
  rw [g4 0 σ hx, g5 μ hm, bc_s, bc_s, if_neg (show ¬ (1 : Int32) = 0 by decide), if_neg (show ¬ (1 : Int32) = 0 by decide)]
  rcases rng a3 (lo := 0) (hi := 7) (by decide) (by decide) with ⟨w, -, hw, rfl, g4, g5⟩ | ⟨-, g4, g5⟩
  case inr =>
    rw [show f_X5_within σ a3 (0 : Int32) (7 : Int32) = _ from g4 σ, show f_X6_in μ a3.toInt64 (0 : Int64) (7 : Int64) = _ from g5 μ, bc_s, bc_s, if_pos rfl, if_pos rfl]
    exact Go.same h _ rfl rfl
  rw [show f_X5_within σ (nI w) (0 : Int32) (7 : Int32) = _ from g4 σ, show f_X6_in μ (nI w).toInt64 (0 : Int64) (7 : Int64) = _ from g5 μ, bc_s, bc_s, if_neg (show ¬ (1 : Int32) = 0 by decide), if_neg (show ¬ (1 : Int32) = 0 by decide), gd_h (inb_nI (show s < 4 by omega) (by decide)), nI_clamp (show s < 2 ^ 31 by omega), gd_h (inb_nI (show s < 4 by omega) (by decide))]
  rcases hS s hs with ⟨h1, h2⟩ | ⟨so, sz, hso, hz, e1, e2, e3, e4, e5, e6⟩
  · rw [miss_x h1, bc_s, if_neg (show ¬ (1 : Int32) = 0 by decide), h2, if_pos rfl]
    exact Go.same h _ rfl rfl
  rw [there_x hso e1, bc_s, if_pos rfl, e3, if_neg (show ¬ (1 : Int32) = 0 by decide), e2, e5]
  by_cases h20 : nI sz ≤ (20 : Int32)
  case neg =>
    rw [if_neg h20, if_neg h20]
    exact Go.same h _ rfl rfl
  rw [if_pos h20, if_pos h20]
  have eg : ∀ j, j < sz → μ.1 38 0 (40 * s + j) = σ 19 s j := fun j hj => (e6 j hj).symm
  have fb := fun (w M : Nat) (hw : w = 1 ∨ w = 2 ∨ w = 3 ∨ w = 5 ∨ w = 6 ∨ w = 7) (hM : M ≤ 10) (hMw : if w = 6 then M ≤ S.P else M ≤ tlM C w) => fbL_x (g := σ 19 s) hn hR hB hr hC hp hz (show S.nt + sz ≤ 1100 by omega) hw hM hMw M 0 n σ hx TX e2 (fun _ => rfl) (by omega) (by omega)
  have jm := fun (w : Nat) (hw : w = 1 ∨ w = 2 ∨ w = 3 ∨ w = 5 ∨ w = 7) (x2 : Int32) => j127_m (V := V) (g := σ 19 s) hn hB hN hr hC hm TM cm hw hs hp hz e5 eg x2
  have fin : ∀ {r : Int32} {σ' : Gm} {μ' : Wm}, FrU σ σ' → SkM S μ' → FrL μ μ' → Go n V C z b σ μ (some (r, σ')) (some (r, μ')) := fun u t v => Go.fin h _ rfl rfl u t fun c k j q => v c k j (by omega)
  unfold f_X5_fittingBits f_X5_fittingMines f_X5_leastFittingMine
  rcases (show w = 0 ∨ w = 1 ∨ w = 2 ∨ w = 3 ∨ w = 4 ∨ w = 5 ∨ w = 6 ∨ w = 7 by omega) with rfl | rfl | rfl | rfl | rfl | rfl | rfl | rfl
  · obtain ⟨σ1, a1, a2, a3⟩ := as_x (k := 2) (k1 := 0) (by decide) hB hx
    have u1 : FrU σ σ1 := FrU.as a3 (by decide)
    obtain ⟨σ', b1, b2⟩ := fo_x (g := σ 19 s) hn hR hB hr hp hz (show S.nt + sz ≤ 1100 by omega) a2 (u1.tx TX) ((u1 _ _ _ (by omega)).trans e2) (fun j => u1 19 s j (by omega)) ((u1 _ _ _ (by omega)).trans hx.1)
    obtain ⟨μ', c1, c2, c3⟩ := fo_m (V := V) (g := σ 19 s) hn hB hr hs hp hz (show S.nt + sz ≤ 1100 by omega) hm TM e5 eg
    unfold f_X6_tells_J66
    rw [if_pos (show nI 0 = (0 : Int32) from rfl), if_pos (show nI 0 = (0 : Int32) from rfl), if_pos (show nI 0 = (0 : Int32) from rfl), a1, bc_s, b1, bc_s, c1, bc_s]
    exact fin (u1.tr b2) c2 fun c k j q => c3 c k j (by omega)
  · obtain ⟨σ', b1, b2⟩ := fb 1 6 (by omega) (by omega) (show 6 ≤ 6 from Nat.le_refl 6)
    obtain ⟨x5, μ', c1, c2, c3, c4⟩ := jm 1 (by omega) (nI 1)
    rw [if_neg (show ¬ nI 1 = (3 : Int32) by decide), if_neg (show ¬ nI 1 = (4 : Int32) by decide), c2 (show 6 ≤ 10 by decide)] at c1
    rw [if_neg (show ¬ nI 1 = (0 : Int32) by decide), if_neg (show ¬ nI 1 = (0 : Int32) by decide), if_pos (show nI 1 = (1 : Int32) from rfl), if_neg (show ¬ nI 1 = (6 : Int32) by decide), if_pos (show nI 1 = (1 : Int32) from rfl), show f_X5_fittingBits_L6 n s n σ (nI p) (nI 1) (6 : Int32) (0 : Int32) (0 : Int32) = _ from b1, bc_s, show f_X6_tells_J127 n μ (nI s) (nI p) (nI 1) (8 : Int32) = _ from c1]
    exact fin b2 c3 c4
  · obtain ⟨σ', b1, b2⟩ := fb 2 10 (by omega) (by omega) (show 10 ≤ 10 from Nat.le_refl 10)
    obtain ⟨x5, μ', c1, c2, c3, c4⟩ := jm 2 (by omega) (nI 2)
    rw [if_neg (show ¬ nI 2 = (3 : Int32) by decide), if_neg (show ¬ nI 2 = (4 : Int32) by decide), c2 (show 10 ≤ 10 by decide)] at c1
    rw [if_neg (show ¬ nI 2 = (0 : Int32) by decide), if_neg (show ¬ nI 2 = (0 : Int32) by decide), if_neg (show ¬ nI 2 = (1 : Int32) by decide), if_pos (show nI 2 = (2 : Int32) from rfl), if_neg (show ¬ nI 2 = (6 : Int32) by decide), if_neg (show ¬ nI 2 = (1 : Int32) by decide), if_pos (show nI 2 = (2 : Int32) from rfl), show f_X5_fittingBits_L6 n s n σ (nI p) (nI 2) (10 : Int32) (0 : Int32) (0 : Int32) = _ from b1, bc_s, show f_X6_tells_J127 n μ (nI s) (nI p) (nI 2) (6 : Int32) = _ from c1]
    exact fin b2 c3 c4
  · obtain ⟨σ', b1, b2⟩ := fmnL_x (g := σ 19 s) hn hR hB hr hC hp hz (show S.nt + sz ≤ 1100 by omega) 100 0 n σ hx TX e2 (fun _ => rfl) (by omega) (by omega)
    obtain ⟨x5, μ', c1, c2, c3, c4⟩ := jm 3 (by omega) (nI 3)
    rw [if_pos (show nI 3 = (3 : Int32) from rfl)] at c1
    rw [if_neg (show ¬ nI 3 = (0 : Int32) by decide), if_neg (show ¬ nI 3 = (0 : Int32) by decide), if_neg (show ¬ nI 3 = (1 : Int32) by decide), if_neg (show ¬ nI 3 = (2 : Int32) by decide), if_pos (show nI 3 = (3 : Int32) from rfl), if_neg (show ¬ nI 3 = (6 : Int32) by decide), if_neg (show ¬ nI 3 = (1 : Int32) by decide), if_neg (show ¬ nI 3 = (2 : Int32) by decide), if_neg (show ¬ nI 3 = (5 : Int32) by decide), if_neg (show ¬ nI 3 = (7 : Int32) by decide), show f_X5_fittingMines_L5 n s n σ (nI p) (0 : Int32) (0 : Int32) = _ from b1, bc_s, show f_X6_tells_J127 n μ (nI s) (nI p) (nI 3) (3 : Int32) = _ from c1]
    exact fin b2 c3 c4
  · obtain ⟨σ', b1, b2⟩ := flmL_x (g := σ 19 s) hn hR hB hr hC hp hz (show S.nt + sz ≤ 1100 by omega) 100 0 n σ hx TX e2 (fun _ => rfl) (by omega) (by omega)
    obtain ⟨x5, μ', c1, c2, c3, c4⟩ := jm 3 (by omega) (nI 4)
    rw [if_neg (show ¬ nI 4 = (3 : Int32) by decide), if_pos (show nI 4 = (4 : Int32) from rfl)] at c1
    rw [if_neg (show ¬ nI 4 = (0 : Int32) by decide), if_neg (show ¬ nI 4 = (0 : Int32) by decide), if_neg (show ¬ nI 4 = (1 : Int32) by decide), if_neg (show ¬ nI 4 = (2 : Int32) by decide), if_neg (show ¬ nI 4 = (3 : Int32) by decide), if_pos (show nI 4 = (4 : Int32) from rfl), if_neg (show ¬ nI 4 = (6 : Int32) by decide), if_neg (show ¬ nI 4 = (1 : Int32) by decide), if_neg (show ¬ nI 4 = (2 : Int32) by decide), if_neg (show ¬ nI 4 = (5 : Int32) by decide), if_neg (show ¬ nI 4 = (7 : Int32) by decide), show f_X5_leastFittingMine_L2 n s n σ (nI p) (0 : Int32) = _ from b1, bc_s, show f_X6_tells_J127 n μ (nI s) (nI p) (nI 4) (3 : Int32) = _ from c1]
    exact fin b2 c3 c4
  · obtain ⟨σ', b1, b2⟩ := fb 5 C (by omega) (by omega) (by rw [if_neg (by decide)]; exact Nat.le_refl C)
    obtain ⟨x5, μ', c1, c2, c3, c4⟩ := jm 5 (by omega) (nI 5)
    rw [if_neg (show ¬ nI 5 = (3 : Int32) by decide), if_neg (show ¬ nI 5 = (4 : Int32) by decide), c2 (show C ≤ 10 by omega)] at c1
    rw [if_neg (show ¬ nI 5 = (0 : Int32) by decide), if_neg (show ¬ nI 5 = (0 : Int32) by decide), if_neg (show ¬ nI 5 = (1 : Int32) by decide), if_neg (show ¬ nI 5 = (2 : Int32) by decide), if_neg (show ¬ nI 5 = (3 : Int32) by decide), if_neg (show ¬ nI 5 = (4 : Int32) by decide), if_pos (show nI 5 = (5 : Int32) from rfl), if_neg (show ¬ nI 5 = (6 : Int32) by decide), if_neg (show ¬ nI 5 = (1 : Int32) by decide), if_neg (show ¬ nI 5 = (2 : Int32) by decide), if_pos (show nI 5 = (5 : Int32) from rfl), cx, show f_X5_fittingBits_L6 n s n σ (nI p) (nI 5) (nI C) (0 : Int32) (0 : Int32) = _ from b1, bc_s, show f_X6_tells_J127 n μ (nI s) (nI p) (nI 5) (9 : Int32) = _ from c1]
    exact fin b2 c3 c4
  · obtain ⟨σ', b1, b2⟩ := fb 6 S.P (by omega) (by omega) (by rw [if_pos rfl]; exact Nat.le_refl _)
    obtain ⟨μ', c1, c2, c3⟩ := lkL_m (V := V) (p0 := p) (g := σ 19 s) hn hB hN hr hs hz S.P 0 n μ hm TM e5 eg (by omega) (by omega)
    unfold f_X6_tells_J66 f_X6_likeSet
    rw [if_neg (show ¬ nI 6 = (0 : Int32) by decide), if_neg (show ¬ nI 6 = (0 : Int32) by decide), if_neg (show ¬ nI 6 = (1 : Int32) by decide), if_neg (show ¬ nI 6 = (2 : Int32) by decide), if_neg (show ¬ nI 6 = (3 : Int32) by decide), if_neg (show ¬ nI 6 = (4 : Int32) by decide), if_neg (show ¬ nI 6 = (5 : Int32) by decide), if_pos (show nI 6 = (6 : Int32) from rfl), if_pos (show nI 6 = (6 : Int32) from rfl), if_neg (show ¬ nI 6 = (0 : Int32) by decide), hx.2.2.2.2.2.2.2.2.1, show f_X5_fittingBits_L6 n s n σ (nI p) (nI 6) (nI S.P) (0 : Int32) (0 : Int32) = _ from b1, bc_s, show f_X6_likeSet_L4 n n μ (nI s) (0 : Int32) (0 : Int32) = _ from c1, bc_s]
    exact fin b2 c2 fun c k j q => c3 c k j (by omega)
  · obtain ⟨σ', b1, b2⟩ := fb 7 2 (by omega) (by omega) (show 2 ≤ 2 from Nat.le_refl 2)
    obtain ⟨x5, μ', c1, c2, c3, c4⟩ := jm 7 (by omega) (nI 7)
    rw [if_neg (show ¬ nI 7 = (3 : Int32) by decide), if_neg (show ¬ nI 7 = (4 : Int32) by decide), c2 (show 2 ≤ 10 by decide)] at c1
    rw [if_neg (show ¬ nI 7 = (0 : Int32) by decide), if_neg (show ¬ nI 7 = (0 : Int32) by decide), if_neg (show ¬ nI 7 = (1 : Int32) by decide), if_neg (show ¬ nI 7 = (2 : Int32) by decide), if_neg (show ¬ nI 7 = (3 : Int32) by decide), if_neg (show ¬ nI 7 = (4 : Int32) by decide), if_neg (show ¬ nI 7 = (5 : Int32) by decide), if_neg (show ¬ nI 7 = (6 : Int32) by decide), if_neg (show ¬ nI 7 = (6 : Int32) by decide), if_neg (show ¬ nI 7 = (1 : Int32) by decide), if_neg (show ¬ nI 7 = (2 : Int32) by decide), if_neg (show ¬ nI 7 = (5 : Int32) by decide), if_pos (show nI 7 = (7 : Int32) from rfl), show f_X5_fittingBits_L6 n s n σ (nI p) (nI 7) (2 : Int32) (0 : Int32) (0 : Int32) = _ from b1, bc_s, show f_X6_tells_J127 n μ (nI s) (nI p) (nI 7) (7 : Int32) = _ from c1]
    exact fin b2 c3 c4
end K

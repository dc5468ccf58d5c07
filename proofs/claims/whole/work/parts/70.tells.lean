/-! tells, both sides alike -/
section K
variable {n d C z k : Nat} {V : Tx} {b : Nat → Nat} {S : Sk} {σ : Gm} {μ : Wm}
def foF (V : Tx) (S : Sk) (p : Nat) (g : Nat → Int32) : Nat → Nat → Int32
  | 0, _ => -1
  | m + 1, i => if thS V S p i = g i then foF V S p g m (i + 1) else nI i
theorem foL_x (hR : RuX n V C) (hB : SkB S) (hr : S.ru < C) {p s sz : Nat} {g : Nat → Int32} (hp : p < S.P) (hz : sz ≤ 40) (hN : S.nt + sz ≤ 1100) : ∀ (m i f y : Nat) (σ : Gm), SkX 2 (delS S y) σ → TxX V C σ → σ 18 s 2 = nI sz → (∀ j, σ 19 s j = g j) → σ 13 0 5 = nI S.nt → i + m = sz → m < f → ∃ σ', f_X5_firstOtherwise_L10 n s f σ (nI p) (nI i) = some (foF V S p g m i, σ') ∧ FrU σ σ'
  | m, i, 0, _, _, _, _, _, _, _, _, h => by omega
  | 0, i, f + 1, y, σ, _, _, e2, _, _, he, _ => by
    unfold f_X5_firstOtherwise_L10
    rw [e2, if_pos (nI_le (show sz ≤ i by omega) (by omega))]
    exact ⟨σ, rfl, FrU.rf σ⟩
  | m + 1, i, f + 1, y, σ, hx, hT, e2, eg, e0, he, hk => by
    unfold f_X5_firstOtherwise_L10
    rw [e2, if_neg (show ¬ nI sz ≤ nI i from nI_ge (by omega) (by omega)), e0, bv_e, nI_add]
    have hx2 : SkX 2 (delS S i) (up3 σ 13 2 5 (nI (S.nt + i))) := by
      have h := hx.up5 (j := 0) (v := S.nt + i) (by decide)
      rw [delS_up] at h
      exact h
    have u1 : FrU σ (up3 σ 13 2 5 (nI (S.nt + i))) := FrU.up (by decide)
    obtain ⟨σ1, a1, a2⟩ := throws_x hR (delS_B2 hB (show S.nt + i ≤ 1100 by omega)) hx2 (u1.tx hT) (by rw [delS_ru]; exact hr) (show p < (delS S i).P by rw [delS_P]; exact hp) false
    have u2 : FrU σ σ1 := u1.tr a2.U
    rw [show f_X3_throwing n 2 (up3 σ 13 2 5 (nI (S.nt + i))) (nI p) (0 : Int32) = _ from a1, bc_s, gd_h (inb_nI (show i < 40 by omega) (by decide)), nI_clamp (by omega), u2 19 s i (by omega), eg i, nI_1]
    unfold foF
    by_cases q : thS V S p i = g i
    · rw [if_pos (show throwsS V (delS S i) p false = g i from q), if_pos q]
      obtain ⟨σ', b1, b2⟩ := foL_x hR hB hr hp hz hN m (i + 1) f i σ1 (hx2.fr a2) (u2.tx hT) ((u2 _ _ _ (by omega)).trans e2) (fun j => (u2 19 s j (by omega)).trans (eg j)) ((u2 _ _ _ (by omega)).trans e0) (by omega) (by omega)
      exact ⟨σ', b1, u2.tr b2⟩
    · rw [if_neg (show ¬ throwsS V (delS S i) p false = g i from q), if_neg q]
      exact ⟨σ1, rfl, u2⟩
/-- what comparing may change -/
def FrC (μ μ' : Wm) : Prop := ∀ c k j, ¬ (k = 0 ∧ ((c = 0 ∧ 12 ≤ j ∧ j ≤ 26) ∨ c = 7)) → μ'.1 c k j = μ.1 c k j
theorem foL_m (hB : SkB S) (hr : S.ru < C) {p s sz : Nat} {g : Nat → Int32} (hs : s < 4) (hp : p < S.P) (hz : sz ≤ 40) (hN : S.nt + sz ≤ 1100) : ∀ (m i f y : Nat) (μ : Wm), SkM (delS S y) μ → TxM n V C μ → μ.1 37 0 s = nI sz → (∀ j, j < sz → μ.1 38 0 (40 * s + j) = g j) → i + m = sz → m < f → ∃ μ', f_X6_firstOther_L13 n f μ (nI s) (nI p) (nI S.nt) (-1 : Int32) (nI i) = some (foF V S p g m i, μ') ∧ SkM S μ' ∧ FrC μ μ'
  | m, i, 0, _, _, _, _, _, _, _, h => by omega
  | 0, i, f + 1, y, μ, hm, _, e2, _, he, _ => by
    unfold f_X6_firstOther_L13
    rw [gd_h (inb_nI (show s < 4 by omega) (by decide)), nI_clamp (by omega), e2, if_pos (nI_le (show sz ≤ i by omega) (by omega)), bv_e]
    refine ⟨_, rfl, ?_, fun c k j q => u1_of (by omega)⟩
    have h := hm.up7 (j := 0) (v := S.nt) (by decide)
    rw [delS_up, show upS S 0 0 S.nt = S from delS_0] at h
    exact h
  | m + 1, i, f + 1, y, μ, hm, hT, e2, eg, he, hk => by
    unfold f_X6_firstOther_L13
    rw [gd_h (inb_nI (show s < 4 by omega) (by decide)), nI_clamp (show s < 2 ^ 31 by omega), e2, if_neg (show ¬ nI sz ≤ nI i from nI_ge (by omega) (by omega)), if_pos rfl, bv_e, nI_add]
    have hm2 : SkM (delS S i) (up3 μ.1 7 0 0 (nI (S.nt + i)), μ.2) := by
      have h := hm.up7 (j := 0) (v := S.nt + i) (by decide)
      rw [delS_up] at h
      exact h
    obtain ⟨μ1, a1, a2⟩ := throws_m (V := V) (delS_B2 hB (show S.nt + i ≤ 1100 by omega)) hm2 (hT.of fun c k j q => u1_of (by omega)) (by rw [delS_ru]; exact hr) (show p < (delS S i).P by rw [delS_P]; exact hp) false
    have fr : ∀ c k j, ¬ (k = 0 ∧ ((c = 0 ∧ 12 ≤ j ∧ j ≤ 26) ∨ c = 7)) → μ1.1 c k j = μ.1 c k j := fun c k j q => (a2 c k j (by omega)).trans (u1_of (by omega))
    have hm3 := hm2.fr a2
    rw [show f_X6_throwsOf n (up3 μ.1 7 0 0 (nI (S.nt + i)), μ.2) (nI p) (0 : Int32) = _ from a1, bc_s, x40, gd_h (inb_nI (show 40 * s + i < 160 by omega) (by decide)), nI_clamp (show 40 * s + i < 2 ^ 31 by omega), fr 38 0 _ (by omega), eg i (by omega), nI_1]
    unfold foF
    by_cases q : thS V S p i = g i
    · rw [if_pos (show throwsS V (delS S i) p false = g i from q), if_pos q]
      obtain ⟨μ', b1, b2, b3⟩ := foL_m hB hr hs hp hz hN m (i + 1) f i μ1 hm3 (hT.of fun c k j q => fr c k j (by omega)) ((fr _ _ _ (by omega)).trans e2) (fun j hj => (fr _ _ _ (by omega)).trans (eg j hj)) (by omega) (by omega)
      exact ⟨μ', b1, b2, fun c k j w => (b3 c k j w).trans (fr c k j w)⟩
    · rw [if_neg (show ¬ throwsS V (delS S i) p false = g i from q), if_neg q]
      rcases f with _ | f
      · omega
      refine ⟨(up3 μ1.1 7 0 0 (nI S.nt), μ1.2), ?_, ?_, fun c k j w => (u1_of (by omega)).trans (fr c k j w)⟩
      · rw [f_X6_firstOther_L13, gd_h (inb_nI (show s < 4 by omega) (by decide)), if_neg (show ¬ nI i = (-1 : Int32) from nI_nm1 (by omega)), bv_e]
        split <;> rfl
      · have h := hm3.up7 (j := 0) (v := S.nt) (by decide)
        rw [delS_up, show upS S 0 0 S.nt = S from delS_0] at h
        exact h
/-- whether all is as was told -/
def hiF (V : Tx) (S : Sk) (p : Nat) (g : Nat → Int32) (sz : Nat) : Nat := if foF V S p g sz 0 = -1 then 1 else 0
theorem hiF_1 (p : Nat) (g : Nat → Int32) (sz : Nat) : hiF V S p g sz ≤ 1 := by
  unfold hiF
  split <;> omega
theorem fo_x (hn : 600 < n) (hR : RuX n V C) (hB : SkB S) (hr : S.ru < C) {p s sz : Nat} {g : Nat → Int32} (hp : p < S.P) (hz : sz ≤ 40) (hN : S.nt + sz ≤ 1100) (hx : SkX 2 S σ) (hT : TxX V C σ) (e2 : σ 18 s 2 = nI sz) (eg : ∀ j, σ 19 s j = g j) (e0 : σ 13 0 5 = nI S.nt) : ∃ σ', f_X5_firstOtherwise n s σ (nI p) = some (foF V S p g sz 0, σ') ∧ FrU σ σ' :=
  foL_x hR hB hr hp hz hN sz 0 n 0 σ (by rw [delS_0]; exact hx) hT e2 eg e0 (by omega) (by omega)
theorem fo_m (hn : 600 < n) (hB : SkB S) (hr : S.ru < C) {p s sz : Nat} {g : Nat → Int32} (hs : s < 4) (hp : p < S.P) (hz : sz ≤ 40) (hN : S.nt + sz ≤ 1100) (hm : SkM S μ) (hT : TxM n V C μ) (e2 : μ.1 37 0 s = nI sz) (eg : ∀ j, j < sz → μ.1 38 0 (40 * s + j) = g j) : ∃ μ', f_X6_firstOther n μ (nI s) (nI p) = some (foF V S p g sz 0, μ') ∧ SkM S μ' ∧ FrC μ μ' := by
  unfold f_X6_firstOther
  rw [bv_e, hm.1]
  exact foL_m hB hr hs hp hz hN sz 0 n 0 μ (by rw [delS_0]; exact hm) hT e2 eg (by omega) (by omega)
/-- a skip with what is asked for told anew -/
def tlS (S : Sk) (w p v : Nat) : Sk := if w = 1 then upS S 4 p v else if w = 2 then upS S 5 p v else if w = 3 then upS S 0 3 v else if w = 5 then upS S 0 5 v else upS S 6 p v
def tlM (C w : Nat) : Nat := if w = 1 then 6 else if w = 2 then 10 else if w = 3 then 100 else if w = 5 then C else 2
theorem tlS_B (hB : SkB S) (hC : C ≤ 6) {w p v : Nat} (hv : v < tlM C w) : SkB (tlS S w p v) := by
  unfold tlM at hv
  unfold tlS
  by_cases w1 : w = 1
  · rw [if_pos w1] at hv ⊢
    exact hB.up (show v ≤ 5 by omega)
  rw [if_neg w1] at hv ⊢
  by_cases w2 : w = 2
  · rw [if_pos w2] at hv ⊢
    exact hB.up (show v ≤ 9 by omega)
  rw [if_neg w2] at hv ⊢
  by_cases w3 : w = 3
  · rw [if_pos w3] at hv ⊢
    exact hB.up (show v ≤ 999 by omega)
  rw [if_neg w3] at hv ⊢
  by_cases w5 : w = 5
  · rw [if_pos w5] at hv ⊢
    exact hB.up (show v ≤ 5 by omega)
  rw [if_neg w5] at hv ⊢
  exact hB.up (show v ≤ 1 by omega)
theorem tlS_k {w p v c j : Nat} (h : ¬ (c = 4 ∨ c = 5 ∨ c = 6 ∨ (c = 0 ∧ (j = 3 ∨ j = 5)))) : tlS S w p v c j = S c j := by
  unfold tlS
  split
  · exact upS_of (by omega)
  split
  · exact upS_of (by omega)
  split
  · exact upS_of (by omega)
  split
  · exact upS_of (by omega)
  · exact upS_of (by omega)
theorem tlS_ru (hr : S.ru < C) {w p v : Nat} (hv : v < tlM C w) : (tlS S w p v).ru < C := by
  unfold tlM at hv
  unfold tlS
  by_cases w1 : w = 1
  · rw [if_pos w1, show Sk.ru (upS S 4 p v) = S.ru from upS_of (by omega)]
    exact hr
  rw [if_neg w1] at hv ⊢
  by_cases w2 : w = 2
  · rw [if_pos w2, show Sk.ru (upS S 5 p v) = S.ru from upS_of (by omega)]
    exact hr
  rw [if_neg w2] at hv ⊢
  by_cases w3 : w = 3
  · rw [if_pos w3, show Sk.ru (upS S 0 3 v) = S.ru from upS_of (by omega)]
    exact hr
  rw [if_neg w3] at hv ⊢
  by_cases w5 : w = 5
  · rw [if_pos w5] at hv ⊢
    rw [show Sk.ru (upS S 0 5 v) = v from upS_at _ _ _ _]
    exact hv
  rw [if_neg w5, show Sk.ru (upS S 6 p v) = S.ru from upS_of (by omega)]
  exact hr
/-- of a number tried, whether all is as was told -/
def hvF (V : Tx) (S : Sk) (w p : Nat) (g : Nat → Int32) (sz v : Nat) : Nat := if w = 6 then hiF V S v g sz else hiF V (tlS S w p v) p g sz
theorem hvF_1 (w p : Nat) (g : Nat → Int32) (sz v : Nat) : hvF V S w p g sz v ≤ 1 := by
  unfold hvF
  split
  · exact hiF_1 _ _ _
  · exact hiF_1 _ _ _
theorem fi119 (hn : 600 < n) (hR : RuX n V C) (hB : SkB S) (hr : S.ru < C) {p s sz : Nat} {g : Nat → Int32} (hp : p < S.P) (hz : sz ≤ 40) (hN : S.nt + sz ≤ 1100) (hx : SkX 2 S σ) (hT : TxX V C σ) (e2 : σ 18 s 2 = nI sz) (eg : ∀ j, σ 19 s j = g j) (e0 : σ 13 0 5 = nI S.nt) : ∃ σ', f_X5_fits_J119 n s σ (nI p) = some (nI (hiF V S p g sz), σ') ∧ FrU σ σ' := by
  unfold f_X5_fits_J119
  obtain ⟨σ', a1, a2⟩ := fo_x hn hR hB hr hp hz hN hx hT e2 eg e0
  rw [a1, bc_s]
  refine ⟨σ', ?_, a2⟩
  unfold hiF
  by_cases q : foF V S p g sz 0 = -1
  · rw [if_pos q, if_pos q]
    rfl
  · rw [if_neg q, if_neg q]
    rfl
theorem fits_x (hn : 600 < n) (hR : RuX n V C) (hB : SkB S) (hr : S.ru < C) (hC : C ≤ 6) {p s sz : Nat} {g : Nat → Int32} (hp : p < S.P) (hz : sz ≤ 40) (hN : S.nt + sz ≤ 1100) (hx : SkX 0 S σ) (hT : TxX V C σ) (e2 : σ 18 s 2 = nI sz) (eg : ∀ j, σ 19 s j = g j) {w v : Nat} (hw : w = 1 ∨ w = 2 ∨ w = 3 ∨ w = 5 ∨ w = 6 ∨ w = 7) (hv : if w = 6 then v < S.P else v < tlM C w) : ∃ σ', f_X5_fits n s σ (nI p) (nI w) (nI v) = some (nI (hvF V S w p g sz v), σ') ∧ FrU σ σ' := by
  have hP := hB.2.2.2.2.2.2.2.1
  unfold f_X5_fits
  obtain ⟨σ1, a1, a2, a3⟩ := as_x (k := 2) (k1 := 0) (by decide) hB hx
  have u1 : FrU σ σ1 := FrU.as a3 (by decide)
  rw [a1, bc_s]
  have fin : ∀ σ2 : Gm, FrU σ1 σ2 → ¬ w = 6 → SkX 2 (tlS S w p v) σ2 → ∃ σ', f_X5_fits_J119 n s σ2 (nI p) = some (nI (hvF V S w p g sz v), σ') ∧ FrU σ σ' := by
    intro σ2 u2 hw6 hx2
    rw [if_neg hw6] at hv
    have u3 := u1.tr u2
    have en : (tlS S w p v).nt = S.nt := tlS_k (by omega)
    obtain ⟨σ', b1, b2⟩ := fi119 hn hR (tlS_B hB hC hv) (tlS_ru hr hv) (p := p) (g := g) (by rw [show (tlS S w p v).P = S.P from tlS_k (by omega)]; exact hp) hz (by rw [en]; exact hN) hx2 (u3.tx hT) ((u3 _ _ _ (by omega)).trans e2) (fun j => (u3 _ _ _ (by omega)).trans (eg j)) (by rw [en]; exact (u3 _ _ _ (by omega)).trans hx.1)
    refine ⟨σ', ?_, u3.tr b2⟩
    unfold hvF
    rw [if_neg hw6]
    exact b1
  rcases hw with rfl | rfl | rfl | rfl | rfl | rfl
  · rw [if_pos (show nI 1 = (1 : Int32) from rfl), gd_h (inb_nI (show p < 5 by omega) (by decide)), nI_clamp (by omega), bv_e]
    exact fin _ (fun c k' j q => up3_of (by omega)) (by decide) a2.upKdK
  · rw [if_neg (show ¬ nI 2 = (1 : Int32) by decide), if_pos (show nI 2 = (2 : Int32) from rfl), gd_h (inb_nI (show p < 5 by omega) (by decide)), nI_clamp (by omega), bv_e]
    exact fin _ (fun c k' j q => up3_of (by omega)) (by decide) a2.upNbK
  · rw [if_neg (show ¬ nI 3 = (1 : Int32) by decide), if_neg (show ¬ nI 3 = (2 : Int32) by decide), if_pos (show nI 3 = (3 : Int32) from rfl), bv_e]
    exact fin _ (fun c k' j q => up3_of (by omega)) (by decide) (a2.up5 (j := 3) (by decide))
  · rw [if_neg (show ¬ nI 5 = (1 : Int32) by decide), if_neg (show ¬ nI 5 = (2 : Int32) by decide), if_neg (show ¬ nI 5 = (3 : Int32) by decide), if_pos (show nI 5 = (5 : Int32) from rfl), bv_e]
    exact fin _ (fun c k' j q => up3_of (by omega)) (by decide) a2.upRuK
  · rw [if_neg (show ¬ nI 6 = (1 : Int32) by decide), if_neg (show ¬ nI 6 = (2 : Int32) by decide), if_neg (show ¬ nI 6 = (3 : Int32) by decide), if_neg (show ¬ nI 6 = (5 : Int32) by decide), if_pos (show nI 6 = (6 : Int32) from rfl)]
    rw [if_pos rfl] at hv
    obtain ⟨σ', b1, b2⟩ := fi119 hn hR hB hr (p := v) (g := g) hv hz hN a2 (u1.tx hT) ((u1 _ _ _ (by omega)).trans e2) (fun j => (u1 _ _ _ (by omega)).trans (eg j)) ((u1 _ _ _ (by omega)).trans hx.1)
    refine ⟨σ', ?_, u1.tr b2⟩
    unfold hvF
    rw [if_pos rfl]
    exact b1
  · rw [if_neg (show ¬ nI 7 = (1 : Int32) by decide), if_neg (show ¬ nI 7 = (2 : Int32) by decide), if_neg (show ¬ nI 7 = (3 : Int32) by decide), if_neg (show ¬ nI 7 = (5 : Int32) by decide), if_neg (show ¬ nI 7 = (6 : Int32) by decide)]
    unfold f_X3_becomeAsked
    rw [bv_e, bc_s]
    rw [if_neg (by decide)] at hv
    exact fin _ (fun c k' j q => up3_of (by omega)) (by decide) (a2.upAkK hB hp (show v ≤ 1 from Nat.le_of_lt_succ hv))
theorem orA {u i : Nat} (hi : i < 10) (hu : u < 2 ^ i) : nI u ||| ((1 : Int32) <<< (nI i &&& 31)) = nI (u + 2 ^ i) := by
  have key : ∀ i, i < 10 → ∀ u, u < 2 ^ i → nI u ||| ((1 : Int32) <<< (nI i &&& 31)) = nI (u + 2 ^ i) := by decide +kernel
  exact key i hi u hu
theorem fbL_x (hn : 600 < n) (hR : RuX n V C) (hB : SkB S) (hr : S.ru < C) (hC : C ≤ 6) {p s sz w M : Nat} {g : Nat → Int32} (hp : p < S.P) (hz : sz ≤ 40) (hN : S.nt + sz ≤ 1100) (hw : w = 1 ∨ w = 2 ∨ w = 3 ∨ w = 5 ∨ w = 6 ∨ w = 7) (hM : M ≤ 10) (hMw : if w = 6 then M ≤ S.P else M ≤ tlM C w) : ∀ (m i f : Nat) (σ : Gm), SkX 0 S σ → TxX V C σ → σ 18 s 2 = nI sz → (∀ j, σ 19 s j = g j) → i + m = M → m < f → ∃ σ', f_X5_fittingBits_L6 n s f σ (nI p) (nI w) (nI M) (nI (mk (hvF V S w p g sz) i)) (nI i) = some (nI (mk (hvF V S w p g sz) M), σ') ∧ FrU σ σ'
  | m, i, 0, _, _, _, _, _, _, h => by omega
  | 0, i, f + 1, σ, _, _, _, _, he, _ => by
    unfold f_X5_fittingBits_L6
    rw [if_pos (nI_le (show M ≤ i by omega) (by omega)), show i = M by omega]
    exact ⟨σ, rfl, FrU.rf σ⟩
  | m + 1, i, f + 1, σ, hx, hT, e2, eg, he, hk => by
    unfold f_X5_fittingBits_L6
    rw [if_neg (show ¬ nI M ≤ nI i from nI_ge (by omega) (by omega))]
    obtain ⟨σ1, a1, a2⟩ := fits_x hn hR hB hr hC hp hz hN hx hT e2 eg hw (v := i) (by
      by_cases e : w = 6
      · rw [if_pos e] at hMw ⊢
        omega
      · rw [if_neg e] at hMw ⊢
        omega)
    have h1 := hvF_1 (V := V) (S := S) w p g sz i
    obtain ⟨σ', b1, b2⟩ := fbL_x hn hR hB hr hC hp hz hN hw hM hMw m (i + 1) f σ1 (a2.sk hx) (a2.tx hT) ((a2 _ _ _ (by omega)).trans e2) (fun j => (a2 _ _ _ (by omega)).trans (eg j)) (by omega) (by omega)
    refine ⟨σ', ?_, a2.tr b2⟩
    have hl := mk_lt (f := hvF V S w p g sz) (fun v => hvF_1 w p g sz v) i
    rw [a1, bc_s, nI_1, bv_e, orA (by omega) hl]
    have un : mk (hvF V S w p g sz) (i + 1) = mk (hvF V S w p g sz) i + hvF V S w p g sz i * 2 ^ i := rfl
    by_cases q : hvF V S w p g sz i = 0
    · rw [q, if_pos (show nI 0 = (0 : Int32) from rfl)]
      rw [un, q, Nat.zero_mul, Nat.add_zero] at b1
      exact b1
    · have q1 : hvF V S w p g sz i = 1 := by omega
      rw [q1, if_neg (show ¬ nI 1 = (0 : Int32) by decide)]
      rw [un, q1, Nat.one_mul] at b1
      exact b1
/-- how many, and the least -/
def cnF (h : Nat → Nat) : Nat → Nat
  | 0 => 0
  | m + 1 => cnF h m + h m
def lsF (h : Nat → Nat) : Nat → Nat → Int32
  | 0, _ => -1
  | m + 1, i => if h i = 1 then nI i else lsF h m (i + 1)
theorem cnF_b {h : Nat → Nat} (hh : ∀ i, h i ≤ 1) : ∀ m, cnF h m ≤ m
  | 0 => Nat.le_refl 0
  | m + 1 => by
    unfold cnF
    have := cnF_b hh m
    have := hh m
    omega
theorem fmnL_x (hn : 600 < n) (hR : RuX n V C) (hB : SkB S) (hr : S.ru < C) (hC : C ≤ 6) {p s sz : Nat} {g : Nat → Int32} (hp : p < S.P) (hz : sz ≤ 40) (hN : S.nt + sz ≤ 1100) : ∀ (m i f : Nat) (σ : Gm), SkX 0 S σ → TxX V C σ → σ 18 s 2 = nI sz → (∀ j, σ 19 s j = g j) → i + m = 100 → m < f → ∃ σ', f_X5_fittingMines_L5 n s f σ (nI p) (nI (cnF (hvF V S 3 p g sz) i)) (nI i) = some (nI (cnF (hvF V S 3 p g sz) 100), σ') ∧ FrU σ σ'
  | m, i, 0, _, _, _, _, _, _, h => by omega
  | 0, i, f + 1, σ, _, _, _, _, he, _ => by
    unfold f_X5_fittingMines_L5
    rw [if_pos (show (100 : Int32) ≤ nI i from nI_le (show 100 ≤ i by omega) (by omega)), show i = 100 by omega]
    exact ⟨σ, rfl, FrU.rf σ⟩
  | m + 1, i, f + 1, σ, hx, hT, e2, eg, he, hk => by
    unfold f_X5_fittingMines_L5
    rw [if_neg (show ¬ (100 : Int32) ≤ nI i from nI_ge (show i < 100 by omega) (by decide))]
    obtain ⟨σ1, a1, a2⟩ := fits_x hn hR hB hr hC hp hz hN hx hT e2 eg (w := 3) (by omega) (v := i) (show i < 100 by omega)
    have h1 := hvF_1 (V := V) (S := S) 3 p g sz i
    obtain ⟨σ', b1, b2⟩ := fmnL_x hn hR hB hr hC hp hz hN m (i + 1) f σ1 (a2.sk hx) (a2.tx hT) ((a2 _ _ _ (by omega)).trans e2) (fun j => (a2 _ _ _ (by omega)).trans (eg j)) (by omega) (by omega)
    refine ⟨σ', ?_, a2.tr b2⟩
    rw [show f_X5_fits n s σ (nI p) (3 : Int32) (nI i) = _ from a1, bc_s, nI_1, nI_1]
    have un : cnF (hvF V S 3 p g sz) (i + 1) = cnF (hvF V S 3 p g sz) i + hvF V S 3 p g sz i := rfl
    by_cases q : hvF V S 3 p g sz i = 0
    · rw [q, if_pos (show nI 0 = (0 : Int32) from rfl)]
      rw [un, q, Nat.add_zero] at b1
      exact b1
    · have q1 : hvF V S 3 p g sz i = 1 := by omega
      rw [q1, if_neg (show ¬ nI 1 = (0 : Int32) by decide)]
      rw [un, q1] at b1
      exact b1
theorem flmL_x (hn : 600 < n) (hR : RuX n V C) (hB : SkB S) (hr : S.ru < C) (hC : C ≤ 6) {p s sz : Nat} {g : Nat → Int32} (hp : p < S.P) (hz : sz ≤ 40) (hN : S.nt + sz ≤ 1100) : ∀ (m i f : Nat) (σ : Gm), SkX 0 S σ → TxX V C σ → σ 18 s 2 = nI sz → (∀ j, σ 19 s j = g j) → i + m = 100 → m < f → ∃ σ', f_X5_leastFittingMine_L2 n s f σ (nI p) (nI i) = some (lsF (hvF V S 3 p g sz) m i, σ') ∧ FrU σ σ'
  | m, i, 0, _, _, _, _, _, _, h => by omega
  | 0, i, f + 1, σ, _, _, _, _, he, _ => by
    unfold f_X5_leastFittingMine_L2
    rw [if_pos (show (100 : Int32) ≤ nI i from nI_le (show 100 ≤ i by omega) (by omega))]
    exact ⟨σ, rfl, FrU.rf σ⟩
  | m + 1, i, f + 1, σ, hx, hT, e2, eg, he, hk => by
    unfold f_X5_leastFittingMine_L2
    rw [if_neg (show ¬ (100 : Int32) ≤ nI i from nI_ge (show i < 100 by omega) (by decide))]
    obtain ⟨σ1, a1, a2⟩ := fits_x hn hR hB hr hC hp hz hN hx hT e2 eg (w := 3) (by omega) (v := i) (show i < 100 by omega)
    have h1 := hvF_1 (V := V) (S := S) 3 p g sz i
    obtain ⟨σ', b1, b2⟩ := flmL_x hn hR hB hr hC hp hz hN m (i + 1) f σ1 (a2.sk hx) (a2.tx hT) ((a2 _ _ _ (by omega)).trans e2) (fun j => (a2 _ _ _ (by omega)).trans (eg j)) (by omega) (by omega)
    rw [show f_X5_fits n s σ (nI p) (3 : Int32) (nI i) = _ from a1, bc_s, nI_1]
    unfold lsF
    by_cases q : hvF V S 3 p g sz i = 0
    · rw [q, if_pos (show nI 0 = (0 : Int32) from rfl), if_neg (by decide)]
      exact ⟨σ', b1, a2.tr b2⟩
    · have q1 : hvF V S 3 p g sz i = 1 := by omega
      rw [q1, if_neg (show ¬ nI 1 = (0 : Int32) by decide), if_pos rfl]
      exact ⟨σ1, rfl, a2⟩
end K

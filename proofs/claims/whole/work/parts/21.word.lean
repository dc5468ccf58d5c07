def wbN (i : Nat) : Nat := ([102, 117, 108, 108, 32, 110, 117, 109, 98, 101, 114, 32, 110, 105, 103, 104, 116, 32, 108, 97, 109, 112, 32, 97, 115, 107, 101, 100, 32, 109, 105, 110, 101, 32, 116, 104, 114, 111, 119, 115, 32, 99, 111, 109, 101, 115, 32, 112, 97, 121, 115, 32, 111, 114, 32, 97, 110, 100, 32, 110, 111, 116, 32] : List Nat).getD i 0
theorem wb_ch : ∀ i : Nat, i < 63 → q_chr (nI i) = nI (wbN i) := by decide +kernel
theorem wb_lt : ∀ i : Nat, i < 63 → wbN i < 256 := by decide +kernel
/-- the letters from q to e are the j-th word -/
def isW (b : Nat → Nat) (q e j : Nat) : Prop := match j with
  | 0 => e = q + 4 ∧ b q = 102 ∧ b (q + 1) = 117 ∧ b (q + 2) = 108 ∧ b (q + 3) = 108
  | 1 => e = q + 6 ∧ b q = 110 ∧ b (q + 1) = 117 ∧ b (q + 2) = 109 ∧ b (q + 3) = 98 ∧ b (q + 4) = 101 ∧ b (q + 5) = 114
  | 2 => e = q + 5 ∧ b q = 110 ∧ b (q + 1) = 105 ∧ b (q + 2) = 103 ∧ b (q + 3) = 104 ∧ b (q + 4) = 116
  | 3 => e = q + 4 ∧ b q = 108 ∧ b (q + 1) = 97 ∧ b (q + 2) = 109 ∧ b (q + 3) = 112
  | 4 => e = q + 5 ∧ b q = 97 ∧ b (q + 1) = 115 ∧ b (q + 2) = 107 ∧ b (q + 3) = 101 ∧ b (q + 4) = 100
  | 5 => e = q + 4 ∧ b q = 109 ∧ b (q + 1) = 105 ∧ b (q + 2) = 110 ∧ b (q + 3) = 101
  | 6 => e = q + 6 ∧ b q = 116 ∧ b (q + 1) = 104 ∧ b (q + 2) = 114 ∧ b (q + 3) = 111 ∧ b (q + 4) = 119 ∧ b (q + 5) = 115
  | 7 => e = q + 5 ∧ b q = 99 ∧ b (q + 1) = 111 ∧ b (q + 2) = 109 ∧ b (q + 3) = 101 ∧ b (q + 4) = 115
  | 8 => e = q + 4 ∧ b q = 112 ∧ b (q + 1) = 97 ∧ b (q + 2) = 121 ∧ b (q + 3) = 115
  | 9 => e = q + 2 ∧ b q = 111 ∧ b (q + 1) = 114
  | 10 => e = q + 3 ∧ b q = 97 ∧ b (q + 1) = 110 ∧ b (q + 2) = 100
  | 11 => e = q + 3 ∧ b q = 110 ∧ b (q + 1) = 111 ∧ b (q + 2) = 116
  | _ => False
def alk (b : Nat → Nat) (q g L : Nat) : Prop := ∀ i, i < L → wbN (g + i) = b (q + i)
section TX
variable {b : Nat → Nat} {z n : Nat}
theorem sch_e (σ : Gm) {i : Nat} (h : i < 63) : f_schar σ (nI i) = some (nI (wbN i), σ) := by
  unfold f_schar
  rw [gd_h (inb_nI h (by decide)), wb_ch i h]
theorem xa_alike (hb : ∀ i, b i < 256) (hz : z ≤ 160) {σ : Gm} (hin : InX b z σ) {q g L : Nat} (hg : g + L ≤ 63) (hq : q + L ≤ z) : ∀ (m k i : Nat), k + m = L → m < i → (∀ t, t < k → wbN (g + t) = b (q + t)) → (alk b q g L ∧ f_X1_isAlike_L3 n i σ (nI g) (nI q) (nI L) (nI k) = some (1, σ)) ∨ (¬ alk b q g L ∧ f_X1_isAlike_L3 n i σ (nI g) (nI q) (nI L) (nI k) = some (0, σ))
  | 0, k, i, hk, hi, hp => by
    obtain ⟨i, rfl⟩ : ∃ k, i = k + 1 := ⟨i - 1, by omega⟩
    have e : k = L := by omega
    subst e
    exact Or.inl ⟨hp, by rw [f_X1_isAlike_L3, if_pos (nI_le (Nat.le_refl _) (by omega))]⟩
  | m + 1, k, i, hk, hi, hp => by
    obtain ⟨i, rfl⟩ : ∃ k, i = k + 1 := ⟨i - 1, by omega⟩
    have h1 : f_X1_isAlike_L3 n (i + 1) σ (nI g) (nI q) (nI L) (nI k) = (if nI (wbN (g + k)) = nI (b (q + k)) then f_X1_isAlike_L3 n i σ (nI g) (nI q) (nI L) (nI (k + 1)) else some (0, σ)) := by
      rw [f_X1_isAlike_L3, if_neg (nI_ge (by omega) (by omega)), nI_add, sch_e σ (by omega), bc_s, nI_add, gd_h (inb_nI (by omega) (by decide)), nI_clamp (by omega), hin.2 (q + k) (by omega), nI_1]
    rw [h1]
    by_cases he : wbN (g + k) = b (q + k)
    · rw [if_pos (by rw [he])]
      exact xa_alike hb hz hin hg hq m (k + 1) i (by omega) (by omega) (fun t ht => by
        rcases Nat.lt_succ_iff_lt_or_eq.mp ht with h | rfl
        · exact hp t h
        · exact he)
    · rw [if_neg (nI_ne (by have := wb_lt (g + k) (by omega); omega) (by have := hb (q + k); omega) he)]
      exact Or.inr ⟨fun q9 => he (q9 k (by omega)), rfl⟩
theorem xw_ns (σ : Gm) (x0 x1 w g : Int32) {i f : Nat} (hi : i < 63) (h : ¬ wbN i = 32) : f_X1_wordFrom_L8 n (f + 1) σ x0 x1 w g (nI i) = f_X1_wordFrom_L8 n f σ x0 x1 w g (nI (i + 1)) := by
  rw [f_X1_wordFrom_L8]
  unfold f_slen
  rw [bc_s, if_neg (show ¬ (63 : Int32) ≤ nI i from nI_ge hi (by decide)), sch_e σ hi, bc_s, if_neg (show ¬ nI (wbN i) = (32 : Int32) from nI_ne (by have := wb_lt i hi; omega) (by decide) h), nI_1]
theorem xw_end (σ : Gm) (x0 x1 w g : Int32) {f : Nat} : f_X1_wordFrom_L8 n (f + 1) σ x0 x1 w g (nI 63) = some (258, σ) := by
  rw [f_X1_wordFrom_L8]
  unfold f_slen
  rw [bc_s, if_pos (show (63 : Int32) ≤ nI 63 from nI_le (Nat.le_refl _) (by decide))]
theorem xw_sp (hb : ∀ i, b i < 256) (hz : z ≤ 160) (hn : 160 < n) {σ : Gm} (hin : InX b z σ) {q e w g i f : Nat} (hi : i < 63) (h : wbN i = 32) (hg : g ≤ i) (hqe : q ≤ e) (he : e ≤ z) : ((e = q + (i - g) ∧ alk b q g (i - g)) ∧ f_X1_wordFrom_L8 n (f + 1) σ (nI q) (nI e) (nI w) (nI g) (nI i) = some (nI w, σ)) ∨ (¬ (e = q + (i - g) ∧ alk b q g (i - g)) ∧ f_X1_wordFrom_L8 n (f + 1) σ (nI q) (nI e) (nI w) (nI g) (nI i) = f_X1_wordFrom_L8 n f σ (nI q) (nI e) (nI (w + 1)) (nI (i + 1)) (nI (i + 1))) := by
  have h0 : ∀ σ' : Gm, f_X1_wordFrom_J56 n (f_X1_wordFrom_L8 n f) σ' (nI q) (nI e) (nI w) (nI i) = f_X1_wordFrom_L8 n f σ' (nI q) (nI e) (nI (w + 1)) (nI (i + 1)) (nI (i + 1)) := by
    intro σ'
    unfold f_X1_wordFrom_J56
    rw [bv_e, nI_1, nI_1]
  have h1 : f_X1_wordFrom_L8 n (f + 1) σ (nI q) (nI e) (nI w) (nI g) (nI i) = (if nI (i - g) = nI (e - q) then bc (f_X1_isAlike n σ (nI g) (nI q) (nI (e - q))) fun r11 σ12 => (if r11 = 0 then f_X1_wordFrom_J56 n (f_X1_wordFrom_L8 n f) σ12 (nI q) (nI e) (nI w) (nI i) else some (nI w, σ12)) else f_X1_wordFrom_J56 n (f_X1_wordFrom_L8 n f) σ (nI q) (nI e) (nI w) (nI i)) := by
    rw [f_X1_wordFrom_L8]
    unfold f_slen
    rw [bc_s, if_neg (show ¬ (63 : Int32) ≤ nI i from nI_ge hi (by decide)), sch_e σ hi, bc_s, if_pos (show nI (wbN i) = (32 : Int32) by rw [h]; rfl), pk_sub hg, pk_sub hqe]
  rw [h1]
  by_cases hl : i - g = e - q
  · rw [if_pos (by rw [hl]), ← hl]
    unfold f_X1_isAlike
    rcases xa_alike hb hz hin (n := n) (q := q) (g := g) (L := i - g) (by omega) (by omega) (i - g) 0 n (by omega) (by omega) (fun t ht => absurd ht (by omega)) with ⟨a, r⟩ | ⟨a, r⟩
    · refine Or.inl ⟨⟨by omega, a⟩, ?_⟩
      rw [show (0 : Int32) = nI 0 from rfl, r, bc_s, if_neg (by decide)]
    · refine Or.inr ⟨fun q9 => a q9.2, ?_⟩
      rw [show f_X1_isAlike_L3 n n σ (nI g) (nI q) (nI (i - g)) (0 : Int32) = some (0, σ) from r, bc_s, if_pos rfl, h0]
  · rw [if_neg (nI_ne (by omega) (by omega) hl), h0]
    exact Or.inr ⟨fun q9 => hl (by omega), rfl⟩
theorem alk_0 (q e : Nat) : (e = q + (4 - 0) ∧ alk b q 0 (4 - 0)) ↔ isW b q e 0 := by
  constructor
  · rintro ⟨h, a⟩
    exact ⟨h, (a 0 (by decide)).symm, (a 1 (by decide)).symm, (a 2 (by decide)).symm, (a 3 (by decide)).symm⟩
  · rintro ⟨h, h0, h1, h2, h3⟩
    refine ⟨h, fun i hi => ?_⟩
    rcases (show i = 0 ∨ i = 1 ∨ i = 2 ∨ i = 3 by omega) with rfl | rfl | rfl | rfl
    · exact h0.symm
    · exact h1.symm
    · exact h2.symm
    · exact h3.symm
theorem alk_1 (q e : Nat) : (e = q + (11 - 5) ∧ alk b q 5 (11 - 5)) ↔ isW b q e 1 := by
  constructor
  · rintro ⟨h, a⟩
    exact ⟨h, (a 0 (by decide)).symm, (a 1 (by decide)).symm, (a 2 (by decide)).symm, (a 3 (by decide)).symm, (a 4 (by decide)).symm, (a 5 (by decide)).symm⟩
  · rintro ⟨h, h0, h1, h2, h3, h4, h5⟩
    refine ⟨h, fun i hi => ?_⟩
    rcases (show i = 0 ∨ i = 1 ∨ i = 2 ∨ i = 3 ∨ i = 4 ∨ i = 5 by omega) with rfl | rfl | rfl | rfl | rfl | rfl
    · exact h0.symm
    · exact h1.symm
    · exact h2.symm
    · exact h3.symm
    · exact h4.symm
    · exact h5.symm
theorem alk_2 (q e : Nat) : (e = q + (17 - 12) ∧ alk b q 12 (17 - 12)) ↔ isW b q e 2 := by
  constructor
  · rintro ⟨h, a⟩
    exact ⟨h, (a 0 (by decide)).symm, (a 1 (by decide)).symm, (a 2 (by decide)).symm, (a 3 (by decide)).symm, (a 4 (by decide)).symm⟩
  · rintro ⟨h, h0, h1, h2, h3, h4⟩
    refine ⟨h, fun i hi => ?_⟩
    rcases (show i = 0 ∨ i = 1 ∨ i = 2 ∨ i = 3 ∨ i = 4 by omega) with rfl | rfl | rfl | rfl | rfl
    · exact h0.symm
    · exact h1.symm
    · exact h2.symm
    · exact h3.symm
    · exact h4.symm
theorem alk_3 (q e : Nat) : (e = q + (22 - 18) ∧ alk b q 18 (22 - 18)) ↔ isW b q e 3 := by
  constructor
  · rintro ⟨h, a⟩
    exact ⟨h, (a 0 (by decide)).symm, (a 1 (by decide)).symm, (a 2 (by decide)).symm, (a 3 (by decide)).symm⟩
  · rintro ⟨h, h0, h1, h2, h3⟩
    refine ⟨h, fun i hi => ?_⟩
    rcases (show i = 0 ∨ i = 1 ∨ i = 2 ∨ i = 3 by omega) with rfl | rfl | rfl | rfl
    · exact h0.symm
    · exact h1.symm
    · exact h2.symm
    · exact h3.symm
theorem alk_4 (q e : Nat) : (e = q + (28 - 23) ∧ alk b q 23 (28 - 23)) ↔ isW b q e 4 := by
  constructor
  · rintro ⟨h, a⟩
    exact ⟨h, (a 0 (by decide)).symm, (a 1 (by decide)).symm, (a 2 (by decide)).symm, (a 3 (by decide)).symm, (a 4 (by decide)).symm⟩
  · rintro ⟨h, h0, h1, h2, h3, h4⟩
    refine ⟨h, fun i hi => ?_⟩
    rcases (show i = 0 ∨ i = 1 ∨ i = 2 ∨ i = 3 ∨ i = 4 by omega) with rfl | rfl | rfl | rfl | rfl
    · exact h0.symm
    · exact h1.symm
    · exact h2.symm
    · exact h3.symm
    · exact h4.symm
theorem alk_5 (q e : Nat) : (e = q + (33 - 29) ∧ alk b q 29 (33 - 29)) ↔ isW b q e 5 := by
  constructor
  · rintro ⟨h, a⟩
    exact ⟨h, (a 0 (by decide)).symm, (a 1 (by decide)).symm, (a 2 (by decide)).symm, (a 3 (by decide)).symm⟩
  · rintro ⟨h, h0, h1, h2, h3⟩
    refine ⟨h, fun i hi => ?_⟩
    rcases (show i = 0 ∨ i = 1 ∨ i = 2 ∨ i = 3 by omega) with rfl | rfl | rfl | rfl
    · exact h0.symm
    · exact h1.symm
    · exact h2.symm
    · exact h3.symm
theorem alk_6 (q e : Nat) : (e = q + (40 - 34) ∧ alk b q 34 (40 - 34)) ↔ isW b q e 6 := by
  constructor
  · rintro ⟨h, a⟩
    exact ⟨h, (a 0 (by decide)).symm, (a 1 (by decide)).symm, (a 2 (by decide)).symm, (a 3 (by decide)).symm, (a 4 (by decide)).symm, (a 5 (by decide)).symm⟩
  · rintro ⟨h, h0, h1, h2, h3, h4, h5⟩
    refine ⟨h, fun i hi => ?_⟩
    rcases (show i = 0 ∨ i = 1 ∨ i = 2 ∨ i = 3 ∨ i = 4 ∨ i = 5 by omega) with rfl | rfl | rfl | rfl | rfl | rfl
    · exact h0.symm
    · exact h1.symm
    · exact h2.symm
    · exact h3.symm
    · exact h4.symm
    · exact h5.symm
theorem alk_7 (q e : Nat) : (e = q + (46 - 41) ∧ alk b q 41 (46 - 41)) ↔ isW b q e 7 := by
  constructor
  · rintro ⟨h, a⟩
    exact ⟨h, (a 0 (by decide)).symm, (a 1 (by decide)).symm, (a 2 (by decide)).symm, (a 3 (by decide)).symm, (a 4 (by decide)).symm⟩
  · rintro ⟨h, h0, h1, h2, h3, h4⟩
    refine ⟨h, fun i hi => ?_⟩
    rcases (show i = 0 ∨ i = 1 ∨ i = 2 ∨ i = 3 ∨ i = 4 by omega) with rfl | rfl | rfl | rfl | rfl
    · exact h0.symm
    · exact h1.symm
    · exact h2.symm
    · exact h3.symm
    · exact h4.symm
theorem alk_8 (q e : Nat) : (e = q + (51 - 47) ∧ alk b q 47 (51 - 47)) ↔ isW b q e 8 := by
  constructor
  · rintro ⟨h, a⟩
    exact ⟨h, (a 0 (by decide)).symm, (a 1 (by decide)).symm, (a 2 (by decide)).symm, (a 3 (by decide)).symm⟩
  · rintro ⟨h, h0, h1, h2, h3⟩
    refine ⟨h, fun i hi => ?_⟩
    rcases (show i = 0 ∨ i = 1 ∨ i = 2 ∨ i = 3 by omega) with rfl | rfl | rfl | rfl
    · exact h0.symm
    · exact h1.symm
    · exact h2.symm
    · exact h3.symm
theorem alk_9 (q e : Nat) : (e = q + (54 - 52) ∧ alk b q 52 (54 - 52)) ↔ isW b q e 9 := by
  constructor
  · rintro ⟨h, a⟩
    exact ⟨h, (a 0 (by decide)).symm, (a 1 (by decide)).symm⟩
  · rintro ⟨h, h0, h1⟩
    refine ⟨h, fun i hi => ?_⟩
    rcases (show i = 0 ∨ i = 1 by omega) with rfl | rfl
    · exact h0.symm
    · exact h1.symm
theorem alk_10 (q e : Nat) : (e = q + (58 - 55) ∧ alk b q 55 (58 - 55)) ↔ isW b q e 10 := by
  constructor
  · rintro ⟨h, a⟩
    exact ⟨h, (a 0 (by decide)).symm, (a 1 (by decide)).symm, (a 2 (by decide)).symm⟩
  · rintro ⟨h, h0, h1, h2⟩
    refine ⟨h, fun i hi => ?_⟩
    rcases (show i = 0 ∨ i = 1 ∨ i = 2 by omega) with rfl | rfl | rfl
    · exact h0.symm
    · exact h1.symm
    · exact h2.symm
theorem alk_11 (q e : Nat) : (e = q + (62 - 59) ∧ alk b q 59 (62 - 59)) ↔ isW b q e 11 := by
  constructor
  · rintro ⟨h, a⟩
    exact ⟨h, (a 0 (by decide)).symm, (a 1 (by decide)).symm, (a 2 (by decide)).symm⟩
  · rintro ⟨h, h0, h1, h2⟩
    refine ⟨h, fun i hi => ?_⟩
    rcases (show i = 0 ∨ i = 1 ∨ i = 2 by omega) with rfl | rfl | rfl
    · exact h0.symm
    · exact h1.symm
    · exact h2.symm
/-- which word -/
theorem xa_word (hb : ∀ i, b i < 256) (hz : z ≤ 160) (hn : 160 < n) {σ : Gm} (hin : InX b z σ) {q e : Nat} (hqe : q ≤ e) (he : e ≤ z) : ∃ w : Nat, f_X1_wordFrom n σ (nI q) (nI e) = some (nI w, σ) ∧ ((w < 12 ∧ isW b q e w) ∨ (w = 258 ∧ ∀ j, j < 12 → ¬ isW b q e j)) := by
  obtain ⟨f, rfl⟩ : ∃ f, n = f + 64 := ⟨n - 64, by omega⟩
  unfold f_X1_wordFrom
  show ∃ w : Nat, f_X1_wordFrom_L8 (f + 64) (f + 64) σ (nI q) (nI e) (nI 0) (nI 0) (nI 0) = some (nI w, σ) ∧ _
  rw [xw_ns σ _ _ _ _ (i := 0) (f := f + 63) (by decide) (by decide)]
  rw [xw_ns σ _ _ _ _ (i := 1) (f := f + 62) (by decide) (by decide)]
  rw [xw_ns σ _ _ _ _ (i := 2) (f := f + 61) (by decide) (by decide)]
  rw [xw_ns σ _ _ _ _ (i := 3) (f := f + 60) (by decide) (by decide)]
  rcases xw_sp hb hz hn hin (q := q) (e := e) (w := 0) (g := 0) (i := 4) (f := f + 59) (by decide) (by decide) (by decide) hqe he with ⟨a0, r⟩ | ⟨a0, r⟩
  · exact ⟨0, r, Or.inl ⟨by decide, (alk_0 q e).mp a0⟩⟩
  rw [r]
  rw [xw_ns σ _ _ _ _ (i := 5) (f := f + 58) (by decide) (by decide)]
  rw [xw_ns σ _ _ _ _ (i := 6) (f := f + 57) (by decide) (by decide)]
  rw [xw_ns σ _ _ _ _ (i := 7) (f := f + 56) (by decide) (by decide)]
  rw [xw_ns σ _ _ _ _ (i := 8) (f := f + 55) (by decide) (by decide)]
  rw [xw_ns σ _ _ _ _ (i := 9) (f := f + 54) (by decide) (by decide)]
  rw [xw_ns σ _ _ _ _ (i := 10) (f := f + 53) (by decide) (by decide)]
  rcases xw_sp hb hz hn hin (q := q) (e := e) (w := 1) (g := 5) (i := 11) (f := f + 52) (by decide) (by decide) (by decide) hqe he with ⟨a1, r⟩ | ⟨a1, r⟩
  · exact ⟨1, r, Or.inl ⟨by decide, (alk_1 q e).mp a1⟩⟩
  rw [r]
  rw [xw_ns σ _ _ _ _ (i := 12) (f := f + 51) (by decide) (by decide)]
  rw [xw_ns σ _ _ _ _ (i := 13) (f := f + 50) (by decide) (by decide)]
  rw [xw_ns σ _ _ _ _ (i := 14) (f := f + 49) (by decide) (by decide)]
  rw [xw_ns σ _ _ _ _ (i := 15) (f := f + 48) (by decide) (by decide)]
  rw [xw_ns σ _ _ _ _ (i := 16) (f := f + 47) (by decide) (by decide)]
  rcases xw_sp hb hz hn hin (q := q) (e := e) (w := 2) (g := 12) (i := 17) (f := f + 46) (by decide) (by decide) (by decide) hqe he with ⟨a2, r⟩ | ⟨a2, r⟩
  · exact ⟨2, r, Or.inl ⟨by decide, (alk_2 q e).mp a2⟩⟩
  rw [r]
  rw [xw_ns σ _ _ _ _ (i := 18) (f := f + 45) (by decide) (by decide)]
  rw [xw_ns σ _ _ _ _ (i := 19) (f := f + 44) (by decide) (by decide)]
  rw [xw_ns σ _ _ _ _ (i := 20) (f := f + 43) (by decide) (by decide)]
  rw [xw_ns σ _ _ _ _ (i := 21) (f := f + 42) (by decide) (by decide)]
  rcases xw_sp hb hz hn hin (q := q) (e := e) (w := 3) (g := 18) (i := 22) (f := f + 41) (by decide) (by decide) (by decide) hqe he with ⟨a3, r⟩ | ⟨a3, r⟩
  · exact ⟨3, r, Or.inl ⟨by decide, (alk_3 q e).mp a3⟩⟩
  rw [r]
  rw [xw_ns σ _ _ _ _ (i := 23) (f := f + 40) (by decide) (by decide)]
  rw [xw_ns σ _ _ _ _ (i := 24) (f := f + 39) (by decide) (by decide)]
  rw [xw_ns σ _ _ _ _ (i := 25) (f := f + 38) (by decide) (by decide)]
  rw [xw_ns σ _ _ _ _ (i := 26) (f := f + 37) (by decide) (by decide)]
  rw [xw_ns σ _ _ _ _ (i := 27) (f := f + 36) (by decide) (by decide)]
  rcases xw_sp hb hz hn hin (q := q) (e := e) (w := 4) (g := 23) (i := 28) (f := f + 35) (by decide) (by decide) (by decide) hqe he with ⟨a4, r⟩ | ⟨a4, r⟩
  · exact ⟨4, r, Or.inl ⟨by decide, (alk_4 q e).mp a4⟩⟩
  rw [r]
  rw [xw_ns σ _ _ _ _ (i := 29) (f := f + 34) (by decide) (by decide)]
  rw [xw_ns σ _ _ _ _ (i := 30) (f := f + 33) (by decide) (by decide)]
  rw [xw_ns σ _ _ _ _ (i := 31) (f := f + 32) (by decide) (by decide)]
  rw [xw_ns σ _ _ _ _ (i := 32) (f := f + 31) (by decide) (by decide)]
  rcases xw_sp hb hz hn hin (q := q) (e := e) (w := 5) (g := 29) (i := 33) (f := f + 30) (by decide) (by decide) (by decide) hqe he with ⟨a5, r⟩ | ⟨a5, r⟩
  · exact ⟨5, r, Or.inl ⟨by decide, (alk_5 q e).mp a5⟩⟩
  rw [r]
  rw [xw_ns σ _ _ _ _ (i := 34) (f := f + 29) (by decide) (by decide)]
  rw [xw_ns σ _ _ _ _ (i := 35) (f := f + 28) (by decide) (by decide)]
  rw [xw_ns σ _ _ _ _ (i := 36) (f := f + 27) (by decide) (by decide)]
  rw [xw_ns σ _ _ _ _ (i := 37) (f := f + 26) (by decide) (by decide)]
  rw [xw_ns σ _ _ _ _ (i := 38) (f := f + 25) (by decide) (by decide)]
  rw [xw_ns σ _ _ _ _ (i := 39) (f := f + 24) (by decide) (by decide)]
  rcases xw_sp hb hz hn hin (q := q) (e := e) (w := 6) (g := 34) (i := 40) (f := f + 23) (by decide) (by decide) (by decide) hqe he with ⟨a6, r⟩ | ⟨a6, r⟩
  · exact ⟨6, r, Or.inl ⟨by decide, (alk_6 q e).mp a6⟩⟩
  rw [r]
  rw [xw_ns σ _ _ _ _ (i := 41) (f := f + 22) (by decide) (by decide)]
  rw [xw_ns σ _ _ _ _ (i := 42) (f := f + 21) (by decide) (by decide)]
  rw [xw_ns σ _ _ _ _ (i := 43) (f := f + 20) (by decide) (by decide)]
  rw [xw_ns σ _ _ _ _ (i := 44) (f := f + 19) (by decide) (by decide)]
  rw [xw_ns σ _ _ _ _ (i := 45) (f := f + 18) (by decide) (by decide)]
  rcases xw_sp hb hz hn hin (q := q) (e := e) (w := 7) (g := 41) (i := 46) (f := f + 17) (by decide) (by decide) (by decide) hqe he with ⟨a7, r⟩ | ⟨a7, r⟩
  · exact ⟨7, r, Or.inl ⟨by decide, (alk_7 q e).mp a7⟩⟩
  rw [r]
  rw [xw_ns σ _ _ _ _ (i := 47) (f := f + 16) (by decide) (by decide)]
  rw [xw_ns σ _ _ _ _ (i := 48) (f := f + 15) (by decide) (by decide)]
  rw [xw_ns σ _ _ _ _ (i := 49) (f := f + 14) (by decide) (by decide)]
  rw [xw_ns σ _ _ _ _ (i := 50) (f := f + 13) (by decide) (by decide)]
  rcases xw_sp hb hz hn hin (q := q) (e := e) (w := 8) (g := 47) (i := 51) (f := f + 12) (by decide) (by decide) (by decide) hqe he with ⟨a8, r⟩ | ⟨a8, r⟩
  · exact ⟨8, r, Or.inl ⟨by decide, (alk_8 q e).mp a8⟩⟩
  rw [r]
  rw [xw_ns σ _ _ _ _ (i := 52) (f := f + 11) (by decide) (by decide)]
  rw [xw_ns σ _ _ _ _ (i := 53) (f := f + 10) (by decide) (by decide)]
  rcases xw_sp hb hz hn hin (q := q) (e := e) (w := 9) (g := 52) (i := 54) (f := f + 9) (by decide) (by decide) (by decide) hqe he with ⟨a9, r⟩ | ⟨a9, r⟩
  · exact ⟨9, r, Or.inl ⟨by decide, (alk_9 q e).mp a9⟩⟩
  rw [r]
  rw [xw_ns σ _ _ _ _ (i := 55) (f := f + 8) (by decide) (by decide)]
  rw [xw_ns σ _ _ _ _ (i := 56) (f := f + 7) (by decide) (by decide)]
  rw [xw_ns σ _ _ _ _ (i := 57) (f := f + 6) (by decide) (by decide)]
  rcases xw_sp hb hz hn hin (q := q) (e := e) (w := 10) (g := 55) (i := 58) (f := f + 5) (by decide) (by decide) (by decide) hqe he with ⟨a10, r⟩ | ⟨a10, r⟩
  · exact ⟨10, r, Or.inl ⟨by decide, (alk_10 q e).mp a10⟩⟩
  rw [r]
  rw [xw_ns σ _ _ _ _ (i := 59) (f := f + 4) (by decide) (by decide)]
  rw [xw_ns σ _ _ _ _ (i := 60) (f := f + 3) (by decide) (by decide)]
  rw [xw_ns σ _ _ _ _ (i := 61) (f := f + 2) (by decide) (by decide)]
  rcases xw_sp hb hz hn hin (q := q) (e := e) (w := 11) (g := 59) (i := 62) (f := f + 1) (by decide) (by decide) (by decide) hqe he with ⟨a11, r⟩ | ⟨a11, r⟩
  · exact ⟨11, r, Or.inl ⟨by decide, (alk_11 q e).mp a11⟩⟩
  rw [r]
  rw [xw_end σ _ _ _ _ (f := f + 0)]
  refine ⟨258, rfl, Or.inr ⟨rfl, fun j hj => ?_⟩⟩
  rcases (show j = 0 ∨ j = 1 ∨ j = 2 ∨ j = 3 ∨ j = 4 ∨ j = 5 ∨ j = 6 ∨ j = 7 ∨ j = 8 ∨ j = 9 ∨ j = 10 ∨ j = 11 by omega) with rfl | rfl | rfl | rfl | rfl | rfl | rfl | rfl | rfl | rfl | rfl | rfl
  · exact fun q9 => a0 ((alk_0 q e).mpr q9)
  · exact fun q9 => a1 ((alk_1 q e).mpr q9)
  · exact fun q9 => a2 ((alk_2 q e).mpr q9)
  · exact fun q9 => a3 ((alk_3 q e).mpr q9)
  · exact fun q9 => a4 ((alk_4 q e).mpr q9)
  · exact fun q9 => a5 ((alk_5 q e).mpr q9)
  · exact fun q9 => a6 ((alk_6 q e).mpr q9)
  · exact fun q9 => a7 ((alk_7 q e).mpr q9)
  · exact fun q9 => a8 ((alk_8 q e).mpr q9)
  · exact fun q9 => a9 ((alk_9 q e).mpr q9)
  · exact fun q9 => a10 ((alk_10 q e).mpr q9)
  · exact fun q9 => a11 ((alk_11 q e).mpr q9)
theorem isW_one {q e i j : Nat} (hi : isW b q e i) (hj : isW b q e j) : i = j := by
  unfold isW at hi hj
  split at hi <;> split at hj <;> first | rfl | exact absurd hi id | exact absurd hj id | (exfalso; omega)
end TX

/-! copy and street, both sides alike -/
section K
variable {n d C z k : Nat} {V : Tx} {b : Nat → Nat} {S : Sk} {σ : Gm} {μ : Wm}
theorem x403 (s i j : Nat) : ((40 : Int32) * nI s + nI i) + nI j = nI (40 * s + i + j) := by
  rw [x40, nI_add]
theorem cpUp {s i o j N : Nat} (h1 : 40 * s + i + N ≤ 160) (h2 : 40 * o + j + N ≤ 160) (hd : ∀ l' l, l' < l → l < N → ¬ 40 * o + j + l' = 40 * s + i + l) : ∀ (m q f : Nat) (μ : Wm), q + m = N → m < f → ∃ μ', f_X6_copy_L121 n f μ (nI s) (nI i) (nI o) (nI j) (nI N) (0 : Int32) (nI q) = some (nI N, μ') ∧ (∀ l, q ≤ l → l < N → μ'.1 38 0 (40 * o + j + l) = μ.1 38 0 (40 * s + i + l)) ∧ ∀ c k t, ¬ (c = 38 ∧ k = 0 ∧ 40 * o + j + q ≤ t ∧ t < 40 * o + j + N) → μ'.1 c k t = μ.1 c k t
  | m, q, 0, _, _, h => by omega
  | 0, q, f + 1, μ, he, _ => by
    unfold f_X6_copy_L121
    rw [if_pos (nI_le (show N ≤ q by omega) (by omega))]
    exact ⟨μ, rfl, fun l h1 h2 => by omega, fun _ _ _ _ => rfl⟩
  | m + 1, q, f + 1, μ, he, hk => by
    unfold f_X6_copy_L121 f_X6_copy_J145
    rw [if_neg (show ¬ nI N ≤ nI q from nI_ge (by omega) (by omega)), if_pos rfl, x403, x403, gd_h (inb_nI (show 40 * s + i + q < 160 by omega) (by decide)), gd_h (inb_nI (show 40 * o + j + q < 160 by omega) (by decide)), nI_clamp (show 40 * s + i + q < 2 ^ 31 by omega), nI_clamp (show 40 * o + j + q < 2 ^ 31 by omega), bv_e, nI_1]
    obtain ⟨μ', a1, a2, a3⟩ := cpUp h1 h2 hd m (q + 1) f (up3 μ.1 38 0 (40 * o + j + q) (μ.1 38 0 (40 * s + i + q)), μ.2) (by omega) (by omega)
    refine ⟨μ', a1, fun l g1 g2 => ?_, fun c k t w => (a3 c k t (by omega)).trans (u1_of (by omega))⟩
    by_cases e : l = q
    · subst e
      rw [a3 38 0 (40 * o + j + l) (by omega), u1_at]
    · rw [a2 l (by omega) g2]
      have := hd q l (by omega) g2
      exact u1_of (by omega)
theorem cpDn {s i o j N : Nat} (h1 : 40 * s + i + N ≤ 160) (h2 : 40 * o + j + N ≤ 160) (hd : ∀ l' l, l < l' → l' < N → ¬ 40 * o + j + l' = 40 * s + i + l) : ∀ (m q f : Nat) (μ : Wm), q + m = N → m < f → ∃ μ', f_X6_copy_L121 n f μ (nI s) (nI i) (nI o) (nI j) (nI N) (1 : Int32) (nI q) = some (nI N, μ') ∧ (∀ l, l < m → μ'.1 38 0 (40 * o + j + l) = μ.1 38 0 (40 * s + i + l)) ∧ ∀ c k t, ¬ (c = 38 ∧ k = 0 ∧ 40 * o + j ≤ t ∧ t < 40 * o + j + m) → μ'.1 c k t = μ.1 c k t
  | m, q, 0, _, _, h => by omega
  | 0, q, f + 1, μ, he, _ => by
    unfold f_X6_copy_L121
    rw [if_pos (nI_le (show N ≤ q by omega) (by omega))]
    exact ⟨μ, rfl, fun l h1 => by omega, fun _ _ _ _ => rfl⟩
  | m + 1, q, f + 1, μ, he, hk => by
    unfold f_X6_copy_L121 f_X6_copy_J145
    rw [if_neg (show ¬ nI N ≤ nI q from nI_ge (by omega) (by omega)), if_neg (show ¬ (1 : Int32) = 0 by decide), show nI N - (1 : Int32) = nI (N - 1) from pk_sub (show 1 ≤ N by omega), pk_sub (show q ≤ N - 1 by omega), show N - 1 - q = m by omega, x403, x403, gd_h (inb_nI (show 40 * s + i + m < 160 by omega) (by decide)), gd_h (inb_nI (show 40 * o + j + m < 160 by omega) (by decide)), nI_clamp (show 40 * s + i + m < 2 ^ 31 by omega), nI_clamp (show 40 * o + j + m < 2 ^ 31 by omega), bv_e, nI_1]
    obtain ⟨μ', a1, a2, a3⟩ := cpDn h1 h2 hd m (q + 1) f (up3 μ.1 38 0 (40 * o + j + m) (μ.1 38 0 (40 * s + i + m)), μ.2) (by omega) (by omega)
    refine ⟨μ', a1, fun l g1 => ?_, fun c k t w => (a3 c k t (by omega)).trans (u1_of (by omega))⟩
    by_cases e : l = m
    · subst e
      rw [a3 38 0 (40 * o + j + l) (by omega), u1_at]
    · rw [a2 l (by omega)]
      have := hd m l (by omega) (by omega)
      exact u1_of (by omega)
/-- a range within a row, or not -/
theorem hr_x {s sz : Nat} (hz : sz ≤ 40) (h : σ 18 s 2 = nI sz) (a c : Int32) : (∃ i N, a = nI i ∧ c = nI N ∧ i + N ≤ sz ∧ f_X2_hasRange s σ a c = some (1, σ)) ∨ ((a < 0 ∨ c < 0 ∨ nI sz - c < a) ∧ f_X2_hasRange s σ a c = some (0, σ)) := by
  unfold f_X2_hasRange
  rw [h]
  by_cases g1 : a < 0
  · rw [if_pos g1]
    exact Or.inr ⟨Or.inl g1, rfl⟩
  rw [if_neg g1]
  by_cases g2 : c < 0
  · rw [if_pos g2]
    exact Or.inr ⟨Or.inr (Or.inl g2), rfl⟩
  rw [if_neg g2]
  have g1' : (0 : Int32) ≤ a := Int32.le_iff_toInt_le.mpr (by have : ¬ a.toInt < (0 : Int32).toInt := fun q => g1 (Int32.lt_iff_toInt_lt.mpr q); omega)
  have g2' : (0 : Int32) ≤ c := Int32.le_iff_toInt_le.mpr (by have : ¬ c.toInt < (0 : Int32).toInt := fun q => g2 (Int32.lt_iff_toInt_lt.mpr q); omega)
  have ha : a.toInt.toNat < 2 ^ 31 := by have h2 : a.toInt < 2 ^ 31 := Int32.toInt_lt a; omega
  have hc : c.toInt.toNat < 2 ^ 31 := by have h2 : c.toInt < 2 ^ 31 := Int32.toInt_lt c; omega
  have ea := t_nI g1'
  have ec := t_nI g2'
  generalize a.toInt.toNat = i at ea ha
  generalize c.toInt.toNat = N at ec hc
  subst ea
  subst ec
  have tn : ∀ x : Nat, x < 2 ^ 31 → (nI sz - nI x).toInt = (sz : Int) - (x : Int) := by
    intro x hx
    rw [Int32.toInt_sub, nI_toInt (by omega), nI_toInt hx]
    apply Int.bmod_eq_of_le <;> omega
  have lt : nI sz - nI N < nI i ↔ ¬ (i + N ≤ sz) := by
    rw [Int32.lt_iff_toInt_lt, tn N hc, nI_toInt ha]
    omega
  by_cases g3 : N ≤ sz
  · rw [if_neg (show ¬ nI sz < nI N from nI_nlt g3 (by omega))]
    by_cases g4 : i + N ≤ sz
    · rw [if_neg (fun q => (lt.mp q) g4)]
      exact Or.inl ⟨i, N, rfl, rfl, g4, rfl⟩
    · rw [if_pos (lt.mpr g4)]
      exact Or.inr ⟨Or.inr (Or.inr (lt.mpr g4)), rfl⟩
  · rw [if_pos (show nI sz < nI N from nI_lt (by omega) hc)]
    exact Or.inr ⟨Or.inr (Or.inr (lt.mpr (by omega))), rfl⟩
theorem copy_s (hn : 600 < n) (h : Re n V C S z b σ μ) (hS : ShR σ μ) (a1 a2 a3 a4 a5 : Int32) : GoS n V C S z b σ μ (f_X5_copy σ a1 a2 a3 a4 a5) (f_X6_copy n μ a1 a2 a3 a4 a5) := by
  unfold f_X5_copy f_X6_copy
  rcases sheet2 a1 with ⟨s, hs, rfl, g4, g5⟩ | ⟨g4, g5⟩
  case inr =>
    rw [g4 σ, g5 μ, bc_s, bc_s, on0, if_pos rfl]
    rcases sheet2 a3 with ⟨o, ho, rfl, k4, k5⟩ | ⟨k4, k5⟩
    · rw [k4 σ, bc_s, on1, gd_h (ltb4 ho)]
      exact GoS.same h hS _ rfl rfl
    · rw [k4 σ, bc_s, on0]
      exact GoS.same h hS _ rfl rfl
  rw [g4 σ, g5 μ, bc_s, bc_s, on1, gd_h (ltb4 hs), if_neg (show ¬ (1 : Int32) = 0 by decide)]
  rcases sheet2 a3 with ⟨o, ho, rfl, k4, k5⟩ | ⟨k4, k5⟩
  case inr =>
    rw [k4 σ, k5 μ, bc_s, bc_s, on0, if_pos rfl]
    exact GoS.same h hS _ rfl rfl
  rw [k4 σ, k5 μ, bc_s, bc_s, on1, gd_h (ltb4 ho), if_neg (show ¬ (1 : Int32) = 0 by decide), gd_h (inb_nI (show s < 4 by omega) (by decide)), nI_clamp (show s < 2 ^ 31 by omega)]
  rcases hS s hs with ⟨h1, h2⟩ | ⟨so, sz, hso, hz, e1, e2, e3, e4, e5, e6⟩
  · rw [miss_x h1, bc_s, if_neg (show ¬ (1 : Int32) = 0 by decide), h2, if_pos rfl]
    exact GoS.same h hS _ rfl rfl
  rw [there_x hso e1, bc_s, if_pos rfl, e3, if_neg (show ¬ (1 : Int32) = 0 by decide), gd_h (inb_nI (show o < 4 by omega) (by decide)), nI_clamp (show o < 2 ^ 31 by omega)]
  rcases hS o ho with ⟨h1, h2⟩ | ⟨so', sz', hso', hz', e1', e2', e3', e4', e5', e6'⟩
  · rw [miss_x h1, bc_s, if_neg (show ¬ (1 : Int32) = 0 by decide), h2, if_pos rfl]
    exact GoS.same h hS _ rfl rfl
  rw [there_x hso' e1', bc_s, if_pos rfl, e3', if_neg (show ¬ (1 : Int32) = 0 by decide), gd_h (inb_nI (show s < 4 by omega) (by decide)), gd_h (inb_nI (show o < 4 by omega) (by decide)), e1, e1', e4, e4']
  by_cases q : nI so = nI so'
  case neg =>
    rw [if_neg q, if_neg q]
    exact GoS.same h hS _ rfl rfl
  rw [if_pos q, if_pos q, gd_h (inb_nI (show s < 4 by omega) (by decide)), gd_h (inb_nI (show o < 4 by omega) (by decide)), e5, e5']
  rcases hr_x hz e2 a2 a5 with ⟨i, N, rfl, rfl, w1, w2⟩ | ⟨w1, w2⟩
  case inr =>
    rw [w2, bc_s, if_pos rfl]
    by_cases v1 : a5 < 0
    · rw [if_pos v1]
      exact GoS.same h hS _ rfl rfl
    rw [if_neg v1]
    by_cases v2 : a2 < 0
    · rw [if_pos v2]
      exact GoS.same h hS _ rfl rfl
    rw [if_neg v2]
    by_cases v3 : a4 < 0
    · rw [if_pos v3]
      exact GoS.same h hS _ rfl rfl
    rw [if_neg v3, if_pos ((w1.resolve_left v2).resolve_left v1)]
    exact GoS.same h hS _ rfl rfl
  rw [w2, bc_s, if_neg (show ¬ (1 : Int32) = 0 by decide), if_neg (show ¬ nI N < (0 : Int32) from nI_pos (by omega)), if_neg (show ¬ nI i < (0 : Int32) from nI_pos (by omega)), if_neg (show ¬ nI sz - nI N < nI i from by
    rw [pk_sub (show N ≤ sz by omega)]
    exact nI_nlt (by omega) (by omega))]
  rcases hr_x hz' e2' a4 (nI N) with ⟨j, N', rfl, eN', v1, v2⟩ | ⟨v1, v2⟩
  case inr =>
    rw [v2, bc_s, if_pos rfl]
    by_cases v3 : a4 < 0
    · rw [if_pos v3]
      exact GoS.same h hS _ rfl rfl
    have lt := (v1.resolve_left v3).resolve_left (nI_pos (show N < 2 ^ 31 by omega))
    rw [if_neg v3, if_neg (show ¬ a4 ≤ nI sz' - nI N from fun q => by have := Int32.lt_iff_toInt_lt.mp lt; have := Int32.le_iff_toInt_le.mp q; omega)]
    exact GoS.same h hS _ rfl rfl
  have hN' : N' < 2 ^ 31 := by omega
  obtain rfl : N = N' := (nI_eq (by omega) hN').mp eN'
  rw [v2, bc_s, if_neg (show ¬ (1 : Int32) = 0 by decide), if_neg (show ¬ nI j < (0 : Int32) from nI_pos (by omega)), if_pos (show nI j ≤ nI sz' - nI N from by
    rw [pk_sub (show N ≤ sz' by omega)]
    exact nI_le (by omega) (by omega)), nI_clamp (show i < 2 ^ 31 by omega), nI_clamp (show j < 2 ^ 31 by omega), nI_clamp (show N < 2 ^ 31 by omega), gd_h (show cpb (nI i) (nI j) (nI N) 40 40 = true from decide_eq_true (by
      rw [nI_clamp (show i < 2 ^ 31 by omega), nI_clamp (show j < 2 ^ 31 by omega), nI_clamp (show N < 2 ^ 31 by omega)]
      exact ⟨⟨nI_pos (by omega), nI_pos (by omega), nI_pos (by omega)⟩, by omega, by omega⟩)), bv_e]
  have fin : ∀ μ' : Wm, (∀ l, l < N → μ'.1 38 0 (40 * o + j + l) = μ.1 38 0 (40 * s + i + l)) → (∀ c k t, ¬ (c = 38 ∧ k = 0 ∧ 40 * o + j ≤ t ∧ t < 40 * o + j + N) → μ'.1 c k t = μ.1 c k t) → GoS n V C S z b σ μ (some (nI N, rw2 σ 19 o (va_cpy (σ 19 s) (σ 19 o) i j N))) (some (nI N, μ')) := by
    intro μ' f1 f2
    refine GoS.fin h _ rfl rfl (hS.up (s := o) (Or.inr ⟨so', sz', hso', hz', (rw2_of (by omega)).trans e1', (rw2_of (by omega)).trans e2', (f2 _ _ _ (by omega)).trans e3', (f2 _ _ _ (by omega)).trans e4', (f2 _ _ _ (by omega)).trans e5', fun l hl => ?_⟩) (fun c k t w => rw2_of (by omega)) (fun c t w1 w2 => f2 c 0 t (by omega))) (fun c k t w => rw2_of (by omega)) (fun c k t w => f2 c k t (by omega))
    rw [rw2_at]
    unfold va_cpy
    by_cases e : j ≤ l ∧ l < j + N
    · rw [if_pos e]
      have h1 := f1 (l - j) (by omega)
      rw [show 40 * o + j + (l - j) = 40 * o + l by omega] at h1
      rw [h1, e6 _ (show i + (l - j) < sz by omega), show 40 * s + i + (l - j) = 40 * s + (i + (l - j)) by omega]
    · rw [if_neg e, f2 38 0 (40 * o + l) (by omega)]
      exact e6' l hl
  have up : (∀ l' l, l' < l → l < N → ¬ 40 * o + j + l' = 40 * s + i + l) → GoS n V C S z b σ μ (some (nI N, rw2 σ 19 o (va_cpy (σ 19 s) (σ 19 o) i j N))) (f_X6_copy_L121 n n μ (nI s) (nI i) (nI o) (nI j) (nI N) (0 : Int32) (0 : Int32)) := by
    intro hd
    obtain ⟨μ', p1, p2, p3⟩ := cpUp (n := n) (s := s) (i := i) (o := o) (j := j) (N := N) (by omega) (by omega) hd N 0 n μ (by omega) (by omega)
    rw [show f_X6_copy_L121 n n μ (nI s) (nI i) (nI o) (nI j) (nI N) (0 : Int32) (0 : Int32) = _ from p1]
    exact fin μ' (fun l hl => p2 l (by omega) hl) (fun c k t w => p3 c k t (by omega))
  by_cases q1 : s = o
  · subst q1
    rw [if_pos rfl]
    by_cases q2 : j ≤ i
    · rw [if_pos (show nI j ≤ nI i from nI_le q2 (by omega))]
      exact up fun l' l w1 w2 => by omega
    · rw [if_neg (show ¬ nI j ≤ nI i from nI_ge (by omega) (by omega))]
      obtain ⟨μ', p1, p2, p3⟩ := cpDn (n := n) (s := s) (i := i) (o := s) (j := j) (N := N) (by omega) (by omega) (fun l' l w1 w2 => by omega) N 0 n μ (by omega) (by omega)
      rw [show f_X6_copy_L121 n n μ (nI s) (nI i) (nI s) (nI j) (nI N) (1 : Int32) (0 : Int32) = _ from p1]
      exact fin μ' p2 p3
  · rw [if_neg (show ¬ nI s = nI o from nI_ne (by omega) (by omega) q1)]
    exact up fun l' l w1 w2 => by omega
/-! street -/
def GoT (n : Nat) (V : Tx) (C z : Nat) (b : Nat → Nat) (σ : Gm) (μ : Wm) (f : Option (Int32 × Gm)) (g : Option (Int32 × Wm)) : Prop := ∃ r σ' μ' S', f = some (r, σ') ∧ g = some (r, μ') ∧ Re n V C S' z b σ' μ' ∧ ShR σ' μ' ∧ FcX σ σ' ∧ FcM μ μ'
theorem GoT.same {f : Option (Int32 × Gm)} {g : Option (Int32 × Wm)} (h : Re n V C S z b σ μ) (hS : ShR σ μ) (r : Int32) (hf : f = some (r, σ)) (hg : g = some (r, μ)) : GoT n V C z b σ μ f g := ⟨r, σ, μ, S, hf, hg, h, hS, fun _ _ _ _ => rfl, fun _ _ _ _ => rfl⟩
theorem ShR.go {σ' : Gm} {μ' : Wm} (h : ShR σ μ) (fx : FcX σ σ') (fm : FcM μ μ') : ShR σ' μ' := h.fr (fun c k j q => fx c k j (by omega)) fun c j q => fm c 0 j (by omega)
theorem Go.T {f : Option (Int32 × Gm)} {g : Option (Int32 × Wm)} (h : Go n V C z b σ μ f g) (hS : ShR σ μ) : GoT n V C z b σ μ f g := by
  obtain ⟨r, σ', μ', S', h1, h2, h3, h4, h5⟩ := h
  exact ⟨r, σ', μ', S', h1, h2, h3, hS.go h4 h5, h4, h5⟩
theorem nb_st (σ : Gm) (a c : Int32) : f_X5_neighbour σ a c = f_X5_settle σ a c := by
  unfold f_X5_neighbour
  generalize f_X5_settle σ a c = x
  rcases x with _ | ⟨r, s⟩ <;> rfl
theorem sz2 {sz q : Nat} (hz : sz ≤ 40) (hq : q ≤ 5) : ((nI sz - (2 : Int32) * nI q) - (2 : Int32)).toInt = (sz : Int) - 2 * (q : Int) - 2 := by
  have key : ∀ q, q < 6 → ∀ sz, sz < 41 → ((nI sz - (2 : Int32) * nI q) - (2 : Int32)).toInt = (sz : Int) - 2 * (q : Int) - 2 := by decide +kernel
  exact key q (by omega) sz (by omega)
theorem stL {s so sz N fr : Nat} (hs : s < 4) (hz : sz ≤ 40) (hN5 : N ≤ 5) : ∀ (m q f a : Nat) (σ : Gm) (μ : Wm) (S : Sk), Re n V C S z b σ μ → ShR σ μ → σ 18 s 2 = nI sz → μ.1 37 0 s = nI sz → (∀ i, i < sz → σ 19 s i = μ.1 38 0 (40 * s + i)) → fr + 2 * q < 2 ^ 31 → q + m = N → m < f → GoT n V C z b σ μ (f_X5_street_L66 n f σ (nI N) s (nI a) (nI (fr + 2 * q)) (nI q)) (f_X6_street_L75 n f μ (nI s) (nI fr) (nI N) (nI a) (nI q))
  | m, q, 0, _, _, _, _, _, _, _, _, _, _, _, h => by omega
  | 0, q, f + 1, a, σ, μ, S, h, hS, _, _, _, _, he, _ => by
    unfold f_X5_street_L66 f_X6_street_L75
    rw [if_pos (nI_le (show N ≤ q by omega) (by omega)), if_pos (nI_le (show N ≤ q by omega) (by omega))]
    exact GoT.same h hS _ rfl rfl
  | m + 1, q, f + 1, a, σ, μ, S, h, hS, e2, e5, e6, hf, he, hk => by
    unfold f_X5_street_L66 f_X6_street_L75
    rw [if_neg (show ¬ nI N ≤ nI q from nI_ge (by omega) (by omega)), if_neg (show ¬ nI N ≤ nI q from nI_ge (by omega) (by omega)), if_neg (show ¬ nI fr < (0 : Int32) from nI_pos (by omega)), gd_h (inb_nI (show s < 4 by omega) (by decide)), nI_clamp (show s < 2 ^ 31 by omega), e5]
    have ht := sz2 hz (show q ≤ 5 by omega)
    have hle : nI fr ≤ (nI sz - (2 : Int32) * nI q) - (2 : Int32) ↔ fr + 2 * q + 2 ≤ sz := by
      rw [Int32.le_iff_toInt_le, ht, nI_toInt (by omega)]
      omega
    rcases hr_x hz e2 (nI (fr + 2 * q)) (2 : Int32) with ⟨i, N', w1, w2, w3, w4⟩ | ⟨w1, w2⟩
    · have hi : fr + 2 * q = i := (nI_eq hf (by omega)).mp w1
      have hN' : 2 = N' := (nI_eq (by decide) (by omega)).mp w2
      rw [w4, bc_s, if_neg (show ¬ (1 : Int32) = 0 by decide), if_pos (hle.mpr (by omega)), bv_e, show nI (fr + 2 * q) + (1 : Int32) = nI (fr + 2 * q + 1) from nI_1 _, gd_h (inb_nI (show fr + 2 * q < 40 by omega) (by decide)), gd_h (inb_nI (show fr + 2 * q + 1 < 40 by omega) (by decide)), nI_clamp (show fr + 2 * q < 2 ^ 31 by omega), nI_clamp (show fr + 2 * q + 1 < 2 ^ 31 by omega), show (2 : Int32) * nI q = nI (2 * q) from pk_mul 2 q, x403, show nI (40 * s + fr + 2 * q) + (1 : Int32) = nI (40 * s + fr + 2 * q + 1) from nI_1 _, gd_h (inb_nI (show 40 * s + fr + 2 * q < 160 by omega) (by decide)), gd_h (inb_nI (show 40 * s + fr + 2 * q + 1 < 160 by omega) (by decide)), nI_clamp (show 40 * s + fr + 2 * q < 2 ^ 31 by omega), nI_clamp (show 40 * s + fr + 2 * q + 1 < 2 ^ 31 by omega), e6 (fr + 2 * q) (by omega), e6 (fr + 2 * q + 1) (by omega), ← nb_st, show 40 * s + (fr + 2 * q) = 40 * s + fr + 2 * q by omega, show 40 * s + (fr + 2 * q + 1) = 40 * s + fr + 2 * q + 1 by omega]
      obtain ⟨r, σ1, μ1, S1, p1, p2, p3, p4, p5⟩ := neighbour_s h (μ.1 38 0 (40 * s + fr + 2 * q)) (μ.1 38 0 (40 * s + fr + 2 * q + 1))
      rw [p1, p2, bc_s, bc_s, bv_e, bv_e, nI_1, nI_1, show nI (fr + 2 * q) + (2 : Int32) = nI (fr + 2 * (q + 1)) from (nI_add _ 2).trans (congrArg nI (by omega)), show nI a + (0 : Int32) = nI a from nI_add a 0]
      have hS1 := hS.go p4 p5
      have tail : ∀ a', GoT n V C z b σ μ (f_X5_street_L66 n f σ1 (nI N) s (nI a') (nI (fr + 2 * (q + 1))) (nI (q + 1))) (f_X6_street_L75 n f μ1 (nI s) (nI fr) (nI N) (nI a') (nI (q + 1))) := by
        intro a'
        obtain ⟨r', σ', μ', S', t1, t2, t3, t4, t5, t6⟩ := stL (fr := fr) (so := so) hs hz hN5 m (q + 1) f a' σ1 μ1 S1 p3 hS1 ((p4 _ _ _ (by omega)).trans e2) ((p5 _ _ _ (by omega)).trans e5) (fun i hi => (p4 _ _ _ (by omega)).trans ((e6 i hi).trans (p5 _ _ _ (by omega)).symm)) (by omega) (by omega) (by omega)
        exact ⟨r', σ', μ', S', t1, t2, t3, t4, fun c k j w => (t5 c k j w).trans (p4 c k j w), fun c k j w => (t6 c k j w).trans (p5 c k j w)⟩
      by_cases g : r < 0
      · rw [if_pos g, if_pos g]
        exact tail a
      · rw [if_neg g, if_neg g]
        exact tail (a + 1)
    · have w1' := (w1.resolve_left (nI_pos hf)).resolve_left (by decide)
      have hno : ¬ fr + 2 * q + 2 ≤ sz := by
        intro g
        have := Int32.lt_iff_toInt_lt.mp w1'
        rw [show nI sz - (2 : Int32) = nI (sz - 2) from pk_sub (show 2 ≤ sz by omega), nI_toInt (by omega), nI_toInt hf] at this
        omega
      rw [w2, bc_s, if_pos rfl, if_neg (fun g => hno (hle.mp g))]
      exact GoT.same h hS _ rfl rfl
theorem street_s (hn : 600 < n) (h : Re n V C S z b σ μ) (hS : ShR σ μ) (a1 a2 a3 a4 : Int32) : GoT n V C z b σ μ (f_X5_street n σ a1 a2 a3 a4) (f_X6_street n μ a1 a2 a3 a4) := by
  unfold f_X5_street f_X6_street
  rcases sheet2 a1 with ⟨s, hs, rfl, g4, g5⟩ | ⟨g4, g5⟩
  case inr =>
    rw [g4 σ, g5 μ, bc_s, bc_s, on0, if_pos rfl]
    exact GoT.same h hS _ rfl rfl
  rw [g4 σ, g5 μ, bc_s, bc_s, on1, gd_h (ltb4 hs), if_neg (show ¬ (1 : Int32) = 0 by decide)]
  rcases rng a2 (lo := 0) (hi := 2) (by decide) (by decide) with ⟨i2, -, hi2, rfl, g4, g5⟩ | ⟨-, g4, g5⟩
  case inr =>
    rw [show f_X5_within σ a2 (0 : Int32) (2 : Int32) = _ from g4 σ, show f_X6_in μ a2.toInt64 (0 : Int64) (2 : Int64) = _ from g5 μ, bc_s, bc_s, if_pos rfl, if_pos rfl]
    exact GoT.same h hS _ rfl rfl
  rw [show f_X5_within σ (nI i2) (0 : Int32) (2 : Int32) = _ from g4 σ, show f_X6_in μ (nI i2).toInt64 (0 : Int64) (2 : Int64) = _ from g5 μ, bc_s, bc_s, if_neg (show ¬ (1 : Int32) = 0 by decide), if_neg (show ¬ (1 : Int32) = 0 by decide)]
  rcases rng a4 (lo := 0) (hi := 5) (by decide) (by decide) with ⟨N, -, hN, rfl, g4, g5⟩ | ⟨-, g4, g5⟩
  case inr =>
    rw [show f_X5_within σ a4 (0 : Int32) (5 : Int32) = _ from g4 σ, show f_X6_in μ a4.toInt64 (0 : Int64) (5 : Int64) = _ from g5 μ, bc_s, bc_s, if_pos rfl, if_pos rfl]
    exact GoT.same h hS _ rfl rfl
  rw [show f_X5_within σ (nI N) (0 : Int32) (5 : Int32) = _ from g4 σ, show f_X6_in μ (nI N).toInt64 (0 : Int64) (5 : Int64) = _ from g5 μ, bc_s, bc_s, if_neg (show ¬ (1 : Int32) = 0 by decide), if_neg (show ¬ (1 : Int32) = 0 by decide), gd_h (inb_nI (show s < 4 by omega) (by decide)), gd_h (inb_nI (show s < 4 by omega) (by decide)), nI_clamp (show s < 2 ^ 31 by omega)]
  unfold f_X6_street_J57
  rw [gd_h (inb_nI (show s < 4 by omega) (by decide)), nI_clamp (show s < 2 ^ 31 by omega)]
  rcases hS s hs with ⟨h1, h2⟩ | ⟨so, sz, hso, hz, e1, e2, e3, e4, e5, e6⟩
  · rw [miss_x h1, bc_s, if_neg (show ¬ (1 : Int32) = 0 by decide), h2, if_pos rfl, if_pos rfl]
    exact GoT.same h hS _ rfl rfl
  rw [there_x hso e1, bc_s, if_pos rfl, e3, if_neg (show ¬ (1 : Int32) = 0 by decide), if_neg (show ¬ (1 : Int32) = 0 by decide), e1, e4]
  by_cases q : nI so = nI i2
  case neg =>
    rw [if_neg q, if_neg q]
    exact GoT.same h hS _ rfl rfl
  rw [if_pos q, if_pos q]
  by_cases g0 : (0 : Int32) ≤ a3
  · have hx : a3.toInt.toNat < 2 ^ 31 := by
      have h2 : a3.toInt < 2 ^ 31 := Int32.toInt_lt a3
      omega
    have e := t_nI g0
    generalize a3.toInt.toNat = fr at e hx
    subst e
    exact stL (so := so) (n := n) (q := 0) (m := N) (a := 0) (f := n) hs hz hN σ μ S h hS e2 e5 e6 (by omega) (by omega) (by omega)
  · have gneg : a3 < 0 := Int32.lt_iff_toInt_lt.mpr (by have : ¬ (0 : Int32).toInt ≤ a3.toInt := fun q => g0 (Int32.le_iff_toInt_le.mpr q); omega)
    obtain ⟨f, hf⟩ : ∃ f, n = f + 1 := ⟨n - 1, by omega⟩
    rw [show f_X5_street_L66 n n σ = f_X5_street_L66 n (f + 1) σ by rw [← hf], show f_X6_street_L75 n n μ = f_X6_street_L75 n (f + 1) μ by rw [← hf], f_X5_street_L66, f_X6_street_L75]
    by_cases gN : nI N ≤ (0 : Int32)
    · rw [if_pos gN, if_pos gN]
      exact GoT.same h hS _ rfl rfl
    · have e0 : f_X2_hasRange s σ a3 (2 : Int32) = some (0, σ) := by
        unfold f_X2_hasRange
        rw [if_pos gneg]
      rw [if_neg gN, if_neg gN, e0, bc_s, if_pos rfl, if_pos gneg]
      exact GoT.same h hS _ rfl rfl
end K

/-! parts in lowest terms, nights that are drawn, both sides alike -/
theorem nI_div {a b : Nat} (ha : a < 2 ^ 31) (hb : b < 2 ^ 31) : nI a / nI b = nI (a / b) := by
  have hl := Nat.div_le_self a b
  apply Int32.toInt_inj.mp
  rw [Int32.toInt_div, nI_toInt ha, nI_toInt hb, nI_toInt (show a / b < 2 ^ 31 by omega), ← Int.ofNat_tdiv]
  generalize a / b = y at *
  apply Int.bmod_eq_of_le <;> omega
theorem nI_mod {a b : Nat} (ha : a < 2 ^ 31) (hb : b < 2 ^ 31) : nI a - nI a / nI b * nI b = nI (a % b) := by
  have h := Nat.div_add_mod' a b
  rw [nI_div ha hb, pk_mul, pk_sub (show a / b * b ≤ a by omega), show a - a / b * b = a % b by omega]
theorem lN_div {a b : Nat} (ha : a < 2 ^ 31) (hb : b < 2 ^ 31) : lN a / lN b = lN (a / b) := by
  have hl := Nat.div_le_self a b
  apply Int64.toInt_inj.mp
  rw [Int64.toInt_div, lN_int ha, lN_int hb, lN_int (show a / b < 2 ^ 31 by omega), ← Int.ofNat_tdiv]
  generalize a / b = y at *
  apply Int.bmod_eq_of_le <;> omega
theorem lN_mod {a b : Nat} (ha : a < 2 ^ 31) (hb : b < 2 ^ 31) : lN a - lN a / lN b * lN b = lN (a % b) := by
  have h := Nat.div_add_mod' a b
  have hr : a % b ≤ a := Nat.mod_le a b
  have hm : a / b * b ≤ a := by omega
  rw [lN_div ha hb]
  apply Int64.toInt_inj.mp
  rw [Int64.toInt_sub, Int64.toInt_mul, lN_int ha, lN_int hb, lN_int (show a / b < 2 ^ 31 by have := Nat.div_le_self a b; omega), lN_int (show a % b < 2 ^ 31 by omega)]
  have e : ((a / b : Nat) : Int) * ((b : Nat) : Int) = ((a / b * b : Nat) : Int) := (Int.natCast_mul _ _).symm
  rw [e]
  have e1 : ((a / b * b : Nat) : Int).bmod (2 ^ 64) = ((a / b * b : Nat) : Int) := by
    generalize a / b * b = y at *
    apply Int.bmod_eq_of_le <;> omega
  rw [e1]
  generalize a / b * b = y at *
  rw [show (a : Int) - (y : Int) = ((a % b : Nat) : Int) by omega]
  generalize a % b = w at *
  apply Int.bmod_eq_of_le <;> omega
theorem gcd_st {a b : Nat} : Nat.gcd a b = Nat.gcd b (a % b) := by
  rw [Nat.gcd_comm a b, Nat.gcd_rec b a, Nat.gcd_comm]
theorem md_half {b r k : Nat} (h0 : ¬ r = 0) (hr : r < b) (hb : b < 2 ^ (k + 1)) : b % r < 2 ^ k := by
  have h1 : b % r < r := Nat.mod_lt b (by omega)
  have h2 := Nat.div_add_mod b r
  have h3 : 1 ≤ b / r := Nat.div_pos (by omega) (by omega)
  have h4 : r * 1 ≤ r * (b / r) := Nat.mul_le_mul_left r h3
  rw [Nat.pow_succ] at hb
  omega
section K
variable {n d C z k : Nat} {V : Tx} {b : Nat → Nat} {S : Sk} {σ : Gm} {μ : Wm}
theorem gc_x (σ : Gm) : ∀ (k a b t f : Nat), b < 2 ^ k → a < 2 ^ 31 → b < 2 ^ 31 → t + 2 * k < 64 → 2 * k < f → f_X5_commonDivisor_L2 n f σ (nI a) (nI b) (nI t) = some (nI (Nat.gcd a b), σ)
  | k, a, b, t, 0, _, _, _, _, h => by omega
  | 0, a, b, t, f + 1, hk, ha, hb, ht, _ => by
    obtain rfl : b = 0 := by omega
    unfold f_X5_commonDivisor_L2
    rw [if_neg (show ¬ (64 : Int32) ≤ nI t from nI_ge (show t < 64 by omega) (by decide)), if_pos (show nI 0 = (0 : Int32) from rfl), Nat.gcd_zero_right]
  | k + 1, a, b, t, 1, _, _, _, _, h => by omega
  | k + 1, a, b, t, f + 2, hk, ha, hb, ht, hf => by
    unfold f_X5_commonDivisor_L2
    rw [if_neg (show ¬ (64 : Int32) ≤ nI t from nI_ge (show t < 64 by omega) (by decide))]
    by_cases e : b = 0
    · subst e
      rw [if_pos (show nI 0 = (0 : Int32) from rfl), Nat.gcd_zero_right]
    · have hr : a % b < b := Nat.mod_lt a (by omega)
      rw [if_neg (show ¬ nI b = (0 : Int32) from nI_ne (m := 0) hb (by decide) e), gd_h (show nz (nI b) = true from decide_eq_true (nI_ne (m := 0) hb (by decide) e)), bv_e, nI_mod ha hb, nI_1]
      unfold f_X5_commonDivisor_L2
      rw [if_neg (show ¬ (64 : Int32) ≤ nI (t + 1) from nI_ge (show t + 1 < 64 by omega) (by decide)), gcd_st]
      by_cases e2 : a % b = 0
      · rw [e2, if_pos (show nI 0 = (0 : Int32) from rfl), Nat.gcd_zero_right]
      · rw [if_neg (show ¬ nI (a % b) = (0 : Int32) from nI_ne (m := 0) (by omega) (by decide) e2), gd_h (show nz (nI (a % b)) = true from decide_eq_true (nI_ne (m := 0) (by omega) (by decide) e2)), bv_e, nI_mod hb (by omega), nI_1]
        have hh := md_half e2 hr hk
        have hrr : b % (a % b) < a % b := Nat.mod_lt b (by omega)
        rw [gc_x σ k (a % b) (b % (a % b)) (t + 1 + 1) f hh (by omega) (by omega) (by omega) (by omega), ← gcd_st]
theorem nzl_t {b : Nat} (hb : b < 2 ^ 31) (h : ¬ b = 0) : nzl (lN b) = true := decide_eq_true fun q => by
  have := congrArg Int64.toInt q
  rw [lN_int hb, show (0 : Int64).toInt = 0 by decide] at this
  omega
theorem gc_m (μ : Wm) {u v : Nat} (hu : u < 2 ^ 31) (hv : v < 2 ^ 31) (x2 : Int32) : ∀ (k a b f : Nat), b < 2 ^ k → a < 2 ^ 31 → b < 2 ^ 31 → 0 < Nat.gcd a b → Nat.gcd a b < 2 ^ 31 → 2 * k < f → f_X6_lowest_L6 n f μ (lN u) (lN v) x2 (lN a) (lN b) = some (if x2 = 0 then lN (u / Nat.gcd a b) else lN (v / Nat.gcd a b), μ)
  | k, a, b, 0, _, _, _, _, _, h => by omega
  | k, a, b, f + 1, hk, ha, hb, h0, hg, hf => by
    have base : ∀ f a, a < 2 ^ 31 → ¬ a = 0 → f_X6_lowest_L6 n (f + 1) μ (lN u) (lN v) x2 (lN a) (lN 0) = some (if x2 = 0 then lN (u / a) else lN (v / a), μ) := by
      intro f a ha h0
      unfold f_X6_lowest_L6
      rw [if_pos (show lg_cmp (lN 0) (0 : Int64) = 0 from (lgc_eq (x := 0) (y := 0) (by decide) (by decide)).mpr rfl), gd_h (nzl_t ha h0), gd_h (nzl_t ha h0), lN_div hu ha, lN_div hv ha]
      by_cases g : x2 = 0
      · rw [if_pos g, if_pos g]
      · rw [if_neg g, if_neg g]
    have step : ∀ f a b, a < 2 ^ 31 → b < 2 ^ 31 → ¬ b = 0 → f_X6_lowest_L6 n (f + 1) μ (lN u) (lN v) x2 (lN a) (lN b) = f_X6_lowest_L6 n f μ (lN u) (lN v) x2 (lN b) (lN (a % b)) := by
      intro f a b ha hb h0
      rw [f_X6_lowest_L6, if_neg (show ¬ lg_cmp (lN b) (0 : Int64) = 0 from fun q => h0 ((lgc_eq hb (y := 0) (by decide)).mp q)), gd_h (nzl_t hb h0), bv_e, lN_mod ha hb]
    by_cases e : b = 0
    · subst e
      rw [Nat.gcd_zero_right] at h0 ⊢
      exact base f a ha (by omega)
    · rcases k with _ | k
      · omega
      rcases f with _ | f
      · omega
      have hr : a % b < b := Nat.mod_lt a (by omega)
      rw [step (f + 1) a b ha hb e]
      rw [gcd_st] at h0 hg ⊢
      by_cases e2 : a % b = 0
      · rw [e2, Nat.gcd_zero_right]
        exact base f b hb e
      · rw [step f b (a % b) hb (by omega) e2]
        have hh := md_half e2 hr hk
        have hrr : b % (a % b) < a % b := Nat.mod_lt b (by omega)
        rw [gcd_st] at h0 hg ⊢
        exact gc_m μ hu hv x2 k (a % b) (b % (a % b)) f hh (by omega) (by omega) h0 hg (by omega)
theorem low_x (hn : 600 < n) (σ : Gm) {u v : Nat} (hu : u ≤ 1998) (hv : v ≤ 1998) (h0 : 0 < v) (p : Int32) : f_X5_lowest n σ (nI u) (nI v) p = some (if p = 0 then lN (u / Nat.gcd u v) else lN (v / Nat.gcd u v), σ) := by
  have hg : Nat.gcd u v ≤ v := Nat.gcd_le_right u h0
  have hg0 : 0 < Nat.gcd u v := Nat.gcd_pos_of_pos_right u h0
  have d1 := Nat.div_le_self u (Nat.gcd u v)
  have d2 := Nat.div_le_self v (Nat.gcd u v)
  unfold f_X5_lowest f_X5_commonDivisor
  rw [show f_X5_commonDivisor_L2 n n σ (nI u) (nI v) (0 : Int32) = _ from gc_x σ 11 u v 0 n (show v < 2048 by omega) (by omega) (by omega) (by omega) (by omega), bc_s]
  have hne : ¬ nI (Nat.gcd u v) = (0 : Int32) := nI_ne (m := 0) (by omega) (by decide) (by omega)
  rw [if_neg hne, gd_h (show nz (nI (Nat.gcd u v)) = true from decide_eq_true hne), gd_h (show nz (nI (Nat.gcd u v)) = true from decide_eq_true hne), nI_div (by omega) (by omega), nI_div (by omega) (by omega), nI_l (by omega), nI_l (by omega)]
  by_cases g : p = 0
  · rw [if_pos g, if_pos g]
  · rw [if_neg g, if_neg g]
theorem low_m (hn : 600 < n) (μ : Wm) {u v : Nat} (hu : u ≤ 1998) (hv : v ≤ 1998) (h0 : 0 < v) (p : Int32) : f_X6_lowest n μ (lN u) (lN v) p = some (if p = 0 then lN (u / Nat.gcd u v) else lN (v / Nat.gcd u v), μ) := by
  have hg : Nat.gcd u v ≤ v := Nat.gcd_le_right u h0
  have hg0 : 0 < Nat.gcd u v := Nat.gcd_pos_of_pos_right u h0
  exact gc_m μ (by omega) (by omega) p 11 u v n (show v < 2048 by omega) (by omega) (by omega) hg0 (by omega) (by omega)
def GoL (n : Nat) (V : Tx) (C z : Nat) (b : Nat → Nat) (σ : Gm) (μ : Wm) (f : Option (Int64 × Gm)) (g : Option (Int64 × Wm)) : Prop := ∃ r σ' μ' S', f = some (r, σ') ∧ g = some (r, μ') ∧ Re n V C S' z b σ' μ' ∧ FcX σ σ' ∧ FcM μ μ'
theorem GoL.fin {f : Option (Int64 × Gm)} {g : Option (Int64 × Wm)} {σ' : Gm} {μ' : Wm} (h : Re n V C S z b σ μ) (r : Int64) (hf : f = some (r, σ')) (hg : g = some (r, μ')) (u : FrU σ σ') (t : SkM S μ') (v : FcM μ μ') : GoL n V C z b σ μ f g :=
  ⟨r, σ', μ', S, hf, hg, h.mk h.1 h.2.1 (u.sk h.2.2.1) t h.2.2.2.2.2.2.2.2.2.1 (fun c k j w => u c k j (by omega)) (fun c k j w => v c k j (by omega)), u.fc, v⟩
theorem GoL.same {f : Option (Int64 × Gm)} {g : Option (Int64 × Wm)} (h : Re n V C S z b σ μ) (r : Int64) (hf : f = some (r, σ)) (hg : g = some (r, μ)) : GoL n V C z b σ μ f g := GoL.fin h r hf hg (FrU.rf σ) h.2.2.2.1 fun _ _ _ _ => rfl
theorem share_s (hn : 600 < n) (h : Re n V C S z b σ μ) (a1 : Int32) : GoL n V C z b σ μ (f_X5_share n σ a1) (f_X6_share n μ a1) := by
  obtain ⟨hB, hN, hx, hm, TX, TM, cx, cm, hC, hr, -⟩ := id h
  have hmi := hB.2.2.2.1
  have hf : fullS S ≤ 1998 := by unfold fullS; have := hB.2.2.2.2.1; omega
  unfold f_X5_share f_X6_share
  rcases rng a1 (lo := 0) (hi := 1) (by decide) (by decide) with ⟨D, g1, hD, g3, g4, g5⟩ | ⟨-, g4, g5⟩
  case inr =>
    rw [show f_X5_within σ a1 (0 : Int32) (1 : Int32) = _ from g4 σ, show f_X6_in μ a1.toInt64 (0 : Int64) (1 : Int64) = _ from g5 μ, bc_s, bc_s, if_pos rfl, if_pos rfl]
    exact GoL.same h _ rfl rfl
  rw [show f_X5_within σ a1 (0 : Int32) (1 : Int32) = _ from g4 σ, show f_X6_in μ a1.toInt64 (0 : Int64) (1 : Int64) = _ from g5 μ, bc_s, bc_s, if_neg (show ¬ (1 : Int32) = 0 by decide), if_neg (show ¬ (1 : Int32) = 0 by decide), full_x hx, full_m hm, bc_s, bc_s]
  by_cases q : fullS S = 0
  · rw [q, if_pos (show nI 0 = (0 : Int32) from rfl), if_pos (show nI 0 ≤ (0 : Int32) by decide)]
    exact GoL.same h _ rfl rfl
  · rw [if_neg (show ¬ nI (fullS S) = (0 : Int32) from nI_ne (m := 0) (by omega) (by decide) q), if_neg (show ¬ nI (fullS S) ≤ (0 : Int32) from nI_ge (show 0 < fullS S by omega) (by omega)), full_x hx, full_m hm, bc_s, bc_s, hx.2.2.2.1, hm.2.2.2.1, nI_l (by omega), nI_l (by omega), low_x hn σ (by omega) hf (by omega), low_m hn μ (by omega) hf (by omega), bc_s, bc_s]
    exact GoL.same h _ rfl rfl
/-! drawn nights -/
def dz (x : Int32) : Int32 := (x * (1103515245 : Int32)) + (12345 : Int32)
def dbit (v : Int32) : Bool := decide ((((v.toUInt32 >>> ((9 : Int32).toUInt32 &&& Int32.toUInt32 31)).toInt32) - ((v.toUInt32 >>> ((9 : Int32).toUInt32 &&& Int32.toUInt32 31)).toInt32) / (2 : Int32) * (2 : Int32)) = (1 : Int32))
def drF (V : Tx) : Nat → Int32 → Sk → Sk
  | 0, _, S => S
  | m + 1, x, S => drF V m (dz x) (passS V (dbit (dz x)) S).1
theorem drF_B : ∀ m (x : Int32) (S : Sk), SkB S → S.nt + m ≤ 1100 → SkB (drF V m x S)
  | 0, _, _, h, _ => h
  | m + 1, x, S, h, hN => drF_B m (dz x) _ (passS_B _ h (by omega)) (by rw [passS_nt]; omega)
theorem drF_E : ∀ m (x : Int32) (S : Sk), SkE S (drF V m x S)
  | 0, _, _ => fun _ _ _ _ => rfl
  | m + 1, x, S => fun c j p q => (drF_E m (dz x) _ c j p q).trans (passS_E _ c j p q)
theorem drL_x (hn : 600 < n) (hR : RuX n V C) {D : Nat} (hD : D ≤ 30) : ∀ (m i f : Nat) (x : Int32) (S : Sk) (σ : Gm), SkB S → S.nt + m ≤ 1100 → S.ru < C → SkX 2 S σ → TxX V C σ → i + m = D → m < f → ∃ σ', f_X5_leftDrawn_L21 n f σ (nI D) x (nI i) = some (nI (leftS (drF V m x S)), σ') ∧ FrU σ σ'
  | m, i, 0, _, _, _, _, _, _, _, _, _, h => by omega
  | 0, i, f + 1, x, S, σ, hB, hN, hr, hx, _, he, _ => by
    unfold f_X5_leftDrawn_L21
    rw [if_pos (nI_le (show D ≤ i by omega) (by omega)), left_x hn hB hx, bc_s]
    exact ⟨σ, rfl, FrU.rf σ⟩
  | m + 1, i, f + 1, x, S, σ, hB, hN, hr, hx, hT, he, hk => by
    have step : ∀ q : Bool, ∃ σ1, f_X3_pass n 2 σ (if q then 1 else 0) = some ((passS V q S).2, σ1) ∧ SkX 2 (passS V q S).1 σ1 ∧ FrX 2 σ σ1 := fun q => pass_x hn hR q hB hx hT hr (by omega)
    unfold f_X5_leftDrawn_L21
    rw [if_neg (show ¬ nI D ≤ nI i from nI_ge (by omega) (by omega)), bv_e, nI_1, show (x * (1103515245 : Int32)) + (12345 : Int32) = dz x from rfl]
    by_cases g : dbit (dz x) = true
    · obtain ⟨σ1, a1, a2, a3⟩ := step true
      rw [if_pos (show _ from of_decide_eq_true g), show f_X3_pass n 2 σ (1 : Int32) = _ from a1, bc_s]
      obtain ⟨σ', b1, b2⟩ := drL_x hn hR hD m (i + 1) f (dz x) (passS V true S).1 σ1 (passS_B _ hB (by omega)) (by rw [passS_nt]; omega) (by rw [show (passS V true S).1.ru = S.ru from passS_k true S (by omega) (by omega)]; exact hr) a2 (hT.fr a3) (by omega) (by omega)
      refine ⟨σ', ?_, (a3.U (by decide)).tr b2⟩
      unfold drF
      rw [g]
      exact b1
    · obtain ⟨σ1, a1, a2, a3⟩ := step false
      have g' : dbit (dz x) = false := Bool.eq_false_iff.mpr g
      rw [if_neg (show ¬ _ from of_decide_eq_false g'), show f_X3_pass n 2 σ (0 : Int32) = _ from a1, bc_s]
      obtain ⟨σ', b1, b2⟩ := drL_x hn hR hD m (i + 1) f (dz x) (passS V false S).1 σ1 (passS_B _ hB (by omega)) (by rw [passS_nt]; omega) (by rw [show (passS V false S).1.ru = S.ru from passS_k false S (by omega) (by omega)]; exact hr) a2 (hT.fr a3) (by omega) (by omega)
      refine ⟨σ', ?_, (a3.U (by decide)).tr b2⟩
      unfold drF
      rw [g']
      exact b1
theorem drL_m (hn : 600 < n) {D : Nat} (hD : D ≤ 30) {S0 : Sk} (hB0 : SkB S0) : ∀ (m i f : Nat) (x : Int32) (S : Sk) (μ : Wm), SkB S → S.nt + m ≤ 1100 → S.ru < C → SkM S μ → AsM S0 μ → SkE S0 S → TxM n V C μ → i + m = D → m < f → ∃ μ', f_X6_leftDrawn_L9 n f μ (nI D) x (nI i) = some (nI (leftS (drF V m x S)), μ') ∧ SkM S0 μ' ∧ FcM μ μ'
  | m, i, 0, _, _, _, _, _, _, _, _, _, _, _, h => by omega
  | 0, i, f + 1, x, S, μ, hB, hN, hr, hm, ha, hE, _, he, _ => by
    unfold f_X6_leftDrawn_L9
    rw [if_pos (nI_le (show D ≤ i by omega) (by omega)), left_m hn hB hm, bc_s]
    obtain ⟨μ3, c1, c2, c3⟩ := back_m hn hB0 ha hm hE
    rw [c1, bc_s]
    exact ⟨μ3, rfl, c2, fun c k j q => c3 c k j (by omega)⟩
  | m + 1, i, f + 1, x, S, μ, hB, hN, hr, hm, ha, hE, hT, he, hk => by
    have step : ∀ q : Bool, ∃ μ1, f_X6_passes n μ (if q then 1 else 0) = some ((passS V q S).2, μ1) ∧ SkM (passS V q S).1 μ1 ∧ FrY μ μ1 := fun q => passes_m hn q hB hm hT hr (by omega)
    have more : ∀ (q : Bool) (μ1 : Wm), SkM (passS V q S).1 μ1 → FrY μ μ1 → ∃ μ', f_X6_leftDrawn_L9 n f μ1 (nI D) (dz x) (nI (i + 1)) = some (nI (leftS (drF V m (dz x) (passS V q S).1)), μ') ∧ SkM S0 μ' ∧ FcM μ μ' := by
      intro q μ1 a2 a3
      obtain ⟨μ', b1, b2, b3⟩ := drL_m hn hD hB0 m (i + 1) f (dz x) (passS V q S).1 μ1 (passS_B _ hB (by omega)) (by rw [passS_nt]; omega) (by rw [show (passS V q S).1.ru = S.ru from passS_k q S (by omega) (by omega)]; exact hr) a2 ⟨fun y hy => (a3 27 0 y (by omega)).trans (ha.1 y hy), fun l hl => (a3 28 0 l (by omega)).trans (ha.2 l hl)⟩ (fun c j p w => (passS_E q c j p w).trans (hE c j p w)) (hT.fy a3) (by omega) (by omega)
      exact ⟨μ', b1, b2, fun c k j w => (b3 c k j w).trans (a3 c k j (by omega))⟩
    unfold f_X6_leftDrawn_L9
    rw [if_neg (show ¬ nI D ≤ nI i from nI_ge (by omega) (by omega)), bv_e, nI_1, show (x * (1103515245 : Int32)) + (12345 : Int32) = dz x from rfl]
    by_cases g : dbit (dz x) = true
    · obtain ⟨μ1, a1, a2, a3⟩ := step true
      obtain ⟨μ', b1, b2⟩ := more true μ1 a2 a3
      rw [if_pos (show _ from of_decide_eq_true g), show f_X6_passes n μ (1 : Int32) = _ from a1, bc_s]
      refine ⟨μ', ?_, b2⟩
      unfold drF
      rw [g]
      exact b1
    · have g' : dbit (dz x) = false := Bool.eq_false_iff.mpr g
      obtain ⟨μ1, a1, a2, a3⟩ := step false
      obtain ⟨μ', b1, b2⟩ := more false μ1 a2 a3
      rw [if_neg (show ¬ _ from of_decide_eq_false g'), show f_X6_passes n μ (0 : Int32) = _ from a1, bc_s]
      refine ⟨μ', ?_, b2⟩
      unfold drF
      rw [g']
      exact b1
theorem dr_x (hn : 600 < n) (hR : RuX n V C) {D : Nat} (hD : D ≤ 30) (hB : SkB S) (hN : S.nt ≤ 999) (hr : S.ru < C) (hx : SkX 0 S σ) (hT : TxX V C σ) (x : Int32) : ∃ σ', f_X5_leftDrawn n σ x (nI D) = some (nI (leftS (drF V D x S)), σ') ∧ FrU σ σ' := by
  unfold f_X5_leftDrawn
  obtain ⟨σ1, a1, a2, a3⟩ := as_x (k := 2) (k1 := 0) (by decide) hB hx
  have u1 : FrU σ σ1 := FrU.as a3 (by decide)
  obtain ⟨σ', b1, b2⟩ := drL_x hn hR hD D 0 n x S σ1 hB (by omega) hr a2 (u1.tx hT) (by omega) (by omega)
  rw [a1, bc_s]
  exact ⟨σ', b1, u1.tr b2⟩
theorem dr_m (hn : 600 < n) {D : Nat} (hD : D ≤ 30) (hB : SkB S) (hN : S.nt ≤ 999) (hr : S.ru < C) (hm : SkM S μ) (hT : TxM n V C μ) (x : Int32) : ∃ μ', f_X6_leftDrawn n μ x (nI D) = some (nI (leftS (drF V D x S)), μ') ∧ SkM S μ' ∧ FcM μ μ' := by
  unfold f_X6_leftDrawn
  obtain ⟨μ1, q1, q2, q3⟩ := aside_m hn hB hm
  obtain ⟨μ', b1, b2, b3⟩ := drL_m (V := V) hn hD hB D 0 n x S μ1 hB (by omega) hr (hm.fr' fun c k j w => q3 c k j (by omega)) q2 (fun _ _ _ _ => rfl) (hT.of fun c k j w => q3 c k j (by omega)) (by omega) (by omega)
  rw [q1, bc_s]
  exact ⟨μ', b1, b2, fun c k j w => (b3 c k j w).trans (q3 c k j (by omega))⟩
theorem drawn_s (hn : 600 < n) (hR : RuX n V C) (h : Re n V C S z b σ μ) (a1 a2 : Int32) : Go n V C z b σ μ (f_X5_drawn n σ a1 a2) (f_X6_drawn n μ a1 a2) := by
  obtain ⟨hB, hN, hx, hm, TX, TM, cx, cm, hC, hr, -⟩ := id h
  unfold f_X5_drawn f_X6_drawn
  rcases rng a2 (lo := 0) (hi := 30) (by decide) (by decide) with ⟨D, g1, hD, rfl, g4, g5⟩ | ⟨-, g4, g5⟩
  case inr =>
    rw [show f_X5_within σ a2 (0 : Int32) (30 : Int32) = _ from g4 σ, show f_X6_in μ a2.toInt64 (0 : Int64) (30 : Int64) = _ from g5 μ, bc_s, bc_s, if_pos rfl, if_pos rfl]
    exact Go.same h _ rfl rfl
  rw [show f_X5_within σ (nI D) (0 : Int32) (30 : Int32) = _ from g4 σ, show f_X6_in μ (nI D).toInt64 (0 : Int64) (30 : Int64) = _ from g5 μ, bc_s, bc_s, if_neg (show ¬ (1 : Int32) = 0 by decide), if_neg (show ¬ (1 : Int32) = 0 by decide)]
  obtain ⟨σ', p1, p2⟩ := dr_x hn hR hD hB hN hr hx TX a1
  obtain ⟨μ', q1, q2, q3⟩ := dr_m (V := V) hn hD hB hN hr hm TM a1
  rw [p1, q1, bc_s, bc_s]
  exact Go.fin h _ rfl rfl p2 q2 q3
def chF (V : Tx) (S : Sk) (x a3 : Int32) : Nat → Nat → Nat → Nat
  | 0, _, a => a
  | m + 1, i, a => chF V S x a3 m (i + 1) (if a3 < nI (leftS (drF V 5 (x + nI i) S)) then a else a + 1)
theorem chF_b (x a3 : Int32) : ∀ m i a, chF V S x a3 m i a ≤ a + m
  | 0, _, _ => by unfold chF; omega
  | m + 1, i, a => by
    unfold chF
    have h := chF_b x a3 m (i + 1) (if a3 < nI (leftS (drF V 5 (x + nI i) S)) then a else a + 1)
    split at h <;> rename_i g
    · rw [if_pos g]; omega
    · rw [if_neg g]; omega
theorem chL_x (hn : 600 < n) (hR : RuX n V C) {D : Nat} (hD : D ≤ 20) (hB : SkB S) (hN : S.nt ≤ 999) (hr : S.ru < C) (x a3 p : Int32) : ∀ (m i f a : Nat) (σ : Gm), SkX 0 S σ → TxX V C σ → i + m = D → 0 < D → a ≤ i → m < f → ∃ σ', f_X5_chance_L41 n f σ x (nI D) a3 p (nI a) (nI i) = some (if p = 0 then lN (chF V S x a3 m i a / Nat.gcd (chF V S x a3 m i a) D) else lN (D / Nat.gcd (chF V S x a3 m i a) D), σ') ∧ FrU σ σ'
  | m, i, 0, _, _, _, _, _, _, _, h => by omega
  | 0, i, f + 1, a, σ, hx, _, he, h0, ha, _ => by
    unfold f_X5_chance_L41 chF
    rw [if_pos (nI_le (show D ≤ i by omega) (by omega)), low_x hn σ (show a ≤ 1998 by omega) (show D ≤ 1998 by omega) h0, bc_s]
    exact ⟨σ, rfl, FrU.rf σ⟩
  | m + 1, i, f + 1, a, σ, hx, hT, he, h0, ha, hk => by
    unfold f_X5_chance_L41 chF
    rw [if_neg (show ¬ nI D ≤ nI i from nI_ge (by omega) (by omega))]
    obtain ⟨σ1, p1, p2⟩ := dr_x hn hR (D := 5) (by decide) hB hN hr hx hT (x + nI i)
    rw [show f_X5_leftDrawn n σ (x + nI i) (5 : Int32) = _ from p1, bc_s, nI_1, nI_1]
    by_cases g : a3 < nI (leftS (drF V 5 (x + nI i) S))
    · rw [if_pos g, if_pos g]
      obtain ⟨σ', b1, b2⟩ := chL_x hn hR hD hB hN hr x a3 p m (i + 1) f a σ1 (p2.sk hx) (p2.tx hT) (by omega) h0 (by omega) (by omega)
      exact ⟨σ', b1, p2.tr b2⟩
    · rw [if_neg g, if_neg g]
      obtain ⟨σ', b1, b2⟩ := chL_x hn hR hD hB hN hr x a3 p m (i + 1) f (a + 1) σ1 (p2.sk hx) (p2.tx hT) (by omega) h0 (by omega) (by omega)
      exact ⟨σ', b1, p2.tr b2⟩
theorem chL_m (hn : 600 < n) {D : Nat} (hD : D ≤ 20) (hB : SkB S) (hN : S.nt ≤ 999) (hr : S.ru < C) (x a3 p : Int32) : ∀ (m i f a : Nat) (μ : Wm), SkM S μ → TxM n V C μ → i + m = D → 0 < D → a ≤ i → m < f → ∃ μ', f_X6_chance_L45 n f μ x (nI D) a3 p (lN a) (nI i) = some (if p = 0 then lN (chF V S x a3 m i a / Nat.gcd (chF V S x a3 m i a) D) else lN (D / Nat.gcd (chF V S x a3 m i a) D), μ') ∧ SkM S μ' ∧ FcM μ μ'
  | m, i, 0, _, _, _, _, _, _, _, h => by omega
  | 0, i, f + 1, a, μ, hm, _, he, h0, ha, _ => by
    unfold f_X6_chance_L45 chF
    rw [if_pos (nI_le (show D ≤ i by omega) (by omega)), nI_l (show D < 2 ^ 31 by omega), low_m hn μ (show a ≤ 1998 by omega) (show D ≤ 1998 by omega) h0, bc_s]
    exact ⟨μ, rfl, hm, fun _ _ _ _ => rfl⟩
  | m + 1, i, f + 1, a, μ, hm, hT, he, h0, ha, hk => by
    unfold f_X6_chance_L45 chF
    rw [if_neg (show ¬ nI D ≤ nI i from nI_ge (by omega) (by omega))]
    obtain ⟨μ1, p1, p2, p3⟩ := dr_m (V := V) hn (D := 5) (by decide) hB hN hr hm hT (x + nI i)
    rw [show f_X6_leftDrawn n μ (x + nI i) (5 : Int32) = _ from p1, bc_s, nI_1, bv_e, bv_e, show lN a + (0 : Int64) = lN a from lN_add a 0, show lN a + (1 : Int64) = lN (a + 1) from lN_add a 1]
    by_cases g : a3 < nI (leftS (drF V 5 (x + nI i) S))
    · rw [if_pos g, if_pos g]
      obtain ⟨μ', b1, b2, b3⟩ := chL_m hn hD hB hN hr x a3 p m (i + 1) f a μ1 p2 (hT.of fun c k j w => p3 c k j (by omega)) (by omega) h0 (by omega) (by omega)
      exact ⟨μ', b1, b2, fun c k j w => (b3 c k j w).trans (p3 c k j w)⟩
    · rw [if_neg g, if_neg g]
      obtain ⟨μ', b1, b2, b3⟩ := chL_m hn hD hB hN hr x a3 p m (i + 1) f (a + 1) μ1 p2 (hT.of fun c k j w => p3 c k j (by omega)) (by omega) h0 (by omega) (by omega)
      exact ⟨μ', b1, b2, fun c k j w => (b3 c k j w).trans (p3 c k j w)⟩
theorem chance_s (hn : 600 < n) (hR : RuX n V C) (h : Re n V C S z b σ μ) (a1 a2 a3 a4 : Int32) : GoL n V C z b σ μ (f_X5_chance n σ a1 a2 a3 a4) (f_X6_chance n μ a1 a2 a3 a4) := by
  obtain ⟨hB, hN, hx, hm, TX, TM, cx, cm, hC, hr, -⟩ := id h
  unfold f_X5_chance f_X6_chance
  rcases rng a2 (lo := 1) (hi := 20) (by decide) (by decide) with ⟨D, h0, hD, rfl, g4, g5⟩ | ⟨-, g4, g5⟩
  case inr =>
    rw [show f_X5_within σ a2 (1 : Int32) (20 : Int32) = _ from g4 σ, show f_X6_in μ a2.toInt64 (1 : Int64) (20 : Int64) = _ from g5 μ, bc_s, bc_s, if_pos rfl, if_pos rfl]
    exact GoL.same h _ rfl rfl
  rw [show f_X5_within σ (nI D) (1 : Int32) (20 : Int32) = _ from g4 σ, show f_X6_in μ (nI D).toInt64 (1 : Int64) (20 : Int64) = _ from g5 μ, bc_s, bc_s, if_neg (show ¬ (1 : Int32) = 0 by decide), if_neg (show ¬ (1 : Int32) = 0 by decide)]
  rcases rng a3 (lo := 0) (hi := 999) (by decide) (by decide) with ⟨i3, -, hi3, e3, g4, g5⟩ | ⟨-, g4, g5⟩
  case inr =>
    rw [show f_X5_within σ a3 (0 : Int32) (999 : Int32) = _ from g4 σ, show f_X6_in μ a3.toInt64 (0 : Int64) (999 : Int64) = _ from g5 μ, bc_s, bc_s, if_pos rfl, if_pos rfl]
    exact GoL.same h _ rfl rfl
  rw [show f_X5_within σ a3 (0 : Int32) (999 : Int32) = _ from g4 σ, show f_X6_in μ a3.toInt64 (0 : Int64) (999 : Int64) = _ from g5 μ, bc_s, bc_s, if_neg (show ¬ (1 : Int32) = 0 by decide), if_neg (show ¬ (1 : Int32) = 0 by decide)]
  rcases rng a4 (lo := 0) (hi := 1) (by decide) (by decide) with ⟨i4, -, hi4, e4, g4, g5⟩ | ⟨-, g4, g5⟩
  case inr =>
    rw [show f_X5_within σ a4 (0 : Int32) (1 : Int32) = _ from g4 σ, show f_X6_in μ a4.toInt64 (0 : Int64) (1 : Int64) = _ from g5 μ, bc_s, bc_s, if_pos rfl, if_pos rfl]
    exact GoL.same h _ rfl rfl
  rw [show f_X5_within σ a4 (0 : Int32) (1 : Int32) = _ from g4 σ, show f_X6_in μ a4.toInt64 (0 : Int64) (1 : Int64) = _ from g5 μ, bc_s, bc_s, if_neg (show ¬ (1 : Int32) = 0 by decide), if_neg (show ¬ (1 : Int32) = 0 by decide)]
  obtain ⟨σ', p1, p2⟩ := chL_x hn hR hD hB hN hr a1 a3 a4 D 0 n 0 σ hx TX (by omega) (by omega) (by omega) (by omega)
  obtain ⟨μ', q1, q2, q3⟩ := chL_m (V := V) hn hD hB hN hr a1 a3 a4 D 0 n 0 μ hm TM (by omega) (by omega) (by omega) (by omega)
  rw [show f_X5_chance_L41 n n σ a1 (nI D) a3 a4 (0 : Int32) (0 : Int32) = _ from p1, show f_X6_chance_L45 n n μ a1 (nI D) a3 a4 (0 : Int64) (0 : Int32) = _ from q1]
  exact GoL.fin h _ rfl rfl p2 q2 q3
end K

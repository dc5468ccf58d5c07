/-! which nights to cover, both sides alike -/
def pc (x : Nat) : Nat := x % 2 + x / 2 % 2 + x / 4 % 2 + x / 8 % 2 + x / 16 % 2 + x / 32 % 2 + x / 64 % 2 + x / 128 % 2
def zG : Gm := fun _ _ _ => 0
theorem pc_x (σ : Gm) {x : Nat} (hx : x < 256) : f_J6_bitCount_0f7a4 σ (nI x) = some (nI (pc x), σ) := by
  have key : ∀ x, x < 256 → ((f_J6_bitCount_0f7a4 zG (nI x)).map Prod.fst).getD 0 = nI (pc x) := by decide +kernel
  have e : f_J6_bitCount_0f7a4 σ (nI x) = some (((f_J6_bitCount_0f7a4 zG (nI x)).map Prod.fst).getD 0, σ) := rfl
  rw [e, key x hx]
def clr (x : Nat) : Nat := x &&& (x - 1)
theorem clr_k {x : Nat} (h : x < 256) (h0 : ¬ x = 0) : nI x &&& (nI x - (1 : Int32)) = nI (clr x) ∧ clr x < 256 ∧ pc x = pc (clr x) + 1 := by
  have key : ∀ x, x < 256 → ¬ x = 0 → nI x &&& (nI x - (1 : Int32)) = nI (clr x) ∧ clr x < 256 ∧ pc x = pc (clr x) + 1 := by decide +kernel
  exact key x h h0
theorem pc_0 {x : Nat} (h : x < 256) (h0 : pc x = 0) : x = 0 := by
  have key : ∀ x, x < 256 → pc x = 0 → x = 0 := by decide +kernel
  exact key x h h0
theorem pc_8 {x : Nat} : pc x ≤ 8 := by
  unfold pc
  omega
theorem pcL_m (n : Nat) (μ : Wm) : ∀ (m a x f : Nat), pc x = m → x < 256 → m < f → f_X6_bitsOf_L4 n f μ (nI a) (nI x) = some (nI (a + m), μ)
  | m, a, x, 0, _, _, h => by omega
  | 0, a, x, f + 1, h, hx, _ => by
    unfold f_X6_bitsOf_L4
    obtain rfl := pc_0 hx h
    rw [if_pos (show nI 0 = (0 : Int32) from rfl)]
    rfl
  | m + 1, a, x, f + 1, h, hx, hk => by
    have h0 : ¬ x = 0 := fun q => by
      rw [q] at h
      exact absurd h (by rw [show pc 0 = 0 by decide]; omega)
    obtain ⟨c1, c2, c3⟩ := clr_k hx h0
    unfold f_X6_bitsOf_L4
    rw [if_neg (show ¬ nI x = (0 : Int32) from nI_ne (m := 0) (by omega) (by decide) h0), c1, bv_e, nI_1, pcL_m n μ m (a + 1) (clr x) f (by omega) c2 (by omega), show a + 1 + m = a + (m + 1) by omega]
theorem pc_m (n : Nat) (hn : 600 < n) (μ : Wm) {x : Nat} (hx : x < 256) : f_X6_bitsOf n μ (nI x) = some (nI (pc x), μ) := by
  have h := pcL_m n μ (pc x) 0 x n rfl hx (by have := pc_8 (x := x); omega)
  rw [Nat.zero_add] at h
  exact h
/-- before, in the order of choices -/
def lx (f g : Nat → Nat) (i w : Nat) : Prop := f i < f w ∨ (f i = f w ∧ (g i < g w ∨ (g i = g w ∧ i < w)))
def ChP (f g : Nat → Nat) (P : Nat → Prop) (σ : Gm) : Prop := (σ 3 0 2 = -1 ∧ ∀ i, ¬ P i) ∨ ∃ w, P w ∧ w < 256 ∧ σ 3 0 2 = nI w ∧ σ 3 0 0 = nI (f w) ∧ σ 3 0 1 = nI (g w) ∧ ∀ i, P i → ¬ lx f g i w
theorem ChP.iff {f g : Nat → Nat} {P Q : Nat → Prop} {σ : Gm} (h : ChP f g P σ) (e : ∀ i, Q i ↔ P i) : ChP f g Q σ := by
  rcases h with ⟨a, b⟩ | ⟨w, a, b, c⟩
  · exact Or.inl ⟨a, fun i q => b i ((e i).mp q)⟩
  · exact Or.inr ⟨w, (e w).mpr a, b, c.1, c.2.1, c.2.2.1, fun i q => c.2.2.2 i ((e i).mp q)⟩
theorem ChP.fr {f g : Nat → Nat} {P : Nat → Prop} {σ σ' : Gm} (h : ChP f g P σ) (fr : ∀ j, σ' 3 0 j = σ 3 0 j) : ChP f g P σ' := by
  rcases h with ⟨a, b⟩ | ⟨w, a, b, c⟩
  · exact Or.inl ⟨(fr 2).trans a, b⟩
  · exact Or.inr ⟨w, a, b, (fr 2).trans c.1, (fr 0).trans c.2.1, (fr 1).trans c.2.2.1, c.2.2.2⟩
theorem nI_lt' {a b : Nat} (ha : a < 2 ^ 31) (hb : b < 2 ^ 31) : nI a < nI b ↔ a < b := by
  rw [Int32.lt_iff_toInt_lt, nI_toInt ha, nI_toInt hb]
  omega
theorem lsP {f g : Nat → Nat} (hf : ∀ i, f i < 2 ^ 31) (hg : ∀ i, g i < 2 ^ 31) (σ : Gm) {i w : Nat} (hi : i < 256) (hw : w < 256) (h0 : σ 3 0 0 = nI (f w)) (h1 : σ 3 0 1 = nI (g w)) (h2 : σ 3 0 2 = nI w) : (lx f g i w ∧ f_X0_isLess σ (nI (f i)) (nI (g i)) (nI i) = some (1, σ)) ∨ (¬ lx f g i w ∧ f_X0_isLess σ (nI (f i)) (nI (g i)) (nI i) = some (0, σ)) := by
  unfold f_X0_isLess lx
  rw [h0, h1, h2]
  have a1 := hf i
  have a2 := hf w
  have b1 := hg i
  have b2 := hg w
  by_cases e : f i = f w
  · rw [if_pos ((nI_eq a1 a2).mpr e)]
    by_cases e2 : g i = g w
    · rw [if_pos ((nI_eq b1 b2).mpr e2)]
      by_cases e3 : w ≤ i
      · rw [if_pos (nI_le e3 (by omega))]
        exact Or.inr ⟨by omega, rfl⟩
      · rw [if_neg (show ¬ nI w ≤ nI i from nI_ge (by omega) (by omega))]
        exact Or.inl ⟨by omega, rfl⟩
    · rw [if_neg (nI_ne b1 b2 e2)]
      by_cases e3 : g w ≤ g i
      · rw [if_pos (nI_le e3 b1)]
        exact Or.inr ⟨by omega, rfl⟩
      · rw [if_neg (nI_ge (by omega) b2)]
        exact Or.inl ⟨by omega, rfl⟩
  · rw [if_neg (nI_ne a1 a2 e)]
    by_cases e3 : f w ≤ f i
    · rw [if_pos (nI_le e3 a1)]
      exact Or.inr ⟨by omega, rfl⟩
    · rw [if_neg (nI_ge (by omega) a2)]
      exact Or.inl ⟨by omega, rfl⟩
theorem ofP {f g : Nat → Nat} (hf : ∀ i, f i < 2 ^ 31) (hg : ∀ i, g i < 2 ^ 31) {P : Nat → Prop} {σ : Gm} {i : Nat} (hi : i < 256) (h : ChP f g P σ) : ∃ σ', f_X0_offer σ (nI (f i)) (nI (g i)) (nI i) = some ((), σ') ∧ ChP f g (fun j => P j ∨ j = i) σ' ∧ ∀ c k j, ¬ (c = 3 ∧ k = 0) → σ' c k j = σ c k j := by
  unfold f_X0_offer
  obtain ⟨σ', a1, a2, a3, a4, a5⟩ := of19 σ (nI (f i)) (nI (g i)) (nI i)
  have irr : ¬ lx f g i i := by
    unfold lx
    omega
  rcases h with ⟨h1, h2⟩ | ⟨w, h1, h2, h3, h4, h5, h6⟩
  · rw [if_pos h1, a1]
    exact ⟨σ', rfl, Or.inr ⟨i, Or.inr rfl, hi, a4, a2, a3, fun j q => q.elim (fun q => absurd q (h2 j)) (fun q => by rw [q]; exact irr)⟩, a5⟩
  · rw [show (if σ 3 0 2 = (-1 : Int32) then f_X0_offer_J19 σ (nI (f i)) (nI (g i)) (nI i) else bc (f_X0_isLess σ (nI (f i)) (nI (g i)) (nI i)) fun r5 σ6 => (if r5 = 0 then some ((), σ6) else f_X0_offer_J19 σ6 (nI (f i)) (nI (g i)) (nI i))) = _ from if_neg (fun q => by
      rw [h3] at q
      have := congrArg Int32.toInt q
      rw [nI_toInt (by omega), show (-1 : Int32).toInt = -1 by decide] at this
      omega)]
    rcases lsP hf hg σ hi h2 h4 h5 h3 with ⟨g1, g2⟩ | ⟨g1, g2⟩
    · rw [g2, bc_s, if_neg (show ¬ (1 : Int32) = 0 by decide), a1]
      refine ⟨σ', rfl, Or.inr ⟨i, Or.inr rfl, hi, a4, a2, a3, fun j q => q.elim (fun q => ?_) (fun q => by rw [q]; exact irr)⟩, a5⟩
      have := h6 j q
      unfold lx at this g1 ⊢
      omega
    · rw [g2, bc_s, if_pos rfl]
      exact ⟨σ, rfl, Or.inr ⟨w, Or.inl h1, h2, h3, h4, h5, fun j q => q.elim (h6 j) (fun q => by rw [q]; exact g1)⟩, fun _ _ _ _ => rfl⟩
section K
variable {n d C z k : Nat} {V : Tx} {b : Nat → Nat} {S : Sk} {σ : Gm} {μ : Wm}
theorem goF_cg {x y : Int32} : ∀ m i (S : Sk) a, (∀ j, i ≤ j → j < i + m → bitI x j = bitI y j) → goF V x m i S a = goF V y m i S a
  | 0, _, _, _, _ => rfl
  | m + 1, i, S, a, h => by
    unfold goF
    rw [h i (by omega) (by omega)]
    exact goF_cg m (i + 1) _ _ fun j h1 h2 => h j (by omega) (by omega)
theorem goF_sn {x : Int32} : ∀ m i (S : Sk) a, (goF V x (m + 1) i S a).1 = (passS V (bitI x (i + m)) (goF V x m i S a).1).1
  | 0, _, _, _ => rfl
  | m + 1, i, S, a => by
    have h := goF_sn (x := x) m (i + 1) (passS V (bitI x i) S).1 (a + (passS V (bitI x i) S).2)
    rw [show i + 1 + m = i + (m + 1) by omega] at h
    exact h
def cvS (V : Tx) (S : Sk) (k x : Nat) : Sk := (goS V (nI x) k S).1
theorem bitI_n {x j : Nat} (hx : x < 256) (hj : j < 8) : bitI (nI x) j = decide (x / 2 ^ j % 2 = 1) := by
  unfold bitI
  exact decide_eq_decide.mpr (bt8 hx hj)
theorem cvS_sn {k x c : Nat} (hk : k < 8) (hx : x < 2 ^ k) (hc : c ≤ 1) : cvS V S (k + 1) (x + c * 2 ^ k) = (passS V (decide (c = 1)) (cvS V S k x)).1 := by
  have hp : 2 ^ (k + 1) ≤ 256 := p8 (by omega)
  rw [Nat.pow_succ] at hp
  have hc2 : c * 2 ^ k ≤ 1 * 2 ^ k := Nat.mul_le_mul_right _ hc
  unfold cvS goS
  rw [goF_sn, Nat.zero_add]
  have e1 : bitI (nI (x + c * 2 ^ k)) k = decide (c = 1) := by
    rw [bitI_n (by omega) hk]
    refine decide_eq_decide.mpr ?_
    rw [Nat.mul_comm c, Nat.add_mul_div_left _ _ (Nat.two_pow_pos k), Nat.div_eq_of_lt hx]
    omega
  have e2 : goF V (nI (x + c * 2 ^ k)) k 0 S 0 = goF V (nI x) k 0 S 0 := goF_cg k 0 S 0 fun j _ h2 => by
    rw [bitI_n (by omega) (by omega), bitI_n (by omega) (by omega)]
    refine decide_eq_decide.mpr ?_
    have e3 : c * 2 ^ k = 2 ^ j * (2 * (c * 2 ^ (k - j - 1))) := by
      have : 2 ^ k = 2 ^ j * (2 * 2 ^ (k - j - 1)) := by
        rw [Nat.mul_comm 2, ← Nat.pow_succ, ← Nat.pow_add]
        congr 1
        omega
      rw [this]
      generalize 2 ^ j = u
      generalize 2 ^ (k - j - 1) = v
      rw [Nat.mul_left_comm, Nat.mul_left_comm c 2 v]
    rw [e3, Nat.add_mul_div_left _ _ (Nat.two_pow_pos j), Nat.add_mul_mod_self_left]
  rw [e1, e2]
theorem cvS_B (hB : SkB S) (hN : S.nt ≤ 999) (hk : k ≤ 7) (x : Nat) : SkB (cvS V S k x) := goF_B k 0 S 0 hB (by omega)
theorem cvS_nt (hk : k ≤ 7) (x : Nat) : (cvS V S k x).nt = S.nt + k := by
  have key : ∀ m i (S : Sk) a, (goF V (nI x) m i S a).1.nt = S.nt + m := by
    intro m
    induction m with
    | zero => intro i S a; rfl
    | succ m ih =>
      intro i S a
      unfold goF
      rw [ih, passS_nt]
      omega
  exact key k 0 S 0
theorem cvS_ru (x : Nat) : (cvS V S k x).ru = S.ru := goF_k k 0 S 0 (by omega) (by omega)
def cvF (V : Tx) (S : Sk) (D i : Nat) : Nat := if leftS (cvS V S D i) ≤ 792 then leftS (cvS V S D i) else 0
theorem cvF_e (hB : SkB S) (hN : S.nt ≤ 999) {D : Nat} (hD : D ≤ 7) (i : Nat) : cvF V S D i = leftS (cvS V S D i) := if_pos (left_b (cvS_B hB hN hD i))
theorem cvF_b (D i : Nat) : cvF V S D i ≤ 792 := by
  unfold cvF
  split <;> omega
/-- skips in thought behind the k-th change, and the choice -/
def FrK (k : Nat) (σ σ' : Gm) : Prop := ∀ c k' j, ¬ (((c = 3 ∨ c = 7 ∨ c = 8) ∧ k' = 0) ∨ ((13 ≤ c ∧ c ≤ 17) ∧ 2 + k < k')) → σ' c k' j = σ c k' j
theorem FrK.tr {k : Nat} {a b c : Gm} (h : FrK k a b) (g : FrK k b c) : FrK k a c := fun x y z q => (g x y z q).trans (h x y z q)
theorem FrK.tx {a b : Gm} (h : FrK k a b) (g : TxX V C a) : TxX V C b := g.of fun c k j q => h c k j (by omega)
theorem orB {x c k : Nat} (hk : k < 7) (hx : x < 2 ^ k) (hc : c ≤ 1) : nI x ||| (nI c <<< (nI k &&& 31)) = nI (x + c * 2 ^ k) := by
  have h2 : 2 ^ k ≤ 2 ^ 7 := Nat.pow_le_pow_right (by omega) (by omega)
  exact orI (by omega) (by omega) (by rw [Nat.div_eq_of_lt hx]; decide) hc
theorem cov_x (hn : 600 < n) (hR : RuX n V C) {D : Nat} (hD : D ≤ 7) (hB : SkB S) (hN : S.nt ≤ 999) (hr : S.ru < C) : ∀ (m k d x : Nat) (σ : Gm) (P : Nat → Prop), k + m = D → m < d → x < 2 ^ k → SkX (2 + k) (cvS V S k x) σ → TxX V C σ → ChP (cvF V S D) pc P σ → ∃ σ', f_X5_tryCovers n d σ (nI k) (nI D) (nI x) = some ((), σ') ∧ ChP (cvF V S D) pc (fun i => P i ∨ ∃ j, j < 2 ^ m ∧ i = x + 2 ^ k * j) σ' ∧ FrK k σ σ'
  | m, k, 0, x, _, _, _, h, _, _, _, _ => by omega
  | 0, k, d + 1, x, σ, P, he, _, hx, h, hT, hc => by
    have h2 : 2 ^ k ≤ 2 ^ 7 := Nat.pow_le_pow_right (by omega) (by omega)
    obtain rfl : k = D := by omega
    show ∃ σ', fb_X5_tryCovers n (f_X5_tryCovers n d) σ (nI k) (nI k) (nI x) = _ ∧ _
    unfold fb_X5_tryCovers fb_X5_tryCovers_J24
    rw [gd_h (inb_nI (show k < 8 by omega) (by decide)), if_pos (nI_le (Nat.le_refl k) (by omega)), nI_clamp (by omega), left_x hn (cvS_B hB hN hD x) h, bc_s, pc_x σ (by omega), bc_s]
    obtain ⟨σ', a1, a2, a3⟩ := ofP (f := cvF V S k) (g := pc) (fun i => by have := cvF_b (V := V) (S := S) k i; omega) (fun i => by have := pc_8 (x := i); omega) (show x < 256 by omega) hc
    rw [cvF_e hB hN hD] at a1
    rw [a1, bc_s]
    refine ⟨σ', rfl, a2.iff fun i => ?_, fun c k' j q => a3 c k' j (by omega)⟩
    constructor
    · rintro (q | ⟨j, q1, q2⟩)
      · exact Or.inl q
      · obtain rfl : j = 0 := by omega
        exact Or.inr q2
    · rintro (q | q)
      · exact Or.inl q
      · exact Or.inr ⟨0, by omega, q⟩
  | m + 1, k, d + 1, x, σ, P, he, hk, hx, h, hT, hc => by
    have h2 : 2 ^ k ≤ 2 ^ 7 := Nat.pow_le_pow_right (by omega) (by omega)
    have step : ∀ (c : Nat) (σ : Gm) (Q : Nat → Prop) (lp : Gm → Int32 → Int32 → Int32 → Nat → Int32 → Option (Unit × Gm)), c ≤ 1 → SkX (2 + k) (cvS V S k x) σ → TxX V C σ → ChP (cvF V S D) pc Q σ → ∃ σ1 σ', f_X3_becomeAs (2 + (k + 1)) (2 + k) σ = some ((), σ1) ∧ fb_X5_tryCovers_J83 n (f_X5_tryCovers n d) lp σ1 (nI k) (nI D) (nI x) (2 + k) (nI c) (if decide (c = 1) then 1 else 0) (2 + (k + 1)) = lp σ' (nI k) (nI D) (nI x) (2 + k) (nI (c + 1)) ∧ ChP (cvF V S D) pc (fun i => Q i ∨ ∃ j, j < 2 ^ m ∧ i = (x + c * 2 ^ k) + 2 ^ (k + 1) * j) σ' ∧ FrK k σ σ' := by
      intro c σ Q lp hc1 h hT hc
      have hBk : SkB (cvS V S k x) := cvS_B hB hN (by omega) x
      obtain ⟨σ1, a1, a2, a3⟩ := as_x (k := 2 + (k + 1)) (k1 := 2 + k) (by omega) hBk h
      have u1 : FrK k σ σ1 := fun c' k' j q => a3 c' k' j (by omega)
      obtain ⟨σ2, b1, b2, b3⟩ := pass_x hn hR (decide (c = 1)) hBk a2 (u1.tx hT) (by rw [cvS_ru]; exact hr) (by rw [cvS_nt (by omega)]; omega)
      have u2 : FrK k σ σ2 := u1.tr fun c' k' j q => b3 c' k' j (by omega)
      rw [← cvS_sn (by omega) hx hc1] at b2
      have hlt : x + c * 2 ^ k < 2 ^ (k + 1) := by
        have : c * 2 ^ k ≤ 1 * 2 ^ k := Nat.mul_le_mul_right _ hc1
        rw [Nat.pow_succ]
        omega
      obtain ⟨σ3, c1, c2, c3⟩ := cov_x hn hR hD hB hN hr m (k + 1) d (x + c * 2 ^ k) σ2 Q (by omega) (by omega) hlt b2 (u2.tx hT) (hc.fr fun j => (b3 3 0 j (by omega)).trans (a3 3 0 j (by omega)))
      refine ⟨σ1, σ3, a1, ?_, c2, u2.tr fun c' k' j q => c3 c' k' j (by omega)⟩
      unfold fb_X5_tryCovers_J83
      rw [b1, bc_s, orB (by omega) hx hc1, nI_1, c1, bc_s, nI_1]
    obtain ⟨f, hf⟩ : ∃ f, n = f + 3 := ⟨n - 3, by omega⟩
    show ∃ σ', fb_X5_tryCovers n (f_X5_tryCovers n d) σ (nI k) (nI D) (nI x) = _ ∧ _
    unfold fb_X5_tryCovers
    rw [gd_h (inb_nI (show k < 8 by omega) (by decide)), if_neg (show ¬ nI D ≤ nI k from nI_ge (by omega) (by omega)), nI_1, if_pos (show nI (k + 1) < (8 : Int32) from nI_lt (show k + 1 < 8 by omega) (by decide)), nI_clamp (show k < 2 ^ 31 by omega), show fb_X5_tryCovers_L45 n (f_X5_tryCovers n d) n σ = fb_X5_tryCovers_L45 n (f_X5_tryCovers n d) (f + 3) σ by rw [← hf]]
    obtain ⟨σ1, σ2, a1, a2, a3, a4⟩ := step 0 σ P (fb_X5_tryCovers_L45 n (f_X5_tryCovers n d) (f + 2)) (by omega) h hT hc
    have h' : SkX (2 + k) (cvS V S k x) σ2 := h.fr' fun c j p q => a4 c (2 + k) j (by omega)
    obtain ⟨σ3, σ4, b1, b2, b3, b4⟩ := step 1 σ2 _ (fb_X5_tryCovers_L45 n (f_X5_tryCovers n d) (f + 1)) (by omega) h' (a4.tx hT) a3
    refine ⟨σ4, ?_, b3.iff fun i => ?_, a4.tr b4⟩
    · rw [fb_X5_tryCovers_L45, if_neg (show ¬ (2 : Int32) ≤ (0 : Int32) by decide), nI_1, gd_h (inb_nI (show k + 1 < 8 by omega) (by decide)), nI_clamp (show k + 1 < 2 ^ 31 by omega), a1, bc_s, gd_h (inb_nI (show k + 1 < 8 by omega) (by decide)), if_neg (show ¬ (0 : Int32) = 1 by decide)]
      refine Eq.trans (show _ = _ from a2) ?_
      rw [fb_X5_tryCovers_L45, if_neg (show ¬ (2 : Int32) ≤ nI (0 + 1) by decide), nI_1, gd_h (inb_nI (show k + 1 < 8 by omega) (by decide)), nI_clamp (show k + 1 < 2 ^ 31 by omega), b1, bc_s, gd_h (inb_nI (show k + 1 < 8 by omega) (by decide)), if_pos (show nI (0 + 1) = (1 : Int32) from rfl)]
      refine Eq.trans (show _ = _ from b2) ?_
      rw [fb_X5_tryCovers_L45, if_pos (show (2 : Int32) ≤ nI (1 + 1) by decide)]
    · have e : ∀ j, 2 ^ (k + 1) * j = 2 ^ k * (2 * j) := fun j => by rw [Nat.pow_succ, Nat.mul_assoc]
      constructor
      · rintro (q | ⟨j, q1, q2⟩)
        · exact Or.inl (Or.inl q)
        · rw [Nat.pow_succ] at q1
          by_cases w : j % 2 = 0
          · refine Or.inl (Or.inr ⟨j / 2, by omega, ?_⟩)
            rw [e, show 2 * (j / 2) = j by omega, q2]
            omega
          · refine Or.inr ⟨j / 2, by omega, ?_⟩
            rw [e, q2, show 2 ^ k * j = 2 ^ k * (2 * (j / 2)) + 2 ^ k from by
              rw [← Nat.mul_succ]
              congr 1
              omega]
            omega
      · rintro ((q | ⟨j, q1, q2⟩) | ⟨j, q1, q2⟩)
        · exact Or.inl q
        · refine Or.inr ⟨2 * j, by rw [Nat.pow_succ]; omega, ?_⟩
          rw [q2, e]
          omega
        · refine Or.inr ⟨2 * j + 1, by rw [Nat.pow_succ]; omega, ?_⟩
          rw [q2, e, Nat.mul_succ]
          omega
def cvG (i : Nat) : Int32 := nI (pc i)
def cvFI (V : Tx) (S : Sk) (D i : Nat) : Int32 := nI (cvF V S D i)
theorem covL_m (hn : 600 < n) {D : Nat} (hD : D ≤ 7) (hB : SkB S) (hN : S.nt ≤ 999) (hr : S.ru < C) (x1 : Int32) : ∀ (m i f : Nat) (μ : Wm), SkM S μ → AsM S μ → TxM n V C μ → i + m = 2 ^ D → m < f → ∃ μ', f_X6_cover_L39 n f μ (nI D) x1 (if i = 0 then -1 else nI (amI (cvFI V S D) cvG i)) (if i = 0 then 1000000 else cvFI V S D (amI (cvFI V S D) cvG i)) (nI i) = (if x1 = 0 then some (nI (amI (cvFI V S D) cvG (2 ^ D)), μ') else some (cvFI V S D (amI (cvFI V S D) cvG (2 ^ D)), μ')) ∧ SkM S μ' ∧ FcM μ μ'
  | m, i, 0, _, _, _, _, _, h => by omega
  | 0, i, f + 1, μ, hm, ha, hT, he, _ => by
    have hp := p8 (show D ≤ 8 by omega)
    have hp0 : 0 < 2 ^ D := Nat.two_pow_pos _
    unfold f_X6_cover_L39
    rw [sh1 (by omega), if_pos (nI_le (show 2 ^ D ≤ i by omega) (by omega)), if_neg (show ¬ i = 0 by omega), if_neg (show ¬ i = 0 by omega), show i = 2 ^ D by omega]
    exact ⟨μ, rfl, hm, fun _ _ _ _ => rfl⟩
  | m + 1, i, f + 1, μ, hm, ha, hT, he, hk => by
    have hp := p8 (show D ≤ 8 by omega)
    unfold f_X6_cover_L39
    rw [sh1 (by omega), if_neg (show ¬ nI (2 ^ D) ≤ nI i from nI_ge (by omega) (by omega))]
    obtain ⟨μ2, b1, b2, b3⟩ := go_m (x := nI i) hn (show D ≤ 30 by omega) hB hm hT hr (show S.nt + D ≤ 1100 by omega)
    have ha2 : AsM S μ2 := ⟨fun x hx => (b3 27 0 x (by omega)).trans (ha.1 x hx), fun l hl => (b3 28 0 l (by omega)).trans (ha.2 l hl)⟩
    obtain ⟨μ3, c1, c2, c3⟩ := back_m hn hB ha2 b2 goS_E
    have ha3 : AsM S μ3 := ⟨fun x hx => (c3 27 0 x (by omega)).trans (ha2.1 x hx), fun l hl => (c3 28 0 l (by omega)).trans (ha2.2 l hl)⟩
    have fr : ∀ c k j, ¬ ((c = 0 ∧ k = 0 ∧ 12 ≤ j ∧ j ≤ 26) ∨ ((c = 7 ∨ c = 8 ∨ c = 9) ∧ k = 0)) → μ3.1 c k j = μ.1 c k j := fun c k j q => (c3 c k j (by omega)).trans (b3 c k j (by omega))
    have hT3 : TxM n V C μ3 := hT.of fun c k j q => fr c k j (by omega)
    obtain ⟨μ', d1, d2, d3⟩ := covL_m hn hD hB hN hr x1 m (i + 1) f μ3 c2 ha3 hT3 (by omega) (by omega)
    rw [if_neg (show ¬ i + 1 = 0 by omega), if_neg (show ¬ i + 1 = 0 by omega)] at d1
    refine ⟨μ', ?_, d2, fun c k j q => (d3 c k j q).trans (fr c k j (by omega))⟩
    rw [b1, bc_s, left_m hn (cvS_B (V := V) hB hN hD i) b2, bc_s, c1, bc_s, nI_1]
    have eF : nI (leftS (cvS V S D i)) = cvFI V S D i := congrArg nI (cvF_e hB hN hD i).symm
    rw [eF]
    have hb := cvF_b (V := V) (S := S) D
    rcases (show i = 0 ∨ 0 < i by omega) with rfl | hi
    · have hlt : cvFI V S D 0 < (1000000 : Int32) := nI_lt (show cvF V S D 0 < 1000000 by have := hb 0; omega) (by decide)
      rw [if_pos rfl, if_pos rfl, if_pos hlt]
      rw [amI_1] at d1
      exact d1
    · rw [if_neg (show ¬ i = 0 by omega), if_neg (show ¬ i = 0 by omega)]
      have hal := amI_lt (cvFI V S D) cvG i hi
      rw [pc_m n hn μ3 (show i < 256 by omega), bc_s, pc_m n hn μ3 (show amI (cvFI V S D) cvG i < 256 by omega), bc_s]
      have up : lsI (cvFI V S D) cvG i (amI (cvFI V S D) cvG i) = true → amI (cvFI V S D) cvG (i + 1) = i := fun q => if_pos q
      have st : lsI (cvFI V S D) cvG i (amI (cvFI V S D) cvG i) = false → amI (cvFI V S D) cvG (i + 1) = amI (cvFI V S D) cvG i := fun q => if_neg (by rw [q]; decide)
      by_cases e1 : cvFI V S D i < cvFI V S D (amI (cvFI V S D) cvG i)
      · rw [if_pos e1]
        rw [up (decide_eq_true (Or.inl e1))] at d1
        exact d1
      · rw [if_neg e1]
        by_cases e2 : cvFI V S D i = cvFI V S D (amI (cvFI V S D) cvG i)
        · rw [if_pos e2]
          have h8 := pc_8 (x := i)
          have h9 := pc_8 (x := amI (cvFI V S D) cvG i)
          by_cases e3 : pc (amI (cvFI V S D) cvG i) ≤ pc i
          · rw [if_pos (nI_le e3 (by omega))]
            rw [st (decide_eq_false (fun q => q.elim e1 (fun q => by have := (nI_lt' (by omega) (by omega)).mp q.2; omega)))] at d1
            exact d1
          · rw [if_neg (nI_ge (by omega) (by omega))]
            rw [up (decide_eq_true (Or.inr ⟨e2, (nI_lt' (by omega) (by omega)).mpr (by omega)⟩))] at d1
            exact d1
        · rw [if_neg e2]
          rw [st (decide_eq_false (fun q => q.elim e1 (fun q => e2 q.1)))] at d1
          exact d1
theorem amI_min {f g : Nat → Nat} (hf : ∀ i, f i < 2 ^ 31) (hg : ∀ i, g i < 2 ^ 31) : ∀ m, ∀ i, i < m → ¬ lx f g i (amI (fun i => nI (f i)) (fun i => nI (g i)) m)
  | 0, i, h => by omega
  | m + 1, i, h => by
    have ih := amI_min hf hg m
    have hl : amI (fun i => nI (f i)) (fun i => nI (g i)) m ≤ m := by
      rcases (show m = 0 ∨ 0 < m by omega) with rfl | h0
      · exact Nat.le_refl 0
      · exact Nat.le_of_lt (amI_lt _ _ m h0)
    have key : lsI (fun i => nI (f i)) (fun i => nI (g i)) m (amI (fun i => nI (f i)) (fun i => nI (g i)) m) = decide (f m < f (amI (fun i => nI (f i)) (fun i => nI (g i)) m) ∨ (f m = f (amI (fun i => nI (f i)) (fun i => nI (g i)) m) ∧ g m < g (amI (fun i => nI (f i)) (fun i => nI (g i)) m))) := by
      unfold lsI
      refine decide_eq_decide.mpr ?_
      rw [nI_lt' (hf _) (hf _), nI_lt' (hg _) (hg _), nI_eq (hf _) (hf _)]
    have un : amI (fun i => nI (f i)) (fun i => nI (g i)) (m + 1) = if lsI (fun i => nI (f i)) (fun i => nI (g i)) m (amI (fun i => nI (f i)) (fun i => nI (g i)) m) then m else amI (fun i => nI (f i)) (fun i => nI (g i)) m := rfl
    rw [un, key]
    generalize amI (fun i => nI (f i)) (fun i => nI (g i)) m = a at ih hl ⊢
    by_cases q : f m < f a ∨ (f m = f a ∧ g m < g a)
    · rw [if_pos (decide_eq_true q)]
      by_cases e : i = m
      · subst e
        unfold lx
        omega
      · have := ih i (by omega)
        unfold lx at this ⊢
        omega
    · rw [if_neg (by rw [decide_eq_false q]; decide)]
      by_cases e : i = m
      · subst e
        unfold lx
        omega
      · exact ih i (by omega)
theorem cover_s (hn : 600 < n) (hd : 78 ≤ d) (hR : RuX n V C) (h : Re n V C S z b σ μ) (a1 a2 : Int32) : Go n V C z b σ μ (f_X5_cover n d σ a1 a2) (f_X6_cover n μ a1 a2) := by
  obtain ⟨hB, hN, hx, hm, TX, TM, cx, cm, hC, hr, -⟩ := id h
  unfold f_X5_cover f_X6_cover
  rcases rng a1 (lo := 0) (hi := 7) (by decide) (by decide) with ⟨D, g1, hD, g3, g4, g5⟩ | ⟨-, g4, g5⟩
  case inr =>
    rw [show f_X5_within σ a1 (0 : Int32) (7 : Int32) = _ from g4 σ, show f_X6_in μ a1.toInt64 (0 : Int64) (7 : Int64) = _ from g5 μ, bc_s, bc_s, if_pos rfl, if_pos rfl]
    exact Go.same h _ rfl rfl
  rw [show f_X5_within σ a1 (0 : Int32) (7 : Int32) = _ from g4 σ, show f_X6_in μ a1.toInt64 (0 : Int64) (7 : Int64) = _ from g5 μ, bc_s, bc_s, if_neg (show ¬ (1 : Int32) = 0 by decide), if_neg (show ¬ (1 : Int32) = 0 by decide)]
  rcases rng a2 (lo := 0) (hi := 1) (by decide) (by decide) with ⟨i2, -, hi2, e2, g4, g5⟩ | ⟨-, g4, g5⟩
  case inr =>
    rw [show f_X5_within σ a2 (0 : Int32) (1 : Int32) = _ from g4 σ, show f_X6_in μ a2.toInt64 (0 : Int64) (1 : Int64) = _ from g5 μ, bc_s, bc_s, if_pos rfl, if_pos rfl]
    exact Go.same h _ rfl rfl
  rw [show f_X5_within σ a2 (0 : Int32) (1 : Int32) = _ from g4 σ, show f_X6_in μ a2.toInt64 (0 : Int64) (1 : Int64) = _ from g5 μ, bc_s, bc_s, if_neg (show ¬ (1 : Int32) = 0 by decide), if_neg (show ¬ (1 : Int32) = 0 by decide), g3]
  have hp := p8 (show D ≤ 8 by omega)
  have hp0 : 0 < 2 ^ D := Nat.two_pow_pos _
  obtain ⟨σ1, p1, -, p3, -, -, p4⟩ := begin_x (cvFI V S D) cvG σ
  have u1 : FrU σ σ1 := FrU.ch p3
  obtain ⟨σ2, r1, r2, r3⟩ := as_x (k := 2) (k1 := 0) (by decide) hB (u1.sk hx)
  have u2 : FrU σ σ2 := u1.tr (FrU.as r3 (by decide))
  have hfb : ∀ i, cvF V S D i < 2 ^ 31 := fun i => by have := cvF_b (V := V) (S := S) D i; omega
  have hgb : ∀ i, pc i < 2 ^ 31 := fun i => by have := pc_8 (x := i); omega
  obtain ⟨σ3, s1, s2, s3⟩ := cov_x hn hR hD hB hN hr D 0 d 0 σ2 (fun _ => False) (by omega) (by omega) (by omega) r2 (u2.tx TX) (Or.inl ⟨(r3 3 0 2 (by omega)).trans p4, fun _ q => q⟩)
  have u3 : FrU σ σ3 := u2.tr fun c k j q => s3 c k j (by omega)
  obtain ⟨μ1, q1, q2, q3⟩ := aside_m hn hB hm
  have hm1 : SkM S μ1 := hm.fr' fun c k j w => q3 c k j (by omega)
  obtain ⟨μ2, t1, t2, t3⟩ := covL_m (V := V) hn hD hB hN hr a2 (2 ^ D) 0 n μ1 hm1 q2 (TM.of fun c k j w => q3 c k j (by omega)) (by omega) (by omega)
  rw [if_pos rfl, if_pos rfl] at t1
  rw [p1, bc_s, r1, bc_s, show f_X5_tryCovers n d σ2 (0 : Int32) (nI D) (0 : Int32) = _ from s1, bc_s, q1, bc_s, show f_X6_cover_L39 n n μ1 (nI D) a2 (-1 : Int32) (1000000 : Int32) (0 : Int32) = _ from t1]
  have hmin := amI_min hfb hgb (2 ^ D)
  have hal := amI_lt (cvFI V S D) cvG (2 ^ D) hp0
  rcases s2 with ⟨-, w⟩ | ⟨w, w1, w2, w3, w4, w5, w6⟩
  · exact absurd (Or.inr ⟨0, hp0, rfl⟩) (w 0)
  have ew : w = amI (cvFI V S D) cvG (2 ^ D) := by
    have hw : w < 2 ^ D := by
      rcases w1 with w1 | ⟨j, j1, j2⟩
      · exact w1.elim
      · omega
    have h1 := hmin w hw
    have h2 := w6 (amI (cvFI V S D) cvG (2 ^ D)) (Or.inr ⟨amI (cvFI V S D) cvG (2 ^ D), hal, by omega⟩)
    change ¬ lx (cvF V S D) pc w (amI (cvFI V S D) cvG (2 ^ D)) at h1
    generalize amI (cvFI V S D) cvG (2 ^ D) = a at h1 h2
    unfold lx at h1 h2
    omega
  rw [w3, w4, ew]
  have fin : ∀ r, Go n V C z b σ μ (some (r, σ3)) (some (r, μ2)) := fun r => ⟨r, σ3, μ2, S, rfl, rfl, h.mk hB hN (u3.sk hx) t2 hr (fun c k j w => u3 c k j (by omega)) (fun c k j w => (t3 c k j (by omega)).trans (q3 c k j (by omega))), u3.fc, fun c k j w => (t3 c k j (by omega)).trans (q3 c k j (by omega))⟩
  by_cases w0 : a2 = 0
  · rw [if_pos w0, if_pos w0]
    exact fin _
  · rw [if_neg w0, if_neg w0]
    exact fin _
end K

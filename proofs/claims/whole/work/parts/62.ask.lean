/-! whom to ask, both sides alike -/
theorem mk_bits (x : Nat) : ∀ T, mk (fun j => x / 2 ^ j % 2) T = x % 2 ^ T
  | 0 => by
    unfold mk
    omega
  | T + 1 => by
    unfold mk
    rw [mk_bits x T, Nat.mod_pow_succ, Nat.mul_comm]
def askS (S : Sk) (x : Nat) : Sk := fun c j => if c = 6 then x / 2 ^ j % 2 else S c j
section K
variable {n d C z k : Nat} {V : Tx} {b : Nat → Nat} {S : Sk} {σ : Gm} {μ : Wm}
theorem askS_k (x : Nat) {c j : Nat} (h : ¬ c = 6) : askS S x c j = S c j := if_neg h
theorem askS_B (hB : SkB S) (x : Nat) : SkB (askS S x) := SkB.of fun c j h1 h2 => by
  by_cases e : c = 6
  · subst e
    show (if 6 = 6 then x / 2 ^ j % 2 else S 6 j) ≤ 1
    rw [if_pos rfl]
    omega
  · rw [askS_k x e]
    exact hB.at_ h1 h2
theorem askS_x (hB : SkB S) (h : SkX k S σ) {x : Nat} (hx : x < 2 ^ S.P) : SkX k (askS S x) (up3 σ 13 k 14 (nI x)) := by
  obtain ⟨h1, h2, h3, h4, h5, h6, h7, h8, h9, h10, h11, h12⟩ := h
  refine ⟨(up3_of (by omega)).trans h1, (up3_of (by omega)).trans h2, (up3_of (by omega)).trans h3, (up3_of (by omega)).trans h4, (up3_of (by omega)).trans h5, (up3_of (by omega)).trans h6, (up3_of (by omega)).trans h7, (up3_of (by omega)).trans h8, (up3_of (by omega)).trans h9, ?_, fun l hl => ⟨(up3_of (by omega)).trans (h11 l hl).1, (up3_of (by omega)).trans (h11 l hl).2⟩, fun l hl => ⟨(up3_of (by omega)).trans (h12 l hl).1, (up3_of (by omega)).trans (h12 l hl).2⟩⟩
  rw [up3_at]
  refine congrArg nI ?_
  have e : mk (askS S x).ak (askS S x).P = mk (fun j => x / 2 ^ j % 2) S.P := mk_congr S.P fun j _ => rfl
  rw [e, mk_bits, Nat.mod_eq_of_lt hx]
theorem bit1 {x p : Nat} (hx : x < 32) (hp : p < 5) : (nI x >>> (nI p &&& 31)) &&& (1 : Int32) = nI (x / 2 ^ p % 2) := by
  have key : ∀ p, p < 5 → ∀ x, x < 32 → (nI x >>> (nI p &&& 31)) &&& (1 : Int32) = nI (x / 2 ^ p % 2) := by decide +kernel
  exact key p hp x hx
theorem askJ_m {x : Nat} (hx : x < 32) (hP : S.P ≤ 5) : ∀ (m p f : Nat) (μ : Wm), μ.1 0 0 11 = nI S.P → p + m = S.P → m < f → ∃ μ', f_X6_askJust_L2 n f μ (nI x) (nI p) = some ((), μ') ∧ (∀ l, p ≤ l → l < S.P → μ'.1 9 0 (3 * l + 1) = nI (x / 2 ^ l % 2)) ∧ ∀ c k j, ¬ (c = 9 ∧ k = 0 ∧ ∃ l, p ≤ l ∧ j = 3 * l + 1) → μ'.1 c k j = μ.1 c k j
  | m, p, 0, _, _, _, h => by omega
  | 0, p, f + 1, μ, h, he, _ => by
    unfold f_X6_askJust_L2
    rw [h, if_pos (nI_le (show S.P ≤ p by omega) (by omega))]
    exact ⟨μ, rfl, fun l h1 h2 => by omega, fun _ _ _ _ => rfl⟩
  | m + 1, p, f + 1, μ, h, he, hk => by
    unfold f_X6_askJust_L2
    rw [h, if_neg (show ¬ nI S.P ≤ nI p from nI_ge (show p < S.P by omega) (by omega)), x31, gd_h (inb_nI (show 3 * p + 1 < 15 by omega) (by decide)), nI_clamp (by omega), bv_e, nI_1, bit1 hx (by omega)]
    obtain ⟨μ', a1, a2, a3⟩ := askJ_m hx hP m (p + 1) f (up3 μ.1 9 0 (3 * p + 1) (nI (x / 2 ^ p % 2)), μ.2) ((u1_of (by omega)).trans h) (by omega) (by omega)
    refine ⟨μ', a1, fun l h1 h2 => ?_, fun c k j q => ?_⟩
    · by_cases e : l = p
      · subst e
        rw [a3 9 0 (3 * l + 1) (fun ⟨_, _, l', b1, b2⟩ => by omega), u1_at]
      · exact a2 l (by omega) h2
    · rw [a3 c k j (fun ⟨b1, b2, l', b3, b4⟩ => q ⟨b1, b2, l', by omega, b4⟩)]
      exact u1_of (fun ⟨b1, b2, b3⟩ => q ⟨b1, b2, p, Nat.le_refl p, b3⟩)
theorem ask_m (hn : 600 < n) (hB : SkB S) (h : SkM S μ) {x : Nat} (hx : x < 32) : ∃ μ', f_X6_askJust n μ (nI x) = some ((), μ') ∧ SkM (askS S x) μ' ∧ ∀ c k j, ¬ (c = 9 ∧ k = 0) → μ'.1 c k j = μ.1 c k j := by
  have hP := hB.2.2.2.2.2.2.2.1
  obtain ⟨μ', a1, a2, a3⟩ := askJ_m (n := n) hx hP S.P 0 n μ h.2.2.2.2.2.2.2.1 (by omega) (by omega)
  have fr : ∀ c k j, ¬ (c = 9 ∧ k = 0) → μ'.1 c k j = μ.1 c k j := fun c k j q => a3 c k j (fun ⟨b1, b2, _⟩ => q ⟨b1, b2⟩)
  obtain ⟨h1, h2, h3, h4, h5, h6, h7, h8, h9, h10⟩ := h
  refine ⟨μ', a1, ⟨(fr _ _ _ (by omega)).trans h1, (fr _ _ _ (by omega)).trans h2, (fr _ _ _ (by omega)).trans h3, (fr _ _ _ (by omega)).trans h4, (fr _ _ _ (by omega)).trans h5, (fr _ _ _ (by omega)).trans h6, (fr _ _ _ (by omega)).trans h7, (fr _ _ _ (by omega)).trans h8, fun l hl => ?_, fun p hp => ?_⟩, fr⟩
  · obtain ⟨q1, q2, q3⟩ := h9 l hl
    exact ⟨(fr _ _ _ (by omega)).trans q1, (fr _ _ _ (by omega)).trans q2, (fr _ _ _ (by omega)).trans q3⟩
  · obtain ⟨q1, q2, q3⟩ := h10 p hp
    exact ⟨(a3 _ _ _ (fun ⟨_, _, l', b1, b2⟩ => by omega)).trans q1, a2 p (by omega) hp, (a3 _ _ _ (fun ⟨_, _, l', b1, b2⟩ => by omega)).trans q3⟩
theorem askedL_m (hB : SkB S) (h : SkM S μ) : ∀ (m i f : Nat), i + m = S.P → m < f → f_X6_askedSet_L4 n f μ (nI (mk S.ak i)) (nI i) = some (nI (mk S.ak S.P), μ)
  | m, i, 0, _, h => by omega
  | 0, i, f + 1, he, _ => by
    have hP := hB.2.2.2.2.2.2.2.1
    unfold f_X6_askedSet_L4
    rw [h.2.2.2.2.2.2.2.1, if_pos (nI_le (show S.P ≤ i by omega) (by omega)), show i = S.P by omega]
  | m + 1, i, f + 1, he, hk => by
    have hP := hB.2.2.2.2.2.2.2.1
    have hi : i < S.P := by omega
    obtain ⟨r1, r2, r3⟩ := h.2.2.2.2.2.2.2.2.2 i hi
    have hI := hB.2.2.2.2.2.2.2.2.2.2.2.2.2
    have hl := mk_lt (f := S.ak) hI i
    have h2 : 2 ^ i ≤ 2 ^ 8 := Nat.pow_le_pow_right (by omega) (by omega)
    have hz0 : ¬ mk S.ak i / 2 ^ i % 2 = 1 := by
      rw [Nat.div_eq_of_lt hl]
      decide
    unfold f_X6_askedSet_L4
    rw [h.2.2.2.2.2.2.2.1, if_neg (show ¬ nI S.P ≤ nI i from nI_ge hi (by omega)), x31, gd_h (inb_nI (show 3 * i + 1 < 15 by omega) (by decide)), nI_clamp (show 3 * i + 1 < 2 ^ 31 by omega), r2, orI (by omega) (by omega) hz0 (hI i), bv_e, nI_1]
    exact askedL_m hB h m (i + 1) f (by omega) (by omega)
theorem asked_m (hn : 600 < n) (hB : SkB S) (h : SkM S μ) : f_X6_askedSet n μ = some (nI (mk S.ak S.P), μ) := by
  have hP := hB.2.2.2.2.2.2.2.1
  exact askedL_m hB h S.P 0 n (by omega) (by omega)
/-- asking as before -/
theorem askS_back (hB : SkB S) {x : Nat} (h : SkM (askS (askS S x) (mk S.ak S.P)) μ) : SkM S μ := by
  obtain ⟨h1, h2, h3, h4, h5, h6, h7, h8, h9, h10⟩ := h
  refine ⟨h1, h2, h3, h4, h5, h6, h7, h8, h9, fun p hp => ?_⟩
  obtain ⟨q1, q2, q3⟩ := h10 p hp
  refine ⟨q1, q2.trans (congrArg nI ?_), q3⟩
  show mk S.ak S.P / 2 ^ p % 2 = S.ak p
  exact mk_bit (fun i => hB.2.2.2.2.2.2.2.2.2.2.2.2.2 i) S.P p hp
def asF (V : Tx) (S : Sk) (D i : Nat) : Int32 := nI (leftS (goS V 0 D (askS S i)).1)
def asG (V : Tx) (S : Sk) (D i : Nat) : Int32 := -(goS V 0 D (askS S i)).2
theorem askL_x (hn : 600 < n) (hR : RuX n V C) {D : Nat} (hD : D ≤ 7) (hB : SkB S) (hN : S.nt ≤ 999) (hr : S.ru < C) (x1 : Int32) : ∀ (m i f : Nat) (σ : Gm), SkX 0 S σ → TxX V C σ → ChA (asF V S D) (asG V S D) i σ → i + m = 2 ^ S.P → m < f → ∃ σ', f_X5_ask_L39 n f σ (nI D) x1 (nI i) = (if x1 = 0 then some (σ' 3 0 2, σ') else (if x1 = (1 : Int32) then some (σ' 3 0 0, σ') else some (-(σ' 3 0 1), σ'))) ∧ ChA (asF V S D) (asG V S D) (2 ^ S.P) σ' ∧ FrU σ σ'
  | m, i, 0, _, _, _, _, _, h => by omega
  | 0, i, f + 1, σ, hx, _, hc, he, _ => by
    have hP := hB.2.2.2.2.2.2.2.1
    have hp := p8 (show S.P ≤ 8 by omega)
    unfold f_X5_ask_L39
    rw [hx.2.2.2.2.2.2.2.2.1, sh1 (by omega), if_pos (nI_le (show 2 ^ S.P ≤ i by omega) (by omega))]
    exact ⟨σ, rfl, by rw [show 2 ^ S.P = i by omega]; exact hc, FrU.rf σ⟩
  | m + 1, i, f + 1, σ, hx, hT, hc, he, hk => by
    have hP := hB.2.2.2.2.2.2.2.1
    have hp := p8 (show S.P ≤ 8 by omega)
    unfold f_X5_ask_L39
    rw [hx.2.2.2.2.2.2.2.2.1, sh1 (by omega), if_neg (show ¬ nI (2 ^ S.P) ≤ nI i from nI_ge (by omega) (by omega))]
    obtain ⟨σ1, a1, a2, a3⟩ := as_x (k := 2) (k1 := 0) (by decide) hB hx
    have u1 : FrU σ σ1 := FrU.as a3 (by decide)
    rw [a1, bc_s, bv_e]
    let σ2 : Gm := up3 σ1 13 2 14 (nI i)
    have u2 : FrU σ σ2 := u1.tr (FrU.up (by decide))
    have hx2 : SkX 2 (askS S i) σ2 := askS_x hB a2 (by omega)
    have hB2 := askS_B hB i
    obtain ⟨σ3, b1, b2, b3⟩ := go_x (x := 0) hn hR (show D ≤ 30 by omega) hB2 hx2 (u2.tx hT) hr (show S.nt + D ≤ 1100 by omega)
    have u3 : FrU σ σ3 := u2.tr (b3.U (by decide))
    have hB3 : SkB (goS V 0 D (askS S i)).1 := goF_B D 0 _ 0 hB2 (show S.nt + D ≤ 1100 by omega)
    rw [show f_X3_passAll n 2 σ2 (nI D) (0 : Int32) = _ from b1, bc_s, left_x hn hB3 b2, bc_s]
    obtain ⟨σ4, c1, c2, c3⟩ := ofA (show i < 2 ^ 31 by omega) (hc.fr (σ' := σ3) fun j => (b3 3 0 j (by omega)).trans ((up3_of (by omega)).trans (a3 3 0 j (by omega))))
    have u4 : FrU σ σ4 := u3.tr (FrU.ch c3)
    rw [show f_X0_offer σ3 (nI (leftS (goS V 0 D (askS S i)).1)) (-(goS V 0 D (askS S i)).2) (nI i) = _ from c1, bc_s, nI_1]
    obtain ⟨σ', d1, d2, d3⟩ := askL_x hn hR hD hB hN hr x1 m (i + 1) f σ4 (u4.sk hx) (u4.tx hT) c2 (by omega) (by omega)
    exact ⟨σ', d1, d2, u4.tr d3⟩
/-- what may change -/
theorem askL_m (hn : 600 < n) {D : Nat} (hD : D ≤ 7) (hB : SkB S) (hN : S.nt ≤ 999) (hr : S.ru < C) (x1 : Int32) : ∀ (m i f y : Nat) (μ : Wm), SkM (askS S y) μ → AsM S μ → TxM n V C μ → i + m = 2 ^ S.P → m < f → ∃ μ', f_X6_ask_L50 n f μ (nI D) x1 (nI (mk S.ak S.P)) (if i = 0 then -1 else nI (amI (asF V S D) (asG V S D) i)) (if i = 0 then 1000000 else asF V S D (amI (asF V S D) (asG V S D) i)) (if i = 0 then 0 else -(asG V S D (amI (asF V S D) (asG V S D) i))) (nI i) = (if x1 = 0 then some (nI (amI (asF V S D) (asG V S D) (2 ^ S.P)), μ') else (if x1 = (1 : Int32) then some (asF V S D (amI (asF V S D) (asG V S D) (2 ^ S.P)), μ') else some (-(asG V S D (amI (asF V S D) (asG V S D) (2 ^ S.P))), μ'))) ∧ SkM S μ' ∧ FcM μ μ'
  | m, i, 0, _, _, _, _, _, _, h => by omega
  | 0, i, f + 1, y, μ, hm, ha, hT, he, _ => by
    have hP := hB.2.2.2.2.2.2.2.1
    have hp := p8 (show S.P ≤ 8 by omega)
    have hp0 : 0 < 2 ^ S.P := Nat.two_pow_pos _
    have hmk := mk_lt (f := S.ak) (fun i => hB.2.2.2.2.2.2.2.2.2.2.2.2.2 i) S.P
    have h32 : 2 ^ S.P ≤ 2 ^ 5 := Nat.pow_le_pow_right (by omega) hP
    unfold f_X6_ask_L50
    rw [show μ.1 0 0 11 = nI S.P from hm.2.2.2.2.2.2.2.1, sh1 (by omega), if_pos (nI_le (show 2 ^ S.P ≤ i by omega) (by omega))]
    obtain ⟨μ1, a1, a2, a3⟩ := ask_m hn (askS_B hB y) hm (show mk S.ak S.P < 32 by omega)
    rw [a1, bc_s, if_neg (show ¬ i = 0 by omega), if_neg (show ¬ i = 0 by omega), if_neg (show ¬ i = 0 by omega), show i = 2 ^ S.P by omega]
    exact ⟨μ1, rfl, askS_back hB a2, fun c k j q => a3 c k j (by omega)⟩
  | m + 1, i, f + 1, y, μ, hm, ha, hT, he, hk => by
    have hP := hB.2.2.2.2.2.2.2.1
    have hp := p8 (show S.P ≤ 8 by omega)
    have h32 : 2 ^ S.P ≤ 2 ^ 5 := Nat.pow_le_pow_right (by omega) hP
    unfold f_X6_ask_L50
    rw [show μ.1 0 0 11 = nI S.P from hm.2.2.2.2.2.2.2.1, sh1 (by omega), if_neg (show ¬ nI (2 ^ S.P) ≤ nI i from nI_ge (by omega) (by omega))]
    obtain ⟨μ1, a1, a2, a3⟩ := ask_m hn (askS_B hB y) hm (show i < 32 by omega)
    have hB2 := askS_B hB i
    have a2 : SkM (askS S i) μ1 := by
      refine (funext fun c => funext fun j => ?_ : askS (askS S y) i = askS S i) ▸ a2
      show (if c = 6 then i / 2 ^ j % 2 else if c = 6 then y / 2 ^ j % 2 else S c j) = if c = 6 then i / 2 ^ j % 2 else S c j
      by_cases e : c = 6
      · rw [if_pos e, if_pos e]
      · rw [if_neg e, if_neg e, if_neg e]
    obtain ⟨μ2, b1, b2, b3⟩ := go_m (x := 0) hn (show D ≤ 30 by omega) hB2 a2 (hT.of fun c k j q => a3 c k j (by omega)) hr (show S.nt + D ≤ 1100 by omega)
    have hB3 : SkB (goS V 0 D (askS S i)).1 := goF_B D 0 _ 0 hB2 (show S.nt + D ≤ 1100 by omega)
    have ha2 : AsM (askS S i) μ2 := ⟨fun x hx => (b3 27 0 x (by omega)).trans ((a3 27 0 x (by omega)).trans (ha.1 x hx)), fun l hl => (b3 28 0 l (by omega)).trans ((a3 28 0 l (by omega)).trans (ha.2 l hl))⟩
    obtain ⟨μ3, c1, c2, c3⟩ := back_m hn hB2 ha2 b2 goS_E
    have ha3 : AsM S μ3 := ⟨fun x hx => (c3 27 0 x (by omega)).trans (ha2.1 x hx), fun l hl => (c3 28 0 l (by omega)).trans (ha2.2 l hl)⟩
    have fr : ∀ c k j, ¬ ((c = 0 ∧ k = 0 ∧ 12 ≤ j ∧ j ≤ 26) ∨ ((c = 7 ∨ c = 8 ∨ c = 9) ∧ k = 0)) → μ3.1 c k j = μ.1 c k j := fun c k j q => (c3 c k j (by omega)).trans ((b3 c k j (by omega)).trans (a3 c k j (by omega)))
    have hT3 : TxM n V C μ3 := hT.of fun c k j q => fr c k j (by omega)
    obtain ⟨μ', d1, d2, d3⟩ := askL_m hn hD hB hN hr x1 m (i + 1) f i μ3 c2 ha3 hT3 (by omega) (by omega)
    rw [if_neg (show ¬ i + 1 = 0 by omega), if_neg (show ¬ i + 1 = 0 by omega), if_neg (show ¬ i + 1 = 0 by omega)] at d1
    refine ⟨μ', ?_, d2, fun c k j q => (d3 c k j q).trans (fr c k j (by omega))⟩
    rw [a1, bc_s, show f_X6_go n μ1 (nI D) (0 : Int32) = _ from b1, bc_s, left_m hn hB3 b2, bc_s, c1, bc_s]
    unfold f_X6_ask_J106
    rw [nI_1]
    have eP : (goS V 0 D (askS S i)).2 = -(asG V S D i) := (Int32.neg_neg).symm
    rw [show nI (leftS (goS V 0 D (askS S i)).1) = asF V S D i from rfl, eP]
    rcases (show i = 0 ∨ 0 < i by omega) with rfl | hi
    · have hlt : asF V S D 0 < (1000000 : Int32) := nI_lt (show leftS _ < 1000000 from by have := left_b hB3; omega) (by decide)
      rw [if_pos rfl, if_pos rfl, if_pos rfl, if_pos hlt]
      rw [amI_1] at d1
      exact d1
    · rw [if_neg (show ¬ i = 0 by omega), if_neg (show ¬ i = 0 by omega), if_neg (show ¬ i = 0 by omega)]
      have hal := amI_lt (asF V S D) (asG V S D) i hi
      obtain ⟨q1, w1, w2⟩ := goS_b (V := V) (x := 0) (D := D) hB2 (show S.nt + D ≤ 1100 by omega)
      obtain ⟨q2, w3, w4⟩ := goS_b (V := V) (x := 0) (D := D) (askS_B hB (amI (asF V S D) (asG V S D) i)) (show S.nt + D ≤ 1100 by omega)
      have g1 : -(asG V S D i) = nI q1 := eP.symm.trans w2
      have g2 : -(asG V S D (amI (asF V S D) (asG V S D) i)) = nI q2 := (Int32.neg_neg).trans w4
      have ng : ∀ q, q ≤ 4455 * 7 → (-(nI q)).toInt = -(q : Int) := by
        intro q hq
        rw [Int32.toInt_neg, nI_toInt (by omega)]
        apply Int.bmod_eq_of_le <;> omega
      have hG1 : (asG V S D i).toInt = -(q1 : Int) := by
        rw [← ng q1 (by omega), ← g1, Int32.neg_neg]
      have hG2 : (asG V S D (amI (asF V S D) (asG V S D) i)).toInt = -(q2 : Int) := by
        rw [← ng q2 (by omega), ← g2, Int32.neg_neg]
      have hGG : asG V S D i < asG V S D (amI (asF V S D) (asG V S D) i) ↔ q2 < q1 := by
        rw [Int32.lt_iff_toInt_lt, hG1, hG2]
        omega
      have hPP : -(asG V S D i) ≤ -(asG V S D (amI (asF V S D) (asG V S D) i)) ↔ q1 ≤ q2 := by
        rw [g1, g2, Int32.le_iff_toInt_le, nI_toInt (by omega), nI_toInt (by omega)]
        omega
      have up : lsI (asF V S D) (asG V S D) i (amI (asF V S D) (asG V S D) i) = true → amI (asF V S D) (asG V S D) (i + 1) = i := fun q => if_pos q
      have st : lsI (asF V S D) (asG V S D) i (amI (asF V S D) (asG V S D) i) = false → amI (asF V S D) (asG V S D) (i + 1) = amI (asF V S D) (asG V S D) i := fun q => if_neg (by rw [q]; decide)
      by_cases e1 : asF V S D i < asF V S D (amI (asF V S D) (asG V S D) i)
      · rw [if_pos e1]
        rw [up (decide_eq_true (Or.inl e1))] at d1
        exact d1
      · rw [if_neg e1]
        by_cases e2 : asF V S D i = asF V S D (amI (asF V S D) (asG V S D) i)
        · rw [if_pos e2]
          by_cases e3 : q1 ≤ q2
          · rw [if_pos (hPP.mpr e3)]
            rw [st (decide_eq_false (fun q => q.elim e1 (fun q => by have := hGG.mp q.2; omega)))] at d1
            exact d1
          · rw [if_neg (fun q => e3 (hPP.mp q))]
            rw [up (decide_eq_true (Or.inr ⟨e2, hGG.mpr (by omega)⟩))] at d1
            exact d1
        · rw [if_neg e2]
          rw [st (decide_eq_false (fun q => q.elim e1 (fun q => e2 q.1)))] at d1
          exact d1
theorem ask_s (hn : 600 < n) (hR : RuX n V C) (h : Re n V C S z b σ μ) (a1 a2 : Int32) : Go n V C z b σ μ (f_X5_ask n σ a1 a2) (f_X6_ask n μ a1 a2) := by
  obtain ⟨hB, hN, hx, hm, TX, TM, cx, cm, hC, hr, -⟩ := id h
  unfold f_X5_ask f_X6_ask
  rcases rng a1 (lo := 0) (hi := 7) (by decide) (by decide) with ⟨D, g1, hD, g3, g4, g5⟩ | ⟨-, g4, g5⟩
  case inr =>
    rw [show f_X5_within σ a1 (0 : Int32) (7 : Int32) = _ from g4 σ, show f_X6_in μ a1.toInt64 (0 : Int64) (7 : Int64) = _ from g5 μ, bc_s, bc_s, if_pos rfl, if_pos rfl]
    exact Go.same h _ rfl rfl
  rw [show f_X5_within σ a1 (0 : Int32) (7 : Int32) = _ from g4 σ, show f_X6_in μ a1.toInt64 (0 : Int64) (7 : Int64) = _ from g5 μ, bc_s, bc_s, if_neg (show ¬ (1 : Int32) = 0 by decide), if_neg (show ¬ (1 : Int32) = 0 by decide)]
  rcases rng a2 (lo := 0) (hi := 2) (by decide) (by decide) with ⟨i2, -, hi2, e2, g4, g5⟩ | ⟨-, g4, g5⟩
  case inr =>
    rw [show f_X5_within σ a2 (0 : Int32) (2 : Int32) = _ from g4 σ, show f_X6_in μ a2.toInt64 (0 : Int64) (2 : Int64) = _ from g5 μ, bc_s, bc_s, if_pos rfl, if_pos rfl]
    exact Go.same h _ rfl rfl
  rw [show f_X5_within σ a2 (0 : Int32) (2 : Int32) = _ from g4 σ, show f_X6_in μ a2.toInt64 (0 : Int64) (2 : Int64) = _ from g5 μ, bc_s, bc_s, if_neg (show ¬ (1 : Int32) = 0 by decide), if_neg (show ¬ (1 : Int32) = 0 by decide), g3]
  have hP := hB.2.2.2.2.2.2.2.1
  have hp := p8 (show S.P ≤ 8 by omega)
  have hp0 : 0 < 2 ^ S.P := Nat.two_pow_pos _
  obtain ⟨σ1, p1, p2, p3, -⟩ := begin_x (asF V S D) (asG V S D) σ
  have u1 : FrU σ σ1 := FrU.ch p3
  obtain ⟨σ2, s1, s2, s3⟩ := askL_x hn hR hD hB hN hr a2 (2 ^ S.P) 0 n σ1 (u1.sk hx) (u1.tx TX) p2 (by omega) (by omega)
  obtain ⟨μ1, q1, q2, q3⟩ := aside_m hn hB hm
  have hm1 : SkM S μ1 := hm.fr' fun c k j w => q3 c k j (by omega)
  have hme : SkM (askS S (mk S.ak S.P)) μ1 := by
    obtain ⟨h1, h2, h3, h4, h5, h6, h7, h8, h9, h10⟩ := hm1
    refine ⟨h1, h2, h3, h4, h5, h6, h7, h8, h9, fun p hp => ?_⟩
    obtain ⟨q1, q2, q3⟩ := h10 p hp
    refine ⟨q1, q2.trans (congrArg nI ?_), q3⟩
    show S.ak p = mk S.ak S.P / 2 ^ p % 2
    exact (mk_bit (fun i => hB.2.2.2.2.2.2.2.2.2.2.2.2.2 i) S.P p hp).symm
  obtain ⟨μ2, t1, t2, t3⟩ := askL_m (V := V) hn hD hB hN hr a2 (2 ^ S.P) 0 n _ μ1 hme q2 (TM.of fun c k j w => q3 c k j (by omega)) (by omega) (by omega)
  rw [if_pos rfl, if_pos rfl, if_pos rfl] at t1
  rw [p1, bc_s, asked_m hn hB hm, bc_s, q1, bc_s, show f_X5_ask_L39 n n σ1 (nI D) a2 (0 : Int32) = _ from s1, show f_X6_ask_L50 n n μ1 (nI D) a2 (nI (mk S.ak S.P)) (-1 : Int32) (1000000 : Int32) (0 : Int32) (0 : Int32) = _ from t1]
  obtain ⟨b1, b2, b3⟩ := s2.2 hp0
  rw [b1, b2, b3]
  have fin : ∀ r, Go n V C z b σ μ (some (r, σ2)) (some (r, μ2)) := fun r => ⟨r, σ2, μ2, S, rfl, rfl, h.mk hB hN ((u1.tr s3).sk hx) t2 hr (fun c k j w => (u1.tr s3) c k j (by omega)) (fun c k j w => (t3 c k j (by omega)).trans (q3 c k j (by omega))), (u1.tr s3).fc, fun c k j w => (t3 c k j (by omega)).trans (q3 c k j (by omega))⟩
  by_cases w0 : a2 = 0
  · rw [if_pos w0, if_pos w0]
    exact fin _
  · rw [if_neg w0, if_neg w0]
    by_cases w1 : a2 = 1
    · rw [if_pos w1, if_pos w1]
      exact fin _
    · rw [if_neg w1, if_neg w1]
      exact fin _
end K

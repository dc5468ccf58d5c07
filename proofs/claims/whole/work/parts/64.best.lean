/-! what to put in, when to come, who throws most, both sides alike -/
section K
variable {n d C z k : Nat} {V : Tx} {b : Nat → Nat} {S : Sk} {σ : Gm} {μ : Wm}
theorem Go.fin {f : Option (Int32 × Gm)} {g : Option (Int32 × Wm)} {σ' : Gm} {μ' : Wm} (h : Re n V C S z b σ μ) (r : Int32) (hf : f = some (r, σ')) (hg : g = some (r, μ')) (u : FrU σ σ') (t : SkM S μ') (v : FcM μ μ') : Go n V C z b σ μ f g :=
  ⟨r, σ', μ', S, hf, hg, h.mk h.1 h.2.1 (u.sk h.2.2.1) t h.2.2.2.2.2.2.2.2.2.1 (fun c k j w => u c k j (by omega)) (fun c k j w => v c k j (by omega)), u.fc, v⟩
def bulkF (S : Sk) (x : Nat) : Nat → Nat → Nat → Nat
  | 0, _, a => a
  | m + 1, i, a => bulkF S x m (i + 1) (if x / 2 ^ i % 2 = 1 then a + S.bk i else a)
def bulkS (S : Sk) (x : Nat) : Nat := bulkF S x S.T 0 0
theorem bulkF_b (hB : SkB S) (x : Nat) : ∀ m i a, bulkF S x m i a ≤ a + 99 * m
  | 0, _, a => by unfold bulkF; omega
  | m + 1, i, a => by
    unfold bulkF
    have h := bulkF_b hB x m (i + 1) (if x / 2 ^ i % 2 = 1 then a + S.bk i else a)
    have hK : S.bk i ≤ 99 := hB.2.2.2.2.2.2.2.2.1 i
    split at h <;> rename_i g
    · rw [if_pos g]; omega
    · rw [if_neg g]; omega
theorem bulkS_b (hB : SkB S) (x : Nat) : bulkS S x ≤ 792 := by
  have h := bulkF_b hB x S.T 0 0
  have hT := hB.2.2.2.2.2.2.1
  unfold bulkS
  omega
theorem bulkF_0 (S : Sk) : ∀ m i a, bulkF S 0 m i a = a
  | 0, _, _ => rfl
  | m + 1, i, a => by
    unfold bulkF
    rw [if_neg (by rw [Nat.zero_div]; decide)]
    exact bulkF_0 S m (i + 1) a
theorem bulkL_m (hB : SkB S) (h : SkM S μ) {x : Nat} (hx : x < 256) : ∀ (m i f a : Nat), i + m = S.T → m < f → f_X6_bulkOf_L4 n f μ (nI x) (nI a) (nI i) = some (nI (bulkF S x m i a), μ)
  | m, i, 0, _, _, h => by omega
  | 0, i, f + 1, a, he, _ => by
    have hT := hB.2.2.2.2.2.2.1
    unfold f_X6_bulkOf_L4 bulkF
    rw [h.2.2.2.2.2.2.1, if_pos (nI_le (show S.T ≤ i by omega) (by omega))]
  | m + 1, i, f + 1, a, he, hk => by
    have hT := hB.2.2.2.2.2.2.1
    have hi : i < S.T := by omega
    obtain ⟨r1, r2, r3⟩ := h.2.2.2.2.2.2.2.2.1 i hi
    have hb := bt8 hx (show i < 8 by omega)
    unfold f_X6_bulkOf_L4 bulkF
    rw [h.2.2.2.2.2.2.1, if_neg (show ¬ nI S.T ≤ nI i from nI_ge hi (by omega)), x31, gd_h (inb_nI (show 3 * i + 1 < 24 by omega) (by decide)), nI_clamp (show 3 * i + 1 < 2 ^ 31 by omega), r2, bv_e, bv_e, nI_1, nI_add]
    by_cases g1 : x / 2 ^ i % 2 = 1
    · rw [if_pos (hb.mpr g1), if_pos g1]
      exact bulkL_m hB h hx m (i + 1) f _ (by omega) (by omega)
    · rw [if_neg (fun q => g1 (hb.mp q)), if_neg g1, show nI a + (0 : Int32) = nI a from nI_add a 0]
      exact bulkL_m hB h hx m (i + 1) f _ (by omega) (by omega)
theorem bulk_m (hn : 600 < n) (hB : SkB S) (h : SkM S μ) {x : Nat} (hx : x < 256) : f_X6_bulkOf n μ (nI x) = some (nI (bulkS S x), μ) := by
  have hT := hB.2.2.2.2.2.2.1
  exact bulkL_m hB h hx S.T 0 n 0 (by omega) (by omega)
theorem bulkL_x (hB : SkB S) (h : SkX k S σ) {x : Nat} (hx : x < 256) : ∀ (m i f a : Nat), i + m = S.T → m < f → f_X3_bulkOf_L4 n k f σ (nI x) (nI a) (nI i) = some (nI (bulkF S x m i a), σ)
  | m, i, 0, _, _, h => by omega
  | 0, i, f + 1, a, he, _ => by
    have hT := hB.2.2.2.2.2.2.1
    unfold f_X3_bulkOf_L4 bulkF
    rw [h.2.2.2.2.2.2.1, if_pos (nI_le (show S.T ≤ i by omega) (by omega))]
  | m + 1, i, f + 1, a, he, hk => by
    have hT := hB.2.2.2.2.2.2.1
    have hi : i < S.T := by omega
    obtain ⟨r1, r2⟩ := h.2.2.2.2.2.2.2.2.2.2.1 i hi
    have hb := bt8 hx (show i < 8 by omega)
    unfold f_X3_bulkOf_L4 bulkF
    rw [h.2.2.2.2.2.2.1, if_neg (show ¬ nI S.T ≤ nI i from nI_ge hi (by omega)), gd_h (inb_nI (show i < 8 by omega) (by decide)), nI_clamp (show i < 2 ^ 31 by omega), r1, bv_e, nI_1, nI_add]
    by_cases g1 : x / 2 ^ i % 2 = 1
    · rw [if_pos (hb.mpr g1), if_pos g1]
      exact bulkL_x hB h hx m (i + 1) f _ (by omega) (by omega)
    · rw [if_neg (fun q => g1 (hb.mp q)), if_neg g1]
      exact bulkL_x hB h hx m (i + 1) f _ (by omega) (by omega)
theorem bulk_x (hn : 600 < n) (hB : SkB S) (h : SkX k S σ) {x : Nat} (hx : x < 256) : f_X3_bulkOf n k σ (nI x) = some (nI (bulkS S x), σ) := by
  have hT := hB.2.2.2.2.2.2.1
  exact bulkL_x hB h hx S.T 0 n 0 (by omega) (by omega)
/-- what may be put in, the most so far -/
def okP (S : Sk) (i : Nat) : Bool := decide (nI i &&& nI (mk S.inn S.T) = 0 ∧ bulkS S i ≤ roomS S)
def pkP (S : Sk) : Nat → Nat
  | 0 => 0
  | m + 1 => if okP S m && decide (bulkS S (pkP S m) < bulkS S m) then m else pkP S m
theorem pkP_lt (S : Sk) : ∀ m, 0 < m → pkP S m < m
  | 0, h => by omega
  | m + 1, _ => by
    unfold pkP
    split
    · omega
    · rcases (show m = 0 ∨ 0 < m by omega) with rfl | h
      · exact Nat.zero_lt_one
      · have := pkP_lt S m h
        omega
theorem pkP_1 (S : Sk) : pkP S 1 = 0 := by
  unfold pkP
  split <;> rfl
theorem ngI {q : Nat} (hq : q ≤ 2000) : (-(nI q)).toInt = -(q : Int) := by
  rw [Int32.toInt_neg, nI_toInt (by omega)]
  apply Int.bmod_eq_of_le <;> omega
def ChK (S : Sk) (i : Nat) (σ : Gm) : Prop := (i = 0 → σ 3 0 2 = -1) ∧ (0 < i → σ 3 0 2 = nI (pkP S i) ∧ σ 3 0 0 = -(nI (bulkS S (pkP S i))) ∧ σ 3 0 1 = 0)
theorem ofK (hB : SkB S) {i : Nat} (hi : i < 256) (ho : okP S i = true) (h : ChK S i σ) : ∃ σ', f_X0_offer σ (-(nI (bulkS S i))) (0 : Int32) (nI i) = some ((), σ') ∧ ChK S (i + 1) σ' ∧ ∀ c k j, ¬ (c = 3 ∧ k = 0) → σ' c k j = σ c k j := by
  unfold f_X0_offer
  obtain ⟨σ', a1, a2, a3, a4, a5⟩ := of19 σ (-(nI (bulkS S i))) 0 (nI i)
  rcases (show i = 0 ∨ 0 < i by omega) with rfl | hp
  · rw [if_pos (h.1 rfl), a1]
    refine ⟨σ', rfl, ⟨fun q => by omega, fun _ => ?_⟩, a5⟩
    rw [pkP_1]
    exact ⟨a4, a2, a3⟩
  · obtain ⟨b1, b2, b3⟩ := h.2 hp
    have hl := pkP_lt S i hp
    have c1 := bulkS_b hB i
    have c2 := bulkS_b hB (pkP S i)
    rw [b1, if_neg (show ¬ nI (pkP S i) = (-1 : Int32) from fun q => by
      have := congrArg Int32.toInt q
      rw [nI_toInt (by omega), show (-1 : Int32).toInt = -1 by decide] at this
      omega), ls_x σ _ _ i (by omega) hl b1, bc_s, b2, b3]
    have un : pkP S (i + 1) = if okP S i && decide (bulkS S (pkP S i) < bulkS S i) then i else pkP S i := rfl
    by_cases g : bulkS S (pkP S i) < bulkS S i
    · rw [if_pos (Or.inl (Int32.lt_iff_toInt_lt.mpr (by rw [ngI (by omega), ngI (by omega)]; omega))), if_neg (show ¬ (1 : Int32) = 0 by decide), a1]
      refine ⟨σ', rfl, ⟨fun q => by omega, fun _ => ?_⟩, a5⟩
      rw [un, ho, decide_eq_true g, if_pos (by decide)]
      exact ⟨a4, a2, a3⟩
    · rw [if_neg (show ¬ (-(nI (bulkS S i)) < -(nI (bulkS S (pkP S i))) ∨ (-(nI (bulkS S i)) = -(nI (bulkS S (pkP S i))) ∧ (0 : Int32) < 0)) from fun q => q.elim (fun q => by have := Int32.lt_iff_toInt_lt.mp q; rw [ngI (by omega), ngI (by omega)] at this; omega) (fun q => i_irr 0 q.2)), if_pos rfl]
      refine ⟨σ, rfl, ⟨fun q => by omega, fun _ => ?_⟩, fun _ _ _ _ => rfl⟩
      rw [un, ho, decide_eq_false g, if_neg (by decide)]
      exact ⟨b1, b2, b3⟩
theorem ChK.no {i : Nat} (hi : 0 < i) (ho : okP S i = false) (h : ChK S i σ) : ChK S (i + 1) σ := by
  have un : pkP S (i + 1) = if okP S i && decide (bulkS S (pkP S i) < bulkS S i) then i else pkP S i := rfl
  refine ⟨fun q => by omega, fun _ => ?_⟩
  rw [un, ho, Bool.false_and, if_neg (by decide)]
  exact h.2 hi
theorem packL_x (hn : 600 < n) (hB : SkB S) : ∀ (m i f : Nat) (σ : Gm), SkX 0 S σ → ChK S i σ → i + m = 2 ^ S.T → m < f → ∃ σ', f_X5_tryPacks_L10 n f σ (nI (roomS S)) (nI i) = some ((), σ') ∧ ChK S (2 ^ S.T) σ' ∧ FrU σ σ'
  | m, i, 0, _, _, _, _, h => by omega
  | 0, i, f + 1, σ, hx, hc, he, _ => by
    have hT := hB.2.2.2.2.2.2.1
    have hp := p8 hT
    unfold f_X5_tryPacks_L10
    rw [hx.2.2.2.2.2.2.1, sh1 hT, if_pos (nI_le (show 2 ^ S.T ≤ i by omega) (by omega))]
    exact ⟨σ, rfl, by rw [show 2 ^ S.T = i by omega]; exact hc, FrU.rf σ⟩
  | m + 1, i, f + 1, σ, hx, hc, he, hk => by
    have hT := hB.2.2.2.2.2.2.1
    have hp := p8 hT
    have hb := bulkS_b hB i
    have hro : roomS S ≤ 999 := by have := hB.2.1; unfold roomS; omega
    have step : ∀ σ1, ChK S (i + 1) σ1 → FrU σ σ1 → ∃ σ', f_X5_tryPacks_L10 n f σ1 (nI (roomS S)) (nI (i + 1)) = some ((), σ') ∧ ChK S (2 ^ S.T) σ' ∧ FrU σ σ' := by
      intro σ1 h1 u1
      obtain ⟨σ', a1, a2, a3⟩ := packL_x hn hB m (i + 1) f σ1 (u1.sk hx) h1 (by omega) (by omega)
      exact ⟨σ', a1, a2, u1.tr a3⟩
    have h0 : i = 0 → okP S i = true := by
      rintro rfl
      refine decide_eq_true ⟨?_, ?_⟩
      · rw [show nI 0 = (0 : Int32) from rfl, Int32.zero_and]
      · rw [show bulkS S 0 = 0 from bulkF_0 S S.T 0 0]
        omega
    unfold f_X5_tryPacks_L10
    rw [hx.2.2.2.2.2.2.1, sh1 hT, if_neg (show ¬ nI (2 ^ S.T) ≤ nI i from nI_ge (by omega) (by omega)), bulk_x hn hB hx (by omega), bc_s, hx.2.2.2.2.2.2.2.1, nI_1]
    by_cases g1 : nI i &&& nI (mk S.inn S.T) = 0
    · rw [if_pos g1]
      by_cases g2 : bulkS S i ≤ roomS S
      · rw [if_neg (show ¬ nI (roomS S) < nI (bulkS S i) from nI_nlt g2 (by omega))]
        obtain ⟨σ1, a1, a2, a3⟩ := ofK hB (show i < 256 by omega) (decide_eq_true ⟨g1, g2⟩) hc
        rw [a1, bc_s]
        exact step σ1 a2 (FrU.ch a3)
      · rw [if_pos (show nI (roomS S) < nI (bulkS S i) from nI_lt (by omega) (by omega))]
        have ho : okP S i = false := decide_eq_false fun q => g2 q.2
        exact step σ (hc.no (Nat.pos_of_ne_zero fun q => by rw [h0 q] at ho; exact absurd ho (by decide)) ho) (FrU.rf σ)
    · rw [if_neg g1]
      have ho : okP S i = false := decide_eq_false fun q => g1 q.1
      exact step σ (hc.no (Nat.pos_of_ne_zero fun q => by rw [h0 q] at ho; exact absurd ho (by decide)) ho) (FrU.rf σ)
theorem pack_x (hn : 600 < n) (hB : SkB S) (hx : SkX 0 S σ) (h0 : σ 3 0 2 = -1) : ∃ σ', f_X5_tryPacks n σ = some ((), σ') ∧ σ' 3 0 2 = nI (pkP S (2 ^ S.T)) ∧ σ' 3 0 0 = -(nI (bulkS S (pkP S (2 ^ S.T)))) ∧ FrU σ σ' := by
  have hT := hB.2.2.2.2.2.2.1
  have hp := p8 hT
  have hp0 : 0 < 2 ^ S.T := Nat.two_pow_pos _
  unfold f_X5_tryPacks
  rw [room_x hB hx, bc_s]
  obtain ⟨σ', a1, a2, a3⟩ := packL_x hn hB (2 ^ S.T) 0 n σ hx ⟨fun _ => h0, fun q => by omega⟩ (by omega) (by omega)
  exact ⟨σ', a1, (a2.2 hp0).1, (a2.2 hp0).2.1, a3⟩
theorem packL_m (hn : 600 < n) (hB : SkB S) (hm : SkM S μ) : ∀ (m i f : Nat), 0 < i → i + m = 2 ^ S.T → m < f → f_X6_packed_L15 n f μ (nI (pkP S i)) (nI (mk S.inn S.T)) (nI (roomS S)) (nI i) = some (nI (pkP S (2 ^ S.T)), μ)
  | m, i, 0, _, _, h => by omega
  | 0, i, f + 1, hi, he, _ => by
    have hT := hB.2.2.2.2.2.2.1
    have hp := p8 hT
    unfold f_X6_packed_L15
    rw [hm.2.2.2.2.2.2.1, sh1 hT, if_pos (nI_le (show 2 ^ S.T ≤ i by omega) (by omega)), show i = 2 ^ S.T by omega]
  | m + 1, i, f + 1, hi, he, hk => by
    have hT := hB.2.2.2.2.2.2.1
    have hp := p8 hT
    have hb := bulkS_b hB i
    have hb2 := bulkS_b hB (pkP S i)
    have hl := pkP_lt S i hi
    have hro : roomS S ≤ 999 := by have := hB.2.1; unfold roomS; omega
    have ih := packL_m hn hB hm m (i + 1) f (by omega) (by omega) (by omega)
    have un : pkP S (i + 1) = if okP S i && decide (bulkS S (pkP S i) < bulkS S i) then i else pkP S i := rfl
    unfold f_X6_packed_L15
    rw [hm.2.2.2.2.2.2.1, sh1 hT, if_neg (show ¬ nI (2 ^ S.T) ≤ nI i from nI_ge (by omega) (by omega)), bulk_m hn hB hm (by omega), bc_s, bulk_m hn hB hm (by omega), bc_s, bulk_m hn hB hm (by omega), bc_s, nI_1]
    by_cases g1 : nI i &&& nI (mk S.inn S.T) = 0
    · rw [if_pos g1]
      by_cases g2 : bulkS S i ≤ roomS S
      · rw [if_neg (show ¬ nI (roomS S) < nI (bulkS S i) from nI_nlt g2 (by omega))]
        have ho : okP S i = true := decide_eq_true ⟨g1, g2⟩
        by_cases g3 : bulkS S (pkP S i) < bulkS S i
        · rw [if_neg (show ¬ nI (bulkS S i) ≤ nI (bulkS S (pkP S i)) from nI_ge g3 (by omega))]
          rw [un, ho, decide_eq_true g3, if_pos (by decide)] at ih
          exact ih
        · rw [if_pos (show nI (bulkS S i) ≤ nI (bulkS S (pkP S i)) from nI_le (by omega) (by omega))]
          rw [un, ho, decide_eq_false g3, if_neg (by decide)] at ih
          exact ih
      · rw [if_pos (show nI (roomS S) < nI (bulkS S i) from nI_lt (by omega) (by omega))]
        rw [un, show okP S i = false from decide_eq_false fun q => g2 q.2, Bool.false_and, if_neg (by decide)] at ih
        exact ih
    · rw [if_neg g1]
      rw [un, show okP S i = false from decide_eq_false fun q => g1 q.1, Bool.false_and, if_neg (by decide)] at ih
      exact ih
theorem pack_m (hn : 600 < n) (hB : SkB S) (hm : SkM S μ) : f_X6_packed n μ = some (nI (pkP S (2 ^ S.T)), μ) := by
  have hT := hB.2.2.2.2.2.2.1
  have hp := p8 hT
  have hp0 : 0 < 2 ^ S.T := Nat.two_pow_pos _
  unfold f_X6_packed
  rw [ins_m hn hB hm, bc_s, room_m hB hm, bc_s]
  have h := packL_m hn hB hm (2 ^ S.T - 1) 1 n (by omega) (by omega) (by omega)
  rw [pkP_1] at h
  exact h
/-! delays -/
def delS (S : Sk) (v : Nat) : Sk := upS S 0 0 (S.nt + v)
def deF (V : Tx) (S : Sk) (v : Nat) : Int32 := nI (leftS (goS V 0 7 (delS S v)).1)
def deG (_ : Nat) : Int32 := 0
theorem delS_B (hB : SkB S) (hN : S.nt ≤ 999) {v : Nat} (hv : v ≤ 7) : SkB (delS S v) := hB.up (show _ ≤ 1100 by omega)
theorem delS_nt (v : Nat) : (delS S v).nt = S.nt + v := upS_at _ _ _ _
theorem delL_x (hn : 600 < n) (hR : RuX n V C) (hB : SkB S) (hN : S.nt ≤ 999) (hr : S.ru < C) : ∀ (m i f : Nat) (σ : Gm), SkX 0 S σ → TxX V C σ → ChA (deF V S) deG i σ → i + m = 8 → m < f → ∃ σ', f_X5_tryDelays_L9 n f σ (nI i) = some ((), σ') ∧ ChA (deF V S) deG 8 σ' ∧ FrU σ σ'
  | m, i, 0, _, _, _, _, _, h => by omega
  | 0, i, f + 1, σ, hx, _, hc, he, _ => by
    unfold f_X5_tryDelays_L9
    rw [if_pos (show (7 : Int32) < nI i from nI_lt (show 7 < i by omega) (by omega))]
    exact ⟨σ, rfl, by rw [show 8 = i by omega]; exact hc, FrU.rf σ⟩
  | m + 1, i, f + 1, σ, hx, hT, hc, he, hk => by
    unfold f_X5_tryDelays_L9
    rw [if_neg (show ¬ (7 : Int32) < nI i from nI_nlt (show i ≤ 7 by omega) (by decide))]
    obtain ⟨σ1, a1, a2, a3⟩ := as_x (k := 2) (k1 := 0) (by decide) hB hx
    have u1 : FrU σ σ1 := FrU.as a3 (by decide)
    rw [a1, bc_s, bv_e, a2.1, nI_add]
    let σ2 : Gm := up3 σ1 13 2 5 (nI (S.nt + i))
    have u2 : FrU σ σ2 := u1.tr (FrU.up (by decide))
    have hx2 : SkX 2 (delS S i) σ2 := a2.up5 (j := 0) (by decide)
    have hB2 := delS_B hB hN (show i ≤ 7 by omega)
    have hnt := delS_nt (S := S) i
    obtain ⟨σ3, b1, b2, b3⟩ := go_x (x := 0) (D := 7) hn hR (by decide) hB2 hx2 (u2.tx hT) (show (delS S i).ru < C from by rw [show (delS S i).ru = S.ru from upS_of (by omega)]; exact hr) (by omega)
    have u3 : FrU σ σ3 := u2.tr (b3.U (by decide))
    have hB3 : SkB (goS V 0 7 (delS S i)).1 := goF_B 7 0 _ 0 hB2 (by omega)
    rw [show f_X3_passAll n 2 σ2 (7 : Int32) (0 : Int32) = _ from b1, bc_s, left_x hn hB3 b2, bc_s]
    obtain ⟨σ4, c1, c2, c3⟩ := ofA (show i < 2 ^ 31 by omega) (hc.fr (σ' := σ3) fun j => (b3 3 0 j (by omega)).trans ((up3_of (by omega)).trans (a3 3 0 j (by omega))))
    have u4 : FrU σ σ4 := u3.tr (FrU.ch c3)
    rw [show f_X0_offer σ3 (nI (leftS (goS V 0 7 (delS S i)).1)) (0 : Int32) (nI i) = _ from c1, bc_s, nI_1]
    obtain ⟨σ', d1, d2, d3⟩ := delL_x hn hR hB hN hr m (i + 1) f σ4 (u4.sk hx) (u4.tx hT) c2 (by omega) (by omega)
    exact ⟨σ', d1, d2, u4.tr d3⟩
theorem delL_m (hn : 600 < n) (hB : SkB S) (hN : S.nt ≤ 999) (hr : S.ru < C) (x0 : Int32) : ∀ (m i f : Nat) (μ : Wm), SkM S μ → AsM S μ → TxM n V C μ → i + m = 8 → m < f → ∃ μ', f_X6_lateBy_L13 n f μ x0 (if i = 0 then -1 else nI (amI (deF V S) deG i)) (if i = 0 then 1000000 else deF V S (amI (deF V S) deG i)) (nI i) = (if x0 = (2 : Int32) then some (nI (amI (deF V S) deG 8), μ') else some (deF V S (amI (deF V S) deG 8), μ')) ∧ SkM S μ' ∧ FcM μ μ'
  | m, i, 0, _, _, _, _, _, h => by omega
  | 0, i, f + 1, μ, hm, ha, hT, he, _ => by
    unfold f_X6_lateBy_L13
    rw [if_pos (show (8 : Int32) ≤ nI i from nI_le (show 8 ≤ i by omega) (by omega)), if_neg (show ¬ i = 0 by omega), if_neg (show ¬ i = 0 by omega), show i = 8 by omega]
    exact ⟨μ, rfl, hm, fun _ _ _ _ => rfl⟩
  | m + 1, i, f + 1, μ, hm, ha, hT, he, hk => by
    unfold f_X6_lateBy_L13
    rw [if_neg (show ¬ (8 : Int32) ≤ nI i from nI_ge (show i < 8 by omega) (by decide)), bv_e, hm.1, nI_add]
    let μ1 : Wm := (up3 μ.1 7 0 0 (nI (S.nt + i)), μ.2)
    have hm1 : SkM (delS S i) μ1 := hm.up7 (j := 0) (by decide)
    have f1 : ∀ c k j, ¬ (c = 7 ∧ k = 0) → μ1.1 c k j = μ.1 c k j := fun c k j q => u1_of (by omega)
    have hB2 := delS_B hB hN (show i ≤ 7 by omega)
    have hnt := delS_nt (S := S) i
    obtain ⟨μ2, b1, b2, b3⟩ := go_m (x := 0) (D := 7) hn (by decide) hB2 hm1 (hT.of fun c k j q => f1 c k j (by omega)) (show (delS S i).ru < C from by rw [show (delS S i).ru = S.ru from upS_of (by omega)]; exact hr) (by omega)
    have hB3 : SkB (goS V 0 7 (delS S i)).1 := goF_B 7 0 _ 0 hB2 (by omega)
    have ha2 : AsM S μ2 := ⟨fun x hx => (b3 27 0 x (by omega)).trans ((f1 27 0 x (by omega)).trans (ha.1 x hx)), fun l hl => (b3 28 0 l (by omega)).trans ((f1 28 0 l (by omega)).trans (ha.2 l hl))⟩
    have hE : SkE S (goS V 0 7 (delS S i)).1 := fun c j p q => (goS_E (V := V) (x := 0) (D := 7) (S := delS S i) c j p q).trans (upS_of (by omega))
    obtain ⟨μ3, c1, c2, c3⟩ := back_m hn hB ha2 b2 hE
    have ha3 : AsM S μ3 := ⟨fun x hx => (c3 27 0 x (by omega)).trans (ha2.1 x hx), fun l hl => (c3 28 0 l (by omega)).trans (ha2.2 l hl)⟩
    have fr : ∀ c k j, ¬ ((c = 0 ∧ k = 0 ∧ 12 ≤ j ∧ j ≤ 26) ∨ ((c = 7 ∨ c = 8 ∨ c = 9) ∧ k = 0)) → μ3.1 c k j = μ.1 c k j := fun c k j q => (c3 c k j (by omega)).trans ((b3 c k j (by omega)).trans (f1 c k j (by omega)))
    have hT3 : TxM n V C μ3 := hT.of fun c k j q => fr c k j (by omega)
    obtain ⟨μ', d1, d2, d3⟩ := delL_m hn hB hN hr x0 m (i + 1) f μ3 c2 ha3 hT3 (by omega) (by omega)
    rw [if_neg (show ¬ i + 1 = 0 by omega), if_neg (show ¬ i + 1 = 0 by omega)] at d1
    refine ⟨μ', ?_, d2, fun c k j q => (d3 c k j q).trans (fr c k j (by omega))⟩
    rw [show f_X6_go n (up3 μ.1 7 0 0 (nI (S.nt + i)), μ.2) (7 : Int32) (0 : Int32) = _ from b1, bc_s, left_m hn hB3 b2, bc_s, c1, bc_s, nI_1]
    rw [show nI (leftS (goS V 0 7 (delS S i)).1) = deF V S i from rfl]
    rcases (show i = 0 ∨ 0 < i by omega) with rfl | hi
    · have hlt : ¬ (1000000 : Int32) ≤ deF V S 0 := nI_ge (show leftS _ < 1000000 from by have := left_b hB3; omega) (by decide)
      rw [if_pos rfl, if_pos rfl, if_neg hlt]
      rw [amI_1] at d1
      exact d1
    · rw [if_neg (show ¬ i = 0 by omega), if_neg (show ¬ i = 0 by omega)]
      have up : lsI (deF V S) deG i (amI (deF V S) deG i) = true → amI (deF V S) deG (i + 1) = i := fun q => if_pos q
      have st : lsI (deF V S) deG i (amI (deF V S) deG i) = false → amI (deF V S) deG (i + 1) = amI (deF V S) deG i := fun q => if_neg (by rw [q]; decide)
      by_cases e1 : deF V S (amI (deF V S) deG i) ≤ deF V S i
      · rw [if_pos e1]
        rw [st (decide_eq_false (fun q => q.elim (fun q => by have := Int32.lt_iff_toInt_lt.mp q; have := Int32.le_iff_toInt_le.mp e1; omega) (fun q => i_irr 0 q.2)))] at d1
        exact d1
      · rw [if_neg e1]
        rw [up (decide_eq_true (Or.inl (Int32.lt_iff_toInt_lt.mpr (by have : ¬ (deF V S (amI (deF V S) deG i)).toInt ≤ (deF V S i).toInt := fun q => e1 (Int32.le_iff_toInt_le.mpr q); omega))))] at d1
        exact d1
/-! throwers -/
def twF (V : Tx) (S : Sk) (p : Nat) : Int32 := -(throwsS V S p false)
theorem tw_t (hB : SkB S) (p : Nat) : (twF V S p).toInt = -(throwsS V S p false).toInt := by
  have h := thr_b (V := V) hB p false
  unfold twF
  rw [Int32.toInt_neg]
  apply Int.bmod_eq_of_le <;> omega
theorem twL_x (hR : RuX n V C) (hB : SkB S) (hr : S.ru < C) : ∀ (m i f : Nat) (σ : Gm), SkX 0 S σ → TxX V C σ → ChA (twF V S) deG i σ → i + m = S.P → m < f → ∃ σ', f_X5_tryThrowers_L2 n f σ (nI i) = some ((), σ') ∧ ChA (twF V S) deG S.P σ' ∧ FrU σ σ' ∧ (m = 0 → σ' = σ)
  | m, i, 0, _, _, _, _, _, h => by omega
  | 0, i, f + 1, σ, hx, _, hc, he, _ => by
    have hP := hB.2.2.2.2.2.2.2.1
    unfold f_X5_tryThrowers_L2
    rw [hx.2.2.2.2.2.2.2.2.1, if_pos (nI_le (show S.P ≤ i by omega) (by omega))]
    exact ⟨σ, rfl, by rw [show S.P = i by omega]; exact hc, FrU.rf σ, fun _ => rfl⟩
  | m + 1, i, f + 1, σ, hx, hT, hc, he, hk => by
    have hP := hB.2.2.2.2.2.2.2.1
    unfold f_X5_tryThrowers_L2
    rw [hx.2.2.2.2.2.2.2.2.1, if_neg (show ¬ nI S.P ≤ nI i from nI_ge (by omega) (by omega))]
    obtain ⟨σ1, a1, a2⟩ := throws_x hR hB hx hT hr (show i < S.P by omega) false
    rw [show f_X3_throwing n 0 σ (nI i) (0 : Int32) = _ from a1, bc_s]
    obtain ⟨σ2, c1, c2, c3⟩ := ofA (show i < 2 ^ 31 by omega) (hc.fr (σ' := σ1) fun j => a2 3 0 j (by omega))
    have u2 : FrU σ σ2 := a2.U.tr (FrU.ch c3)
    rw [show f_X0_offer σ1 (-(throwsS V S i false)) (0 : Int32) (nI i) = _ from c1, bc_s, nI_1]
    obtain ⟨σ', d1, d2, d3, -⟩ := twL_x hR hB hr m (i + 1) f σ2 (u2.sk hx) (u2.tx hT) c2 (by omega) (by omega)
    exact ⟨σ', d1, d2, u2.tr d3, fun q => by omega⟩
theorem twL_m (hB : SkB S) (hr : S.ru < C) (x0 : Int32) : ∀ (m i f : Nat) (μ : Wm), SkM S μ → TxM n V C μ → i + m = S.P → m < f → ∃ μ', f_X6_mostBy_L7 n f μ x0 (if i = 0 then -1 else nI (amI (twF V S) deG i)) (if i = 0 then 0 else -(twF V S (amI (twF V S) deG i))) (nI i) = (if x0 = (4 : Int32) then some (if S.P = 0 then -1 else nI (amI (twF V S) deG S.P), μ') else some (if S.P = 0 then 0 else -(twF V S (amI (twF V S) deG S.P)), μ')) ∧ FrW μ μ'
  | m, i, 0, _, _, _, _, h => by omega
  | 0, i, f + 1, μ, hm, hT, he, _ => by
    have hP := hB.2.2.2.2.2.2.2.1
    unfold f_X6_mostBy_L7
    rw [hm.2.2.2.2.2.2.2.1, if_pos (nI_le (show S.P ≤ i by omega) (by omega)), show i = S.P by omega]
    exact ⟨μ, rfl, FrW.rf μ⟩
  | m + 1, i, f + 1, μ, hm, hT, he, hk => by
    have hP := hB.2.2.2.2.2.2.2.1
    unfold f_X6_mostBy_L7
    rw [hm.2.2.2.2.2.2.2.1, if_neg (show ¬ nI S.P ≤ nI i from nI_ge (by omega) (by omega))]
    obtain ⟨μ1, a1, a2⟩ := throws_m hB hm hT hr (show i < S.P by omega) false
    obtain ⟨μ', d1, d3⟩ := twL_m hB hr x0 m (i + 1) f μ1 (hm.fr a2) (hT.fr a2) (by omega) (by omega)
    rw [if_neg (show ¬ i + 1 = 0 by omega), if_neg (show ¬ i + 1 = 0 by omega)] at d1
    refine ⟨μ', ?_, a2.tr d3⟩
    have eT : throwsS V S i false = -(twF V S i) := (Int32.neg_neg).symm
    rw [show f_X6_throwsOf n μ (nI i) (0 : Int32) = _ from a1, bc_s, nI_1, eT]
    rcases (show i = 0 ∨ 0 < i by omega) with rfl | hi
    · rw [if_pos rfl]
      rw [amI_1] at d1
      exact d1
    · rw [if_neg (show ¬ i = 0 by omega), if_neg (show ¬ i = 0 by omega)]
      have hal := amI_lt (twF V S) deG i hi
      rw [if_neg (show ¬ nI (amI (twF V S) deG i) = (-1 : Int32) from fun q => by
        have := congrArg Int32.toInt q
        rw [nI_toInt (by omega), show (-1 : Int32).toInt = -1 by decide] at this
        omega)]
      have up : lsI (twF V S) deG i (amI (twF V S) deG i) = true → amI (twF V S) deG (i + 1) = i := fun q => if_pos q
      have st : lsI (twF V S) deG i (amI (twF V S) deG i) = false → amI (twF V S) deG (i + 1) = amI (twF V S) deG i := fun q => if_neg (by rw [q]; decide)
      have t1 := tw_t (V := V) hB i
      have t2 := tw_t (V := V) hB (amI (twF V S) deG i)
      have hle : -(twF V S i) ≤ -(twF V S (amI (twF V S) deG i)) ↔ (twF V S (amI (twF V S) deG i)).toInt ≤ (twF V S i).toInt := by
        rw [show -(twF V S i) = throwsS V S i false from Int32.neg_neg, show -(twF V S (amI (twF V S) deG i)) = throwsS V S (amI (twF V S) deG i) false from Int32.neg_neg, Int32.le_iff_toInt_le]
        omega
      by_cases e1 : -(twF V S i) ≤ -(twF V S (amI (twF V S) deG i))
      · rw [if_pos e1]
        have e2 := hle.mp e1
        rw [st (decide_eq_false (fun q => q.elim (fun q => by have := Int32.lt_iff_toInt_lt.mp q; omega) (fun q => i_irr 0 q.2)))] at d1
        exact d1
      · rw [if_neg e1]
        rw [up (decide_eq_true (Or.inl (Int32.lt_iff_toInt_lt.mpr (by have : ¬ (twF V S (amI (twF V S) deG i)).toInt ≤ (twF V S i).toInt := fun q => e1 (hle.mpr q); omega))))] at d1
        exact d1
theorem best_s (hn : 600 < n) (hR : RuX n V C) (h : Re n V C S z b σ μ) (a1 : Int32) : Go n V C z b σ μ (f_X5_best n σ a1) (f_X6_best n μ a1) := by
  obtain ⟨hB, hN, hx, hm, TX, TM, cx, cm, hC, hr, -⟩ := id h
  have hP := hB.2.2.2.2.2.2.2.1
  unfold f_X5_best f_X6_best
  rcases rng a1 (lo := 0) (hi := 5) (by decide) (by decide) with ⟨w, -, hw, rfl, g4, g5⟩ | ⟨hno, -, g5⟩
  case inr =>
    obtain ⟨σ1, p1, -, p3, -⟩ := begin_x deG deG σ
    rw [p1, bc_s, show f_X6_in μ a1.toInt64 (0 : Int64) (5 : Int64) = _ from g5 μ, bc_s, if_pos rfl, if_neg (show ¬ a1 = (0 : Int32) from fun q => hno ⟨0, by omega, by omega, q⟩), if_neg (show ¬ a1 = (1 : Int32) from fun q => hno ⟨1, by omega, by omega, q⟩), if_neg (show ¬ a1 = (2 : Int32) from fun q => hno ⟨2, by omega, by omega, q⟩), if_neg (show ¬ a1 = (3 : Int32) from fun q => hno ⟨3, by omega, by omega, q⟩), if_neg (show ¬ a1 = (4 : Int32) from fun q => hno ⟨4, by omega, by omega, q⟩), if_neg (show ¬ a1 = (5 : Int32) from fun q => hno ⟨5, by omega, by omega, q⟩)]
    exact Go.fin h _ rfl rfl (FrU.ch p3) hm (fun _ _ _ _ => rfl)
  rw [show f_X6_in μ (nI w).toInt64 (0 : Int64) (5 : Int64) = _ from g5 μ, bc_s, if_neg (show ¬ (1 : Int32) = 0 by decide)]
  have pk := pack_m hn hB hm
  have bk := bulk_m hn hB hm (show pkP S (2 ^ S.T) < 256 from by
    have h1 := pkP_lt S (2 ^ S.T) (Nat.two_pow_pos _)
    have h2 := p8 hB.2.2.2.2.2.2.1
    omega)
  rcases (show w = 0 ∨ w = 1 ∨ w = 2 ∨ w = 3 ∨ w = 4 ∨ w = 5 by omega) with rfl | rfl | rfl | rfl | rfl | rfl
  · obtain ⟨σ1, p1, -, p3, -, -, p4⟩ := begin_x deG deG σ
    obtain ⟨σ2, q1, q2, q3, q4⟩ := pack_x hn hB ((FrU.ch p3).sk hx) p4
    rw [p1, bc_s, if_pos (show nI 0 = (0 : Int32) from rfl), if_pos (show nI 0 = (0 : Int32) from rfl), q1, bc_s, pk, bc_s, q2]
    exact Go.fin h _ rfl rfl ((FrU.ch p3).tr q4) hm (fun _ _ _ _ => rfl)
  · obtain ⟨σ1, p1, -, p3, -, -, p4⟩ := begin_x deG deG σ
    obtain ⟨σ2, q1, q2, q3, q4⟩ := pack_x hn hB ((FrU.ch p3).sk hx) p4
    rw [p1, bc_s, if_neg (show ¬ nI 1 = (0 : Int32) by decide), if_neg (show ¬ nI 1 = (0 : Int32) by decide), if_pos (show nI 1 = (1 : Int32) from rfl), if_pos (show nI 1 = (1 : Int32) from rfl), q1, bc_s, pk, bc_s, bk, bc_s, q3, Int32.neg_neg]
    exact Go.fin h _ rfl rfl ((FrU.ch p3).tr q4) hm (fun _ _ _ _ => rfl)
  · obtain ⟨σ1, p1, p2, p3, -⟩ := begin_x (deF V S) deG σ
    obtain ⟨σ2, q1, q2, q3⟩ := delL_x hn hR hB hN hr 8 0 n σ1 ((FrU.ch p3).sk hx) ((FrU.ch p3).tx TX) p2 (by omega) (by omega)
    obtain ⟨μ1, r1, r2, r3⟩ := aside_m hn hB hm
    obtain ⟨μ2, t1, t2, t3⟩ := delL_m (V := V) hn hB hN hr (nI 2) 8 0 n μ1 (hm.fr' fun c k j w => r3 c k j (by omega)) r2 (TM.of fun c k j w => r3 c k j (by omega)) (by omega) (by omega)
    rw [if_pos rfl, if_pos rfl, if_pos (show nI 2 = (2 : Int32) from rfl)] at t1
    unfold f_X5_tryDelays f_X6_lateBy
    rw [p1, bc_s, if_neg (show ¬ nI 2 = (0 : Int32) by decide), if_neg (show ¬ nI 2 = (0 : Int32) by decide), if_neg (show ¬ nI 2 = (1 : Int32) by decide), if_neg (show ¬ nI 2 = (1 : Int32) by decide), if_pos (show nI 2 = (2 : Int32) from rfl), if_neg (show ¬ (4 : Int32) ≤ nI 2 by decide), show f_X5_tryDelays_L9 n n σ1 (0 : Int32) = _ from q1, bc_s, r1, bc_s, show f_X6_lateBy_L13 n n μ1 (nI 2) (-1 : Int32) (1000000 : Int32) (0 : Int32) = _ from t1, bc_s, (q2.2 (by decide)).1]
    exact Go.fin h _ rfl rfl ((FrU.ch p3).tr q3) t2 (fun c k j w => (t3 c k j w).trans (r3 c k j (by omega)))
  · obtain ⟨σ1, p1, p2, p3, -⟩ := begin_x (deF V S) deG σ
    obtain ⟨σ2, q1, q2, q3⟩ := delL_x hn hR hB hN hr 8 0 n σ1 ((FrU.ch p3).sk hx) ((FrU.ch p3).tx TX) p2 (by omega) (by omega)
    obtain ⟨μ1, r1, r2, r3⟩ := aside_m hn hB hm
    obtain ⟨μ2, t1, t2, t3⟩ := delL_m (V := V) hn hB hN hr (nI 3) 8 0 n μ1 (hm.fr' fun c k j w => r3 c k j (by omega)) r2 (TM.of fun c k j w => r3 c k j (by omega)) (by omega) (by omega)
    rw [if_pos rfl, if_pos rfl, if_neg (show ¬ nI 3 = (2 : Int32) by decide)] at t1
    unfold f_X5_tryDelays f_X6_lateBy
    rw [p1, bc_s, if_neg (show ¬ nI 3 = (0 : Int32) by decide), if_neg (show ¬ nI 3 = (0 : Int32) by decide), if_neg (show ¬ nI 3 = (1 : Int32) by decide), if_neg (show ¬ nI 3 = (1 : Int32) by decide), if_neg (show ¬ nI 3 = (2 : Int32) by decide), if_pos (show nI 3 = (3 : Int32) from rfl), if_neg (show ¬ (4 : Int32) ≤ nI 3 by decide), show f_X5_tryDelays_L9 n n σ1 (0 : Int32) = _ from q1, bc_s, r1, bc_s, show f_X6_lateBy_L13 n n μ1 (nI 3) (-1 : Int32) (1000000 : Int32) (0 : Int32) = _ from t1, bc_s, (q2.2 (by decide)).2.1]
    exact Go.fin h _ rfl rfl ((FrU.ch p3).tr q3) t2 (fun c k j w => (t3 c k j w).trans (r3 c k j (by omega)))
  · obtain ⟨σ1, p1, p2, p3, p4, -⟩ := begin_x (twF V S) deG σ
    obtain ⟨σ2, q1, q2, q3, q4⟩ := twL_x hR hB hr S.P 0 n σ1 ((FrU.ch p3).sk hx) ((FrU.ch p3).tx TX) p2 (by omega) (by omega)
    obtain ⟨μ2, t1, t2⟩ := twL_m (V := V) hB hr (nI 4) S.P 0 n μ hm TM (by omega) (by omega)
    rw [if_pos rfl, if_pos rfl, if_pos (show nI 4 = (4 : Int32) from rfl)] at t1
    unfold f_X5_tryThrowers f_X6_mostBy
    rw [p1, bc_s, if_neg (show ¬ nI 4 = (0 : Int32) by decide), if_neg (show ¬ nI 4 = (0 : Int32) by decide), if_neg (show ¬ nI 4 = (1 : Int32) by decide), if_neg (show ¬ nI 4 = (1 : Int32) by decide), if_neg (show ¬ nI 4 = (2 : Int32) by decide), if_neg (show ¬ nI 4 = (3 : Int32) by decide), if_pos (show nI 4 = (4 : Int32) from rfl), if_pos (show (4 : Int32) ≤ nI 4 by decide), show f_X5_tryThrowers_L2 n n σ1 (0 : Int32) = _ from q1, bc_s, show f_X6_mostBy_L7 n n μ (nI 4) (-1 : Int32) (0 : Int32) (0 : Int32) = _ from t1, bc_s]
    have e : σ2 3 0 2 = if S.P = 0 then -1 else nI (amI (twF V S) deG S.P) := by
      by_cases g : S.P = 0
      · rw [if_pos g]
        exact q2.1 g
      · rw [if_neg g]
        exact (q2.2 (by omega)).1
    rw [e]
    exact Go.fin h _ rfl rfl ((FrU.ch p3).tr q3) (hm.fr t2) (fun c k j w => t2 c k j (by omega))
  · obtain ⟨σ1, p1, p2, p3, p4, -⟩ := begin_x (twF V S) deG σ
    obtain ⟨σ2, q1, q2, q3, q4⟩ := twL_x hR hB hr S.P 0 n σ1 ((FrU.ch p3).sk hx) ((FrU.ch p3).tx TX) p2 (by omega) (by omega)
    obtain ⟨μ2, t1, t2⟩ := twL_m (V := V) hB hr (nI 5) S.P 0 n μ hm TM (by omega) (by omega)
    rw [if_pos rfl, if_pos rfl, if_neg (show ¬ nI 5 = (4 : Int32) by decide)] at t1
    unfold f_X5_tryThrowers f_X6_mostBy
    rw [p1, bc_s, if_neg (show ¬ nI 5 = (0 : Int32) by decide), if_neg (show ¬ nI 5 = (0 : Int32) by decide), if_neg (show ¬ nI 5 = (1 : Int32) by decide), if_neg (show ¬ nI 5 = (1 : Int32) by decide), if_neg (show ¬ nI 5 = (2 : Int32) by decide), if_neg (show ¬ nI 5 = (3 : Int32) by decide), if_neg (show ¬ nI 5 = (4 : Int32) by decide), if_pos (show nI 5 = (5 : Int32) from rfl), if_pos (show (4 : Int32) ≤ nI 5 by decide), show f_X5_tryThrowers_L2 n n σ1 (0 : Int32) = _ from q1, bc_s, show f_X6_mostBy_L7 n n μ (nI 5) (-1 : Int32) (0 : Int32) (0 : Int32) = _ from t1, bc_s]
    have e : -(σ2 3 0 0) = if S.P = 0 then 0 else -(twF V S (amI (twF V S) deG S.P)) := by
      by_cases g : S.P = 0
      · rw [if_pos g, q4 g, p4]
        rfl
      · rw [if_neg g, (q2.2 (by omega)).2.1]
    rw [e]
    exact Go.fin h _ rfl rfl ((FrU.ch p3).tr q3) (hm.fr t2) (fun c k j w => t2 c k j (by omega))
end K

/-! a skip, the class's side -/
/-- bits of a mask -/
def mk (f : Nat → Nat) : Nat → Nat
  | 0 => 0
  | T + 1 => mk f T + f T * 2 ^ T
theorem mk_lt {f : Nat → Nat} (h : ∀ i, f i ≤ 1) : ∀ T, mk f T < 2 ^ T
  | 0 => by unfold mk; decide
  | T + 1 => by
    have h1 := mk_lt h T
    have h2 : f T * 2 ^ T ≤ 1 * 2 ^ T := Nat.mul_le_mul_right _ (h T)
    unfold mk
    rw [Nat.pow_succ]
    omega
theorem mk_bit {f : Nat → Nat} (h : ∀ i, f i ≤ 1) : ∀ T i, i < T → mk f T / 2 ^ i % 2 = f i
  | 0, i, hi => by omega
  | T + 1, i, hi => by
    unfold mk
    by_cases e : i = T
    · subst e
      rw [Nat.mul_comm, Nat.add_mul_div_left _ _ (Nat.two_pow_pos i), Nat.div_eq_of_lt (mk_lt h i), Nat.zero_add]
      have := h i
      omega
    · have h1 := mk_bit h T i (by omega)
      have h2 : f T * 2 ^ T = 2 ^ i * (2 * (f T * 2 ^ (T - i - 1))) := by
        have : 2 ^ T = 2 ^ i * (2 * 2 ^ (T - i - 1)) := by
          rw [Nat.mul_comm 2, ← Nat.pow_succ, ← Nat.pow_add]
          congr 1
          omega
        rw [this]
        generalize f T = a
        generalize 2 ^ i = x
        generalize 2 ^ (T - i - 1) = y
        rw [Nat.mul_left_comm, Nat.mul_left_comm a 2 y]
      rw [h2, Nat.add_mul_div_left _ _ (Nat.two_pow_pos i), Nat.add_mul_mod_self_left]
      exact h1
theorem mk_congr {f g : Nat → Nat} : ∀ T, (∀ j, j < T → g j = f j) → mk g T = mk f T
  | 0, _ => rfl
  | T + 1, h => by
    unfold mk
    rw [mk_congr T (fun j hj => h j (by omega)), h T (by omega)]
theorem mk_up {f g : Nat → Nat} {i : Nat} (h : ∀ j, ¬ j = i → g j = f j) (h1 : g i = 1) (h0 : f i = 0) : ∀ T, i < T → mk g T = mk f T + 2 ^ i
  | 0, hi => by omega
  | T + 1, hi => by
    unfold mk
    by_cases e : i = T
    · subst e
      rw [mk_congr i (fun j hj => h j (by omega)), h1, h0]
      omega
    · rw [mk_up h h1 h0 T (by omega), h T (by omega)]
      omega
theorem bt8 {M i : Nat} (hM : M < 256) (hi : i < 8) : (((nI M >>> (nI i &&& 31)) &&& (1 : Int32)) = (1 : Int32)) ↔ M / 2 ^ i % 2 = 1 := by
  have key : ∀ i, i < 8 → ∀ M, M < 256 → ((((nI M >>> (nI i &&& 31)) &&& (1 : Int32)) = (1 : Int32)) ↔ M / 2 ^ i % 2 = 1) := by decide +kernel
  exact key i hi M hM
theorem nb8 {M i : Nat} (hM : M < 256) (hi : i < 8) : ((((nI M ^^^ (-1 : Int32)) >>> (nI i &&& 31)) &&& (1 : Int32)) = (1 : Int32)) ↔ ¬ M / 2 ^ i % 2 = 1 := by
  have key : ∀ i, i < 8 → ∀ M, M < 256 → (((((nI M ^^^ (-1 : Int32)) >>> (nI i &&& 31)) &&& (1 : Int32)) = (1 : Int32)) ↔ ¬ M / 2 ^ i % 2 = 1) := by decide +kernel
  exact key i hi M hM
theorem or8 {M i : Nat} (hM : M < 256) (hi : i < 8) (h : ¬ M / 2 ^ i % 2 = 1) : nI M ||| ((1 : Int32) <<< (nI i &&& 31)) = nI (M + 2 ^ i) := by
  have key : ∀ i, i < 8 → ∀ M, M < 256 → (M / 2 ^ i % 2 = 1 ∨ nI M ||| ((1 : Int32) <<< (nI i &&& 31)) = nI (M + 2 ^ i)) := by decide +kernel
  exact (key i hi M hM).resolve_left h
theorem bd_wi {v lo hi : Int32} (h : lo ≤ hi) : (if lo < (if hi < v then hi else v) then (if hi < v then hi else v) else lo) = wi v lo hi := by
  unfold wi
  have h' := Int32.le_iff_toInt_le.mp h
  by_cases a : hi < v
  · have a' := Int32.lt_iff_toInt_lt.mp a
    rw [if_pos a, if_pos (show lo ≤ v from Int32.le_iff_toInt_le.mpr (by omega)), if_neg (show ¬ v ≤ hi from fun q => by have := Int32.le_iff_toInt_le.mp q; omega)]
    by_cases c : lo < hi
    · rw [if_pos c]
    · rw [if_neg c]
      apply Int32.toInt_inj.mp
      have : ¬ lo.toInt < hi.toInt := fun q => c (Int32.lt_iff_toInt_lt.mpr q)
      omega
  · have a' : ¬ hi.toInt < v.toInt := fun q => a (Int32.lt_iff_toInt_lt.mpr q)
    rw [if_neg a]
    by_cases c : lo < v
    · have c' := Int32.lt_iff_toInt_lt.mp c
      rw [if_pos c, if_pos (show lo ≤ v from Int32.le_iff_toInt_le.mpr (by omega)), if_pos (show v ≤ hi from Int32.le_iff_toInt_le.mpr (by omega))]
    · have c' : ¬ lo.toInt < v.toInt := fun q => c (Int32.lt_iff_toInt_lt.mpr q)
      rw [if_neg c]
      by_cases d : lo ≤ v
      · have d' := Int32.le_iff_toInt_le.mp d
        rw [if_pos d, if_pos (show v ≤ hi from Int32.le_iff_toInt_le.mpr (by omega))]
        apply Int32.toInt_inj.mp
        omega
      · rw [if_neg d]
theorem mm_wi {v lo hi : Int32} (h : lo ≤ hi) : (if hi < (if v < lo then lo else v) then hi else (if v < lo then lo else v)) = wi v lo hi := by
  unfold wi
  have h' := Int32.le_iff_toInt_le.mp h
  by_cases a : v < lo
  · have a' := Int32.lt_iff_toInt_lt.mp a
    rw [if_pos a, if_neg (show ¬ lo ≤ v from fun q => by have := Int32.le_iff_toInt_le.mp q; omega), if_neg (show ¬ hi < lo from fun q => by have := Int32.lt_iff_toInt_lt.mp q; omega)]
  · have a' : ¬ v.toInt < lo.toInt := fun q => a (Int32.lt_iff_toInt_lt.mpr q)
    rw [if_neg a, if_pos (show lo ≤ v from Int32.le_iff_toInt_le.mpr (by omega))]
    by_cases c : hi < v
    · have c' := Int32.lt_iff_toInt_lt.mp c
      rw [if_pos c, if_neg (show ¬ v ≤ hi from fun q => by have := Int32.le_iff_toInt_le.mp q; omega)]
    · have c' : ¬ hi.toInt < v.toInt := fun q => c (Int32.lt_iff_toInt_lt.mpr q)
      rw [if_neg c, if_pos (show v ≤ hi from Int32.le_iff_toInt_le.mpr (by omega))]
theorem rm_x {s f : Nat} (hs : s ≤ 999) (hf : f ≤ 1998) : (if nI s - nI f < (0 : Int32) then (0 : Int32) else nI s - nI f) = nI (s - f) := by
  have h := wi_room hs hf
  unfold wi at h
  by_cases g : f ≤ s
  · rw [pk_sub g, if_neg (nI_pos (show s - f < 2 ^ 31 by omega))]
  · have hz : nI (s - f) = 0 := by rw [show s - f = 0 by omega]; rfl
    by_cases c : nI s - nI f < (0 : Int32)
    · rw [if_pos c, hz]
    · rw [if_neg c]
      have c' : ¬ (nI s - nI f).toInt < (0 : Int32).toInt := fun q => c (Int32.lt_iff_toInt_lt.mpr q)
      rw [if_pos (show (0 : Int32) ≤ nI s - nI f from Int32.le_iff_toInt_le.mpr (by omega))] at h
      by_cases d : nI s - nI f ≤ (999 : Int32)
      · rw [if_pos d] at h
        exact h
      · rw [if_neg d, hz] at h
        exact absurd h (by decide)
def SkX (k : Nat) (S : Sk) (σ : Gm) : Prop := σ 13 k 5 = nI S.nt ∧ σ 13 k 6 = nI S.sz ∧ σ 13 k 7 = nI S.lp ∧ σ 13 k 8 = nI S.mi ∧ σ 13 k 9 = nI S.th ∧ σ 13 k 10 = nI S.ru ∧ σ 13 k 11 = nI S.T ∧ σ 13 k 12 = nI (mk S.inn S.T) ∧ σ 13 k 13 = nI S.P ∧ σ 13 k 14 = nI (mk S.ak S.P) ∧ (∀ i, i < S.T → σ 14 k i = nI (S.bk i) ∧ σ 15 k i = nI (S.rd i)) ∧ (∀ p, p < S.P → σ 16 k p = nI (S.kd p) ∧ σ 17 k p = nI (S.nb p))
/-- only names and the stack change -/
def FrN (σ σ' : Gm) : Prop := ∀ c k j, ¬ ((c = 7 ∨ c = 8) ∧ k = 0) → σ' c k j = σ c k j
theorem FrN.rf (σ : Gm) : FrN σ σ := fun _ _ _ _ => rfl
theorem FrN.tr {a b c : Gm} (h : FrN a b) (g : FrN b c) : FrN a c := fun x y z q => (g x y z q).trans (h x y z q)
theorem FrN.up {σ : Gm} {c j : Nat} {v : Int32} (h : c = 7 ∨ c = 8) : FrN σ (up3 σ c 0 j v) := fun c' k' i q => up3_of (by omega)
theorem FrS.N {a b : Gm} (h : FrS a b) : FrN a b := fun c k j q => h c k j (by omega)
/-- days of skip k too -/
def FrX (kk : Nat) (σ σ' : Gm) : Prop := ∀ c k j, ¬ (((c = 7 ∨ c = 8) ∧ k = 0) ∨ (c = 13 ∧ k = kk)) → σ' c k j = σ c k j
theorem FrX.rf (kk : Nat) (σ : Gm) : FrX kk σ σ := fun _ _ _ _ => rfl
theorem FrX.tr {kk : Nat} {a b c : Gm} (h : FrX kk a b) (g : FrX kk b c) : FrX kk a c := fun x y z q => (g x y z q).trans (h x y z q)
theorem FrX.up {kk j : Nat} {σ : Gm} {v : Int32} : FrX kk σ (up3 σ 13 kk j v) := fun c' k' i q => up3_of (by omega)
theorem FrN.X {kk : Nat} {a b : Gm} (h : FrN a b) : FrX kk a b := fun c k j q => h c k j (by omega)
theorem SkX.fr {k : Nat} {S : Sk} {σ σ' : Gm} (h : SkX k S σ) (f : FrN σ σ') : SkX k S σ' := by
  obtain ⟨h1, h2, h3, h4, h5, h6, h7, h8, h9, h10, h11, h12⟩ := h
  exact ⟨(f _ _ _ (by omega)).trans h1, (f _ _ _ (by omega)).trans h2, (f _ _ _ (by omega)).trans h3, (f _ _ _ (by omega)).trans h4, (f _ _ _ (by omega)).trans h5, (f _ _ _ (by omega)).trans h6, (f _ _ _ (by omega)).trans h7, (f _ _ _ (by omega)).trans h8, (f _ _ _ (by omega)).trans h9, (f _ _ _ (by omega)).trans h10, fun i hi => ⟨(f _ _ _ (by omega)).trans (h11 i hi).1, (f _ _ _ (by omega)).trans (h11 i hi).2⟩, fun i hi => ⟨(f _ _ _ (by omega)).trans (h12 i hi).1, (f _ _ _ (by omega)).trans (h12 i hi).2⟩⟩
def TxX (V : Tx) (C : Nat) (σ : Gm) : Prop := ∀ t, t < C → ∃ m1 m2 m3, σ 12 t 0 = nI m1 ∧ σ 12 t 1 = nI m2 ∧ σ 12 t 2 = nI m3 ∧ m1 ≤ 160 ∧ m2 ≤ 160 ∧ m3 ≤ 160 ∧ ∀ ν : Nat → Int32, (∀ j, 6 ≤ j → ν j = 0) → Cd ν (σ 11 t) 0 m1 0 (V t 0 ν) ∧ Cd ν (σ 11 t) m1 m2 0 (V t 1 ν) ∧ Cd ν (σ 11 t) m2 m3 0 (V t 2 ν)
theorem TxX.fr {kk : Nat} {V : Tx} {C : Nat} {σ σ' : Gm} (h : TxX V C σ) (f : FrX kk σ σ') : TxX V C σ' := fun t ht => by
  obtain ⟨m1, m2, m3, a1, a2, a3, b1, b2, b3, hc⟩ := h t ht
  have e : σ' 11 t = σ 11 t := funext fun j => f _ _ _ (by omega)
  refine ⟨m1, m2, m3, (f _ _ _ (by omega)).trans a1, (f _ _ _ (by omega)).trans a2, (f _ _ _ (by omega)).trans a3, b1, b2, b3, fun ν hν => ?_⟩
  rw [e]
  exact hc ν hν
/-- the class's rule tells what sayS says -/
def RuX (n : Nat) (V : Tx) (C : Nat) : Prop := ∀ (k : Nat) (S : Sk) (σ : Gm) (p w : Nat), SkB S → SkX k S σ → TxX V C σ → S.ru < C → p < S.P → w < 3 → ∃ σ', f_X3_ruled n k σ (nI p) (nI w) = some (sayS V S w p, σ') ∧ FrN σ σ'
section K
variable {n C k : Nat} {V : Tx} {S : Sk} {σ : Gm}
theorem full_x (h : SkX k S σ) : f_X3_full k σ = some (nI (fullS S), σ) := by
  unfold f_X3_full
  rw [h.2.2.2.1, h.2.2.2.2.1, nI_add]
  rfl
theorem room_x (hB : SkB S) (h : SkX k S σ) : f_X3_room k σ = some (nI (roomS S), σ) := by
  unfold f_X3_room
  obtain ⟨b1, b2, b3, b4, b5, -⟩ := hB
  rw [full_x h, bc_s, h.2.1, rm_x b2 (show fullS S ≤ 1998 by unfold fullS; omega)]
  rfl
theorem mkA (hB : SkB S) : mk S.ak S.P < 256 := by
  have h := mk_lt (f := S.ak) (fun i => hB.2.2.2.2.2.2.2.2.2.2.2.2.2 i) S.P
  have h2 : 2 ^ S.P ≤ 2 ^ 5 := Nat.pow_le_pow_right (by omega) hB.2.2.2.2.2.2.2.1
  omega
theorem mkI (hB : SkB S) : mk S.inn S.T < 256 := by
  have h := mk_lt (f := S.inn) (fun i => hB.2.2.2.2.2.2.2.2.2.2.1 i) S.T
  have h2 : 2 ^ S.T ≤ 2 ^ 8 := Nat.pow_le_pow_right (by omega) hB.2.2.2.2.2.2.1
  omega
theorem ak_x (hB : SkB S) (h : SkX k S σ) {p : Nat} (hp : p < S.P) : f_X3_isAsked k σ (nI p) = some (if S.ak p = 1 then 1 else 0, σ) := by
  unfold f_X3_isAsked
  have hP : S.P ≤ 5 := hB.2.2.2.2.2.2.2.1
  rw [h.2.2.2.2.2.2.2.2.2.1]
  have e := bt8 (mkA hB) (show p < 8 by omega)
  rw [mk_bit (fun i => hB.2.2.2.2.2.2.2.2.2.2.2.2.2 i) S.P p hp] at e
  by_cases g : S.ak p = 1
  · rw [if_pos (e.mpr g), if_pos g]
  · rw [if_neg (fun q => g (e.mp q)), if_neg g]
theorem in_x (hB : SkB S) (h : SkX k S σ) {i : Nat} (hi : i < S.T) : f_X3_isIn k σ (nI i) = some (if S.inn i = 1 then 1 else 0, σ) := by
  unfold f_X3_isIn
  have hT : S.T ≤ 8 := hB.2.2.2.2.2.2.1
  rw [h.2.2.2.2.2.2.2.1]
  have e := bt8 (mkI hB) (show i < 8 by omega)
  rw [mk_bit (fun i => hB.2.2.2.2.2.2.2.2.2.2.1 i) S.T i hi] at e
  by_cases g : S.inn i = 1
  · rw [if_pos (e.mpr g), if_pos g]
  · rw [if_neg (fun q => g (e.mp q)), if_neg g]
end K

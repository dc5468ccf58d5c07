/-! a day and its night, the reference's side -/
section K
variable {n C : Nat} {V : Tx} {S : Sk} {μ : Wm}
def upI (v : Int32) : Int32 := wi v (-99) 99
def comesS (V : Tx) (S : Sk) (p : Nat) : Bool :=
  if S.kd p = 3 then true else if S.kd p = 5 then decide (S.nt % 3 = 0) else if S.kd p = 4 ∧ ¬ fullS S ≤ 50 then true else
  if sayS V S 1 p = 0 then false else if S.kd p = 0 then true else if S.kd p = 1 then decide (S.ak p = 1) else decide (S.lp = 0)
def thr2 (S : Sk) (p : Nat) (v a b : Int32) : Int32 := if S.kd p = 1 then wi b (-99) 99 else if S.kd p = 2 then wi (-v) (-99) 99 else if S.kd p = 3 then (if nI (S.nb p) ≤ b then wi (nI (S.nb p)) (-99) 99 else wi b (-99) 99) else if S.kd p = 4 then wi (-2 * v) (-99) 99 else wi a (-99) 99
def thr1 (S : Sk) (p : Nat) (v a : Int32) : Int32 := thr2 S p v a (if S.ak p = 0 then a else 2 * a)
def throwsS (V : Tx) (S : Sk) (p : Nat) (cov : Bool) : Int32 :=
  if S.kd p = 5 then nI (S.nb p) else if S.kd p = 4 ∧ S.nt % 2 = 1 then 0 else
  thr1 S p (sayS V S 0 p) (if cov then 0 else sayS V S 0 p)
def paysS (V : Tx) (S : Sk) (p : Nat) (m : Int32) : Int32 :=
  if S.kd p = 2 ∨ S.kd p = 4 ∨ S.kd p = 5 then (if S.kd p = 4 then nI (S.nb p) else 0) else
  (fun x => if S.kd p = 3 then x / 2 else x) (if S.ak p = 0 then 0 else sayS V S 2 p * m)
theorem ki (a b : Nat) (ha : a ≤ 5) (hb : b ≤ 5) : (nI a = nI b) ↔ a = b := nI_eq (by omega) (by omega)
theorem md3 (hB : SkB S) : (nI S.nt - nI S.nt / (3 : Int32) * (3 : Int32) = 0) ↔ S.nt % 3 = 0 := by
  have key : ∀ a, a < 1101 → ((nI a - nI a / (3 : Int32) * (3 : Int32) = 0) ↔ a % 3 = 0) := by decide +kernel
  exact key S.nt (by have := hB.1; omega)
theorem md2 (hB : SkB S) : (nI S.nt - nI S.nt / (2 : Int32) * (2 : Int32) = 1) ↔ S.nt % 2 = 1 := by
  have key : ∀ a, a < 1101 → ((nI a - nI a / (2 : Int32) * (2 : Int32) = 1) ↔ a % 2 = 1) := by decide +kernel
  exact key S.nt (by have := hB.1; omega)
theorem fr_m (h : SkM S μ) {p : Nat} (hp : p < S.P) : μ.1 9 0 (3 * p) = nI (S.nb p) ∧ μ.1 9 0 (3 * p + 1) = nI (S.ak p) ∧ μ.1 9 0 (3 * p + 2) = nI (S.kd p) := h.2.2.2.2.2.2.2.2.2 p hp
theorem kd_m (hB : SkB S) (h : SkM S μ) {p : Nat} (hp : p < S.P) {τ : Type} (f : Int32 → Option τ) : gd (inb (((3 : Int32) * nI p) + (2 : Int32)) 15) (bv (μ.1 9 0 (((3 : Int32) * nI p) + (2 : Int32)).toNatClampNeg) f) = f (nI (S.kd p)) := by
  have hP : S.P ≤ 5 := hB.2.2.2.2.2.2.2.1
  rw [x32, gd_h (inb_nI (show 3 * p + 2 < 15 by omega) (by decide)), nI_clamp (by omega), bv_e, (fr_m h hp).2.2]
theorem cm21 (hB : SkB S) (h : SkM S μ) {k : Nat} (hk : k ≤ 5) : f_X6_isComing_J21 n μ (nI k) = some (if k = 3 then 1 else if S.nt % 3 = 0 then 1 else 0, μ) := by
  unfold f_X6_isComing_J21
  rw [h.1]
  by_cases e : k = 3
  · rw [if_pos (show nI k = (3 : Int32) from (ki k 3 hk (by decide)).mpr e), if_pos e]
  · rw [if_neg (show ¬ nI k = (3 : Int32) from fun q => e ((ki k 3 hk (by decide)).mp q)), if_neg e]
    by_cases g : S.nt % 3 = 0
    · rw [if_pos ((md3 hB).mpr g), if_pos g]
    · rw [if_neg (fun q => g ((md3 hB).mp q)), if_neg g]
theorem cm73 (hB : SkB S) (h : SkM S μ) {p k : Nat} (hp : p < S.P) (hk : k ≤ 5) (b : Bool) : f_X6_isComing_J73 n μ (nI p) (nI k) (if b then 1 else 0) = some (if b = false then 0 else if k = 0 then 1 else if k = 1 then (if S.ak p = 1 then 1 else 0) else if S.lp = 0 then 1 else 0, μ) := by
  unfold f_X6_isComing_J73
  rw [h.2.2.1, show S.lp = S.lp from rfl]
  have hl : (nI S.lp = (0 : Int32)) ↔ S.lp = 0 := b00 hB.2.2.1
  by_cases e : k = 0
  · rw [if_pos (show nI k = (0 : Int32) from (ki k 0 hk (by decide)).mpr e), if_pos e]
    cases b <;> rfl
  · rw [if_neg (show ¬ nI k = (0 : Int32) from fun q => e ((ki k 0 hk (by decide)).mp q)), if_neg e]
    cases b
    · rfl
    · rw [if_pos rfl, if_neg (show ¬ (1 : Int32) = 0 by decide), if_neg (show ¬ true = false by decide)]
      by_cases g : k = 1
      · rw [if_pos (show nI k = (1 : Int32) from (ki k 1 hk (by decide)).mpr g), if_pos g, ak_m hB h hp, bc_s]
        have hA := b00 (hB.2.2.2.2.2.2.2.2.2.2.2.2.2 p)
        have hA' := hB.2.2.2.2.2.2.2.2.2.2.2.2.2 p
        by_cases q : S.ak p = 0
        · rw [if_pos (hA.mpr q), if_neg (by omega)]
        · rw [if_neg (fun x => q (hA.mp x)), if_pos (by omega)]
      · rw [if_neg (show ¬ nI k = (1 : Int32) from fun q => g ((ki k 1 hk (by decide)).mp q)), if_neg g]
        by_cases q : S.lp = 0
        · rw [if_pos (hl.mpr q), if_pos q]
        · rw [if_neg (fun x => q (hl.mp x)), if_neg q]
theorem comes_m (hB : SkB S) (h : SkM S μ) (hT : TxM n V C μ) (hC : S.ru < C) {p : Nat} (hp : p < S.P) : ∃ μ', f_X6_isComing n μ (nI p) = some (if comesS V S p then 1 else 0, μ') ∧ FrW μ μ' := by
  unfold f_X6_isComing
  have hK : S.kd p ≤ 5 := hB.2.2.2.2.2.2.2.2.2.2.2.1 p
  rw [kd_m hB h hp]
  unfold comesS
  by_cases e3 : S.kd p = 3
  · rw [if_pos (show nI (S.kd p) = (3 : Int32) from (ki _ 3 hK (by decide)).mpr e3), cm21 hB h hK, if_pos e3, if_pos e3]
    exact ⟨μ, rfl, FrW.rf μ⟩
  rw [if_neg (show ¬ nI (S.kd p) = (3 : Int32) from fun q => e3 ((ki _ 3 hK (by decide)).mp q)), if_neg e3]
  by_cases e5 : S.kd p = 5
  · rw [if_pos (show nI (S.kd p) = (5 : Int32) from (ki _ 5 hK (by decide)).mpr e5), cm21 hB h hK, if_neg e3, if_pos e5]
    refine ⟨μ, ?_, FrW.rf μ⟩
    by_cases g : S.nt % 3 = 0
    · rw [if_pos g, decide_eq_true g]; rfl
    · rw [if_neg g, decide_eq_false g]; rfl
  rw [if_neg (show ¬ nI (S.kd p) = (5 : Int32) from fun q => e5 ((ki _ 5 hK (by decide)).mp q)), if_neg e5]
  have key : ∃ μ', f_X6_isComing_J59 n μ (nI p) (nI (S.kd p)) = some (if (if sayS V S 1 p = 0 then false else if S.kd p = 0 then true else if S.kd p = 1 then decide (S.ak p = 1) else decide (S.lp = 0)) then 1 else 0, μ') ∧ FrW μ μ' := by
    unfold f_X6_isComing_J59
    obtain ⟨μ', a1, a2⟩ := say_m hB h hT hC hp (show 1 < 3 by decide)
    rw [show (1 : Int32) = nI 1 from rfl, a1, bc_s]
    refine ⟨μ', ?_, a2⟩
    have hx := fun b => cm73 (n := n) hB (h.fr a2) hp hK b
    by_cases g : sayS V S 1 p = 0
    · rw [if_pos g, if_pos g]
      exact hx false
    · rw [if_neg g, if_neg g]
      refine (hx true).trans ?_
      rw [if_neg (show ¬ true = false by decide)]
      by_cases g0 : S.kd p = 0
      · rw [if_pos g0, if_pos g0]; rfl
      · rw [if_neg g0, if_neg g0]
        by_cases g1 : S.kd p = 1
        · rw [if_pos g1, if_pos g1]
          by_cases q : S.ak p = 1
          · rw [if_pos q, decide_eq_true q]; rfl
          · rw [if_neg q, decide_eq_false q]; rfl
        · rw [if_neg g1, if_neg g1]
          by_cases q : S.lp = 0
          · rw [if_pos q, decide_eq_true q]; rfl
          · rw [if_neg q, decide_eq_false q]; rfl
  by_cases e4 : S.kd p = 4
  · rw [if_pos (show nI (S.kd p) = (4 : Int32) from (ki _ 4 hK (by decide)).mpr e4), full_m h, bc_s]
    have hf : fullS S ≤ 1998 := by unfold fullS; have := hB.2.2.2.1; have := hB.2.2.2.2.1; omega
    by_cases g : fullS S ≤ 50
    · rw [if_pos (show nI (fullS S) ≤ (50 : Int32) from nI_le (show fullS S ≤ 50 from g) (by decide)), if_neg (show ¬ (S.kd p = 4 ∧ ¬ fullS S ≤ 50) from fun q => q.2 g)]
      exact key
    · rw [if_neg (show ¬ nI (fullS S) ≤ (50 : Int32) from nI_ge (show 50 < fullS S by omega) (by omega)), if_pos (show S.kd p = 4 ∧ ¬ fullS S ≤ 50 from ⟨e4, g⟩)]
      exact ⟨μ, rfl, FrW.rf μ⟩
  · rw [if_neg (show ¬ nI (S.kd p) = (4 : Int32) from fun q => e4 ((ki _ 4 hK (by decide)).mp q)), if_neg (show ¬ (S.kd p = 4 ∧ ¬ fullS S ≤ 50) from fun q => e4 q.1)]
    exact key
theorem throws_m (hB : SkB S) (h : SkM S μ) (hT : TxM n V C μ) (hC : S.ru < C) {p : Nat} (hp : p < S.P) (cov : Bool) : ∃ μ', f_X6_throwsOf n μ (nI p) (if cov then 1 else 0) = some (throwsS V S p cov, μ') ∧ FrW μ μ' := by
  unfold f_X6_throwsOf
  have hP : S.P ≤ 5 := hB.2.2.2.2.2.2.2.1
  have hK : S.kd p ≤ 5 := hB.2.2.2.2.2.2.2.2.2.2.2.1 p
  rw [kd_m hB h hp, x3, gd_h (inb_nI (show 3 * p < 15 by omega) (by decide)), nI_clamp (by omega), bv_e, (fr_m h hp).1, h.1]
  unfold throwsS
  by_cases e5 : S.kd p = 5
  · rw [if_pos (show nI (S.kd p) = (5 : Int32) from (ki _ 5 hK (by decide)).mpr e5), if_pos e5]
    exact ⟨μ, rfl, FrW.rf μ⟩
  rw [if_neg (show ¬ nI (S.kd p) = (5 : Int32) from fun q => e5 ((ki _ 5 hK (by decide)).mp q)), if_neg e5]
  have key : ∃ μ', f_X6_throwsOf_J48 n μ (nI p) (if cov then 1 else 0) (nI (S.kd p)) (nI (S.nb p)) = some (thr1 S p (sayS V S 0 p) (if cov then 0 else sayS V S 0 p), μ') ∧ FrW μ μ' := by
    unfold f_X6_throwsOf_J48
    obtain ⟨μ', a1, a2⟩ := say_m hB h hT hC hp (show 0 < 3 by decide)
    rw [show f_X6_says n μ (0 : Int32) (nI p) = _ from a1, bc_s]
    refine ⟨μ', ?_, a2⟩
    have k66 : ∀ v a, f_X6_throwsOf_J66 n μ' (nI p) (nI (S.kd p)) (nI (S.nb p)) v a = some (thr1 S p v a, μ') := by
      intro v a
      have k85 : ∀ b, f_X6_throwsOf_J85 n μ' (nI (S.kd p)) (nI (S.nb p)) v a b = some (thr2 S p v a b, μ') := by
        intro b
        unfold f_X6_throwsOf_J85 thr2
        by_cases e1 : S.kd p = 1
        · rw [if_pos (show nI (S.kd p) = (1 : Int32) from (ki _ 1 hK (by decide)).mpr e1), if_pos e1, wi_m, bc_s]
        rw [if_neg (show ¬ nI (S.kd p) = (1 : Int32) from fun q => e1 ((ki _ 1 hK (by decide)).mp q)), if_neg e1]
        by_cases e2 : S.kd p = 2
        · rw [if_pos (show nI (S.kd p) = (2 : Int32) from (ki _ 2 hK (by decide)).mpr e2), if_pos e2, bv_e, wi_m, bc_s]
        rw [if_neg (show ¬ nI (S.kd p) = (2 : Int32) from fun q => e2 ((ki _ 2 hK (by decide)).mp q)), if_neg e2]
        by_cases e3 : S.kd p = 3
        · rw [if_pos (show nI (S.kd p) = (3 : Int32) from (ki _ 3 hK (by decide)).mpr e3), if_pos e3]
          by_cases g : nI (S.nb p) ≤ b
          · rw [if_pos g, if_pos g, wi_m, bc_s]
          · rw [if_neg g, if_neg g, wi_m, bc_s]
        rw [if_neg (show ¬ nI (S.kd p) = (3 : Int32) from fun q => e3 ((ki _ 3 hK (by decide)).mp q)), if_neg e3]
        by_cases e4 : S.kd p = 4
        · rw [if_pos (show nI (S.kd p) = (4 : Int32) from (ki _ 4 hK (by decide)).mpr e4), if_pos e4, bv_e, wi_m, bc_s]
        rw [if_neg (show ¬ nI (S.kd p) = (4 : Int32) from fun q => e4 ((ki _ 4 hK (by decide)).mp q)), if_neg e4, wi_m, bc_s]
      unfold f_X6_throwsOf_J66 thr1
      rw [ak_m hB (h.fr a2) hp, bc_s]
      have hA := b00 (hB.2.2.2.2.2.2.2.2.2.2.2.2.2 p)
      by_cases q : S.ak p = 0
      · rw [if_pos (show nI (S.ak p) = 0 from hA.mpr q), if_pos q]
        exact k85 a
      · rw [if_neg (show ¬ nI (S.ak p) = 0 from fun x => q (hA.mp x)), if_neg q]
        exact k85 _
    cases cov
    · exact k66 _ _
    · exact k66 _ _
  by_cases e4 : S.kd p = 4
  · rw [if_pos (show nI (S.kd p) = (4 : Int32) from (ki _ 4 hK (by decide)).mpr e4)]
    by_cases g : S.nt % 2 = 1
    · rw [if_pos ((md2 hB).mpr g), if_pos (show S.kd p = 4 ∧ S.nt % 2 = 1 from ⟨e4, g⟩)]
      exact ⟨μ, rfl, FrW.rf μ⟩
    · rw [if_neg (fun q => g ((md2 hB).mp q)), if_neg (show ¬ (S.kd p = 4 ∧ S.nt % 2 = 1) from fun q => g q.2)]
      exact key
  · rw [if_neg (show ¬ nI (S.kd p) = (4 : Int32) from fun q => e4 ((ki _ 4 hK (by decide)).mp q)), if_neg (show ¬ (S.kd p = 4 ∧ S.nt % 2 = 1) from fun q => e4 q.1)]
    exact key
theorem pays_m (hB : SkB S) (h : SkM S μ) (hT : TxM n V C μ) (hC : S.ru < C) {p : Nat} (hp : p < S.P) (m : Int32) : ∃ μ', f_X6_paysOf n μ (nI p) m = some (paysS V S p m, μ') ∧ FrW μ μ' := by
  unfold f_X6_paysOf
  have hP : S.P ≤ 5 := hB.2.2.2.2.2.2.2.1
  have hK : S.kd p ≤ 5 := hB.2.2.2.2.2.2.2.2.2.2.2.1 p
  rw [kd_m hB h hp]
  unfold paysS
  have k26 : f_X6_paysOf_J26 n μ (nI p) (nI (S.kd p)) = some (if S.kd p = 4 then nI (S.nb p) else 0, μ) := by
    unfold f_X6_paysOf_J26
    by_cases e4 : S.kd p = 4
    · rw [if_pos (show nI (S.kd p) = (4 : Int32) from (ki _ 4 hK (by decide)).mpr e4), if_pos e4, x3, gd_h (inb_nI (show 3 * p < 15 by omega) (by decide)), nI_clamp (by omega), (fr_m h hp).1]
    · rw [if_neg (show ¬ nI (S.kd p) = (4 : Int32) from fun q => e4 ((ki _ 4 hK (by decide)).mp q)), if_neg e4]
  by_cases e2 : S.kd p = 2
  · rw [if_pos (show nI (S.kd p) = (2 : Int32) from (ki _ 2 hK (by decide)).mpr e2), k26, if_pos (show S.kd p = 2 ∨ S.kd p = 4 ∨ S.kd p = 5 from Or.inl e2)]
    exact ⟨μ, rfl, FrW.rf μ⟩
  rw [if_neg (show ¬ nI (S.kd p) = (2 : Int32) from fun q => e2 ((ki _ 2 hK (by decide)).mp q))]
  by_cases e4 : S.kd p = 4
  · rw [if_pos (show nI (S.kd p) = (4 : Int32) from (ki _ 4 hK (by decide)).mpr e4), k26, if_pos (show S.kd p = 2 ∨ S.kd p = 4 ∨ S.kd p = 5 from Or.inr (Or.inl e4))]
    exact ⟨μ, rfl, FrW.rf μ⟩
  rw [if_neg (show ¬ nI (S.kd p) = (4 : Int32) from fun q => e4 ((ki _ 4 hK (by decide)).mp q))]
  by_cases e5 : S.kd p = 5
  · rw [if_pos (show nI (S.kd p) = (5 : Int32) from (ki _ 5 hK (by decide)).mpr e5), k26, if_pos (show S.kd p = 2 ∨ S.kd p = 4 ∨ S.kd p = 5 from Or.inr (Or.inr e5))]
    exact ⟨μ, rfl, FrW.rf μ⟩
  rw [if_neg (show ¬ nI (S.kd p) = (5 : Int32) from fun q => e5 ((ki _ 5 hK (by decide)).mp q)), if_neg (show ¬ (S.kd p = 2 ∨ S.kd p = 4 ∨ S.kd p = 5) by omega), ak_m hB h hp, bc_s]
  have k64 : ∀ (μ : Wm) x, f_X6_paysOf_J64 n μ (nI (S.kd p)) x = some (if S.kd p = 3 then x / 2 else x, μ) := by
    intro μ x
    unfold f_X6_paysOf_J64
    by_cases e3 : S.kd p = 3
    · rw [if_pos (show nI (S.kd p) = (3 : Int32) from (ki _ 3 hK (by decide)).mpr e3), if_pos e3]
    · rw [if_neg (show ¬ nI (S.kd p) = (3 : Int32) from fun q => e3 ((ki _ 3 hK (by decide)).mp q)), if_neg e3]
  have hA := b00 (hB.2.2.2.2.2.2.2.2.2.2.2.2.2 p)
  by_cases q : S.ak p = 0
  · rw [if_pos (show nI (S.ak p) = 0 from hA.mpr q), if_pos q, k64]
    exact ⟨μ, rfl, FrW.rf μ⟩
  · rw [if_neg (show ¬ nI (S.ak p) = 0 from fun x => q (hA.mp x)), if_neg q]
    obtain ⟨μ', a1, a2⟩ := say_m hB h hT hC hp (show 2 < 3 by decide)
    rw [show f_X6_says n μ (2 : Int32) (nI p) = _ from a1, bc_s, k64]
    exact ⟨μ', rfl, a2⟩
end K

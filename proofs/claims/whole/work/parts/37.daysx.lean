/-! days, the class's side -/
section K
variable {n C k : Nat} {V : Tx} {S : Sk} {σ : Gm}
theorem md3x (hB : SkB S) : (nI S.nt - nI S.nt / (3 : Int32) * (3 : Int32) = 0) ↔ S.nt % 3 = 0 := md3 hB
theorem md2x (hB : SkB S) : (nI S.nt - nI S.nt / (2 : Int32) * (2 : Int32) = 0) ↔ ¬ S.nt % 2 = 1 := by
  have key : ∀ a, a < 1101 → ((nI a - nI a / (2 : Int32) * (2 : Int32) = 0) ↔ ¬ a % 2 = 1) := by decide +kernel
  exact key S.nt (by have := hB.1; omega)
theorem ruc_x (hR : RuX n V C) (hB : SkB S) (h : SkX k S σ) (hT : TxX V C σ) (hC : S.ru < C) {p : Nat} (hp : p < S.P) : ∃ σ', (bc (f_X3_ruled n k σ (nI p) (1 : Int32)) fun r σ8 => (if r = 0 then some ((0 : Int32), σ8) else some ((1 : Int32), σ8))) = some (if sayS V S 1 p = 0 then 0 else 1, σ') ∧ FrN σ σ' := by
  obtain ⟨σ', a1, f1⟩ := hR k S σ p 1 hB h hT hC hp (by decide)
  rw [show (1 : Int32) = nI 1 from rfl, a1, bc_s]
  refine ⟨σ', ?_, f1⟩
  by_cases g : sayS V S 1 p = 0
  · rw [if_pos g, if_pos g]
  · rw [if_neg g, if_neg g]
theorem comes_x (hR : RuX n V C) (hB : SkB S) (h : SkX k S σ) (hT : TxX V C σ) (hC : S.ru < C) {p : Nat} (hp : p < S.P) : ∃ σ', f_X3_comes n k σ (nI p) = some (if comesS V S p then 1 else 0, σ') ∧ FrN σ σ' := by
  have hP : S.P ≤ 5 := hB.2.2.2.2.2.2.2.1
  have hK : S.kd p ≤ 5 := hB.2.2.2.2.2.2.2.2.2.2.2.1 p
  have hA : S.ak p ≤ 1 := hB.2.2.2.2.2.2.2.2.2.2.2.2.2 p
  have hkd := (h.2.2.2.2.2.2.2.2.2.2.2 p hp).1
  have hl : (nI S.lp = (0 : Int32)) ↔ S.lp = 0 := b00 hB.2.2.1
  obtain ⟨σ', a1, f1⟩ := ruc_x hR hB h hT hC hp
  unfold f_X3_comes
  rw [gd_h (inb_nI (show p < 5 by omega) (by decide)), nI_clamp (by omega), hkd, h.2.2.1, h.1, full_x h, bc_s, a1, ak_x hB h hp, bc_s]
  rw [h.2.2.1, a1]
  unfold comesS
  by_cases e1 : S.kd p = 1
  · rw [if_pos (show nI (S.kd p) = (1 : Int32) from (ki _ 1 hK (by decide)).mpr e1), if_neg (show ¬ S.kd p = 3 by omega), if_neg (show ¬ S.kd p = 5 by omega), if_neg (show ¬ (S.kd p = 4 ∧ ¬ fullS S ≤ 50) from fun x => by have := x.1; omega), if_neg (show ¬ S.kd p = 0 by omega), if_pos e1]
    by_cases g : S.ak p = 1
    · rw [if_pos g, if_neg (show ¬ (1 : Int32) = 0 by decide)]
      refine ⟨σ', ?_, f1⟩
      rw [decide_eq_true g]
      by_cases q : sayS V S 1 p = 0
      · rw [if_pos q, if_pos q]; rfl
      · rw [if_neg q, if_neg q]; rfl
    · rw [if_neg g, if_pos rfl]
      refine ⟨σ, ?_, FrN.rf σ⟩
      rw [decide_eq_false g]
      by_cases q : sayS V S 1 p = 0
      · rw [if_pos q]; rfl
      · rw [if_neg q]; rfl
  rw [if_neg (show ¬ nI (S.kd p) = (1 : Int32) from fun q => e1 ((ki _ 1 hK (by decide)).mp q))]
  by_cases e2 : S.kd p = 2
  · rw [if_pos (show nI (S.kd p) = (2 : Int32) from (ki _ 2 hK (by decide)).mpr e2), if_neg (show ¬ S.kd p = 3 by omega), if_neg (show ¬ S.kd p = 5 by omega), if_neg (show ¬ (S.kd p = 4 ∧ ¬ fullS S ≤ 50) from fun x => by have := x.1; omega), if_neg (show ¬ S.kd p = 0 by omega), if_neg e1]
    by_cases g : S.lp = 0
    · rw [if_pos (hl.mpr g), decide_eq_true g]
      refine ⟨σ', ?_, f1⟩
      by_cases q : sayS V S 1 p = 0
      · rw [if_pos q, if_pos q]; rfl
      · rw [if_neg q, if_neg q]; rfl
    · rw [if_neg (fun x => g (hl.mp x)), decide_eq_false g]
      refine ⟨σ, ?_, FrN.rf σ⟩
      by_cases q : sayS V S 1 p = 0
      · rw [if_pos q]; rfl
      · rw [if_neg q]; rfl
  rw [if_neg (show ¬ nI (S.kd p) = (2 : Int32) from fun q => e2 ((ki _ 2 hK (by decide)).mp q))]
  by_cases e3 : S.kd p = 3
  · rw [if_pos (show nI (S.kd p) = (3 : Int32) from (ki _ 3 hK (by decide)).mpr e3), if_pos e3]
    exact ⟨σ, rfl, FrN.rf σ⟩
  rw [if_neg (show ¬ nI (S.kd p) = (3 : Int32) from fun q => e3 ((ki _ 3 hK (by decide)).mp q)), if_neg e3]
  by_cases e4 : S.kd p = 4
  · have hf : fullS S ≤ 1998 := by unfold fullS; have := hB.2.2.2.1; have := hB.2.2.2.2.1; omega
    rw [if_pos (show nI (S.kd p) = (4 : Int32) from (ki _ 4 hK (by decide)).mpr e4), if_neg (show ¬ S.kd p = 5 by omega), if_neg (show ¬ S.kd p = 0 by omega), if_neg e1]
    by_cases q : fullS S ≤ 50
    · rw [if_neg (show ¬ (50 : Int32) < nI (fullS S) from nI_nlt (show fullS S ≤ 50 from q) (by decide)), if_neg (show ¬ (S.kd p = 4 ∧ ¬ fullS S ≤ 50) from fun x => x.2 q)]
      by_cases g : S.lp = 0
      · rw [if_pos (hl.mpr g), decide_eq_true g]
        refine ⟨σ', ?_, f1⟩
        by_cases q : sayS V S 1 p = 0
        · rw [if_pos q, if_pos q]; rfl
        · rw [if_neg q, if_neg q]; rfl
      · rw [if_neg (fun x => g (hl.mp x)), decide_eq_false g]
        refine ⟨σ, ?_, FrN.rf σ⟩
        by_cases q : sayS V S 1 p = 0
        · rw [if_pos q]; rfl
        · rw [if_neg q]; rfl
    · rw [if_pos (show (50 : Int32) < nI (fullS S) from nI_lt (show 50 < fullS S by omega) (by omega)), if_pos (show S.kd p = 4 ∧ ¬ fullS S ≤ 50 from ⟨e4, q⟩)]
      exact ⟨σ, rfl, FrN.rf σ⟩
  rw [if_neg (show ¬ nI (S.kd p) = (4 : Int32) from fun q => e4 ((ki _ 4 hK (by decide)).mp q))]
  by_cases e5 : S.kd p = 5
  · rw [if_pos (show nI (S.kd p) = (5 : Int32) from (ki _ 5 hK (by decide)).mpr e5), if_pos e5]
    refine ⟨σ, ?_, FrN.rf σ⟩
    by_cases g : S.nt % 3 = 0
    · rw [if_pos ((md3 hB).mpr g), decide_eq_true g]; rfl
    · rw [if_neg (fun q => g ((md3 hB).mp q)), decide_eq_false g]; rfl
  rw [if_neg (show ¬ nI (S.kd p) = (5 : Int32) from fun q => e5 ((ki _ 5 hK (by decide)).mp q)), if_neg e5, if_neg (show ¬ (S.kd p = 4 ∧ ¬ fullS S ≤ 50) from fun x => e4 x.1), if_pos (show S.kd p = 0 by omega)]
  refine ⟨σ', ?_, f1⟩
  by_cases q : sayS V S 1 p = 0
  · rw [if_pos q, if_pos q]; rfl
  · rw [if_neg q, if_neg q]; rfl
theorem bnd_x (v : Int32) : f_X3_bounded σ v (-99 : Int32) (99 : Int32) = some (wi v (-99) 99, σ) := by
  unfold f_X3_bounded
  rw [bd_wi (by decide)]
theorem wi_sm {a : Nat} (h : a ≤ 99) : wi (nI a) (-99) 99 = nI a := by
  have key : ∀ a, a < 100 → wi (nI a) (-99) 99 = nI a := by decide +kernel
  exact key a (by omega)
theorem thr_x (hB : SkB S) (h : SkX k S σ) {p : Nat} (hp : p < S.P) (v a b : Int32) : f_X3_throwing_J35 n k σ (nI p) v a b = some (if S.kd p = 5 then nI (S.nb p) else if S.kd p = 4 ∧ S.nt % 2 = 1 then 0 else thr2 S p v a b, σ) := by
  have hP : S.P ≤ 5 := hB.2.2.2.2.2.2.2.1
  have hK : S.kd p ≤ 5 := hB.2.2.2.2.2.2.2.2.2.2.2.1 p
  have hNb : S.nb p ≤ 9 := hB.2.2.2.2.2.2.2.2.2.2.2.2.1 p
  obtain ⟨hkd, hnb⟩ := h.2.2.2.2.2.2.2.2.2.2.2 p hp
  unfold f_X3_throwing_J35 f_X3_byKind
  rw [gd_h (inb_nI (show p < 5 by omega) (by decide)), nI_clamp (by omega), gd_h (inb_nI (show p < 5 by omega) (by decide)), gd_h (inb_nI (show p < 5 by omega) (by decide)), hkd, hnb, h.1]
  by_cases e1 : S.kd p = 1
  · rw [if_pos (show nI (S.kd p) = (1 : Int32) from (ki _ 1 hK (by decide)).mpr e1), bc_s, bnd_x, bc_s, if_neg (show ¬ S.kd p = 5 by omega), if_neg (show ¬ (S.kd p = 4 ∧ S.nt % 2 = 1) by omega)]
    unfold thr2
    rw [if_pos e1]
  rw [if_neg (show ¬ nI (S.kd p) = (1 : Int32) from fun q => e1 ((ki _ 1 hK (by decide)).mp q))]
  by_cases e2 : S.kd p = 2
  · rw [if_pos (show nI (S.kd p) = (2 : Int32) from (ki _ 2 hK (by decide)).mpr e2), bc_s, bnd_x, bc_s, if_neg (show ¬ S.kd p = 5 by omega), if_neg (show ¬ (S.kd p = 4 ∧ S.nt % 2 = 1) by omega)]
    unfold thr2
    rw [if_neg e1, if_pos e2]
  rw [if_neg (show ¬ nI (S.kd p) = (2 : Int32) from fun q => e2 ((ki _ 2 hK (by decide)).mp q))]
  by_cases e3 : S.kd p = 3
  · rw [if_pos (show nI (S.kd p) = (3 : Int32) from (ki _ 3 hK (by decide)).mpr e3), bc_s, bnd_x, bc_s, if_neg (show ¬ S.kd p = 5 by omega), if_neg (show ¬ (S.kd p = 4 ∧ S.nt % 2 = 1) by omega)]
    unfold thr2
    rw [if_neg e1, if_neg e2, if_pos e3]
    by_cases g : nI (S.nb p) < b
    · rw [if_pos g, if_pos (show nI (S.nb p) ≤ b from Int32.le_iff_toInt_le.mpr (by have := Int32.lt_iff_toInt_lt.mp g; omega))]
    · rw [if_neg g]
      by_cases q : nI (S.nb p) ≤ b
      · rw [if_pos q]
        have e : b = nI (S.nb p) := by
          apply Int32.toInt_inj.mp
          have q1 := Int32.le_iff_toInt_le.mp q
          have q2 : ¬ (nI (S.nb p)).toInt < b.toInt := fun x => g (Int32.lt_iff_toInt_lt.mpr x)
          omega
        rw [e]
      · rw [if_neg q]
  rw [if_neg (show ¬ nI (S.kd p) = (3 : Int32) from fun q => e3 ((ki _ 3 hK (by decide)).mp q))]
  by_cases e4 : S.kd p = 4
  · rw [if_pos (show nI (S.kd p) = (4 : Int32) from (ki _ 4 hK (by decide)).mpr e4), if_neg (show ¬ S.kd p = 5 by omega)]
    by_cases g : S.nt % 2 = 1
    · rw [if_neg (fun q => (md2x hB).mp q g), bc_s, bnd_x, bc_s, if_pos (show S.kd p = 4 ∧ S.nt % 2 = 1 from ⟨e4, g⟩)]
      exact congrArg (fun x => some (x, σ)) (wi_sm (show 0 ≤ 99 by decide))
    · rw [if_pos ((md2x hB).mpr g), bc_s, bnd_x, bc_s, if_neg (show ¬ (S.kd p = 4 ∧ S.nt % 2 = 1) from fun q => g q.2)]
      unfold thr2
      rw [if_neg e1, if_neg e2, if_neg e3, if_pos e4]
  rw [if_neg (show ¬ nI (S.kd p) = (4 : Int32) from fun q => e4 ((ki _ 4 hK (by decide)).mp q))]
  by_cases e5 : S.kd p = 5
  · rw [if_pos (show nI (S.kd p) = (5 : Int32) from (ki _ 5 hK (by decide)).mpr e5), bc_s, bnd_x, bc_s, if_pos e5, wi_sm (by omega)]
  rw [if_neg (show ¬ nI (S.kd p) = (5 : Int32) from fun q => e5 ((ki _ 5 hK (by decide)).mp q)), bc_s, bnd_x, bc_s, if_neg e5, if_neg (show ¬ (S.kd p = 4 ∧ S.nt % 2 = 1) from fun q => e4 q.1)]
  unfold thr2
  rw [if_neg e1, if_neg e2, if_neg e3, if_neg e4]
theorem throws_x (hR : RuX n V C) (hB : SkB S) (h : SkX k S σ) (hT : TxX V C σ) (hC : S.ru < C) {p : Nat} (hp : p < S.P) (cov : Bool) : ∃ σ', f_X3_throwing n k σ (nI p) (if cov then 1 else 0) = some (throwsS V S p cov, σ') ∧ FrN σ σ' := by
  have hA : S.ak p ≤ 1 := hB.2.2.2.2.2.2.2.2.2.2.2.2.2 p
  obtain ⟨σ', a1, f1⟩ := hR k S σ p 0 hB h hT hC hp (by decide)
  unfold f_X3_throwing
  rw [show f_X3_ruled n k σ (nI p) (0 : Int32) = _ from a1, bc_s]
  refine ⟨σ', ?_, f1⟩
  have key : ∀ a, f_X3_throwing_J16 n k σ' (nI p) (sayS V S 0 p) a = some (if S.kd p = 5 then nI (S.nb p) else if S.kd p = 4 ∧ S.nt % 2 = 1 then 0 else thr1 S p (sayS V S 0 p) a, σ') := by
    intro a
    unfold f_X3_throwing_J16 thr1
    rw [ak_x hB (h.fr f1) hp, bc_s]
    by_cases g : S.ak p = 1
    · rw [if_pos g, if_neg (show ¬ (1 : Int32) = 0 by decide), if_neg (show ¬ S.ak p = 0 by omega)]
      exact thr_x hB (h.fr f1) hp _ _ _
    · rw [if_neg g, if_pos rfl, if_pos (show S.ak p = 0 by omega)]
      exact thr_x hB (h.fr f1) hp _ _ _
  cases cov
  · exact key _
  · exact key _
theorem pays_x (hR : RuX n V C) (hB : SkB S) (h : SkX k S σ) (hT : TxX V C σ) (hC : S.ru < C) {p : Nat} (hp : p < S.P) (m : Int32) : ∃ σ', f_X3_paying n k σ (nI p) m = some (paysS V S p m, σ') ∧ FrN σ σ' := by
  have hP : S.P ≤ 5 := hB.2.2.2.2.2.2.2.1
  have hA : S.ak p ≤ 1 := hB.2.2.2.2.2.2.2.2.2.2.2.2.2 p
  have hK : S.kd p ≤ 5 := hB.2.2.2.2.2.2.2.2.2.2.2.1 p
  have key : ∀ (σ : Gm) (x : Int32), SkX k S σ → f_X3_paying_J20 n k σ (nI p) x = some (if S.kd p = 2 ∨ S.kd p = 4 ∨ S.kd p = 5 then (if S.kd p = 4 then nI (S.nb p) else 0) else (fun x => if S.kd p = 3 then x / 2 else x) x, σ) := by
    intro σ x h
    obtain ⟨hkd, hnb⟩ := h.2.2.2.2.2.2.2.2.2.2.2 p hp
    unfold f_X3_paying_J20
    rw [gd_h (inb_nI (show p < 5 by omega) (by decide)), nI_clamp (by omega), gd_h (inb_nI (show p < 5 by omega) (by decide)), hkd, hnb]
    by_cases e2 : S.kd p = 2
    · rw [if_pos (show nI (S.kd p) = (2 : Int32) from (ki _ 2 hK (by decide)).mpr e2), if_pos (show S.kd p = 2 ∨ S.kd p = 4 ∨ S.kd p = 5 by omega), if_neg (show ¬ S.kd p = 4 by omega)]
    rw [if_neg (show ¬ nI (S.kd p) = (2 : Int32) from fun q => e2 ((ki _ 2 hK (by decide)).mp q))]
    by_cases e3 : S.kd p = 3
    · rw [if_pos (show nI (S.kd p) = (3 : Int32) from (ki _ 3 hK (by decide)).mpr e3), if_neg (show ¬ (S.kd p = 2 ∨ S.kd p = 4 ∨ S.kd p = 5) by omega)]
      show _ = some (if S.kd p = 3 then x / 2 else x, σ)
      rw [if_pos e3]
    rw [if_neg (show ¬ nI (S.kd p) = (3 : Int32) from fun q => e3 ((ki _ 3 hK (by decide)).mp q))]
    by_cases e4 : S.kd p = 4
    · rw [if_pos (show nI (S.kd p) = (4 : Int32) from (ki _ 4 hK (by decide)).mpr e4), if_pos (show S.kd p = 2 ∨ S.kd p = 4 ∨ S.kd p = 5 by omega), if_pos e4]
    rw [if_neg (show ¬ nI (S.kd p) = (4 : Int32) from fun q => e4 ((ki _ 4 hK (by decide)).mp q))]
    by_cases e5 : S.kd p = 5
    · rw [if_pos (show nI (S.kd p) = (5 : Int32) from (ki _ 5 hK (by decide)).mpr e5), if_pos (show S.kd p = 2 ∨ S.kd p = 4 ∨ S.kd p = 5 by omega), if_neg e4]
    rw [if_neg (show ¬ nI (S.kd p) = (5 : Int32) from fun q => e5 ((ki _ 5 hK (by decide)).mp q)), if_neg (show ¬ (S.kd p = 2 ∨ S.kd p = 4 ∨ S.kd p = 5) by omega)]
    show _ = some (if S.kd p = 3 then x / 2 else x, σ)
    rw [if_neg e3]
  unfold f_X3_paying paysS
  rw [ak_x hB h hp, bc_s]
  by_cases g : S.ak p = 1
  · rw [if_pos g, if_neg (show ¬ (1 : Int32) = 0 by decide), if_neg (show ¬ S.ak p = 0 by omega)]
    obtain ⟨σ', a1, f1⟩ := hR k S σ p 2 hB h hT hC hp (by decide)
    rw [show f_X3_ruled n k σ (nI p) (2 : Int32) = _ from a1, bc_s]
    exact ⟨σ', key σ' _ (h.fr f1), f1⟩
  · rw [if_neg g, if_pos rfl, if_pos (show S.ak p = 0 by omega)]
    exact ⟨σ, key σ _ h, FrN.rf σ⟩
end K

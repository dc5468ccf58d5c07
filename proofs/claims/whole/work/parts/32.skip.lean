/-! a skip, told by numbers; the reference's side -/
def Sk : Type := Nat → Nat → Nat
abbrev Sk.nt (S : Sk) : Nat := S 0 0
abbrev Sk.sz (S : Sk) : Nat := S 0 1
abbrev Sk.lp (S : Sk) : Nat := S 0 2
abbrev Sk.mi (S : Sk) : Nat := S 0 3
abbrev Sk.th (S : Sk) : Nat := S 0 4
abbrev Sk.ru (S : Sk) : Nat := S 0 5
abbrev Sk.T (S : Sk) : Nat := S 0 6
abbrev Sk.P (S : Sk) : Nat := S 0 7
abbrev Sk.bk (S : Sk) (i : Nat) : Nat := S 1 i
abbrev Sk.rd (S : Sk) (i : Nat) : Nat := S 2 i
abbrev Sk.inn (S : Sk) (i : Nat) : Nat := S 3 i
abbrev Sk.kd (S : Sk) (i : Nat) : Nat := S 4 i
abbrev Sk.nb (S : Sk) (i : Nat) : Nat := S 5 i
abbrev Sk.ak (S : Sk) (i : Nat) : Nat := S 6 i
def upS (S : Sk) (c j v : Nat) : Sk := fun c' j' => if c' = c ∧ j' = j then v else S c' j'
theorem upS_at (S : Sk) (c j v : Nat) : upS S c j v c j = v := if_pos ⟨rfl, rfl⟩
theorem upS_of {S : Sk} {c j v c' j' : Nat} (h : ¬ (c' = c ∧ j' = j)) : upS S c j v c' j' = S c' j' := if_neg h
def SkB (S : Sk) : Prop := S.nt ≤ 1100 ∧ S.sz ≤ 999 ∧ S.lp ≤ 1 ∧ S.mi ≤ 999 ∧ S.th ≤ 999 ∧ S.ru < 6 ∧ S.T ≤ 8 ∧ S.P ≤ 5 ∧ (∀ i, S.bk i ≤ 99) ∧ (∀ i, S.rd i ≤ 99) ∧ (∀ i, S.inn i ≤ 1) ∧ (∀ i, S.kd i ≤ 5) ∧ (∀ i, S.nb i ≤ 9) ∧ (∀ i, S.ak i ≤ 1)
def SkM (S : Sk) (μ : Wm) : Prop := μ.1 7 0 0 = nI S.nt ∧ μ.1 7 0 1 = nI S.sz ∧ μ.1 7 0 2 = nI S.lp ∧ μ.1 7 0 3 = nI S.mi ∧ μ.1 7 0 4 = nI S.th ∧ μ.1 0 0 4 = nI S.ru ∧ μ.1 0 0 10 = nI S.T ∧ μ.1 0 0 11 = nI S.P ∧ (∀ i, i < S.T → μ.1 8 0 (3 * i) = nI (S.rd i) ∧ μ.1 8 0 (3 * i + 1) = nI (S.bk i) ∧ μ.1 8 0 (3 * i + 2) = nI (S.inn i)) ∧ (∀ p, p < S.P → μ.1 9 0 (3 * p) = nI (S.nb p) ∧ μ.1 9 0 (3 * p + 1) = nI (S.ak p) ∧ μ.1 9 0 (3 * p + 2) = nI (S.kd p))
/-- all but what reading writes -/
def FrW (μ μ' : Wm) : Prop := ∀ c k j, ¬ (c = 0 ∧ k = 0 ∧ 12 ≤ j ∧ j ≤ 26) → μ'.1 c k j = μ.1 c k j
theorem FrW.rf (μ : Wm) : FrW μ μ := fun _ _ _ _ => rfl
theorem FrW.tr {a b c : Wm} (h : FrW a b) (g : FrW b c) : FrW a c := fun x y z q => (g x y z q).trans (h x y z q)
theorem FrW.up {μ : Wm} {j : Nat} {v : Int32} {L : Int64} (h : 12 ≤ j ∧ j ≤ 26) : FrW μ (up3 μ.1 0 0 j v, L) := fun c k i q => u1_of (fun ⟨a, b, e⟩ => q ⟨a, b, by omega⟩)
theorem FrQ.W {a b : Wm} (h : FrQ a b) : FrW a b := fun c k j q => h c k j (by omega)
theorem SkM.fr {S : Sk} {μ μ' : Wm} (h : SkM S μ) (f : FrW μ μ') : SkM S μ' := by
  obtain ⟨h1, h2, h3, h4, h5, h6, h7, h8, h9, h10⟩ := h
  refine ⟨(f _ _ _ (by omega)).trans h1, (f _ _ _ (by omega)).trans h2, (f _ _ _ (by omega)).trans h3, (f _ _ _ (by omega)).trans h4, (f _ _ _ (by omega)).trans h5, (f _ _ _ (by omega)).trans h6, (f _ _ _ (by omega)).trans h7, (f _ _ _ (by omega)).trans h8, fun i hi => ?_, fun p hp => ?_⟩
  · obtain ⟨a, b, c⟩ := h9 i hi
    exact ⟨(f _ _ _ (by omega)).trans a, (f _ _ _ (by omega)).trans b, (f _ _ _ (by omega)).trans c⟩
  · obtain ⟨a, b, c⟩ := h10 p hp
    exact ⟨(f _ _ _ (by omega)).trans a, (f _ _ _ (by omega)).trans b, (f _ _ _ (by omega)).trans c⟩
/-- what texts tell -/
abbrev Tx : Type := Nat → Nat → (Nat → Int32) → Int32
def RdA (n t : Nat) (b : Nat → Nat) (z : Nat) (W : Nat → (Nat → Int32) → Int32) : Prop := ∀ μ : Wm, μ.1 2 0 t = nI z → (∀ i, i < z → μ.1 1 0 (160 * t + i) = nI (b i)) → ∀ w, w < 3 → ∃ μ', f_X6_read n μ (nI t) (nI w) = some (W w (Nm μ), μ') ∧ FrQ μ μ'
def TxM (n : Nat) (V : Tx) (C : Nat) (μ : Wm) : Prop := ∀ t, t < C → ∃ b z, μ.1 2 0 t = nI z ∧ (∀ i, i < z → μ.1 1 0 (160 * t + i) = nI (b i)) ∧ RdA n t b z (V t) ∧ z ≤ 160
theorem TxM.fr {n C : Nat} {V : Tx} {μ μ' : Wm} (h : TxM n V C μ) (f : FrW μ μ') : TxM n V C μ' := fun t ht => by
  obtain ⟨b, z, h1, h2, h3⟩ := h t ht
  exact ⟨b, z, (f _ _ _ (by omega)).trans h1, fun i hi => (f _ _ _ (by omega)).trans (h2 i hi), h3⟩
def fullS (S : Sk) : Nat := S.mi + S.th
def roomS (S : Sk) : Nat := S.sz - fullS S
def nms (S : Sk) (p : Nat) : Nat → Int32 := fun j => if j = 0 then nI (fullS S) else if j = 1 then nI (S.nb p) else if j = 2 then nI S.nt else if j = 3 then nI S.lp else if j = 4 then nI (S.ak p) else if j = 5 then nI S.mi else 0
def wi (v lo hi : Int32) : Int32 := if lo ≤ v then (if v ≤ hi then v else hi) else lo
def rawS (V : Tx) (S : Sk) (w p : Nat) : Int32 := V S.ru w (nms S p)
def sayS (V : Tx) (S : Sk) (w p : Nat) : Int32 := if w = 0 then wi (rawS V S w p) (-99) 99 else if w = 1 then rawS V S w p else wi (rawS V S w p) 0 9
theorem wi_m (μ : Wm) (a b c : Int32) : f_X6_within μ a b c = some (wi a b c, μ) := by
  unfold f_X6_within wi
  split
  · split <;> rfl
  · rfl
section K
variable {n C : Nat} {V : Tx} {S : Sk} {μ : Wm}
theorem full_m (h : SkM S μ) : f_X6_fullNow μ = some (nI (fullS S), μ) := by
  unfold f_X6_fullNow
  rw [h.2.2.2.1, h.2.2.2.2.1, nI_add]
  rfl
theorem wi_room {s f : Nat} (hs : s ≤ 999) (hf : f ≤ 1998) : wi (nI s - nI f) 0 999 = nI (s - f) := by
  have key : ∀ f, f ≤ 1998 → ∀ s, s ≤ 999 → wi (nI s - nI f) 0 999 = nI (s - f) := by
    intro f hf s hs
    unfold wi
    by_cases g : f ≤ s
    · rw [pk_sub g, if_pos (nI_pos' (show s - f < 2 ^ 31 by omega)), if_pos (show nI (s - f) ≤ (999 : Int32) from nI_le (show s - f ≤ 999 by omega) (by decide))]
    · have hneg : ¬ (0 : Int32) ≤ nI s - nI f := by
        have hb : nI f = nI s + nI (f - s) := by rw [nI_add]; congr 1; omega
        rw [hb]
        have e : nI s - (nI s + nI (f - s)) = - nI (f - s) := by
          generalize nI s = x
          generalize nI (f - s) = y
          rw [Int32.sub_eq_add_neg, Int32.neg_add, Int32.sub_eq_add_neg, ← Int32.add_assoc, ← Int32.sub_eq_add_neg x x, Int32.sub_self, Int32.zero_add]
        rw [e, Int32.le_iff_toInt_le, Int32.toInt_neg, nI_toInt (show f - s < 2 ^ 31 by omega)]
        rw [show (0 : Int32).toInt = 0 by decide]
        have : (-(↑(f - s) : Int)).bmod (2 ^ 32) = -(↑(f - s) : Int) := by
          apply Int.bmod_eq_of_le <;> omega
        rw [this]
        omega
      rw [if_neg hneg, show s - f = 0 by omega]
      rfl
  exact key f hf s hs
theorem room_m (hB : SkB S) (h : SkM S μ) : f_X6_roomNow μ = some (nI (roomS S), μ) := by
  unfold f_X6_roomNow
  obtain ⟨b1, b2, b3, b4, b5, -⟩ := hB
  rw [full_m h, bc_s, h.2.1, wi_m, bc_s, wi_room b2 (show fullS S ≤ 1998 by unfold fullS; omega)]
  rfl
theorem i3 {a k : Nat} (h : 3 * a < k) (hk : k < 2 ^ 31) : inb ((3 : Int32) * nI a) k = true := by
  rw [show (3 : Int32) * nI a = nI (3 * a) from pk_mul 3 a]
  exact inb_nI h hk
theorem x3 (a : Nat) : (3 : Int32) * nI a = nI (3 * a) := pk_mul 3 a
theorem x31 (a : Nat) : (3 : Int32) * nI a + (1 : Int32) = nI (3 * a + 1) := by rw [x3]; exact nI_add _ 1
theorem x32 (a : Nat) : (3 : Int32) * nI a + (2 : Int32) = nI (3 * a + 2) := by rw [x3]; exact nI_add _ 2
theorem b01 {a : Nat} (h : a ≤ 1) : (nI a = (1 : Int32)) ↔ a = 1 := by
  rw [show (1 : Int32) = nI 1 from rfl, nI_eq (by omega) (by decide)]
theorem b00 {a : Nat} (h : a ≤ 1) : (nI a = (0 : Int32)) ↔ a = 0 := by
  rw [show (0 : Int32) = nI 0 from rfl, nI_eq (by omega) (by decide)]
theorem ak_m (hB : SkB S) (h : SkM S μ) {p : Nat} (hp : p < S.P) : f_X6_isAsked μ (nI p) = some (nI (S.ak p), μ) := by
  unfold f_X6_isAsked
  have hP : S.P ≤ 5 := hB.2.2.2.2.2.2.2.1
  obtain ⟨-, a2, -⟩ := h.2.2.2.2.2.2.2.2.2 p hp
  rw [x31, gd_h (inb_nI (show 3 * p + 1 < 15 by omega) (by decide)), nI_clamp (by omega), a2]
  have hA : S.ak p ≤ 1 := hB.2.2.2.2.2.2.2.2.2.2.2.2.2 p
  generalize S.ak p = a at hA
  rcases (show a = 0 ∨ a = 1 by omega) with rfl | rfl <;> rfl
theorem nm_nms {p : Nat} (h0 : μ.1 0 0 12 = nI (fullS S)) (h1 : μ.1 0 0 13 = nI (S.nb p)) (h2 : μ.1 0 0 14 = nI S.nt) (h3 : μ.1 0 0 15 = nI S.lp) (h4 : μ.1 0 0 16 = nI (S.ak p)) (h5 : μ.1 0 0 17 = nI S.mi) : Nm μ = nms S p := by
  funext j
  unfold Nm nms
  rcases j with _ | _ | _ | _ | _ | _ | j
  · exact h0
  · exact h1
  · exact h2
  · exact h3
  · exact h4
  · exact h5
  · rw [if_neg (by omega), if_neg (by omega), if_neg (by omega), if_neg (by omega), if_neg (by omega), if_neg (by omega), if_neg (by omega)]
theorem say_m (hB : SkB S) (h : SkM S μ) (hT : TxM n V C μ) (hC : S.ru < C) {p w : Nat} (hp : p < S.P) (hw : w < 3) : ∃ μ', f_X6_says n μ (nI w) (nI p) = some (sayS V S w p, μ') ∧ FrW μ μ' := by
  unfold f_X6_says
  have hP : S.P ≤ 5 := hB.2.2.2.2.2.2.2.1
  obtain ⟨a1, a2, a3⟩ := h.2.2.2.2.2.2.2.2.2 p hp
  have hF := full_m h
  obtain ⟨g1, g2, g3, g4, g5, g6, -⟩ := h
  rw [hF, bc_s, bv_e, x31, x3, gd_h (inb_nI (show 3 * p < 15 by omega) (by decide)), nI_clamp (show 3 * p < 2 ^ 31 by omega), bv_e, bv_e, bv_e, gd_h (inb_nI (show 3 * p + 1 < 15 by omega) (by decide)), nI_clamp (show 3 * p + 1 < 2 ^ 31 by omega), bv_e, bv_e]
  let μ1 : Wm := (up3 μ.1 0 0 12 (nI (fullS S)), μ.2)
  let μ2 : Wm := (up3 μ1.1 0 0 13 (μ1.1 9 0 (3 * p)), μ1.2)
  let μ3 : Wm := (up3 μ2.1 0 0 14 (μ2.1 7 0 0), μ2.2)
  let μ4 : Wm := (up3 μ3.1 0 0 15 (μ3.1 7 0 2), μ3.2)
  let μ5 : Wm := (up3 μ4.1 0 0 16 (μ4.1 9 0 (3 * p + 1)), μ4.2)
  let μ6 : Wm := (up3 μ5.1 0 0 17 (μ5.1 7 0 3), μ5.2)
  have f1 : FrW μ μ1 := FrW.up (by omega)
  have f2 : FrW μ1 μ2 := FrW.up (by omega)
  have f3 : FrW μ2 μ3 := FrW.up (by omega)
  have f4 : FrW μ3 μ4 := FrW.up (by omega)
  have f5 : FrW μ4 μ5 := FrW.up (by omega)
  have f6 : FrW μ5 μ6 := FrW.up (by omega)
  have F2 := f1.tr f2
  have F3 := F2.tr f3
  have F4 := F3.tr f4
  have F5 := F4.tr f5
  have F6 := F5.tr f6
  have e0 : μ6.1 0 0 12 = nI (fullS S) := (u1_of (by omega)).trans ((u1_of (by omega)).trans ((u1_of (by omega)).trans ((u1_of (by omega)).trans ((u1_of (by omega)).trans (u1_at _ _ _ _ _ _)))))
  have e1 : μ6.1 0 0 13 = nI (S.nb p) := (u1_of (by omega)).trans ((u1_of (by omega)).trans ((u1_of (by omega)).trans ((u1_of (by omega)).trans ((u1_at _ _ _ _ _ _).trans ((f1 _ _ _ (by omega)).trans a1)))))
  have e2 : μ6.1 0 0 14 = nI S.nt := (u1_of (by omega)).trans ((u1_of (by omega)).trans ((u1_of (by omega)).trans ((u1_at _ _ _ _ _ _).trans ((F2 _ _ _ (by omega)).trans g1))))
  have e3 : μ6.1 0 0 15 = nI S.lp := (u1_of (by omega)).trans ((u1_of (by omega)).trans ((u1_at _ _ _ _ _ _).trans ((F3 _ _ _ (by omega)).trans g3)))
  have e4 : μ6.1 0 0 16 = nI (S.ak p) := (u1_of (by omega)).trans ((u1_at _ _ _ _ _ _).trans ((F4 _ _ _ (by omega)).trans a2))
  have e5 : μ6.1 0 0 17 = nI S.mi := (u1_at _ _ _ _ _ _).trans ((F5 _ _ _ (by omega)).trans g4)
  have e6 : μ6.1 0 0 4 = nI S.ru := (F6 _ _ _ (by omega)).trans g6
  have eN : Nm μ6 = nms S p := nm_nms e0 e1 e2 e3 e4 e5
  obtain ⟨b, z, h1, h2, h3⟩ := hT S.ru hC
  obtain ⟨μ', r1, r2⟩ := h3.1 μ6 ((F6 _ _ _ (by omega)).trans h1) (fun i hi => (F6 _ _ _ (by omega)).trans (h2 i hi)) w hw
  show ∃ μ', (bc (f_X6_read n μ6 (μ6.1 0 0 4) (nI w)) fun r12 σ13 => _) = _ ∧ _
  rw [e6, r1, eN, bc_s]
  have hF : FrW μ μ' := F6.tr r2.W
  rcases w with _ | _ | _ | w
  · rw [if_pos (show nI 0 = (0 : Int32) from rfl), wi_m, bc_s]
    exact ⟨μ', rfl, hF⟩
  · rw [if_neg (show ¬ nI 1 = (0 : Int32) by decide), if_pos (show nI 1 = (1 : Int32) from rfl)]
    exact ⟨μ', rfl, hF⟩
  · rw [if_neg (show ¬ nI 2 = (0 : Int32) by decide), if_neg (show ¬ nI 2 = (1 : Int32) by decide), wi_m, bc_s]
    exact ⟨μ', rfl, hF⟩
  · omega
end K

/-! loading, passing, running, the class's side -/
section K
variable {n C k : Nat} {V : Tx} {S : Sk} {σ : Gm}
theorem SkX.up5 {j v : Nat} (h : SkX k S σ) (hj : j < 5) : SkX k (upS S 0 j v) (up3 σ 13 k (5 + j) (nI v)) := by
  obtain ⟨h1, h2, h3, h4, h5, h6, h7, h8, h9, h10, h11, h12⟩ := h
  have e : ∀ i, i < 5 → σ 13 k (5 + i) = nI (S 0 i) := by
    intro i hi
    rcases (show i = 0 ∨ i = 1 ∨ i = 2 ∨ i = 3 ∨ i = 4 by omega) with rfl | rfl | rfl | rfl | rfl
    · exact h1
    · exact h2
    · exact h3
    · exact h4
    · exact h5
  have g : ∀ i, i < 5 → up3 σ 13 k (5 + j) (nI v) 13 k (5 + i) = nI (upS S 0 j v 0 i) := by
    intro i hi
    by_cases q : i = j
    · subst q
      rw [up3_at, upS_at]
    · rw [up3_of (by omega), upS_of (by omega)]
      exact e i hi
  have eT : Sk.T (upS S 0 j v) = S.T := upS_of (by omega)
  have eP : Sk.P (upS S 0 j v) = S.P := upS_of (by omega)
  refine ⟨g 0 (by omega), g 1 (by omega), g 2 (by omega), g 3 (by omega), g 4 (by omega), ?_, ?_, ?_, ?_, ?_, ?_, ?_⟩
  · rw [up3_of (by omega), h6, show Sk.ru (upS S 0 j v) = S.ru from upS_of (by omega)]
  · rw [up3_of (by omega), h7, eT]
  · rw [up3_of (by omega), h8, eT]
    exact congrArg nI (mk_congr S.T (fun i _ => (upS_of (S := S) (c' := 3) (j' := i) (by omega)))).symm
  · rw [up3_of (by omega), h9, eP]
  · rw [up3_of (by omega), h10, eP]
    exact congrArg nI (mk_congr S.P (fun i _ => (upS_of (S := S) (c' := 6) (j' := i) (by omega)))).symm
  · intro i hi
    rw [eT] at hi
    rw [show Sk.rd (upS S 0 j v) i = S.rd i from upS_of (by omega), show Sk.bk (upS S 0 j v) i = S.bk i from upS_of (by omega), up3_of (by omega), up3_of (by omega)]
    exact h11 i hi
  · intro i hi
    rw [eP] at hi
    rw [show Sk.nb (upS S 0 j v) i = S.nb i from upS_of (by omega), show Sk.kd (upS S 0 j v) i = S.kd i from upS_of (by omega), up3_of (by omega), up3_of (by omega)]
    exact h12 i hi
theorem SkX.upIn {i : Nat} (hB : SkB S) (h : SkX k S σ) (hi : i < S.T) (h0 : S.inn i = 0) : SkX k (upS S 3 i 1) (up3 σ 13 k 12 (σ 13 k 12 ||| ((1 : Int32) <<< (nI i &&& 31)))) := by
  have hT : S.T ≤ 8 := hB.2.2.2.2.2.2.1
  have hm := mkI hB
  have hb := mk_bit (f := S.inn) (fun i => hB.2.2.2.2.2.2.2.2.2.2.1 i) S.T i hi
  obtain ⟨h1, h2, h3, h4, h5, h6, h7, h8, h9, h10, h11, h12⟩ := h
  have eT : Sk.T (upS S 3 i 1) = S.T := upS_of (by omega)
  have eP : Sk.P (upS S 3 i 1) = S.P := upS_of (by omega)
  refine ⟨?_, ?_, ?_, ?_, ?_, ?_, ?_, ?_, ?_, ?_, ?_, ?_⟩
  · rw [up3_of (by omega), h1, show Sk.nt (upS S 3 i 1) = S.nt from upS_of (by omega)]
  · rw [up3_of (by omega), h2, show Sk.sz (upS S 3 i 1) = S.sz from upS_of (by omega)]
  · rw [up3_of (by omega), h3, show Sk.lp (upS S 3 i 1) = S.lp from upS_of (by omega)]
  · rw [up3_of (by omega), h4, show Sk.mi (upS S 3 i 1) = S.mi from upS_of (by omega)]
  · rw [up3_of (by omega), h5, show Sk.th (upS S 3 i 1) = S.th from upS_of (by omega)]
  · rw [up3_of (by omega), h6, show Sk.ru (upS S 3 i 1) = S.ru from upS_of (by omega)]
  · rw [up3_of (by omega), h7, eT]
  · rw [up3_at, h8, or8 hm (by omega) (by rw [hb]; omega), eT]
    exact congrArg nI (mk_up (f := S.inn) (g := Sk.inn (upS S 3 i 1)) (i := i) (fun j hj => upS_of (by omega)) (upS_at _ _ _ _) h0 S.T hi).symm
  · rw [up3_of (by omega), h9, eP]
  · rw [up3_of (by omega), h10, eP]
    exact congrArg nI (mk_congr S.P (fun l _ => (upS_of (S := S) (c' := 6) (j' := l) (by omega)))).symm
  · intro l hl
    rw [eT] at hl
    rw [show Sk.rd (upS S 3 i 1) l = S.rd l from upS_of (by omega), show Sk.bk (upS S 3 i 1) l = S.bk l from upS_of (by omega), up3_of (by omega), up3_of (by omega)]
    exact h11 l hl
  · intro l hl
    rw [eP] at hl
    rw [show Sk.nb (upS S 3 i 1) l = S.nb l from upS_of (by omega), show Sk.kd (upS S 3 i 1) l = S.kd l from upS_of (by omega), up3_of (by omega), up3_of (by omega)]
    exact h12 l hl
theorem takes_x (hB : SkB S) (h : SkX k S σ) {i : Nat} (hi : i < S.T) : f_X3_takes k σ (nI i) = some (if S.inn i = 0 ∧ S.bk i ≤ roomS S then 1 else 0, σ) := by
  have hT : S.T ≤ 8 := hB.2.2.2.2.2.2.1
  have hI := hB.2.2.2.2.2.2.2.2.2.2.1 i
  have hK := hB.2.2.2.2.2.2.2.2.1 i
  have hZ' : roomS S ≤ 999 := by have := hB.2.1; unfold roomS; omega
  unfold f_X3_takes
  rw [in_x hB h hi, bc_s, gd_h (inb_nI (show i < 8 by omega) (by decide)), nI_clamp (by omega), room_x hB h, bc_s, (h.2.2.2.2.2.2.2.2.2.2.1 i hi).1]
  by_cases g : S.inn i = 1
  · rw [if_pos g, if_neg (show ¬ (1 : Int32) = 0 by decide), if_neg (show ¬ (S.inn i = 0 ∧ S.bk i ≤ roomS S) from fun q => by have := q.1; omega)]
  · rw [if_neg g, if_pos rfl]
    by_cases q : S.bk i ≤ roomS S
    · rw [if_neg (show ¬ nI (roomS S) < nI (S.bk i) from nI_nlt q (by omega)), if_pos (show S.inn i = 0 ∧ S.bk i ≤ roomS S from ⟨by omega, q⟩)]
    · rw [if_pos (show nI (roomS S) < nI (S.bk i) from nI_lt (by omega) (by omega)), if_neg (show ¬ (S.inn i = 0 ∧ S.bk i ≤ roomS S) from fun x => q x.2)]
theorem putIn_x (hB : SkB S) (h : SkX k S σ) {i : Nat} (hi : i < S.T) (h0 : S.inn i = 0) : ∃ σ', f_X3_putIn k σ (nI i) = some ((), σ') ∧ SkX k (putS S i) σ' ∧ FrX k σ σ' := by
  have hT : S.T ≤ 8 := hB.2.2.2.2.2.2.1
  unfold f_X3_putIn
  rw [bv_e, gd_h (inb_nI (show i < 8 by omega) (by decide)), nI_clamp (by omega), bv_e]
  have e1 := h.upIn hB hi h0
  have e2 : (up3 σ 13 k 12 (σ 13 k 12 ||| ((1 : Int32) <<< (nI i &&& 31)))) 13 k 8 + (up3 σ 13 k 12 (σ 13 k 12 ||| ((1 : Int32) <<< (nI i &&& 31)))) 14 k i = nI (S.mi + S.bk i) := by
    rw [up3_of (by omega), up3_of (by omega), h.2.2.2.1, (h.2.2.2.2.2.2.2.2.2.2.1 i hi).1, nI_add]
  rw [e2]
  exact ⟨_, rfl, e1.up5 (j := 3) (by omega), FrX.up.tr FrX.up⟩
theorem loadsL_x : ∀ (m i f : Nat) (S : Sk) (σ : Gm), SkB S → SkX k S σ → i + m = S.T → m < f → ∃ σ', f_X3_putReadyIn_L2 n k f σ (nI i) = some ((), σ') ∧ SkX k (loadsF m i S) σ' ∧ FrX k σ σ'
  | m, i, 0, _, _, _, _, _, h => by omega
  | 0, i, f + 1, S, σ, hB, h, he, _ => by
    have hT := hB.2.2.2.2.2.2.1
    unfold f_X3_putReadyIn_L2
    rw [h.2.2.2.2.2.2.1, if_pos (nI_le (show S.T ≤ i by omega) (by omega))]
    exact ⟨σ, rfl, h, FrX.rf k σ⟩
  | m + 1, i, f + 1, S, σ, hB, h, he, hk => by
    have hT := hB.2.2.2.2.2.2.1
    have hi : i < S.T := by omega
    have step : ∀ σ1, SkX k (loadS S i) σ1 → FrX k σ σ1 → ∃ σ', f_X3_putReadyIn_L2 n k f σ1 (nI i + 1) = some ((), σ') ∧ SkX k (loadsF (m + 1) i S) σ' ∧ FrX k σ σ' := by
      intro σ1 h1 f1
      rw [nI_1]
      obtain ⟨σ', a1, a2, a3⟩ := loadsL_x m (i + 1) f (loadS S i) σ1 (loadS_B hB i) h1 (by rw [show Sk.T (loadS S i) = S.T from loadS_k S i (by omega)]; omega) (by omega)
      exact ⟨σ', a1, a2, f1.tr a3⟩
    have hR := hB.2.2.2.2.2.2.2.2.2.1 i
    have hN := hB.1
    unfold f_X3_putReadyIn_L2
    rw [h.2.2.2.2.2.2.1, if_neg (show ¬ nI S.T ≤ nI i from nI_ge hi (by omega)), gd_h (inb_nI (show i < 8 by omega) (by decide)), nI_clamp (show i < 2 ^ 31 by omega), h.1, (h.2.2.2.2.2.2.2.2.2.2.1 i hi).2, takes_x hB h hi, bc_s]
    by_cases g2 : S.rd i ≤ S.nt
    · rw [if_neg (show ¬ nI S.nt < nI (S.rd i) from nI_nlt g2 (by omega))]
      by_cases g : S.inn i = 0 ∧ S.bk i ≤ roomS S
      · obtain ⟨σ1, a1, h1, f1⟩ := putIn_x hB h hi g.1
        rw [if_pos g, if_neg (show ¬ (1 : Int32) = 0 by decide), a1, bc_s]
        refine step σ1 ?_ f1
        unfold loadS
        rw [if_pos (show S.inn i = 0 ∧ S.rd i ≤ S.nt ∧ S.bk i ≤ roomS S from ⟨g.1, g2, g.2⟩)]
        exact h1
      · rw [if_neg g, if_pos rfl]
        refine step σ ?_ (FrX.rf k σ)
        unfold loadS
        rw [if_neg (show ¬ (S.inn i = 0 ∧ S.rd i ≤ S.nt ∧ S.bk i ≤ roomS S) from fun q => g ⟨q.1, q.2.2⟩)]
        exact h
    · rw [if_pos (show nI S.nt < nI (S.rd i) from nI_lt (by omega) (by omega))]
      refine step σ ?_ (FrX.rf k σ)
      unfold loadS
      rw [if_neg (show ¬ (S.inn i = 0 ∧ S.rd i ≤ S.nt ∧ S.bk i ≤ roomS S) from fun q => g2 q.2.1)]
      exact h
theorem leftL_x (hB : SkB S) (h : SkX k S σ) : ∀ (m i f a : Nat), i + m = S.T → m < f → f_X3_bulkOf_L4 n k f σ (nI (mk S.inn S.T) ^^^ (-1 : Int32)) (nI a) (nI i) = some (nI (leftF S m i a), σ)
  | m, i, 0, _, _, h => by omega
  | 0, i, f + 1, a, he, _ => by
    have hT := hB.2.2.2.2.2.2.1
    unfold f_X3_bulkOf_L4 leftF
    rw [h.2.2.2.2.2.2.1, if_pos (nI_le (show S.T ≤ i by omega) (by omega))]
  | m + 1, i, f + 1, a, he, hk => by
    have hT := hB.2.2.2.2.2.2.1
    have hi : i < S.T := by omega
    have hI := hB.2.2.2.2.2.2.2.2.2.2.1 i
    have e := nb8 (mkI hB) (show i < 8 by omega)
    rw [mk_bit (fun i => hB.2.2.2.2.2.2.2.2.2.2.1 i) S.T i hi] at e
    unfold f_X3_bulkOf_L4 leftF
    rw [h.2.2.2.2.2.2.1, if_neg (show ¬ nI S.T ≤ nI i from nI_ge hi (by omega)), gd_h (inb_nI (show i < 8 by omega) (by decide)), nI_clamp (show i < 2 ^ 31 by omega), (h.2.2.2.2.2.2.2.2.2.2.1 i hi).1, bv_e, nI_1, nI_add]
    by_cases g1 : S.inn i = 0
    · rw [if_pos (e.mpr (by omega)), if_pos g1]
      exact leftL_x hB h m (i + 1) f _ (by omega) (by omega)
    · rw [if_neg (fun q => e.mp q (by omega)), if_neg g1]
      exact leftL_x hB h m (i + 1) f _ (by omega) (by omega)
theorem left_x (hn : 600 < n) (hB : SkB S) (h : SkX k S σ) : f_X3_left n k σ = some (nI (leftS S), σ) := by
  have hT := hB.2.2.2.2.2.2.1
  unfold f_X3_left f_X3_bulkOf
  rw [h.2.2.2.2.2.2.2.1, show f_X3_bulkOf_L4 n k n σ (nI (mk S.inn S.T) ^^^ (-1 : Int32)) (0 : Int32) (0 : Int32) = _ from leftL_x hB h S.T 0 n 0 (by omega) (by omega), bc_s]
  rfl
theorem loads_x (hn : 600 < n) (hB : SkB S) (h : SkX k S σ) : ∃ σ', f_X3_putReadyIn n k σ = some ((), σ') ∧ SkX k (loadsS S) σ' ∧ FrX k σ σ' := by
  have hT := hB.2.2.2.2.2.2.1
  exact loadsL_x S.T 0 n S σ hB h (by omega) (by omega)
end K

/-! updates of any skip (laid by lay_upd2.py out of 54) -/
section K
variable {n d C z k : Nat} {V : Tx} {b : Nat → Nat} {S : Sk} {σ : Gm} {μ : Wm}
theorem SkX.upNbK {i v : Nat} (h : SkX k S σ) : SkX k (upS S 5 i v) (up3 σ 17 k i (nI v)) := by
  have ex : ∀ c j, ¬ (c = 5 ∧ j = i) → upS S 5 i v c j = S c j := fun c j q => upS_of q
  have e2 : upS S 5 i v 5 i = v := upS_at _ _ _ _
  generalize upS S 5 i v = S' at ex e2
  obtain ⟨h1, h2, h3, h4, h5, h6, h7, h8, h9, h10, h11, h12⟩ := h
  have eT : Sk.T S' = S.T := ex 0 6 (by omega)
  have eP : Sk.P S' = S.P := ex 0 7 (by omega)
  refine ⟨(up3_of (by omega)).trans (h1.trans (congrArg nI (ex 0 0 (by omega)).symm)), (up3_of (by omega)).trans (h2.trans (congrArg nI (ex 0 1 (by omega)).symm)), (up3_of (by omega)).trans (h3.trans (congrArg nI (ex 0 2 (by omega)).symm)), (up3_of (by omega)).trans (h4.trans (congrArg nI (ex 0 3 (by omega)).symm)), (up3_of (by omega)).trans (h5.trans (congrArg nI (ex 0 4 (by omega)).symm)), (up3_of (by omega)).trans (h6.trans (congrArg nI (ex 0 5 (by omega)).symm)), (up3_of (by omega)).trans (h7.trans (congrArg nI (ex 0 6 (by omega)).symm)), ?_, (up3_of (by omega)).trans (h9.trans (congrArg nI (ex 0 7 (by omega)).symm)), ?_, ?_, ?_⟩
  · rw [up3_of (by omega), h8, eT]
    exact congrArg nI (mk_congr S.T (fun j hj => ex 3 j (by omega))).symm
  · rw [up3_of (by omega), h10, eP]
    exact congrArg nI (mk_congr S.P (fun j hj => ex 6 j (by omega))).symm
  · intro l hl
    rw [eT] at hl
    exact ⟨(up3_of (by omega)).trans ((h11 l hl).1.trans (congrArg nI (ex 1 l (by omega)).symm)), (up3_of (by omega)).trans ((h11 l hl).2.trans (congrArg nI (ex 2 l (by omega)).symm))⟩
  · intro l hl
    rw [eP] at hl
    refine ⟨(up3_of (by omega)).trans ((h12 l hl).1.trans (congrArg nI (ex 4 l (by omega)).symm)), ?_⟩
    by_cases e : l = i
    · subst e
      exact (up3_at _ _ _ _ _).trans (congrArg nI e2.symm)
    · exact (up3_of (by omega)).trans ((h12 l hl).2.trans (congrArg nI (ex 5 l (by omega)).symm))

theorem SkX.upAkK {i v : Nat} (hB : SkB S) (h : SkX k S σ) (hi : i < S.P) (hv : v ≤ 1) : SkX k (upS S 6 i v) (up3 σ 13 k 14 (((σ 13 k 14) &&& (((1 : Int32) <<< (nI i &&& 31)) ^^^ (-1 : Int32))) ||| (nI v <<< (nI i &&& 31)))) := by
  have hP := hB.2.2.2.2.2.2.2.1
  have hA : ∀ j, S.ak j ≤ 1 := hB.2.2.2.2.2.2.2.2.2.2.2.2.2
  have hl := mk_lt (f := S.ak) hA S.P
  have h2 : 2 ^ S.P ≤ 2 ^ 5 := Nat.pow_le_pow_right (by omega) hP
  have hb := mk_bit (f := S.ak) hA S.P i hi
  have ex : ∀ c j, ¬ (c = 6 ∧ j = i) → upS S 6 i v c j = S c j := fun c j q => upS_of q
  have e2 : upS S 6 i v 6 i = v := upS_at _ _ _ _
  generalize upS S 6 i v = S' at ex e2
  obtain ⟨h1, h2', h3, h4, h5, h6, h7, h8, h9, h10, h11, h12⟩ := h
  have eT : Sk.T S' = S.T := ex 0 6 (by omega)
  have eP : Sk.P S' = S.P := ex 0 7 (by omega)
  have hs := mk_set (f := S.ak) (g := Sk.ak S') (i := i) (v := v) hA (fun j q => ex 6 j (by omega)) e2 S.P hi
  refine ⟨(up3_of (by omega)).trans (h1.trans (congrArg nI (ex 0 0 (by omega)).symm)), (up3_of (by omega)).trans (h2'.trans (congrArg nI (ex 0 1 (by omega)).symm)), (up3_of (by omega)).trans (h3.trans (congrArg nI (ex 0 2 (by omega)).symm)), (up3_of (by omega)).trans (h4.trans (congrArg nI (ex 0 3 (by omega)).symm)), (up3_of (by omega)).trans (h5.trans (congrArg nI (ex 0 4 (by omega)).symm)), (up3_of (by omega)).trans (h6.trans (congrArg nI (ex 0 5 (by omega)).symm)), (up3_of (by omega)).trans (h7.trans (congrArg nI (ex 0 6 (by omega)).symm)), ?_, (up3_of (by omega)).trans (h9.trans (congrArg nI (ex 0 7 (by omega)).symm)), ?_, ?_, ?_⟩
  · rw [up3_of (by omega), h8, eT]
    exact congrArg nI (mk_congr S.T (fun j hj => ex 3 j (by omega))).symm
  · rw [up3_at, h10, eP]
    exact st5 (by omega) (by omega) hv (by rw [hb]; exact hs)
  · intro l hl
    rw [eT] at hl
    exact ⟨(up3_of (by omega)).trans ((h11 l hl).1.trans (congrArg nI (ex 1 l (by omega)).symm)), (up3_of (by omega)).trans ((h11 l hl).2.trans (congrArg nI (ex 2 l (by omega)).symm))⟩
  · intro l hl
    rw [eP] at hl
    exact ⟨(up3_of (by omega)).trans ((h12 l hl).1.trans (congrArg nI (ex 4 l (by omega)).symm)), (up3_of (by omega)).trans ((h12 l hl).2.trans (congrArg nI (ex 5 l (by omega)).symm))⟩

theorem SkX.upKdK {i v : Nat} (h : SkX k S σ) : SkX k (upS S 4 i v) (up3 σ 16 k i (nI v)) := by
  have ex : ∀ c j, ¬ (c = 4 ∧ j = i) → upS S 4 i v c j = S c j := fun c j q => upS_of q
  have e2 : upS S 4 i v 4 i = v := upS_at _ _ _ _
  generalize upS S 4 i v = S' at ex e2
  obtain ⟨h1, h2, h3, h4, h5, h6, h7, h8, h9, h10, h11, h12⟩ := h
  have eT : Sk.T S' = S.T := ex 0 6 (by omega)
  have eP : Sk.P S' = S.P := ex 0 7 (by omega)
  refine ⟨(up3_of (by omega)).trans (h1.trans (congrArg nI (ex 0 0 (by omega)).symm)), (up3_of (by omega)).trans (h2.trans (congrArg nI (ex 0 1 (by omega)).symm)), (up3_of (by omega)).trans (h3.trans (congrArg nI (ex 0 2 (by omega)).symm)), (up3_of (by omega)).trans (h4.trans (congrArg nI (ex 0 3 (by omega)).symm)), (up3_of (by omega)).trans (h5.trans (congrArg nI (ex 0 4 (by omega)).symm)), (up3_of (by omega)).trans (h6.trans (congrArg nI (ex 0 5 (by omega)).symm)), (up3_of (by omega)).trans (h7.trans (congrArg nI (ex 0 6 (by omega)).symm)), ?_, (up3_of (by omega)).trans (h9.trans (congrArg nI (ex 0 7 (by omega)).symm)), ?_, ?_, ?_⟩
  · rw [up3_of (by omega), h8, eT]
    exact congrArg nI (mk_congr S.T (fun j hj => ex 3 j (by omega))).symm
  · rw [up3_of (by omega), h10, eP]
    exact congrArg nI (mk_congr S.P (fun j hj => ex 6 j (by omega))).symm
  · intro l hl
    rw [eT] at hl
    exact ⟨(up3_of (by omega)).trans ((h11 l hl).1.trans (congrArg nI (ex 1 l (by omega)).symm)), (up3_of (by omega)).trans ((h11 l hl).2.trans (congrArg nI (ex 2 l (by omega)).symm))⟩
  · intro l hl
    rw [eP] at hl
    refine ⟨?_, (up3_of (by omega)).trans ((h12 l hl).2.trans (congrArg nI (ex 5 l (by omega)).symm))⟩
    by_cases e : l = i
    · subst e
      exact (up3_at _ _ _ _ _).trans (congrArg nI e2.symm)
    · exact (up3_of (by omega)).trans ((h12 l hl).1.trans (congrArg nI (ex 4 l (by omega)).symm))

theorem SkM.upKd {i v : Nat} (h : SkM S μ) : SkM (upS S 4 i v) (up3 μ.1 9 0 (3 * i + 2) (nI v), μ.2) := by
  have ex : ∀ c j, ¬ (c = 4 ∧ j = i) → upS S 4 i v c j = S c j := fun c j q => upS_of q
  have e2 : upS S 4 i v 4 i = v := upS_at _ _ _ _
  generalize upS S 4 i v = S' at ex e2
  obtain ⟨h1, h2, h3, h4, h5, h6, h7, h8, h9, h10⟩ := h
  refine ⟨(u1_of (by omega)).trans (h1.trans (congrArg nI (ex 0 0 (by omega)).symm)), (u1_of (by omega)).trans (h2.trans (congrArg nI (ex 0 1 (by omega)).symm)), (u1_of (by omega)).trans (h3.trans (congrArg nI (ex 0 2 (by omega)).symm)), (u1_of (by omega)).trans (h4.trans (congrArg nI (ex 0 3 (by omega)).symm)), (u1_of (by omega)).trans (h5.trans (congrArg nI (ex 0 4 (by omega)).symm)), (u1_of (by omega)).trans (h6.trans (congrArg nI (ex 0 5 (by omega)).symm)), (u1_of (by omega)).trans (h7.trans (congrArg nI (ex 0 6 (by omega)).symm)), (u1_of (by omega)).trans (h8.trans (congrArg nI (ex 0 7 (by omega)).symm)), fun l hl => ?_, fun l hl => ?_⟩
  · rw [show Sk.T S' = S.T from ex 0 6 (by omega)] at hl
    obtain ⟨q1, q2, q3⟩ := h9 l hl
    exact ⟨(u1_of (by omega)).trans (q1.trans (congrArg nI (ex 2 l (by omega)).symm)), (u1_of (by omega)).trans (q2.trans (congrArg nI (ex 1 l (by omega)).symm)), (u1_of (by omega)).trans (q3.trans (congrArg nI (ex 3 l (by omega)).symm))⟩
  · rw [show Sk.P S' = S.P from ex 0 7 (by omega)] at hl
    obtain ⟨q1, q2, q3⟩ := h10 l hl
    refine ⟨(u1_of (by omega)).trans (q1.trans (congrArg nI (ex 5 l (by omega)).symm)), (u1_of (by omega)).trans (q2.trans (congrArg nI (ex 6 l (by omega)).symm)), ?_⟩
    by_cases e : l = i
    · subst e
      exact (u1_at _ _ _ _ _ _).trans (congrArg nI e2.symm)
    · exact (u1_of (by omega)).trans (q3.trans (congrArg nI (ex 4 l (by omega)).symm))

theorem SkX.upRuK {v : Nat} (h : SkX k S σ) : SkX k (upS S 0 5 v) (up3 σ 13 k 10 (nI v)) := by
  obtain ⟨h1, h2, h3, h4, h5, h6, h7, h8, h9, h10, h11, h12⟩ := h
  exact ⟨(up3_of (by omega)).trans h1, (up3_of (by omega)).trans h2, (up3_of (by omega)).trans h3, (up3_of (by omega)).trans h4, (up3_of (by omega)).trans h5, (up3_at _ _ _ _ _).trans (congrArg nI (upS_at S 0 5 v).symm), (up3_of (by omega)).trans h7, (up3_of (by omega)).trans h8, (up3_of (by omega)).trans h9, (up3_of (by omega)).trans h10, fun l hl => ⟨(up3_of (by omega)).trans (h11 l hl).1, (up3_of (by omega)).trans (h11 l hl).2⟩, fun l hl => ⟨(up3_of (by omega)).trans (h12 l hl).1, (up3_of (by omega)).trans (h12 l hl).2⟩⟩
theorem SkM.upRu {v : Nat} (h : SkM S μ) : SkM (upS S 0 5 v) (up3 μ.1 0 0 4 (nI v), μ.2) := by
  obtain ⟨h1, h2, h3, h4, h5, h6, h7, h8, h9, h10⟩ := h
  refine ⟨(u1_of (by omega)).trans h1, (u1_of (by omega)).trans h2, (u1_of (by omega)).trans h3, (u1_of (by omega)).trans h4, (u1_of (by omega)).trans h5, (u1_at _ _ _ _ _ _).trans (congrArg nI (upS_at S 0 5 v).symm), (u1_of (by omega)).trans h7, (u1_of (by omega)).trans h8, fun l hl => ?_, fun l hl => ?_⟩
  · obtain ⟨q1, q2, q3⟩ := h9 l hl
    exact ⟨(u1_of (by omega)).trans q1, (u1_of (by omega)).trans q2, (u1_of (by omega)).trans q3⟩
  · obtain ⟨q1, q2, q3⟩ := h10 l hl
    exact ⟨(u1_of (by omega)).trans q1, (u1_of (by omega)).trans q2, (u1_of (by omega)).trans q3⟩
end K

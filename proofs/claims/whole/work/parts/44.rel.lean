/-! related states; a text -/
def Re (n : Nat) (V : Tx) (C : Nat) (S : Sk) (z : Nat) (b : Nat → Nat) (σ : Gm) (μ : Wm) : Prop := SkB S ∧ S.nt ≤ 999 ∧ SkX 0 S σ ∧ SkM S μ ∧ TxX V C σ ∧ TxM n V C μ ∧ σ 1 0 4 = nI C ∧ μ.1 0 0 3 = nI C ∧ C ≤ 6 ∧ S.ru < C ∧ (∀ i, b i < 256) ∧ z ≤ 160 ∧ InX b z σ ∧ μ.1 0 0 6 = nI z ∧ ∀ i, i < z → μ.1 5 0 i = nI (b i)
section K
variable {n d C z : Nat} {V : Tx} {b : Nat → Nat} {S : Sk} {σ : Gm} {μ : Wm}
theorem SkX.fr' {k : Nat} {σ' : Gm} (h : SkX k S σ) (f : ∀ c j, 13 ≤ c → c ≤ 17 → σ' c k j = σ c k j) : SkX k S σ' := by
  obtain ⟨h1, h2, h3, h4, h5, h6, h7, h8, h9, h10, h11, h12⟩ := h
  exact ⟨(f _ _ (by omega) (by omega)).trans h1, (f _ _ (by omega) (by omega)).trans h2, (f _ _ (by omega) (by omega)).trans h3, (f _ _ (by omega) (by omega)).trans h4, (f _ _ (by omega) (by omega)).trans h5, (f _ _ (by omega) (by omega)).trans h6, (f _ _ (by omega) (by omega)).trans h7, (f _ _ (by omega) (by omega)).trans h8, (f _ _ (by omega) (by omega)).trans h9, (f _ _ (by omega) (by omega)).trans h10, fun i hi => ⟨(f _ _ (by omega) (by omega)).trans (h11 i hi).1, (f _ _ (by omega) (by omega)).trans (h11 i hi).2⟩, fun i hi => ⟨(f _ _ (by omega) (by omega)).trans (h12 i hi).1, (f _ _ (by omega) (by omega)).trans (h12 i hi).2⟩⟩
theorem SkM.fr' {μ' : Wm} (h : SkM S μ) (f : ∀ c k j, (c = 7 ∨ c = 8 ∨ c = 9) ∨ (c = 0 ∧ (j = 4 ∨ j = 10 ∨ j = 11)) → μ'.1 c k j = μ.1 c k j) : SkM S μ' := by
  obtain ⟨h1, h2, h3, h4, h5, h6, h7, h8, h9, h10⟩ := h
  refine ⟨(f _ _ _ (by omega)).trans h1, (f _ _ _ (by omega)).trans h2, (f _ _ _ (by omega)).trans h3, (f _ _ _ (by omega)).trans h4, (f _ _ _ (by omega)).trans h5, (f _ _ _ (by omega)).trans h6, (f _ _ _ (by omega)).trans h7, (f _ _ _ (by omega)).trans h8, fun i hi => ?_, fun p hp => ?_⟩
  · obtain ⟨a, b, c⟩ := h9 i hi
    exact ⟨(f _ _ _ (by omega)).trans a, (f _ _ _ (by omega)).trans b, (f _ _ _ (by omega)).trans c⟩
  · obtain ⟨a, b, c⟩ := h10 p hp
    exact ⟨(f _ _ _ (by omega)).trans a, (f _ _ _ (by omega)).trans b, (f _ _ _ (by omega)).trans c⟩
/-- what a text may change -/
def FtX (σ σ' : Gm) : Prop := ∀ c k j, ¬ ((c = 2 ∧ k = 0) ∨ c = 11 ∨ c = 12 ∨ (c = 1 ∧ k = 0 ∧ j = 4)) → σ' c k j = σ c k j
def FtM (μ μ' : Wm) : Prop := ∀ c k j, ¬ ((c = 0 ∧ k = 0 ∧ (j = 3 ∨ j = 6 ∨ (18 ≤ j ∧ j ≤ 26))) ∨ ((c = 1 ∨ c = 2) ∧ k = 0)) → μ'.1 c k j = μ.1 c k j
theorem text_s (hn : 600 < n) (hd : 78 ≤ d) (h : Re n V C S z b σ μ) : ∃ r σ' μ' V' C' z', f_X5_text n d σ = some (r, σ') ∧ f_X6_text n μ = some (r, μ') ∧ Re n V' C' S z' b σ' μ' ∧ FtX σ σ' ∧ FtM μ μ' ∧ C ≤ C' := by
  obtain ⟨hB, hN, hx, hm, TX, TM, cx, cm, hC, hr, hb, hz, hin, hz2, htp⟩ := h
  unfold f_X5_text f_X6_text
  rw [cx, cm]
  by_cases g6 : C = 6
  · rw [if_neg (show ¬ nI C < (6 : Int32) from nI_nlt (show 6 ≤ C by omega) (by omega)), if_pos (show nI C = (6 : Int32) by rw [g6]; rfl)]
    exact ⟨_, σ, μ, V, C, z, rfl, rfl, ⟨hB, hN, hx, hm, TX, TM, cx, cm, hC, hr, hb, hz, hin, hz2, htp⟩, fun _ _ _ _ => rfl, fun _ _ _ _ => rfl, Nat.le_refl C⟩
  have hC5 : C < 6 := by omega
  rw [if_pos (show nI C < (6 : Int32) from nI_lt (show C < 6 by omega) (by decide)), if_neg (show ¬ nI C = (6 : Int32) from nI_ne (by omega) (by decide) g6), gd_h (inb_nI hC5 (by decide)), gd_h (inb_nI hC5 (by decide)), nI_clamp (by omega)]
  obtain ⟨f, σ1, a1, a2, a3⟩ := readAll (n := n) (d := d) hb hz hn hd hin hC5
  obtain ⟨μ1, b1, b2, b3⟩ := txtL (n := n) hC5 hz z 0 n μ hz2 cm (by omega) (by omega)
  rw [a1, bc_s, bv_e, show f_X6_text_L14 n n μ (0 : Int32) = _ from b1]
  unfold tend
  rw [b3 0 0 3 (by omega), cm, gd_h (inb_nI hC5 (by decide)), nI_clamp (by omega), b3 0 0 6 (by omega), hz2, bv_e, bv_e, bv_e]
  let μ2 : Wm := (up3 μ1.1 2 0 C (nI z), μ1.2)
  let μ3 : Wm := (up3 μ2.1 0 0 6 (0 : Int32), μ2.2)
  have e3 : μ3.1 0 0 3 = nI C := (u1_of (by omega)).trans ((u1_of (by omega)).trans ((b3 0 0 3 (by omega)).trans cm))
  have h2 : μ3.1 2 0 C = nI z := (u1_of (by omega)).trans (u1_at _ _ _ _ _ _)
  have h1 : ∀ i, i < z → μ3.1 1 0 (160 * C + i) = nI (b i) := fun i hi => (u1_of (by omega)).trans ((u1_of (by omega)).trans ((b2 i (by omega) hi).trans (htp i hi)))
  have F3 : ∀ c k j, ¬ ((c = 0 ∧ k = 0 ∧ j = 6) ∨ (c = 1 ∧ k = 0 ∧ 160 * C ≤ j) ∨ (c = 2 ∧ k = 0 ∧ j = C)) → μ3.1 c k j = μ.1 c k j := fun c k j q => (u1_of (by omega)).trans ((u1_of (by omega)).trans (b3 c k j (by omega)))
  show ∃ r σ' μ' V' C' z', _ ∧ (bc (f_X6_read n μ3 (μ3.1 0 0 3) (0 : Int32)) fun r6 σ7 => _) = _ ∧ _
  rw [e3]
  have old : ∀ μ' : Wm, (∀ c k j, ¬ (c = 0) → μ'.1 c k j = μ3.1 c k j) → TxM n V C μ' := by
    intro μ' F t ht
    obtain ⟨b', z', q1, q2, q3⟩ := TM t ht
    exact ⟨b', z', (F _ _ _ (by omega)).trans ((F3 _ _ _ (by omega)).trans q1), fun i hi => (F _ _ _ (by omega)).trans ((F3 _ _ _ (by have := q3.2; omega)).trans (q2 i hi)), q3⟩
  rcases a3 with ⟨c1, c2⟩ | ⟨c1, m1, m2, m3, d1, d2, d3, l1, l2, l3, d4, d5⟩
  · obtain ⟨v, μ4, r1, r2, r3, r4⟩ := c2 μ3 h2 h1
    rw [r1, bc_s, if_neg (show ¬ f = -1 from c1), r3, if_neg (show ¬ (1 : Int32) = 0 by decide), r4]
    refine ⟨_, _, μ4, V, C, 0, rfl, rfl, ⟨hB, hN, hx.fr' (fun c j p q => (up3_of (by omega)).trans (a2 c 0 j (by omega))), hm.fr' (fun c k j q => (r2 c k j (by omega)).trans (F3 c k j (by omega))), ?_, old μ4 (fun c k j q => r2 c k j (by omega)), ?_, ?_, hC, hr, hb, by omega, ⟨up3_at _ _ _ _ _, fun i hi => by omega⟩, ?_, fun i hi => by omega⟩, ?_, ?_, Nat.le_refl C⟩
    · intro t ht
      obtain ⟨n1, n2, n3, q1, q2, q3, q⟩ := TX t ht
      have er : (up3 σ1 2 0 1 (0 : Int32)) 11 t = σ 11 t := funext fun j => (up3_of (by omega)).trans (a2 11 t j (by omega))
      rw [er]
      exact ⟨n1, n2, n3, (up3_of (by omega)).trans ((a2 _ _ _ (by omega)).trans q1), (up3_of (by omega)).trans ((a2 _ _ _ (by omega)).trans q2), (up3_of (by omega)).trans ((a2 _ _ _ (by omega)).trans q3), q⟩
    · exact (up3_of (by omega)).trans ((a2 _ _ _ (by omega)).trans cx)
    · exact (r2 _ _ _ (by omega)).trans e3
    · exact (r2 _ _ _ (by omega)).trans (u1_at _ _ _ _ _ _)
    · exact fun c k j q => (up3_of (by omega)).trans (a2 c k j (by omega))
    · exact fun c k j q => (r2 c k j (by omega)).trans (F3 c k j (by omega))
  · obtain ⟨v, μ4, r1, r2, r3, -⟩ := d5 μ3 h2 h1
    rw [show f_X6_read n μ3 (nI C) (0 : Int32) = _ from r1 0 (by decide), bc_s, if_pos (show f = -1 from c1), r3, if_pos rfl, bv_e]
    let V' : Tx := fun t w ν => if t = C then (if w = 0 then vOf ν (σ1 11 C) 0 m1 else if w = 1 then vOf ν (σ1 11 C) m1 m2 else vOf ν (σ1 11 C) m2 m3) else V t w ν
    let σ2 : Gm := up3 σ1 2 0 1 (0 : Int32)
    have ec : σ2 1 0 4 = nI C := (up3_of (by omega)).trans ((a2 _ _ _ (by omega)).trans cx)
    have ecm : μ4.1 0 0 3 = nI C := (r2 _ _ _ (by omega)).trans e3
    let σ3 : Gm := up3 σ2 1 0 4 (σ2 1 0 4 + (1 : Int32))
    let μ5 : Wm := (up3 μ4.1 0 0 3 (μ4.1 0 0 3 + (1 : Int32)), μ4.2)
    have ex5 : σ3 1 0 4 = nI (C + 1) := (up3_at _ _ _ _ _).trans (by rw [ec, nI_1])
    have em5 : μ5.1 0 0 3 = nI (C + 1) := (u1_at _ _ _ _ _ _).trans (by rw [ecm, nI_1])
    refine ⟨nI (C + 1) - 1, σ3, μ5, V', C + 1, 0, ?_, ?_, ⟨hB, hN, hx.fr' (fun c j p q => (up3_of (by omega)).trans ((up3_of (by omega)).trans (a2 c 0 j (by omega)))), hm.fr' (fun c k j q => (u1_of (by omega)).trans ((r2 c k j (by omega)).trans (F3 c k j (by omega)))), ?_, ?_, ex5, em5, by omega, by omega, hb, by omega, ⟨(up3_of (by omega)).trans (up3_at _ _ _ _ _), fun i hi => by omega⟩, ?_, fun i hi => by omega⟩, ?_, ?_, Nat.le_succ C⟩
    · show some (σ3 1 0 4 - 1, σ3) = _
      rw [ex5]
    · show some (μ5.1 0 0 3 - 1, μ5) = _
      rw [em5]
    · intro t ht
      by_cases e : t = C
      · subst e
        have er : σ3 11 t = σ1 11 t := funext fun j => (up3_of (by omega)).trans (up3_of (by omega))
        rw [er]
        refine ⟨m1, m2, m3, (up3_of (by omega)).trans ((up3_of (by omega)).trans d1), (up3_of (by omega)).trans ((up3_of (by omega)).trans d2), (up3_of (by omega)).trans ((up3_of (by omega)).trans d3), l1, l2, l3, fun ν hν => ?_⟩
        have q := d4 ν hν
        have v0 : V' t 0 ν = vOf ν (σ1 11 t) 0 m1 := if_pos rfl
        have v1 : V' t 1 ν = vOf ν (σ1 11 t) m1 m2 := if_pos rfl
        have v2 : V' t 2 ν = vOf ν (σ1 11 t) m2 m3 := if_pos rfl
        rw [v0, v1, v2]
        exact q
      · obtain ⟨n1, n2, n3, q1, q2, q3, q4, q5, q6, q⟩ := TX t (by omega)
        have er : σ3 11 t = σ 11 t := funext fun j => (up3_of (by omega)).trans ((up3_of (by omega)).trans (a2 11 t j (by omega)))
        rw [er]
        refine ⟨n1, n2, n3, (up3_of (by omega)).trans ((up3_of (by omega)).trans ((a2 _ _ _ (by omega)).trans q1)), (up3_of (by omega)).trans ((up3_of (by omega)).trans ((a2 _ _ _ (by omega)).trans q2)), (up3_of (by omega)).trans ((up3_of (by omega)).trans ((a2 _ _ _ (by omega)).trans q3)), q4, q5, q6, fun ν hν => ?_⟩
        have ev : ∀ w, V' t w ν = V t w ν := fun w => if_neg e
        rw [ev, ev, ev]
        exact q ν hν
    · intro t ht
      by_cases e : t = C
      · subst e
        refine ⟨b, z, (u1_of (by omega)).trans ((r2 _ _ _ (by omega)).trans h2), fun i hi => (u1_of (by omega)).trans ((r2 _ _ _ (by omega)).trans (h1 i hi)), ?_, hz⟩
        intro μ' p1 p2 w hw
        obtain ⟨v', μ'', s1, s2, -, s4, s5, s6⟩ := d5 μ' p1 p2
        refine ⟨μ'', ?_, s2⟩
        rw [s1 w hw]
        rcases (show w = 0 ∨ w = 1 ∨ w = 2 by omega) with rfl | rfl | rfl
        · rw [s4]
          exact congrArg (fun x => some (x, μ'')) (if_pos (c := t = t) rfl).symm
        · rw [s5]
          exact congrArg (fun x => some (x, μ'')) (if_pos (c := t = t) rfl).symm
        · rw [s6]
          exact congrArg (fun x => some (x, μ'')) (if_pos (c := t = t) rfl).symm
      · obtain ⟨b', z', q1, q2, q3, q4⟩ := old μ5 (fun c k j q => (u1_of (by omega)).trans (r2 c k j (by omega))) t (by omega)
        have ev : V' t = V t := funext fun w => funext fun ν => if_neg e
        rw [ev]
        exact ⟨b', z', q1, q2, q3, q4⟩
    · exact (u1_of (by omega)).trans ((r2 _ _ _ (by omega)).trans (u1_at _ _ _ _ _ _))
    · exact fun c k j q => (up3_of (by omega)).trans ((up3_of (by omega)).trans (a2 c k j (by omega)))
    · exact fun c k j q => (u1_of (by omega)).trans ((r2 c k j (by omega)).trans (F3 c k j (by omega)))
end K

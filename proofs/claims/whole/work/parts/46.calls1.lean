/-! calls, both sides alike -/
section K
variable {n d C z : Nat} {V : Tx} {b : Nat → Nat} {S : Sk} {σ : Gm} {μ : Wm}
theorem Re.mk {S' : Sk} {σ' : Gm} {μ' : Wm} (h : Re n V C S z b σ μ) (hB : SkB S') (hN : S'.nt ≤ 999) (hx : SkX 0 S' σ') (hm : SkM S' μ') (hr : S'.ru < C) (fx : ∀ c k j, (c = 1 ∨ c = 2 ∨ c = 6 ∨ c = 11 ∨ c = 12) → σ' c k j = σ c k j) (fm : ∀ c k j, (c = 1 ∨ c = 2 ∨ c = 5 ∨ (c = 0 ∧ (j = 3 ∨ j = 6))) → μ'.1 c k j = μ.1 c k j) : Re n V C S' z b σ' μ' := by
  obtain ⟨-, -, -, -, TX, TM, cx, cm, hC, -, hb, hz, hin, hz2, htp⟩ := h
  refine ⟨hB, hN, hx, hm, ?_, ?_, (fx _ _ _ (by omega)).trans cx, (fm _ _ _ (by omega)).trans cm, hC, hr, hb, hz, ⟨(fx _ _ _ (by omega)).trans hin.1, fun i hi => (fx _ _ _ (by omega)).trans (hin.2 i hi)⟩, (fm _ _ _ (by omega)).trans hz2, fun i hi => (fm _ _ _ (by omega)).trans (htp i hi)⟩
  · intro t ht
    obtain ⟨m1, m2, m3, a1, a2, a3, b1, b2, b3, hc⟩ := TX t ht
    have e : σ' 11 t = σ 11 t := funext fun j => fx _ _ _ (by omega)
    rw [e]
    exact ⟨m1, m2, m3, (fx _ _ _ (by omega)).trans a1, (fx _ _ _ (by omega)).trans a2, (fx _ _ _ (by omega)).trans a3, b1, b2, b3, hc⟩
  · intro t ht
    obtain ⟨b', z', q1, q2, q3⟩ := TM t ht
    exact ⟨b', z', (fm _ _ _ (by omega)).trans q1, fun i hi => (fm _ _ _ (by omega)).trans (q2 i hi), q3⟩
/-- what these calls may change -/
def FcX (σ σ' : Gm) : Prop := ∀ c k j, ¬ (((c = 3 ∨ c = 7 ∨ c = 8) ∧ k = 0) ∨ ((13 ≤ c ∧ c ≤ 17) ∧ ¬ k = 1)) → σ' c k j = σ c k j
def FcM (μ μ' : Wm) : Prop := ∀ c k j, ¬ ((c = 0 ∧ k = 0 ∧ (j = 4 ∨ j = 10 ∨ j = 11 ∨ (12 ≤ j ∧ j ≤ 26))) ∨ ((c = 7 ∨ c = 8 ∨ c = 9 ∨ c = 27 ∨ c = 28) ∧ k = 0)) → μ'.1 c k j = μ.1 c k j
def Go (n : Nat) (V : Tx) (C z : Nat) (b : Nat → Nat) (σ : Gm) (μ : Wm) (f : Option (Int32 × Gm)) (g : Option (Int32 × Wm)) : Prop := ∃ r σ' μ' S', f = some (r, σ') ∧ g = some (r, μ') ∧ Re n V C S' z b σ' μ' ∧ FcX σ σ' ∧ FcM μ μ'
theorem Go.same {f : Option (Int32 × Gm)} {g : Option (Int32 × Wm)} (h : Re n V C S z b σ μ) (r : Int32) (hf : f = some (r, σ)) (hg : g = some (r, μ)) : Go n V C z b σ μ f g := ⟨r, σ, μ, S, hf, hg, h, fun _ _ _ _ => rfl, fun _ _ _ _ => rfl⟩
theorem Go.read {f : Option (Int32 × Gm)} {g : Option (Int32 × Wm)} {σ' : Gm} {μ' : Wm} (h : Re n V C S z b σ μ) (r : Int32) (hf : f = some (r, σ')) (hg : g = some (r, μ')) (fx : FrN σ σ') (fm : FrW μ μ') : Go n V C z b σ μ f g :=
  ⟨r, σ', μ', S, hf, hg, h.mk h.1 h.2.1 (h.2.2.1.fr fx) (h.2.2.2.1.fr fm) h.2.2.2.2.2.2.2.2.2.1 (fun c k j q => fx c k j (by omega)) (fun c k j q => fm c k j (by omega)), fun c k j q => fx c k j (by omega), fun c k j q => fm c k j (by omega)⟩
theorem pays_s (hR : RuX n V C) (h : Re n V C S z b σ μ) (a1 a2 : Int32) : Go n V C z b σ μ (f_X5_pays n σ a1 a2) (f_X6_pays n μ a1 a2) := by
  obtain ⟨hB, hN, hx, hm, TX, TM, cx, cm, hC, hr, -⟩ := id h
  unfold f_X5_pays f_X6_pays
  rcases one2 a1 hB with ⟨i, h1, h2, h3, h4⟩ | ⟨-, h3, h4⟩
  · rw [h3 0 σ hx, h4 μ hm, bc_s, bc_s, if_neg (show ¬ (1 : Int32) = 0 by decide), if_neg (show ¬ (1 : Int32) = 0 by decide)]
    rcases rng a2 (lo := 0) (hi := 99) (by decide) (by decide) with ⟨i2, g1, g2, g3, g4, g5⟩ | ⟨-, g4, g5⟩
    · rw [show f_X5_within σ a2 (0 : Int32) (99 : Int32) = _ from g4 σ, show f_X6_in μ a2.toInt64 (0 : Int64) (99 : Int64) = _ from g5 μ, bc_s, bc_s, if_neg (show ¬ (1 : Int32) = 0 by decide), if_neg (show ¬ (1 : Int32) = 0 by decide), h2]
      obtain ⟨σ', p1, p2⟩ := pays_x hR hB hx TX hr h1 a2
      obtain ⟨μ', q1, q2⟩ := pays_m hB hm TM hr h1 a2
      rw [p1, q1, bc_s, bc_s]
      exact Go.read h _ rfl rfl p2 q2
    · rw [show f_X5_within σ a2 (0 : Int32) (99 : Int32) = _ from g4 σ, show f_X6_in μ a2.toInt64 (0 : Int64) (99 : Int64) = _ from g5 μ, bc_s, bc_s, if_pos rfl, if_pos rfl]
      exact Go.same h _ rfl rfl
  · rw [h3 0 σ hx, h4 μ hm, bc_s, bc_s, if_pos rfl, if_pos rfl]
    exact Go.same h _ rfl rfl
theorem force_s (h : Re n V C S z b σ μ) (a1 : Int32) : Go n V C z b σ μ (f_X5_force σ a1) (f_X6_force μ a1) := by
  obtain ⟨hB, hN, hx, hm, TX, TM, cx, cm, hC, hr, -⟩ := id h
  unfold f_X5_force f_X6_force
  have hC0 : 0 < C := by omega
  rw [cx, cm, show nI C - (1 : Int32) = nI (C - 1) from pk_sub (show 1 ≤ C by omega), nI_l (show C - 1 < 2 ^ 31 by omega)]
  rcases rng a1 (lo := 0) (hi := C - 1) (by decide) (by omega) with ⟨i, g1, g2, g3, g4, g5⟩ | ⟨-, g4, g5⟩
  · rw [show f_X5_within σ a1 (0 : Int32) (nI (C - 1)) = _ from g4 σ, show f_X6_in μ a1.toInt64 (0 : Int64) (lN (C - 1)) = _ from g5 μ, bc_s, bc_s, if_neg (show ¬ (1 : Int32) = 0 by decide), if_neg (show ¬ (1 : Int32) = 0 by decide), bv_e, bv_e, bv_e, bv_e, hx.2.2.2.2.2.1, hm.2.2.2.2.2.1, g3]
    let S' : Sk := upS S 0 5 i
    have e : ∀ c j, ¬ (c = 0 ∧ j = 5) → S' c j = S c j := fun c j q => upS_of q
    refine ⟨nI S.ru, _, _, S', rfl, rfl, h.mk (hB.up (show i ≤ 5 by omega)) (by rw [show Sk.nt S' = S.nt from e 0 0 (by omega)]; exact hN) ?_ ?_ ?_ (fun c k j q => up3_of (by omega)) (fun c k j q => u1_of (by omega)), fun c k j q => up3_of (by omega), fun c k j q => u1_of (by omega)⟩
    · obtain ⟨h1, h2, h3, h4, h5, h6, h7, h8, h9, h10, h11, h12⟩ := hx
      refine ⟨(up3_of (by omega)).trans h1, (up3_of (by omega)).trans h2, (up3_of (by omega)).trans h3, (up3_of (by omega)).trans h4, (up3_of (by omega)).trans h5, (up3_at _ _ _ _ _).trans (congrArg nI (upS_at S 0 5 i).symm), (up3_of (by omega)).trans h7, (up3_of (by omega)).trans h8, (up3_of (by omega)).trans h9, (up3_of (by omega)).trans h10, fun l hl => ⟨(up3_of (by omega)).trans (h11 l hl).1, (up3_of (by omega)).trans (h11 l hl).2⟩, fun l hl => ⟨(up3_of (by omega)).trans (h12 l hl).1, (up3_of (by omega)).trans (h12 l hl).2⟩⟩
    · obtain ⟨h1, h2, h3, h4, h5, h6, h7, h8, h9, h10⟩ := hm
      refine ⟨(u1_of (by omega)).trans h1, (u1_of (by omega)).trans h2, (u1_of (by omega)).trans h3, (u1_of (by omega)).trans h4, (u1_of (by omega)).trans h5, (u1_at _ _ _ _ _ _).trans (congrArg nI (upS_at S 0 5 i).symm), (u1_of (by omega)).trans h7, (u1_of (by omega)).trans h8, fun l hl => ?_, fun l hl => ?_⟩
      · obtain ⟨q1, q2, q3⟩ := h9 l hl
        exact ⟨(u1_of (by omega)).trans q1, (u1_of (by omega)).trans q2, (u1_of (by omega)).trans q3⟩
      · obtain ⟨q1, q2, q3⟩ := h10 l hl
        exact ⟨(u1_of (by omega)).trans q1, (u1_of (by omega)).trans q2, (u1_of (by omega)).trans q3⟩
    · rw [show Sk.ru S' = i from upS_at S 0 5 i]
      omega
  · rw [show f_X5_within σ a1 (0 : Int32) (nI (C - 1)) = _ from g4 σ, show f_X6_in μ a1.toInt64 (0 : Int64) (lN (C - 1)) = _ from g5 μ, bc_s, bc_s, if_pos rfl, if_pos rfl]
    exact Go.same h _ rfl rfl
theorem night_s (hn : 600 < n) (hR : RuX n V C) (h : Re n V C S z b σ μ) (a1 : Int32) : Go n V C z b σ μ (f_X5_night n σ a1) (f_X6_night n μ a1) := by
  obtain ⟨hB, hN, hx, hm, TX, TM, cx, cm, hC, hr, -⟩ := id h
  unfold f_X5_night f_X6_night
  rcases rng a1 (lo := 0) (hi := 1) (by decide) (by decide) with ⟨i, g1, g2, g3, g4, g5⟩ | ⟨-, g4, g5⟩
  · rw [show f_X5_within σ a1 (0 : Int32) (1 : Int32) = _ from g4 σ, show f_X6_in μ a1.toInt64 (0 : Int64) (1 : Int64) = _ from g5 μ, bc_s, bc_s, if_neg (show ¬ (1 : Int32) = 0 by decide), if_neg (show ¬ (1 : Int32) = 0 by decide), hx.1, hm.1]
    by_cases q : S.nt = 999
    · rw [if_neg (show ¬ nI S.nt < (999 : Int32) from nI_nlt (show 999 ≤ S.nt by omega) (by omega)), if_pos (show nI S.nt = (999 : Int32) by rw [q]; rfl)]
      exact Go.same h _ rfl rfl
    · rw [if_pos (show nI S.nt < (999 : Int32) from nI_lt (show S.nt < 999 by omega) (by decide)), if_neg (show ¬ nI S.nt = (999 : Int32) from nI_ne (by omega) (by decide) q)]
      have key : ∀ cov : Bool, Go n V C z b σ μ (bc (f_X3_pass n 0 σ (if cov then 1 else 0)) fun r s => some (r, s)) (bc (f_X6_passes n μ (if cov then 1 else 0)) fun r s => some (r, s)) := by
        intro cov
        obtain ⟨σ', p1, p2, p3⟩ := pass_x hn hR cov hB hx TX hr (by omega)
        obtain ⟨μ', q1, q2, q3⟩ := passes_m hn cov hB hm TM hr (by omega)
        rw [p1, q1, bc_s, bc_s]
        have er : Sk.ru (passS V cov S).1 = S.ru := passS_k cov S (by omega) (by omega)
        exact ⟨_, σ', μ', (passS V cov S).1, rfl, rfl, h.mk (passS_B cov hB (by omega)) (by rw [passS_nt]; omega) p2 q2 (by rw [er]; exact hr) (fun c k j w => p3 c k j (by omega)) (fun c k j w => q3 c k j (by omega)), fun c k j w => p3 c k j (by omega), fun c k j w => q3 c k j (by omega)⟩
      rcases (show i = 0 ∨ i = 1 by omega) with rfl | rfl
      · rw [g3, if_neg (show ¬ nI 0 = (1 : Int32) by decide), if_neg (show ¬ nI 0 = (1 : Int32) by decide)]
        exact key false
      · rw [g3, if_pos (show nI 1 = (1 : Int32) from rfl), if_pos (show nI 1 = (1 : Int32) from rfl)]
        exact key true
  · rw [show f_X5_within σ a1 (0 : Int32) (1 : Int32) = _ from g4 σ, show f_X6_in μ a1.toInt64 (0 : Int64) (1 : Int64) = _ from g5 μ, bc_s, bc_s, if_pos rfl, if_pos rfl]
    exact Go.same h _ rfl rfl
theorem load_s (h : Re n V C S z b σ μ) (a1 : Int32) : Go n V C z b σ μ (f_X5_load σ a1) (f_X6_load μ a1) := by
  obtain ⟨hB, hN, hx, hm, TX, TM, cx, cm, hC, hr, -⟩ := id h
  unfold f_X5_load f_X6_load
  rcases thing2 a1 hB with ⟨i, h1, h2, h3, h4⟩ | ⟨-, h3, h4⟩
  · have hT := hB.2.2.2.2.2.2.1
    have hI := hB.2.2.2.2.2.2.2.2.2.2.1 i
    have hK := hB.2.2.2.2.2.2.2.2.1 i
    have hZ' : roomS S ≤ 999 := by have := hB.2.1; unfold roomS; omega
    obtain ⟨r1, r2, r3⟩ := hm.2.2.2.2.2.2.2.2.1 i h1
    rw [h3 0 σ hx, h4 μ hm, bc_s, bc_s, if_neg (show ¬ (1 : Int32) = 0 by decide), if_neg (show ¬ (1 : Int32) = 0 by decide), h2, takes_x hB hx h1, bc_s, x32, x31, gd_h (inb_nI (show 3 * i + 2 < 24 by omega) (by decide)), nI_clamp (show 3 * i + 2 < 2 ^ 31 by omega), nI_clamp (show 3 * i + 1 < 2 ^ 31 by omega), r3, room_m hB hm, bc_s, gd_h (inb_nI (show 3 * i + 1 < 24 by omega) (by decide)), r2]
    by_cases g : S.inn i = 0
    · rw [if_neg (show ¬ nI (S.inn i) = (1 : Int32) from fun q => by have := (b01 hI).mp q; omega)]
      by_cases g2 : S.bk i ≤ roomS S
      · rw [if_pos (show S.inn i = 0 ∧ S.bk i ≤ roomS S from ⟨g, g2⟩), if_neg (show ¬ (1 : Int32) = 0 by decide), if_pos (show nI (S.bk i) ≤ nI (roomS S) from nI_le g2 (by omega)), gd_h (inb_nI (show 3 * i + 2 < 24 by omega) (by decide)), bv_e, gd_h (inb_nI (show 3 * i + 1 < 24 by omega) (by decide)), bv_e]
        obtain ⟨σ', p1, p2, p3⟩ := putIn_x hB hx h1 g
        have hB' := putS_B hB g2
        have e1 : SkM (upS S 3 i 1) (up3 μ.1 8 0 (3 * i + 2) (1 : Int32), μ.2) := hm.upIn
        have e2 : ((up3 μ.1 8 0 (3 * i + 2) (1 : Int32), μ.2) : Wm).1 7 0 3 + ((up3 μ.1 8 0 (3 * i + 2) (1 : Int32), μ.2) : Wm).1 8 0 (3 * i + 1) = nI (S.mi + S.bk i) := by
          rw [u1_of (by omega), u1_of (by omega), hm.2.2.2.1, r2, nI_add]
        rw [e2]
        have e3 := e1.up7 (j := 3) (v := S.mi + S.bk i) (by omega)
        rw [p1, bc_s, room_x hB' p2, bc_s, room_m (S := putS S i) hB' e3, bc_s]
        exact ⟨_, σ', _, putS S i, rfl, rfl, h.mk hB' (by rw [show Sk.nt (putS S i) = S.nt from (upS_of (by omega)).trans (upS_of (by omega))]; exact hN) p2 e3 (by rw [show Sk.ru (putS S i) = S.ru from (upS_of (by omega)).trans (upS_of (by omega))]; exact hr) (fun c k j w => p3 c k j (by omega)) (fun c k j w => (u1_of (by omega)).trans (u1_of (by omega))), fun c k j w => p3 c k j (by omega), fun c k j w => (u1_of (by omega)).trans (u1_of (by omega))⟩
      · rw [if_neg (show ¬ (S.inn i = 0 ∧ S.bk i ≤ roomS S) from fun q => g2 q.2), if_pos rfl, if_neg (show ¬ nI (S.bk i) ≤ nI (roomS S) from nI_ge (by omega) (by omega))]
        exact Go.same h _ rfl rfl
    · rw [if_pos (show nI (S.inn i) = (1 : Int32) from (b01 hI).mpr (by omega)), if_neg (show ¬ (S.inn i = 0 ∧ S.bk i ≤ roomS S) from fun q => g q.1), if_pos rfl]
      exact Go.same h _ rfl rfl
  · rw [h3 0 σ hx, h4 μ hm, bc_s, bc_s, if_pos rfl, if_pos rfl]
    exact Go.same h _ rfl rfl
end K

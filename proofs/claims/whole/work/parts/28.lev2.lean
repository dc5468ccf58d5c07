/-! the reference's loops, told by what they call -/
def TL (n : Nat) (A : Wm → Option (Int32 × Wm)) : Nat → Wm → Int32 → Option (Int32 × Wm)
  | 0, _, _ => none
  | i + 1, σ, x0 => bc (f_X6_isSign σ (42 : Int32)) fun r4 σ5 => (if r4 = 0 then some (x0, σ5) else bc (f_X6_next n σ5) fun r8 σ9 => bc (A σ9) fun r11 σ12 => bv (x0 * r11) fun v14 => TL n A i σ12 v14)
def AL3 (n : Nat) (A : Wm → Option (Int32 × Wm)) (lp : Wm → Int32 → Option (Int32 × Wm)) (σ : Wm) (x0 : Int32) (x1 : Int32) : Option (Int32 × Wm) := bc (f_X6_next n σ) fun r9 σ10 => bc (A σ10) fun r12 σ13 => (if x1 = 0 then bv (x0 - r12) fun v16 => lp σ13 v16 else bv (x0 + r12) fun v17 => lp σ13 v17)
def AL2 (n : Nat) (A : Wm → Option (Int32 × Wm)) (lp : Wm → Int32 → Option (Int32 × Wm)) (σ : Wm) (x0 : Int32) : Option (Int32 × Wm) := (if (lg_cmp σ.2 (43 : Int64)) = 0 then AL3 n A lp σ x0 (1 : Int32) else AL3 n A lp σ x0 (0 : Int32))
def AL (n : Nat) (A : Wm → Option (Int32 × Wm)) : Nat → Wm → Int32 → Option (Int32 × Wm)
  | 0, _, _ => none
  | i + 1, σ, x0 => bc (f_X6_isSign σ (43 : Int32)) fun r4 σ5 => (if r4 = 0 then bc (f_X6_isSign σ5 (45 : Int32)) fun r18 σ19 => (if r18 = 0 then some (x0, σ19) else AL2 n A (AL n A i) σ19 x0) else AL2 n A (AL n A i) σ5 x0)
def BL (n : Nat) (A : Wm → Option (Int32 × Wm)) : Nat → Wm → Int32 → Option (Int32 × Wm)
  | 0, _, _ => none
  | i + 1, σ, x0 => bc (f_X6_isWord σ (97 : Int32) (110 : Int32) (100 : Int32) (0 : Int32) (0 : Int32) (0 : Int32) (0 : Int32) (0 : Int32)) fun r4 σ5 => (if r4 = 0 then some (x0, σ5) else bc (f_X6_next n σ5) fun r8 σ9 => bc (A σ9) fun r11 σ12 => (if x0 = 0 then BL n A i σ12 (0 : Int32) else (if r11 = 0 then BL n A i σ12 (0 : Int32) else BL n A i σ12 (1 : Int32))))
def EL (n : Nat) (A : Wm → Option (Int32 × Wm)) : Nat → Wm → Int32 → Option (Int32 × Wm)
  | 0, _, _ => none
  | i + 1, σ, x0 => bc (f_X6_isWord σ (111 : Int32) (114 : Int32) (0 : Int32) (0 : Int32) (0 : Int32) (0 : Int32) (0 : Int32) (0 : Int32)) fun r4 σ5 => (if r4 = 0 then some (x0, σ5) else bc (f_X6_next n σ5) fun r8 σ9 => bc (A σ9) fun r11 σ12 => (if x0 = 0 then (if r11 = 0 then EL n A i σ12 (0 : Int32) else EL n A i σ12 (1 : Int32)) else EL n A i σ12 (1 : Int32)))
section LL
variable {b : Nat → Nat} {z t n kk o : Nat}
theorem termP (hb : ∀ i, b i < 256) (hz : z ≤ 160) (hn : 160 < n) {N : Nat} (A : Wm → Option (Int32 × Wm)) (hA : SimP b z t n kk 5 o N A) : SimP b z t n kk 4 o (N + 2) (fun μ => bc (A μ) fun x μ1 => TL n A n μ1 x) := by
  refine star hb hz hn (r := 4) (by decide) (by decide) (fun κ w => κ = 3 ∧ w = 42) ?_ A _ (TL n A) ?_ ?_ ?_ (fun _ => rfl) hA
  · intro q e κ w hT
    have i := tkx_s hT (c := 42) (by unfold isS; omega)
    exact ⟨(rk4 _).trans i, fun h => by have := i.mpr h; omega⟩
  · intro i μ x q e κ w hT hm hp
    rcases sgnM hT hm (c := 42) (by decide) with ⟨a, r⟩ | ⟨a, r⟩
    · exact absurd a hp
    · rw [TL, show f_X6_isSign μ (42 : Int32) = some (0, μ) from r, bc_s, if_pos rfl]
  · intro i μ x hB
    rw [TL, sgnB hB, bc_s, if_pos rfl]
  · intro i μ x q e κ w hT hm hp
    have h42 := (tkx_s hT (c := 42) (by unfold isS; omega)).mpr hp
    rcases sgnM hT hm (c := 42) (by decide) with ⟨a, r⟩ | ⟨a, r⟩
    · rw [TL, show f_X6_isSign μ (42 : Int32) = some (1, μ) from r, bc_s, if_neg (by decide), h42]
      rfl
    · exact absurd hp a
theorem addP (hb : ∀ i, b i < 256) (hz : z ≤ 160) (hn : 160 < n) {N : Nat} (A : Wm → Option (Int32 × Wm)) (hA : SimP b z t n kk 4 o N A) : SimP b z t n kk 3 o (N + 2) (fun μ => bc (A μ) fun x μ1 => AL n A n μ1 x) := by
  refine star hb hz hn (r := 3) (by decide) (by decide) (fun κ w => (κ = 3 ∧ w = 43) ∨ (κ = 3 ∧ w = 45)) ?_ A _ (AL n A) ?_ ?_ ?_ (fun _ => rfl) hA
  · intro q e κ w hT
    have i := tkx_s hT (c := 43) (by unfold isS; omega)
    have j := tkx_s hT (c := 45) (by unfold isS; omega)
    refine ⟨(rk3 _).trans (or_congr i j), fun h => ?_⟩
    rcases h with h | h
    · have := i.mpr h; omega
    · have := j.mpr h; omega
  · intro i μ x q e κ w hT hm hp
    rcases sgnM hT hm (c := 43) (by decide) with ⟨a, r⟩ | ⟨a, r⟩
    · exact absurd (Or.inl a) hp
    · rcases sgnM hT hm (c := 45) (by decide) with ⟨a2, r2⟩ | ⟨a2, r2⟩
      · exact absurd (Or.inr a2) hp
      · rw [AL, show f_X6_isSign μ (43 : Int32) = some (0, μ) from r, bc_s, if_pos rfl, show f_X6_isSign μ (45 : Int32) = some (0, μ) from r2, bc_s, if_pos rfl]
  · intro i μ x hB
    rw [AL, sgnB hB, bc_s, if_pos rfl, sgnB hB, bc_s, if_pos rfl]
  · intro i μ x q e κ w hT hm hp
    rcases sgnM hT hm (c := 43) (by decide) with ⟨a, r⟩ | ⟨a, r⟩
    · have h43 := (tkx_s hT (c := 43) (by unfold isS; omega)).mpr a
      rw [AL, show f_X6_isSign μ (43 : Int32) = some (1, μ) from r, bc_s, if_neg (by decide), h43]
      unfold AL2 AL3
      rw [hm.2.2.2.2.1 (Or.inr a.1), if_pos (show lg_cmp (lN w) (43 : Int64) = 0 from (lgc_eq (by omega) (y := 43) (by decide)).mpr a.2)]
      refine bc_congr _ fun _ s => bc_congr _ fun y s2 => ?_
      rw [if_neg (by decide)]
      rfl
    · rcases sgnM hT hm (c := 45) (by decide) with ⟨a2, r2⟩ | ⟨a2, r2⟩
      · have h45 := (tkx_s hT (c := 45) (by unfold isS; omega)).mpr a2
        rw [AL, show f_X6_isSign μ (43 : Int32) = some (0, μ) from r, bc_s, if_pos rfl, show f_X6_isSign μ (45 : Int32) = some (1, μ) from r2, bc_s, if_neg (by decide), h45]
        unfold AL2 AL3
        rw [hm.2.2.2.2.1 (Or.inr a2.1), if_neg (show ¬ lg_cmp (lN w) (43 : Int64) = 0 from fun h => by have := (lgc_eq (by omega) (y := 43) (by decide)).mp h; omega)]
        refine bc_congr _ fun _ s => bc_congr _ fun y s2 => ?_
        rw [if_pos rfl]
        rfl
      · rcases hp with hp | hp
        · exact absurd hp a
        · exact absurd hp a2
theorem bothP (hb : ∀ i, b i < 256) (hz : z ≤ 160) (hn : 160 < n) {N : Nat} (A : Wm → Option (Int32 × Wm)) (hA : SimP b z t n kk 2 o N A) : SimP b z t n kk 1 o (N + 2) (fun μ => bc (A μ) fun x μ1 => BL n A n μ1 x) := by
  refine star hb hz hn (r := 1) (by decide) (by decide) (fun κ w => κ = 1 ∧ w = 10) ?_ A _ (BL n A) ?_ ?_ ?_ (fun _ => rfl) hA
  · intro q e κ w hT
    have i := tkx_w hT (c := 10) (by decide)
    exact ⟨(rk1 _).trans i, fun h => by have := i.mpr h; omega⟩
  · intro i μ x q e κ w hT hm hp
    rcases wrd_10 hb hz hT hm with ⟨a, r⟩ | ⟨a, r⟩
    · exact absurd a hp
    · rw [BL, r, bc_s, if_pos rfl]
  · intro i μ x hB
    rw [BL, wrdB hB, bc_s, if_pos rfl]
  · intro i μ x q e κ w hT hm hp
    have h10 := (tkx_w hT (c := 10) (by decide)).mpr hp
    rcases wrd_10 hb hz hT hm with ⟨a, r⟩ | ⟨a, r⟩
    · rw [BL, r, bc_s, if_neg (by decide), h10]
      refine bc_congr _ fun _ s => bc_congr _ fun y s2 => ?_
      unfold jnd
      rw [if_pos (show nI 10 = (10 : Int32) from rfl)]
      by_cases h1 : x = 0
      · rw [if_pos h1, if_pos h1]
      · rw [if_neg h1, if_neg h1]
        by_cases h2 : y = 0
        · rw [if_pos h2, if_pos h2]
        · rw [if_neg h2, if_neg h2]
    · exact absurd hp a
theorem eitherP (hb : ∀ i, b i < 256) (hz : z ≤ 160) (hn : 160 < n) {N : Nat} (A : Wm → Option (Int32 × Wm)) (hA : SimP b z t n kk 1 o N A) : SimP b z t n kk 0 o (N + 2) (fun μ => bc (A μ) fun x μ1 => EL n A n μ1 x) := by
  refine star hb hz hn (r := 0) (by decide) (by decide) (fun κ w => κ = 1 ∧ w = 9) ?_ A _ (EL n A) ?_ ?_ ?_ (fun _ => rfl) hA
  · intro q e κ w hT
    have i := tkx_w hT (c := 9) (by decide)
    exact ⟨(rk0 _).trans i, fun h => by have := i.mpr h; omega⟩
  · intro i μ x q e κ w hT hm hp
    rcases wrd_9 hb hz hT hm with ⟨a, r⟩ | ⟨a, r⟩
    · exact absurd a hp
    · rw [EL, r, bc_s, if_pos rfl]
  · intro i μ x hB
    rw [EL, wrdB hB, bc_s, if_pos rfl]
  · intro i μ x q e κ w hT hm hp
    have h9 := (tkx_w hT (c := 9) (by decide)).mpr hp
    rcases wrd_9 hb hz hT hm with ⟨a, r⟩ | ⟨a, r⟩
    · rw [EL, r, bc_s, if_neg (by decide), h9]
      refine bc_congr _ fun _ s => bc_congr _ fun y s2 => ?_
      unfold jnd
      rw [if_neg (show ¬ nI 9 = (10 : Int32) by decide), if_neg (show ¬ nI 9 = (42 : Int32) by decide), if_neg (show ¬ nI 9 = (43 : Int32) by decide), if_neg (show ¬ nI 9 = (45 : Int32) by decide), if_neg (show ¬ nI 9 = (60 : Int32) by decide), if_neg (show ¬ nI 9 = (61 : Int32) by decide)]
      by_cases h1 : x = 0
      · rw [if_pos h1, if_pos h1]
        by_cases h2 : y = 0
        · rw [if_pos h2, if_pos h2]
        · rw [if_neg h2, if_neg h2]
      · rw [if_neg h1, if_neg h1]
    · exact absurd hp a
theorem s5_5 (hb : ∀ i, b i < 256) (hz : z ≤ 160) (hn : 160 < n) : SimP b z t n kk 5 5 3 (f_X6_atom5 n) := atomP5 hb hz hn
theorem q_term5 (n : Nat) : ∀ i σ x, f_X6_term5_L5 n i σ x = TL n (f_X6_atom5 n) i σ x := by
  intro i
  induction i with
  | zero => intro σ x; rfl
  | succ i ih =>
    intro σ x
    rw [f_X6_term5_L5, TL]
    simp only [ih]
theorem s5_4 (hb : ∀ i, b i < 256) (hz : z ≤ 160) (hn : 160 < n) : SimP b z t n kk 4 5 5 (f_X6_term5 n) := by
  have h := termP hb hz hn (f_X6_atom5 n) (s5_5 (t := t) (kk := kk) hb hz hn)
  have e : (fun μ => bc (f_X6_atom5 n μ) fun x μ1 => TL n (f_X6_atom5 n) n μ1 x) = f_X6_term5 n := by
    funext μ
    unfold f_X6_term5
    exact bc_congr _ fun x s => (q_term5 n n s x).symm
  rw [e] at h
  exact h
theorem q_added5 (n : Nat) : ∀ i σ x, f_X6_added5_L5 n i σ x = AL n (f_X6_term5 n) i σ x := by
  intro i
  induction i with
  | zero => intro σ x; rfl
  | succ i ih =>
    intro σ x
    rw [f_X6_added5_L5, AL]
    have e : f_X6_added5_L5 n i = AL n (f_X6_term5 n) i := funext fun s => funext fun y => ih s y
    rw [e]
    rfl
theorem s5_3 (hb : ∀ i, b i < 256) (hz : z ≤ 160) (hn : 160 < n) : SimP b z t n kk 3 5 7 (f_X6_added5 n) := by
  have h := addP hb hz hn (f_X6_term5 n) (s5_4 (t := t) (kk := kk) hb hz hn)
  have e : (fun μ => bc (f_X6_term5 n μ) fun x μ1 => AL n (f_X6_term5 n) n μ1 x) = f_X6_added5 n := by
    funext μ
    unfold f_X6_added5
    exact bc_congr _ fun x s => (q_added5 n n s x).symm
  rw [e] at h
  exact h
theorem s5_2 (hb : ∀ i, b i < 256) (hz : z ≤ 160) (hn : 160 < n) : SimP b z t n kk 2 5 9 (f_X6_not5 n) := notP5 hb hz hn (f_X6_added5 n) (s5_3 hb hz hn)
theorem q_both5 (n : Nat) : ∀ i σ x, f_X6_both5_L5 n i σ x = BL n (f_X6_not5 n) i σ x := by
  intro i
  induction i with
  | zero => intro σ x; rfl
  | succ i ih =>
    intro σ x
    rw [f_X6_both5_L5, BL]
    simp only [ih]
theorem s5_1 (hb : ∀ i, b i < 256) (hz : z ≤ 160) (hn : 160 < n) : SimP b z t n kk 1 5 11 (f_X6_both5 n) := by
  have h := bothP hb hz hn (f_X6_not5 n) (s5_2 (t := t) (kk := kk) hb hz hn)
  have e : (fun μ => bc (f_X6_not5 n μ) fun x μ1 => BL n (f_X6_not5 n) n μ1 x) = f_X6_both5 n := by
    funext μ
    unfold f_X6_both5
    exact bc_congr _ fun x s => (q_both5 n n s x).symm
  rw [e] at h
  exact h
theorem q_either5 (n : Nat) : ∀ i σ x, f_X6_either5_L5 n i σ x = EL n (f_X6_both5 n) i σ x := by
  intro i
  induction i with
  | zero => intro σ x; rfl
  | succ i ih =>
    intro σ x
    rw [f_X6_either5_L5, EL]
    simp only [ih]
theorem s5_0 (hb : ∀ i, b i < 256) (hz : z ≤ 160) (hn : 160 < n) : SimP b z t n kk 0 5 13 (f_X6_either5 n) := by
  have h := eitherP hb hz hn (f_X6_both5 n) (s5_1 (t := t) (kk := kk) hb hz hn)
  have e : (fun μ => bc (f_X6_both5 n μ) fun x μ1 => EL n (f_X6_both5 n) n μ1 x) = f_X6_either5 n := by
    funext μ
    unfold f_X6_either5
    exact bc_congr _ fun x s => (q_either5 n n s x).symm
  rw [e] at h
  exact h
theorem s4_5 (hb : ∀ i, b i < 256) (hz : z ≤ 160) (hn : 160 < n) : SimP b z t n kk 5 4 16 (f_X6_atom4 n) := atomP hb hz hn (by decide) (f_X6_atom5 n) (f_X6_either5 n) ((s5_5 hb hz hn).mono (by decide)) (s5_0 hb hz hn)
theorem q_term4 (n : Nat) : ∀ i σ x, f_X6_term4_L5 n i σ x = TL n (f_X6_atom4 n) i σ x := by
  intro i
  induction i with
  | zero => intro σ x; rfl
  | succ i ih =>
    intro σ x
    rw [f_X6_term4_L5, TL]
    simp only [ih]
theorem s4_4 (hb : ∀ i, b i < 256) (hz : z ≤ 160) (hn : 160 < n) : SimP b z t n kk 4 4 18 (f_X6_term4 n) := by
  have h := termP hb hz hn (f_X6_atom4 n) (s4_5 (t := t) (kk := kk) hb hz hn)
  have e : (fun μ => bc (f_X6_atom4 n μ) fun x μ1 => TL n (f_X6_atom4 n) n μ1 x) = f_X6_term4 n := by
    funext μ
    unfold f_X6_term4
    exact bc_congr _ fun x s => (q_term4 n n s x).symm
  rw [e] at h
  exact h
theorem q_added4 (n : Nat) : ∀ i σ x, f_X6_added4_L5 n i σ x = AL n (f_X6_term4 n) i σ x := by
  intro i
  induction i with
  | zero => intro σ x; rfl
  | succ i ih =>
    intro σ x
    rw [f_X6_added4_L5, AL]
    have e : f_X6_added4_L5 n i = AL n (f_X6_term4 n) i := funext fun s => funext fun y => ih s y
    rw [e]
    rfl
theorem s4_3 (hb : ∀ i, b i < 256) (hz : z ≤ 160) (hn : 160 < n) : SimP b z t n kk 3 4 20 (f_X6_added4 n) := by
  have h := addP hb hz hn (f_X6_term4 n) (s4_4 (t := t) (kk := kk) hb hz hn)
  have e : (fun μ => bc (f_X6_term4 n μ) fun x μ1 => AL n (f_X6_term4 n) n μ1 x) = f_X6_added4 n := by
    funext μ
    unfold f_X6_added4
    exact bc_congr _ fun x s => (q_added4 n n s x).symm
  rw [e] at h
  exact h
theorem s4_2 (hb : ∀ i, b i < 256) (hz : z ≤ 160) (hn : 160 < n) : SimP b z t n kk 2 4 22 (f_X6_not4 n) := notP hb hz hn (by decide) (f_X6_added4 n) (f_X6_not5 n) ((s4_3 hb hz hn).mono (by decide)) ((s5_2 hb hz hn).mono (by decide))
theorem q_both4 (n : Nat) : ∀ i σ x, f_X6_both4_L5 n i σ x = BL n (f_X6_not4 n) i σ x := by
  intro i
  induction i with
  | zero => intro σ x; rfl
  | succ i ih =>
    intro σ x
    rw [f_X6_both4_L5, BL]
    simp only [ih]
theorem s4_1 (hb : ∀ i, b i < 256) (hz : z ≤ 160) (hn : 160 < n) : SimP b z t n kk 1 4 24 (f_X6_both4 n) := by
  have h := bothP hb hz hn (f_X6_not4 n) (s4_2 (t := t) (kk := kk) hb hz hn)
  have e : (fun μ => bc (f_X6_not4 n μ) fun x μ1 => BL n (f_X6_not4 n) n μ1 x) = f_X6_both4 n := by
    funext μ
    unfold f_X6_both4
    exact bc_congr _ fun x s => (q_both4 n n s x).symm
  rw [e] at h
  exact h
theorem q_either4 (n : Nat) : ∀ i σ x, f_X6_either4_L5 n i σ x = EL n (f_X6_both4 n) i σ x := by
  intro i
  induction i with
  | zero => intro σ x; rfl
  | succ i ih =>
    intro σ x
    rw [f_X6_either4_L5, EL]
    simp only [ih]
theorem s4_0 (hb : ∀ i, b i < 256) (hz : z ≤ 160) (hn : 160 < n) : SimP b z t n kk 0 4 26 (f_X6_either4 n) := by
  have h := eitherP hb hz hn (f_X6_both4 n) (s4_1 (t := t) (kk := kk) hb hz hn)
  have e : (fun μ => bc (f_X6_both4 n μ) fun x μ1 => EL n (f_X6_both4 n) n μ1 x) = f_X6_either4 n := by
    funext μ
    unfold f_X6_either4
    exact bc_congr _ fun x s => (q_either4 n n s x).symm
  rw [e] at h
  exact h
theorem s3_5 (hb : ∀ i, b i < 256) (hz : z ≤ 160) (hn : 160 < n) : SimP b z t n kk 5 3 29 (f_X6_atom3 n) := atomP hb hz hn (by decide) (f_X6_atom4 n) (f_X6_either4 n) ((s4_5 hb hz hn).mono (by decide)) (s4_0 hb hz hn)
theorem q_term3 (n : Nat) : ∀ i σ x, f_X6_term3_L5 n i σ x = TL n (f_X6_atom3 n) i σ x := by
  intro i
  induction i with
  | zero => intro σ x; rfl
  | succ i ih =>
    intro σ x
    rw [f_X6_term3_L5, TL]
    simp only [ih]
theorem s3_4 (hb : ∀ i, b i < 256) (hz : z ≤ 160) (hn : 160 < n) : SimP b z t n kk 4 3 31 (f_X6_term3 n) := by
  have h := termP hb hz hn (f_X6_atom3 n) (s3_5 (t := t) (kk := kk) hb hz hn)
  have e : (fun μ => bc (f_X6_atom3 n μ) fun x μ1 => TL n (f_X6_atom3 n) n μ1 x) = f_X6_term3 n := by
    funext μ
    unfold f_X6_term3
    exact bc_congr _ fun x s => (q_term3 n n s x).symm
  rw [e] at h
  exact h
theorem q_added3 (n : Nat) : ∀ i σ x, f_X6_added3_L5 n i σ x = AL n (f_X6_term3 n) i σ x := by
  intro i
  induction i with
  | zero => intro σ x; rfl
  | succ i ih =>
    intro σ x
    rw [f_X6_added3_L5, AL]
    have e : f_X6_added3_L5 n i = AL n (f_X6_term3 n) i := funext fun s => funext fun y => ih s y
    rw [e]
    rfl
theorem s3_3 (hb : ∀ i, b i < 256) (hz : z ≤ 160) (hn : 160 < n) : SimP b z t n kk 3 3 33 (f_X6_added3 n) := by
  have h := addP hb hz hn (f_X6_term3 n) (s3_4 (t := t) (kk := kk) hb hz hn)
  have e : (fun μ => bc (f_X6_term3 n μ) fun x μ1 => AL n (f_X6_term3 n) n μ1 x) = f_X6_added3 n := by
    funext μ
    unfold f_X6_added3
    exact bc_congr _ fun x s => (q_added3 n n s x).symm
  rw [e] at h
  exact h
theorem s3_2 (hb : ∀ i, b i < 256) (hz : z ≤ 160) (hn : 160 < n) : SimP b z t n kk 2 3 35 (f_X6_not3 n) := notP hb hz hn (by decide) (f_X6_added3 n) (f_X6_not4 n) ((s3_3 hb hz hn).mono (by decide)) ((s4_2 hb hz hn).mono (by decide))
theorem q_both3 (n : Nat) : ∀ i σ x, f_X6_both3_L5 n i σ x = BL n (f_X6_not3 n) i σ x := by
  intro i
  induction i with
  | zero => intro σ x; rfl
  | succ i ih =>
    intro σ x
    rw [f_X6_both3_L5, BL]
    simp only [ih]
theorem s3_1 (hb : ∀ i, b i < 256) (hz : z ≤ 160) (hn : 160 < n) : SimP b z t n kk 1 3 37 (f_X6_both3 n) := by
  have h := bothP hb hz hn (f_X6_not3 n) (s3_2 (t := t) (kk := kk) hb hz hn)
  have e : (fun μ => bc (f_X6_not3 n μ) fun x μ1 => BL n (f_X6_not3 n) n μ1 x) = f_X6_both3 n := by
    funext μ
    unfold f_X6_both3
    exact bc_congr _ fun x s => (q_both3 n n s x).symm
  rw [e] at h
  exact h
theorem q_either3 (n : Nat) : ∀ i σ x, f_X6_either3_L5 n i σ x = EL n (f_X6_both3 n) i σ x := by
  intro i
  induction i with
  | zero => intro σ x; rfl
  | succ i ih =>
    intro σ x
    rw [f_X6_either3_L5, EL]
    simp only [ih]
theorem s3_0 (hb : ∀ i, b i < 256) (hz : z ≤ 160) (hn : 160 < n) : SimP b z t n kk 0 3 39 (f_X6_either3 n) := by
  have h := eitherP hb hz hn (f_X6_both3 n) (s3_1 (t := t) (kk := kk) hb hz hn)
  have e : (fun μ => bc (f_X6_both3 n μ) fun x μ1 => EL n (f_X6_both3 n) n μ1 x) = f_X6_either3 n := by
    funext μ
    unfold f_X6_either3
    exact bc_congr _ fun x s => (q_either3 n n s x).symm
  rw [e] at h
  exact h
theorem s2_5 (hb : ∀ i, b i < 256) (hz : z ≤ 160) (hn : 160 < n) : SimP b z t n kk 5 2 42 (f_X6_atom2 n) := atomP hb hz hn (by decide) (f_X6_atom3 n) (f_X6_either3 n) ((s3_5 hb hz hn).mono (by decide)) (s3_0 hb hz hn)
theorem q_term2 (n : Nat) : ∀ i σ x, f_X6_term2_L5 n i σ x = TL n (f_X6_atom2 n) i σ x := by
  intro i
  induction i with
  | zero => intro σ x; rfl
  | succ i ih =>
    intro σ x
    rw [f_X6_term2_L5, TL]
    simp only [ih]
theorem s2_4 (hb : ∀ i, b i < 256) (hz : z ≤ 160) (hn : 160 < n) : SimP b z t n kk 4 2 44 (f_X6_term2 n) := by
  have h := termP hb hz hn (f_X6_atom2 n) (s2_5 (t := t) (kk := kk) hb hz hn)
  have e : (fun μ => bc (f_X6_atom2 n μ) fun x μ1 => TL n (f_X6_atom2 n) n μ1 x) = f_X6_term2 n := by
    funext μ
    unfold f_X6_term2
    exact bc_congr _ fun x s => (q_term2 n n s x).symm
  rw [e] at h
  exact h
theorem q_added2 (n : Nat) : ∀ i σ x, f_X6_added2_L5 n i σ x = AL n (f_X6_term2 n) i σ x := by
  intro i
  induction i with
  | zero => intro σ x; rfl
  | succ i ih =>
    intro σ x
    rw [f_X6_added2_L5, AL]
    have e : f_X6_added2_L5 n i = AL n (f_X6_term2 n) i := funext fun s => funext fun y => ih s y
    rw [e]
    rfl
theorem s2_3 (hb : ∀ i, b i < 256) (hz : z ≤ 160) (hn : 160 < n) : SimP b z t n kk 3 2 46 (f_X6_added2 n) := by
  have h := addP hb hz hn (f_X6_term2 n) (s2_4 (t := t) (kk := kk) hb hz hn)
  have e : (fun μ => bc (f_X6_term2 n μ) fun x μ1 => AL n (f_X6_term2 n) n μ1 x) = f_X6_added2 n := by
    funext μ
    unfold f_X6_added2
    exact bc_congr _ fun x s => (q_added2 n n s x).symm
  rw [e] at h
  exact h
theorem s2_2 (hb : ∀ i, b i < 256) (hz : z ≤ 160) (hn : 160 < n) : SimP b z t n kk 2 2 48 (f_X6_not2 n) := notP hb hz hn (by decide) (f_X6_added2 n) (f_X6_not3 n) ((s2_3 hb hz hn).mono (by decide)) ((s3_2 hb hz hn).mono (by decide))
theorem q_both2 (n : Nat) : ∀ i σ x, f_X6_both2_L5 n i σ x = BL n (f_X6_not2 n) i σ x := by
  intro i
  induction i with
  | zero => intro σ x; rfl
  | succ i ih =>
    intro σ x
    rw [f_X6_both2_L5, BL]
    simp only [ih]
theorem s2_1 (hb : ∀ i, b i < 256) (hz : z ≤ 160) (hn : 160 < n) : SimP b z t n kk 1 2 50 (f_X6_both2 n) := by
  have h := bothP hb hz hn (f_X6_not2 n) (s2_2 (t := t) (kk := kk) hb hz hn)
  have e : (fun μ => bc (f_X6_not2 n μ) fun x μ1 => BL n (f_X6_not2 n) n μ1 x) = f_X6_both2 n := by
    funext μ
    unfold f_X6_both2
    exact bc_congr _ fun x s => (q_both2 n n s x).symm
  rw [e] at h
  exact h
theorem q_either2 (n : Nat) : ∀ i σ x, f_X6_either2_L5 n i σ x = EL n (f_X6_both2 n) i σ x := by
  intro i
  induction i with
  | zero => intro σ x; rfl
  | succ i ih =>
    intro σ x
    rw [f_X6_either2_L5, EL]
    simp only [ih]
theorem s2_0 (hb : ∀ i, b i < 256) (hz : z ≤ 160) (hn : 160 < n) : SimP b z t n kk 0 2 52 (f_X6_either2 n) := by
  have h := eitherP hb hz hn (f_X6_both2 n) (s2_1 (t := t) (kk := kk) hb hz hn)
  have e : (fun μ => bc (f_X6_both2 n μ) fun x μ1 => EL n (f_X6_both2 n) n μ1 x) = f_X6_either2 n := by
    funext μ
    unfold f_X6_either2
    exact bc_congr _ fun x s => (q_either2 n n s x).symm
  rw [e] at h
  exact h
theorem s1_5 (hb : ∀ i, b i < 256) (hz : z ≤ 160) (hn : 160 < n) : SimP b z t n kk 5 1 55 (f_X6_atom1 n) := atomP hb hz hn (by decide) (f_X6_atom2 n) (f_X6_either2 n) ((s2_5 hb hz hn).mono (by decide)) (s2_0 hb hz hn)
theorem q_term1 (n : Nat) : ∀ i σ x, f_X6_term1_L5 n i σ x = TL n (f_X6_atom1 n) i σ x := by
  intro i
  induction i with
  | zero => intro σ x; rfl
  | succ i ih =>
    intro σ x
    rw [f_X6_term1_L5, TL]
    simp only [ih]
theorem s1_4 (hb : ∀ i, b i < 256) (hz : z ≤ 160) (hn : 160 < n) : SimP b z t n kk 4 1 57 (f_X6_term1 n) := by
  have h := termP hb hz hn (f_X6_atom1 n) (s1_5 (t := t) (kk := kk) hb hz hn)
  have e : (fun μ => bc (f_X6_atom1 n μ) fun x μ1 => TL n (f_X6_atom1 n) n μ1 x) = f_X6_term1 n := by
    funext μ
    unfold f_X6_term1
    exact bc_congr _ fun x s => (q_term1 n n s x).symm
  rw [e] at h
  exact h
theorem q_added1 (n : Nat) : ∀ i σ x, f_X6_added1_L5 n i σ x = AL n (f_X6_term1 n) i σ x := by
  intro i
  induction i with
  | zero => intro σ x; rfl
  | succ i ih =>
    intro σ x
    rw [f_X6_added1_L5, AL]
    have e : f_X6_added1_L5 n i = AL n (f_X6_term1 n) i := funext fun s => funext fun y => ih s y
    rw [e]
    rfl
theorem s1_3 (hb : ∀ i, b i < 256) (hz : z ≤ 160) (hn : 160 < n) : SimP b z t n kk 3 1 59 (f_X6_added1 n) := by
  have h := addP hb hz hn (f_X6_term1 n) (s1_4 (t := t) (kk := kk) hb hz hn)
  have e : (fun μ => bc (f_X6_term1 n μ) fun x μ1 => AL n (f_X6_term1 n) n μ1 x) = f_X6_added1 n := by
    funext μ
    unfold f_X6_added1
    exact bc_congr _ fun x s => (q_added1 n n s x).symm
  rw [e] at h
  exact h
theorem s1_2 (hb : ∀ i, b i < 256) (hz : z ≤ 160) (hn : 160 < n) : SimP b z t n kk 2 1 61 (f_X6_not1 n) := notP hb hz hn (by decide) (f_X6_added1 n) (f_X6_not2 n) ((s1_3 hb hz hn).mono (by decide)) ((s2_2 hb hz hn).mono (by decide))
theorem q_both1 (n : Nat) : ∀ i σ x, f_X6_both1_L5 n i σ x = BL n (f_X6_not1 n) i σ x := by
  intro i
  induction i with
  | zero => intro σ x; rfl
  | succ i ih =>
    intro σ x
    rw [f_X6_both1_L5, BL]
    simp only [ih]
theorem s1_1 (hb : ∀ i, b i < 256) (hz : z ≤ 160) (hn : 160 < n) : SimP b z t n kk 1 1 63 (f_X6_both1 n) := by
  have h := bothP hb hz hn (f_X6_not1 n) (s1_2 (t := t) (kk := kk) hb hz hn)
  have e : (fun μ => bc (f_X6_not1 n μ) fun x μ1 => BL n (f_X6_not1 n) n μ1 x) = f_X6_both1 n := by
    funext μ
    unfold f_X6_both1
    exact bc_congr _ fun x s => (q_both1 n n s x).symm
  rw [e] at h
  exact h
theorem q_either1 (n : Nat) : ∀ i σ x, f_X6_either1_L5 n i σ x = EL n (f_X6_both1 n) i σ x := by
  intro i
  induction i with
  | zero => intro σ x; rfl
  | succ i ih =>
    intro σ x
    rw [f_X6_either1_L5, EL]
    simp only [ih]
theorem s1_0 (hb : ∀ i, b i < 256) (hz : z ≤ 160) (hn : 160 < n) : SimP b z t n kk 0 1 65 (f_X6_either1 n) := by
  have h := eitherP hb hz hn (f_X6_both1 n) (s1_1 (t := t) (kk := kk) hb hz hn)
  have e : (fun μ => bc (f_X6_both1 n μ) fun x μ1 => EL n (f_X6_both1 n) n μ1 x) = f_X6_either1 n := by
    funext μ
    unfold f_X6_either1
    exact bc_congr _ fun x s => (q_either1 n n s x).symm
  rw [e] at h
  exact h
theorem s0_5 (hb : ∀ i, b i < 256) (hz : z ≤ 160) (hn : 160 < n) : SimP b z t n kk 5 0 68 (f_X6_atom0 n) := atomP hb hz hn (by decide) (f_X6_atom1 n) (f_X6_either1 n) ((s1_5 hb hz hn).mono (by decide)) (s1_0 hb hz hn)
theorem q_term0 (n : Nat) : ∀ i σ x, f_X6_term0_L5 n i σ x = TL n (f_X6_atom0 n) i σ x := by
  intro i
  induction i with
  | zero => intro σ x; rfl
  | succ i ih =>
    intro σ x
    rw [f_X6_term0_L5, TL]
    simp only [ih]
theorem s0_4 (hb : ∀ i, b i < 256) (hz : z ≤ 160) (hn : 160 < n) : SimP b z t n kk 4 0 70 (f_X6_term0 n) := by
  have h := termP hb hz hn (f_X6_atom0 n) (s0_5 (t := t) (kk := kk) hb hz hn)
  have e : (fun μ => bc (f_X6_atom0 n μ) fun x μ1 => TL n (f_X6_atom0 n) n μ1 x) = f_X6_term0 n := by
    funext μ
    unfold f_X6_term0
    exact bc_congr _ fun x s => (q_term0 n n s x).symm
  rw [e] at h
  exact h
theorem q_added0 (n : Nat) : ∀ i σ x, f_X6_added0_L5 n i σ x = AL n (f_X6_term0 n) i σ x := by
  intro i
  induction i with
  | zero => intro σ x; rfl
  | succ i ih =>
    intro σ x
    rw [f_X6_added0_L5, AL]
    have e : f_X6_added0_L5 n i = AL n (f_X6_term0 n) i := funext fun s => funext fun y => ih s y
    rw [e]
    rfl
theorem s0_3 (hb : ∀ i, b i < 256) (hz : z ≤ 160) (hn : 160 < n) : SimP b z t n kk 3 0 72 (f_X6_added0 n) := by
  have h := addP hb hz hn (f_X6_term0 n) (s0_4 (t := t) (kk := kk) hb hz hn)
  have e : (fun μ => bc (f_X6_term0 n μ) fun x μ1 => AL n (f_X6_term0 n) n μ1 x) = f_X6_added0 n := by
    funext μ
    unfold f_X6_added0
    exact bc_congr _ fun x s => (q_added0 n n s x).symm
  rw [e] at h
  exact h
theorem s0_2 (hb : ∀ i, b i < 256) (hz : z ≤ 160) (hn : 160 < n) : SimP b z t n kk 2 0 74 (f_X6_not0 n) := notP hb hz hn (by decide) (f_X6_added0 n) (f_X6_not1 n) ((s0_3 hb hz hn).mono (by decide)) ((s1_2 hb hz hn).mono (by decide))
theorem q_both0 (n : Nat) : ∀ i σ x, f_X6_both0_L5 n i σ x = BL n (f_X6_not0 n) i σ x := by
  intro i
  induction i with
  | zero => intro σ x; rfl
  | succ i ih =>
    intro σ x
    rw [f_X6_both0_L5, BL]
    simp only [ih]
theorem s0_1 (hb : ∀ i, b i < 256) (hz : z ≤ 160) (hn : 160 < n) : SimP b z t n kk 1 0 76 (f_X6_both0 n) := by
  have h := bothP hb hz hn (f_X6_not0 n) (s0_2 (t := t) (kk := kk) hb hz hn)
  have e : (fun μ => bc (f_X6_not0 n μ) fun x μ1 => BL n (f_X6_not0 n) n μ1 x) = f_X6_both0 n := by
    funext μ
    unfold f_X6_both0
    exact bc_congr _ fun x s => (q_both0 n n s x).symm
  rw [e] at h
  exact h
theorem q_either0 (n : Nat) : ∀ i σ x, f_X6_either0_L5 n i σ x = EL n (f_X6_both0 n) i σ x := by
  intro i
  induction i with
  | zero => intro σ x; rfl
  | succ i ih =>
    intro σ x
    rw [f_X6_either0_L5, EL]
    simp only [ih]
theorem s0_0 (hb : ∀ i, b i < 256) (hz : z ≤ 160) (hn : 160 < n) : SimP b z t n kk 0 0 78 (f_X6_either0 n) := by
  have h := eitherP hb hz hn (f_X6_both0 n) (s0_1 (t := t) (kk := kk) hb hz hn)
  have e : (fun μ => bc (f_X6_both0 n μ) fun x μ1 => EL n (f_X6_both0 n) n μ1 x) = f_X6_either0 n := by
    funext μ
    unfold f_X6_either0
    exact bc_congr _ fun x s => (q_either0 n n s x).symm
  rw [e] at h
  exact h
end LL

/-! all that is held alike, call by call (laid by lay_all.py) -/
theorem ImR.fr {C C' : Nat} {σ σ' : Gm} {μ μ' : Wm} (h : ImR C σ μ) (hC : C ≤ C') (fx : ∀ c k j, (c = 0 ∧ k = 0 ∧ j = 7) ∨ ((13 ≤ c ∧ c ≤ 17) ∧ k = 1) → σ' c k j = σ c k j) (fm : ∀ c j, (29 ≤ c ∧ c ≤ 31) ∨ (c = 0 ∧ 32 ≤ j ∧ j ≤ 34) → μ'.1 c 0 j = μ.1 c 0 j) : ImR C' σ' μ' := by
  rcases h with ⟨h1, h2⟩ | ⟨h1, I, g1, g2, g3, g4, g5⟩
  · exact Or.inl ⟨(fx _ _ _ (by omega)).trans h1, (fm _ _ (by omega)).trans h2⟩
  · refine Or.inr ⟨by rw [fx _ _ _ (by omega)]; exact h1, I, g1, g2, by omega, g4.fr' fun c j p q => fx c 1 j (by omega), ?_⟩
    obtain ⟨a1, a2, a3, a4, a5, a6⟩ := g5
    exact ⟨fun x hx => (fm _ _ (by omega)).trans (a1 x hx), fun i hi => ⟨(fm _ _ (by omega)).trans (a2 i hi).1, (fm _ _ (by omega)).trans (a2 i hi).2.1, (fm _ _ (by omega)).trans (a2 i hi).2.2⟩, fun i hi => ⟨(fm _ _ (by omega)).trans (a3 i hi).1, (fm _ _ (by omega)).trans (a3 i hi).2.1, (fm _ _ (by omega)).trans (a3 i hi).2.2⟩, (fm _ _ (by omega)).trans a4, (fm _ _ (by omega)).trans a5, (fm _ _ (by omega)).trans a6⟩
def Inv (σ : Gm) (μ : Wm) : Prop := ∃ V C S z b, Re 700 V C S z b σ μ ∧ ImR C σ μ ∧ ShR σ μ
def IC {ρ : Type} (f : Option (ρ × Gm)) (g : Option (ρ × Wm)) : Prop := ∃ r σ' μ', f = some (r, σ') ∧ g = some (r, μ') ∧ Inv σ' μ'
section K
variable {σ : Gm} {μ : Wm}
theorem IC.go {V : Tx} {C z : Nat} {b : Nat → Nat} {f : Option (Int32 × Gm)} {g : Option (Int32 × Wm)} (i : ImR C σ μ) (hS : ShR σ μ) (h : Go 700 V C z b σ μ f g) : IC f g := by
  obtain ⟨r, σ', μ', S', h1, h2, h3, h4, h5⟩ := h
  exact ⟨r, σ', μ', h1, h2, V, C, S', z, b, h3, i.fr (Nat.le_refl C) (fun c k j q => h4 c k j (by omega)) (fun c j q => h5 c 0 j (by omega)), hS.go h4 h5⟩
theorem IC.gol {V : Tx} {C z : Nat} {b : Nat → Nat} {f : Option (Int64 × Gm)} {g : Option (Int64 × Wm)} (i : ImR C σ μ) (hS : ShR σ μ) (h : GoL 700 V C z b σ μ f g) : IC f g := by
  obtain ⟨r, σ', μ', S', h1, h2, h3, h4, h5⟩ := h
  exact ⟨r, σ', μ', h1, h2, V, C, S', z, b, h3, i.fr (Nat.le_refl C) (fun c k j q => h4 c k j (by omega)) (fun c j q => h5 c 0 j (by omega)), hS.go h4 h5⟩
theorem ic_set (i : Inv σ μ) (a1 a2 a3 : Int32) : IC (f_X5_set 700 σ a1 a2 a3) (f_X6_set 700 μ a1 a2 a3) := by
  obtain ⟨V, C, S, z, b, h, hI, hS⟩ := i
  exact IC.go hI hS (set_s (by decide) (ruX (by decide) _ _) h a1 a2 a3)
theorem ic_thing (i : Inv σ μ) (a1 a2 : Int32) : IC (f_X5_thing σ a1 a2) (f_X6_thing μ a1 a2) := by
  obtain ⟨V, C, S, z, b, h, hI, hS⟩ := i
  exact IC.go hI hS (thing_s h a1 a2)
theorem ic_neighbour (i : Inv σ μ) (a1 a2 : Int32) : IC (f_X5_neighbour σ a1 a2) (f_X6_neighbour μ a1 a2) := by
  obtain ⟨V, C, S, z, b, h, hI, hS⟩ := i
  exact IC.go hI hS (neighbour_s h a1 a2)
theorem ic_told (i : Inv σ μ) (a1 a2 : Int32) : IC (f_X5_told 700 σ a1 a2) (f_X6_told 700 μ a1 a2) := by
  obtain ⟨V, C, S, z, b, h, hI, hS⟩ := i
  exact IC.go hI hS (told_s (by decide) (ruX (by decide) _ _) h a1 a2)
theorem ic_pays (i : Inv σ μ) (a1 a2 : Int32) : IC (f_X5_pays 700 σ a1 a2) (f_X6_pays 700 μ a1 a2) := by
  obtain ⟨V, C, S, z, b, h, hI, hS⟩ := i
  exact IC.go hI hS (pays_s (ruX (by decide) _ _) h a1 a2)
theorem ic_force (i : Inv σ μ) (a1 : Int32) : IC (f_X5_force σ a1) (f_X6_force μ a1) := by
  obtain ⟨V, C, S, z, b, h, hI, hS⟩ := i
  exact IC.go hI hS (force_s h a1)
theorem ic_night (i : Inv σ μ) (a1 : Int32) : IC (f_X5_night 700 σ a1) (f_X6_night 700 μ a1) := by
  obtain ⟨V, C, S, z, b, h, hI, hS⟩ := i
  exact IC.go hI hS (night_s (by decide) (ruX (by decide) _ _) h a1)
theorem ic_load (i : Inv σ μ) (a1 : Int32) : IC (f_X5_load σ a1) (f_X6_load μ a1) := by
  obtain ⟨V, C, S, z, b, h, hI, hS⟩ := i
  exact IC.go hI hS (load_s h a1)
theorem ic_run (i : Inv σ μ) (a1 a2 a3 : Int32) : IC (f_X5_run 700 σ a1 a2 a3) (f_X6_run 700 μ a1 a2 a3) := by
  obtain ⟨V, C, S, z, b, h, hI, hS⟩ := i
  exact IC.go hI hS (run_s (by decide) (ruX (by decide) _ _) h a1 a2 a3)
theorem ic_cover (i : Inv σ μ) (a1 a2 : Int32) : IC (f_X5_cover 700 100 σ a1 a2) (f_X6_cover 700 μ a1 a2) := by
  obtain ⟨V, C, S, z, b, h, hI, hS⟩ := i
  exact IC.go hI hS (cover_s (by decide) (by decide) (ruX (by decide) _ _) h a1 a2)
theorem ic_ask (i : Inv σ μ) (a1 a2 : Int32) : IC (f_X5_ask 700 σ a1 a2) (f_X6_ask 700 μ a1 a2) := by
  obtain ⟨V, C, S, z, b, h, hI, hS⟩ := i
  exact IC.go hI hS (ask_s (by decide) (ruX (by decide) _ _) h a1 a2)
theorem ic_best (i : Inv σ μ) (a1 : Int32) : IC (f_X5_best 700 σ a1) (f_X6_best 700 μ a1) := by
  obtain ⟨V, C, S, z, b, h, hI, hS⟩ := i
  exact IC.go hI hS (best_s (by decide) (ruX (by decide) _ _) h a1)
theorem ic_share (i : Inv σ μ) (a1 : Int32) : IC (f_X5_share 700 σ a1) (f_X6_share 700 μ a1) := by
  obtain ⟨V, C, S, z, b, h, hI, hS⟩ := i
  exact IC.gol hI hS (share_s (by decide) h a1)
theorem ic_tells (i : Inv σ μ) (a1 a2 a3 : Int32) : IC (f_X5_tells 700 σ a1 a2 a3) (f_X6_tells 700 μ a1 a2 a3) := by
  obtain ⟨V, C, S, z, b, h, hI, hS⟩ := i
  exact IC.go hI hS (tells_s (by decide) (ruX (by decide) _ _) h hS a1 a2 a3)
theorem ic_drawn (i : Inv σ μ) (a1 a2 : Int32) : IC (f_X5_drawn 700 σ a1 a2) (f_X6_drawn 700 μ a1 a2) := by
  obtain ⟨V, C, S, z, b, h, hI, hS⟩ := i
  exact IC.go hI hS (drawn_s (by decide) (ruX (by decide) _ _) h a1 a2)
theorem ic_chance (i : Inv σ μ) (a1 a2 a3 a4 : Int32) : IC (f_X5_chance 700 σ a1 a2 a3 a4) (f_X6_chance 700 μ a1 a2 a3 a4) := by
  obtain ⟨V, C, S, z, b, h, hI, hS⟩ := i
  exact IC.gol hI hS (chance_s (by decide) (ruX (by decide) _ _) h a1 a2 a3 a4)
theorem ic_count (i : Inv σ μ) (a1 : Int32) : IC (f_X5_count σ a1) (f_X6_count μ a1) := by
  obtain ⟨V, C, S, z, b, h, hI, hS⟩ := i
  exact IC.go hI hS (count_s h a1)
theorem ic_taken (i : Inv σ μ) (a1 a2 : Int32) : IC (f_X5_taken 700 σ a1 a2) (f_X6_taken 700 μ a1 a2) := by
  obtain ⟨V, C, S, z, b, h, hI, hS⟩ := i
  exact IC.go hI hS (taken_s (by decide) h a1 a2)
theorem ic_feed (i : Inv σ μ) (a1 : Int32) : IC (f_X5_feed σ a1) (f_X6_feed μ a1) := by
  obtain ⟨V, C, S, z, b, h, hI, hS⟩ := i
  obtain ⟨r, σ', μ', z', b', h1, h2, h3, h4, h5⟩ := feed_s h a1
  exact ⟨r, σ', μ', h1, h2, V, C, S, z', b', h3, hI.fr (Nat.le_refl C) (fun c k j q => h4 c k j (by omega)) (fun c j q => h5 c 0 j (by omega)), hS.fr (fun c k j q => h4 c k j (by omega)) (fun c j q => h5 c 0 j (by omega))⟩
theorem ic_text (i : Inv σ μ) : IC (f_X5_text 700 100 σ) (f_X6_text 700 μ) := by
  obtain ⟨V, C, S, z, b, h, hI, hS⟩ := i
  obtain ⟨r, σ', μ', V', C', z', h1, h2, h3, h4, h5, h6⟩ := text_s (d := 100) (by decide) (by decide) h
  exact ⟨r, σ', μ', h1, h2, V', C', S, z', b, h3, hI.fr h6 (fun c k j q => h4 c k j (by omega)) (fun c j q => h5 c 0 j (by omega)), hS.fr (fun c k j q => h4 c k j (by omega)) (fun c j q => h5 c 0 j (by omega))⟩
theorem ic_image (i : Inv σ μ) : IC (f_X5_image σ) (f_X6_image 700 μ) := by
  obtain ⟨V, C, S, z, b, h, hI, hS⟩ := i
  obtain ⟨r, σ', μ', h1, h2, h3, h4, h5, h6⟩ := image_s (by decide) h
  exact ⟨r, σ', μ', h1, h2, V, C, S, z, b, h3, h4, hS.fr (fun c k j q => h5 c k j (by omega)) (fun c j q => h6 c 0 j (by omega))⟩
theorem ic_back (i : Inv σ μ) : IC (f_X5_back σ) (f_X6_back 700 μ) := by
  obtain ⟨V, C, S, z, b, h, hI, hS⟩ := i
  obtain ⟨S', r, σ', μ', h1, h2, h3, h4, h5, h6⟩ := back_s (by decide) h hI
  exact ⟨r, σ', μ', h1, h2, V, C, S', z, b, h3, h4, hS.fr (fun c k j q => h5 c k j (by omega)) (fun c j q => h6 c 0 j (by omega))⟩
theorem ic_street (i : Inv σ μ) (a1 a2 a3 a4 : Int32) : IC (f_X5_street 700 σ a1 a2 a3 a4) (f_X6_street 700 μ a1 a2 a3 a4) := by
  obtain ⟨V, C, S, z, b, h, hI, hS⟩ := i
  obtain ⟨r, σ', μ', S', h1, h2, h3, h4, h5, h6⟩ := street_s (by decide) h hS a1 a2 a3 a4
  exact ⟨r, σ', μ', h1, h2, V, C, S', z, b, h3, hI.fr (Nat.le_refl C) (fun c k j q => h5 c k j (by omega)) (fun c j q => h6 c 0 j (by omega)), h4⟩
theorem ic_film (i : Inv σ μ) (a1 a2 a3 : Int32) : IC (f_X5_film 700 σ a1 a2 a3) (f_X6_film 700 μ a1 a2 a3) := by
  obtain ⟨V, C, S, z, b, h, hI, hS⟩ := i
  obtain ⟨r, σ', μ', S', h1, h2, h3, h4, h5, h6⟩ := film_s (by decide) (ruX (by decide) _ _) h hS a1 a2 a3
  exact ⟨r, σ', μ', h1, h2, V, C, S', z, b, h3, hI.fr (Nat.le_refl C) (fun c k j q => h5 c k j (by omega)) (fun c j q => h6 c 0 j (by omega)), h4⟩
theorem ic_sheet (i : Inv σ μ) (a1 a2 a3 : Int32) : IC (f_X5_sheet 700 σ a1 a2 a3) (f_X6_sheet 700 μ a1 a2 a3) := by
  obtain ⟨V, C, S, z, b, h, hI, hS⟩ := i
  obtain ⟨r, σ', μ', h1, h2, h3, h4, h5, h6⟩ := sheet_s (by decide) h hS a1 a2 a3
  exact ⟨r, σ', μ', h1, h2, V, C, S, z, b, h3, hI.fr (Nat.le_refl C) (fun c k j q => h5 c k j (by omega)) (fun c j q => h6 c 0 j (by omega)), h4⟩
theorem ic_cell (i : Inv σ μ) (a1 a2 a3 : Int32) : IC (f_X5_cell σ a1 a2 a3) (f_X6_cell μ a1 a2 a3) := by
  obtain ⟨V, C, S, z, b, h, hI, hS⟩ := i
  obtain ⟨r, σ', μ', h1, h2, h3, h4, h5, h6⟩ := cell_s h hS a1 a2 a3
  exact ⟨r, σ', μ', h1, h2, V, C, S, z, b, h3, hI.fr (Nat.le_refl C) (fun c k j q => h5 c k j (by omega)) (fun c j q => h6 c 0 j (by omega)), h4⟩
theorem ic_copy (i : Inv σ μ) (a1 a2 a3 a4 a5 : Int32) : IC (f_X5_copy σ a1 a2 a3 a4 a5) (f_X6_copy 700 μ a1 a2 a3 a4 a5) := by
  obtain ⟨V, C, S, z, b, h, hI, hS⟩ := i
  obtain ⟨r, σ', μ', h1, h2, h3, h4, h5, h6⟩ := copy_s (by decide) h hS a1 a2 a3 a4 a5
  exact ⟨r, σ', μ', h1, h2, V, C, S, z, b, h3, hI.fr (Nat.le_refl C) (fun c k j q => h5 c k j (by omega)) (fun c j q => h6 c 0 j (by omega)), h4⟩
/-- newly made, alike -/
def S0 : Sk := fun c j => if c = 0 ∧ j = 1 then 100 else 0
theorem inv0 (h : MiX μ) : Inv σ0 μ := by
  obtain ⟨m0, m1, m2, m3, m4, c3, c4, c6, c10, c11, c32, z0, tx, sh⟩ := h
  have hB : SkB S0 := SkB.of fun c j h1 h2 => by
    unfold S0
    by_cases e : c = 0 ∧ j = 1
    · obtain ⟨rfl, rfl⟩ := e
      decide
    · rw [if_neg e]
      exact Nat.zero_le _
  have hx : SkX 0 S0 σ0 := ⟨rfl, rfl, rfl, rfl, rfl, rfl, rfl, rfl, rfl, rfl, fun i hi => absurd hi (Nat.not_lt_zero i), fun i hi => absurd hi (Nat.not_lt_zero i)⟩
  have hm : SkM S0 μ := ⟨m0, m1, m2, m3, m4, c4, c10, c11, fun i hi => absurd hi (Nat.not_lt_zero i), fun i hi => absurd hi (Nat.not_lt_zero i)⟩
  have hb : ∀ i, (fun _ : Nat => 0) i < 256 := fun i => Nat.zero_lt_succ 255
  refine ⟨V0, 1, S0, 0, fun _ => 0, ⟨hB, by decide, hx, hm, first_x rfl rfl rfl rfl rfl rfl, fun t ht => ?_, rfl, c3, by decide, by decide, hb, by decide, ⟨rfl, fun i hi => absurd hi (Nat.not_lt_zero i)⟩, c6, fun i hi => absurd hi (Nat.not_lt_zero i)⟩, Or.inl ⟨rfl, c32⟩, fun s hs => Or.inl ⟨rfl, sh s hs⟩⟩
  obtain rfl : t = 0 := by omega
  exact ⟨b0, 32, z0, fun i hi => by rw [show 160 * 0 + i = i by omega]; exact tx i hi, first_r, by decide⟩
end K

/-! what the Statement gives: arrays' classes, statics, the words' text -/
theorem arrT {s : State} {A : Array Value} {ty : FieldType} (hno : ∀ C, ty ≠ .object C) (h : (Cond.arrayClass ty).before A s = true) : ∃ cA, ArrOfT s cA ty ∧ va_RA s cA ty := by
  obtain ⟨cA, k, comp, h1, h2, h3⟩ := Cond.arrayClass_spec h
  refine ⟨cA, fun N z => ⟨(fun k h => by cases h), k, h2, comp, h3⟩, ?_⟩
  cases ty with
  | object C => exact absurd rfl (hno C)
  | _ => exact h1
theorem arrO {s : State} {A : Array Value} {C : String} (h : (Cond.arrayOver (.object C)).before A s = true) : ∃ cA, ArrOfT s cA (.object C) ∧ va_RA s cA (.object C) := by
  obtain ⟨comp, c, k, h1, h2, h3, h4, h5⟩ := Cond.arrayOver_spec h
  exact ⟨c, fun N z => ⟨(fun k h => by cases h), k, h3, comp, h4⟩, k, comp, h3, h4, h1, h5⟩
theorem arrA {s : State} {A : Array Value} {t : FieldType} (h : (Cond.arrayOver (.array t)).before A s = true) : ∃ cA, ArrOfT s cA (.array t) ∧ va_RA s cA (.array t) := by
  obtain ⟨comp, c, k, h1, h2, h3, h4, h5⟩ := arrayOverA_spec h
  exact ⟨c, fun N z => ⟨(fun k h => by cases h), k, h3, comp, h4⟩, h5⟩
theorem q_KS.narrow {A B : Nat → Prop} {t : Nat → Nat} {U : State} (h : q_KS A t U) (hAB : ∀ q, B q → A q) : q_KS B t U := by
  obtain ⟨h1, h2, h3, h4, h5, h6, h7⟩ := h
  exact ⟨h1.narrow hAB, h2.narrow hAB, h3.narrow hAB, h4, h5.narrow hAB, h6.narrow hAB, h7⟩
theorem va_P.left {D : va_G} {cl : List vw_C} {a b : va_W} {H : Heap} (h : va_P D cl (a ++ b) H) : va_P D cl a H := fun k q hq => h k q (by rw [List.getElem?_append_left (List.getElem?_eq_some_iff.mp hq).1]; exact hq)
theorem va_P.right {D : va_G} {cl : List vw_C} {a b : va_W} {H : Heap} (h : va_P D cl (a ++ b) H) : va_P D cl b H := fun k q hq => h (a.length + k) q (by rw [List.getElem?_append_right (by omega), show a.length + k - a.length = k by omega]; exact hq)
theorem va_D.split {A : Nat → Prop} {a b : va_W} (h : va_D A (a ++ b)) : va_D A a ∧ va_D A b ∧ ∀ (i j : Nat) (p q : Nat × va_E), a[i]? = some p → b[j]? = some q → p.1 ≠ q.1 := by
  have hl : ∀ (k : Nat) (q : Nat × va_E), a[k]? = some q → (a ++ b)[k]? = some q := fun k q hq => by rw [List.getElem?_append_left (List.getElem?_eq_some_iff.mp hq).1]; exact hq
  have hr : ∀ (k : Nat) (q : Nat × va_E), b[k]? = some q → (a ++ b)[a.length + k]? = some q := fun k q hq => by rw [List.getElem?_append_right (by omega), show a.length + k - a.length = k by omega]; exact hq
  refine ⟨⟨fun i j p q hi hj he => h.1 i j p q (hl i p hi) (hl j q hj) he, fun k q hq => h.2 k q (hl k q hq)⟩, ⟨fun i j p q hi hj he => ?_, fun k q hq => h.2 _ q (hr k q hq)⟩, fun i j p q hi hj he => ?_⟩
  · have := h.1 _ _ p q (hr i p hi) (hr j q hj) he
    omega
  · have h1 := h.1 _ _ p q (hl i p hi) (hr j q hj) he
    have h2 := (List.getElem?_eq_some_iff.mp hi).1
    omega
theorem q_A.ws {S : Type} {V : q_V S} {σ : S} {q : Nat} (h : q_A V q) : ∃ (i : Nat) (e : va_E), (q_ws V σ)[i]? = some (q, e) := by
  obtain ⟨a, ha, rfl⟩ := h
  obtain ⟨i, hi⟩ := List.getElem?_of_mem ha
  refine ⟨i, V.2.2 σ a.1 a.2, ?_⟩
  unfold q_ws
  rw [List.getElem?_map, hi]
  rfl
set_option maxHeartbeats 4000000 in
set_option maxRecDepth 100000 in
theorem givenKS {s : State} {b : Nat} (hts0 : ∀ w ∈ lw_tbl, w.before #[Value.ref b] s = true) (hgv : (Jvm.Cond.and given_1 narrow_1).before #[Value.ref b] s = true) : ∃ t : Nat → Nat, q_KS (fun q : Nat => s.heap.size ≤ q) t s := by
  have hf := flat_of_before _ hgv
  have hA : ∀ a : Nat, a < s.heap.size → ¬ (fun q : Nat => s.heap.size ≤ q) a := fun a h9 => Nat.not_le.mpr h9
  have iS := hts0 (.initialized "java/lang/String") (List.mem_of_getElem? (i := 110) (by decide +kernel))
  have iP := hts0 (.initialized "jdk/internal/util/Preconditions") (List.mem_of_getElem? (i := 112) (by decide +kernel))
  have iX := hts0 (.initialized "SkipOfEightYards") (List.mem_of_getElem? (i := 102) (by decide +kernel))
  have m1 : (Cond.arrayOf (Term.static "SkipOfEightYards" "KIND_ABOVE" "[I") .int) ∈ flatC (Jvm.Cond.and given_1 narrow_1) := by decide +kernel
  have m2 : (Cond.eq (.length (Term.static "SkipOfEightYards" "KIND_ABOVE" "[I")) (.int 6)) ∈ flatC (Jvm.Cond.and given_1 narrow_1) := by decide +kernel
  have m3 : ∀ j, j < 6 → (Cond.eq (.elem (Term.static "SkipOfEightYards" "KIND_ABOVE" "[I") (.int (Int32.ofNat j))) (.int (q_kd j))) ∈ flatC (Jvm.Cond.and given_1 narrow_1) := by decide +kernel
  obtain ⟨t0, ht0, hT0⟩ := va_Tof (tm := (Term.static "SkipOfEightYards" "KIND_ABOVE" "[I")) (ty := .int) (N := 6) (f := fun j => .int (q_kd j)) (A := fun q : Nat => s.heap.size ≤ q) (by decide) (hf _ m1) (va_eqt (hf _ m2)) (fun j hj => va_eqt (hf _ (m3 j hj))) hA
  have z1 := va_Zof (A := fun q : Nat => s.heap.size ≤ q) (hts0 (.laysStatic "SkipOfEightYards" "KIND_ABOVE" "[I") (List.mem_of_getElem? (i := 773) (by decide +kernel))) iX ht0 hA
  have m4 : (Cond.eq (.static "java/lang/String" "COMPACT_STRINGS" "Z") (.int 1)) ∈ flatC (Jvm.Cond.and given_1 narrow_1) := by decide +kernel
  have z2 := va_Zof (A := fun q : Nat => s.heap.size ≤ q) (hts0 (.laysStatic "java/lang/String" "COMPACT_STRINGS" "Z") (List.mem_of_getElem? (i := 472) (by decide +kernel))) iS (va_eqi (hf _ m4)) hA
  have m5 : (Cond.isRef (.static "jdk/internal/util/Preconditions" "SIOOBE_FORMATTER" "Ljava/util/function/BiFunction;")) ∈ flatC (Jvm.Cond.and given_1 narrow_1) := by decide +kernel
  have z3 := va_Zqof (A := fun q : Nat => s.heap.size ≤ q) (hts0 (.laysStatic "jdk/internal/util/Preconditions" "SIOOBE_FORMATTER" "Ljava/util/function/BiFunction;") (List.mem_of_getElem? (i := 488) (by decide +kernel))) iP (hf _ m5) hA
  have n1 : (Cond.exactly (.string "SkipOfEightYards$Reader" 88) "java/lang/String") ∈ flatC (Jvm.Cond.and given_1 narrow_1) := by decide +kernel
  have n2 : (Cond.eq (.field (.string "SkipOfEightYards$Reader" 88) "java/lang/String" "coder" "B") (.int 0)) ∈ flatC (Jvm.Cond.and given_1 narrow_1) := by decide +kernel
  have n3 : (Cond.arrayOf (Term.field (Term.string "SkipOfEightYards$Reader" 88) "java/lang/String" "value" "[B") .byte) ∈ flatC (Jvm.Cond.and given_1 narrow_1) := by decide +kernel
  have n4 : (Cond.eq (.length (Term.field (Term.string "SkipOfEightYards$Reader" 88) "java/lang/String" "value" "[B")) (.int 63)) ∈ flatC (Jvm.Cond.and given_1 narrow_1) := by decide +kernel
  have n5 : ∀ j, j < 63 → (Cond.eq (.elem (Term.field (Term.string "SkipOfEightYards$Reader" 88) "java/lang/String" "value" "[B") (.int (Int32.ofNat j))) (.int (q_wb.getD j 0))) ∈ flatC (Jvm.Cond.and given_1 narrow_1) := by decide +kernel
  have l1 : ∀ i : Nat, i < 1 → ([63] : List Nat).getD i 0 < 2 ^ 31 := by decide
  have l2 : ∀ i : Nat, i < 1 → (Cond.eq (.length (Term.field (Term.string "SkipOfEightYards$Reader" 88) "java/lang/String" "value" "[B")) (.int (Int32.ofNat (([63] : List Nat).getD i 0)))).before #[Value.ref b] s = true := by
    intro i hi
    obtain rfl : i = 0 := by omega
    exact hf _ n4
  have l3 : ∀ i : Nat, i < 1 → ∀ j : Nat, j < ([63] : List Nat).getD i 0 → (Cond.eq (.elem (Term.field (Term.string "SkipOfEightYards$Reader" 88) "java/lang/String" "value" "[B") (.int (Int32.ofNat j))) (.int ((([q_wb] : List (List Int32)).getD i []).getD j 0))).before #[Value.ref b] s = true := by
    intro i hi
    obtain rfl : i = 0 := by omega
    intro j hj
    exact hf _ (n5 j hj)
  obtain ⟨aK, aV, hE, hev⟩ := vk_Sof (args := #[Value.ref b]) (s := s) (N := 1) (tm := fun _ => .string "SkipOfEightYards$Reader" 88) (len := [63]) (byt := [q_wb]) (A := fun q : Nat => s.heap.size ≤ q) l1 (fun _ _ => hf _ n1) (fun _ _ => hf _ n2) (fun _ _ => hf _ n3) l2 l3 (fun i j hi hj hij => absurd hij (by omega)) hA
  have hR := vk_R.of (a := aK 0) (hts0 (.stringRef "SkipOfEightYards$Reader" 88 "full number night lamp asked mine throws comes pays or and not ") (List.mem_of_getElem? (i := 462) (by decide +kernel))) (hev 0 (by decide))
  refine ⟨fun k => if k = 0 then t0 else if k = 1 then aK 0 else aV 0, z1, hT0, ⟨fun i hi => ?_, fun i j hi hj _ => by omega⟩, hR, z2, z3, fun w hw => ?_⟩
  · obtain rfl : i = 0 := by omega
    exact hE.1 0 (by decide)
  · exact va_Nw.of ((by decide +kernel : ∀ w ∈ q_nw, w.onTables = true) w hw) (hts0 w (q_nwi w hw))

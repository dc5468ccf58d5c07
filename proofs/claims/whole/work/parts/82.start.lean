theorem wn_116 : (Cond.classLink RL 7 RX5) ∈ T0 := T0_of (i := 116) (by decide +kernel) rfl
theorem wn_117 : (Cond.instantiable RX5 8) ∈ T0 := T0_of (i := 117) (by decide +kernel) rfl
theorem wn_774 : (Cond.classLink RL 10 RX6) ∈ T0 := T0_of (i := 774) (by decide +kernel) rfl
theorem wn_775 : (Cond.instantiable RX6 39) ∈ T0 := T0_of (i := 775) (by decide +kernel) rfl
set_option maxHeartbeats 8000000 in
set_option maxRecDepth 100000 in
theorem whole_start_of (hTI : ∀ (D : va_G) (cy : Nat → ClassId) (l : Launch), q_TI D cy l) {p : Program} {e : Env} {s : State} {m : MethodId} {below : List Frame} {meth : Method} {c : Code} (l : Launch) {b L : Nat} {xs : Nat → Int32} (hL : L ≤ 3072) (C0 : lw_At p s m meth c b L xs) : W p l e room_1 s m #[Value.ref b] below meth c s.heap [] 0 0 (lw_Z below #[Value.ref b] s) (entryFrame m ([Value.ref b] : List Value).toArray 4) := by
  obtain ⟨hx, hb, hr, hml, hown, hts0, hX, hbl, hlocks, hgv⟩ := id C0
  have hown : s.vm.findClass RL = some m.cls := hown
  have hts : ∀ w ∈ T0, w.before #[Value.ref b] s = true := fun w h => hts0 w (T0_lw h)
  obtain ⟨t, hKS⟩ := givenKS hts0 hgv
  obtain ⟨c0, i0, k0⟩ := u_known (C := RX0) (T := TX0) (N := 3) (n := 3) hts inX0 (hts _ wn_249)
  obtain ⟨c1, i1, k1⟩ := u_known (C := RX1) (T := TX1) (N := 8) (n := 8) hts inX1 (hts _ wn_154)
  obtain ⟨c2, i2, k2⟩ := u_known (C := RX2) (T := TX2) (N := 3) (n := 3) hts inX2 (hts _ wn_269)
  obtain ⟨c3, i3, k3⟩ := u_known (C := RX3) (T := TX3) (N := 15) (n := 15) hts inX3 (hts _ wn_186)
  obtain ⟨c4, i4, k4⟩ := u_known (C := RX4) (T := TX4) (N := 5) (n := 5) hts inX4 (hts _ wn_125)
  obtain ⟨c5, i5, k5⟩ := u_known (C := RX5) (T := TX5) (N := 8) (n := 8) hts inX5 (hts _ wn_117)
  obtain ⟨c6, i6, k6⟩ := u_known (C := RX6) (T := TX6) (N := 39) (n := 39) hts inX6 (hts _ wn_775)
  obtain ⟨D, hKc⟩ : ∃ D : va_G, ∀ (k : Nat) (q : vw_C), vwCl[k]? = some q → u_Kn s q.1 q.2.1 q.2.2 (D.1 k) (D.2 k) := by
    refine ⟨(fun k => match k with | 0 => c0 | 1 => c1 | 2 => c2 | 3 => c3 | 4 => c4 | 5 => c5 | _ => c6, fun k => match k with | 0 => i0 | 1 => i1 | 2 => i2 | 3 => i3 | 4 => i4 | 5 => i5 | _ => i6), ?_⟩
    intro k q hq
    match k, hq with
    | 0, hq => cases hq; exact k0
    | 1, hq => cases hq; exact k1
    | 2, hq => cases hq; exact k2
    | 3, hq => cases hq; exact k3
    | 4, hq => cases hq; exact k4
    | 5, hq => cases hq; exact k5
    | 6, hq => cases hq; exact k6
    | k + 7, hq => simp [vwCl] at hq
  have o2 := hts0 (.arrayOver (.object RX2)) (List.mem_of_getElem? (i := 268) (by decide +kernel))
  have o3 := hts0 (.arrayOver (.object RX3)) (List.mem_of_getElem? (i := 247) (by decide +kernel))
  have o4 := hts0 (.arrayOver (.array .int)) (List.mem_of_getElem? (i := 131) (by decide +kernel))
  obtain ⟨y0, r0⟩ := arrT (ty := .int) (fun C h => by cases h) (hts _ wd_152)
  obtain ⟨y1, r1⟩ := arrT (ty := .boolean) (fun C h => by cases h) (hts _ wd_901)
  obtain ⟨y2, r2⟩ := arrO o2
  obtain ⟨y3, r3⟩ := arrO o3
  obtain ⟨y4, r4⟩ := arrA o4
  obtain ⟨cy, hK⟩ : ∃ cy : Nat → ClassId, va_K D vwCl (q_tys cy) s := by
    refine ⟨fun k => match k with | 0 => y0 | 1 => y1 | 2 => y2 | 3 => y3 | _ => y4, hKc, ?_⟩
    intro k q hq
    match k, hq with
    | 0, hq => cases hq; exact r0
    | 1, hq => cases hq; exact r1
    | 2, hq => cases hq; exact r2
    | 3, hq => cases hq; exact r3
    | 4, hq => cases hq; exact r4
    | k + 5, hq => simp [q_tys] at hq
  have hKI : q_KI s := ⟨va_AO.of o2, va_AO.of o3, va_AOA.of o4, va_Nw.of rfl (hts0 (.methodLinkNest RX5 18 yX1_init RX5) (List.mem_of_getElem? (i := 155) (by decide +kernel))), va_Nw.of rfl (hts0 (.methodLinkNest RX5 41 yX0_init RX5) (List.mem_of_getElem? (i := 250) (by decide +kernel))), va_Nw.of rfl (hts0 (.methodLinkNest RX5 52 yX2_init RX5) (List.mem_of_getElem? (i := 270) (by decide +kernel)))⟩
  have hA : ∀ q : Nat, s.heap.size ≤ q → (fun q : Nat => s.heap.size ≤ q) q := fun _ h => h
  have hS : va_S (fun q : Nat => s.heap.size ≤ q) s.heap s.heap [] := va_S.rf
  have hP : va_P D vwCl [] s.heap := fun k q h => by simp at h
  have hD : va_D (fun q : Nat => s.heap.size ≤ q) [] := ⟨fun i j p q h => by simp at h, fun k q h => by simp at h⟩
  have hl := lv_entry ([.ref b]) (n := 4) (Nat.le_of_ble_eq_true rfl)
  rw [lg_entry_eq]
  generalize (lg_sl ([.ref b]) ++ List.replicate (4 - (lg_sl ([.ref b])).length) Slot.unset).toArray = ls at hl ⊢
  have hl : lv_has ls 4 [(0, .ref b)] := hl
  refine va_new (ci := 5) (fs := [.null, .null, .null, .null, .null, .null, .null, .int 0]) (C := RX5) (T := TX5) (N := 8) hx hb hts inX5 tyX5 tyX5_ok hown (hts _ wn_116) (hts _ wn_117) (hts _ wd_102) hK hP hD hS hA rfl (fun j hj => by rcases (show j = 0 ∨ j = 1 ∨ j = 2 ∨ j = 3 ∨ j = 4 ∨ j = 5 ∨ j = 6 ∨ j = 7 by omega) with rfl | rfl | rfl | rfl | rfl | rfl | rfl | rfl <;> rfl) (Nat.le_of_ble_eq_true rfl) (Nat.le_of_ble_eq_true rfl) d_law_0 (fun q5 H hP hD hS => ?_)
  refine W.widen (k := 1) (n := 8) (Nat.le_of_ble_eq_true rfl) (Nat.le_of_ble_eq_true rfl) ?_
  have hP : va_P D vwCl [(q5, .inr (5, [.null, .null, .null, .null, .null, .null, .null, .int 0]))] H := hP
  have hD : va_D (fun q : Nat => s.heap.size ≤ q) [(q5, .inr (5, [.null, .null, .null, .null, .null, .null, .null, .int 0]))] := hD
  refine lv_dup hx hb d_law_3 rfl ?_
  refine x_callI (own := RL) (index := 9) (n := 0) (As := []) (rest := [.ref q5]) (wr := []) ⟨hx, hb, hml, hown⟩ hts hK hKI hA hP hD hS (c_iX5 (l := l) (hTI D cy l) q5 _) [0] [] rfl (by decide +kernel) rfl (by decide +kernel) (by decide +kernel) wd_118 wd_119 wd_102 wc_yX5_init rfl (by decide +kernel) ⟨Nat.le_of_ble_eq_true rfl, Nat.le_of_ble_eq_true rfl⟩ rfl rfl hl.1 (Nat.le_of_ble_eq_true rfl) d_law_4 ⟨Nat.le_of_ble_eq_true rfl, Nat.le_of_ble_eq_true rfl⟩ (fun u H locs hu hP hD hS => ?_)
  obtain ⟨ad, rfl⟩ : ∃ z, z = u := ⟨_, rfl⟩
  refine W.widen (k := 81) (n := 1806) (Nat.le_of_ble_eq_true rfl) (Nat.le_of_ble_eq_true rfl) ?_
  have hP : va_P D vwCl (q_ws (q_Vx ad cy) σ0) H := hP
  have hD : va_D (fun q : Nat => s.heap.size ≤ q) (q_ws (q_Vx ad cy) σ0) := hD
  rw [← hu]
  refine lv_astore_n (lv' := [(1, .ref (ad 0 0)), (0, .ref b)]) hx hb d_law_7 rfl hl (by decide) rfl (fun ls hl => ?_)
  refine va_new (ci := 6) (fs := [.int 0, .null, .null, .int 0, .int 0, .null, .int 0, .null, .null, .null, .int 0, .int 0, .int 0, .int 0, .int 0, .int 0, .int 0, .int 0, .int 0, .int 0, .int 0, .int 0, .int 0, .long 0, .int 0, .int 0, .int 0, .null, .null, .null, .null, .null, .int 0, .int 0, .int 0, .null, .null, .null, .null]) (C := RX6) (T := TX6) (N := 39) hx hb hts inX6 tyX6 tyX6_ok hown (hts _ wn_774) (hts _ wn_775) (hts _ wd_108) hK hP hD hS hA rfl (fun j hj => by rcases (show j = 0 ∨ j = 1 ∨ j = 2 ∨ j = 3 ∨ j = 4 ∨ j = 5 ∨ j = 6 ∨ j = 7 ∨ j = 8 ∨ j = 9 ∨ j = 10 ∨ j = 11 ∨ j = 12 ∨ j = 13 ∨ j = 14 ∨ j = 15 ∨ j = 16 ∨ j = 17 ∨ j = 18 ∨ j = 19 ∨ j = 20 ∨ j = 21 ∨ j = 22 ∨ j = 23 ∨ j = 24 ∨ j = 25 ∨ j = 26 ∨ j = 27 ∨ j = 28 ∨ j = 29 ∨ j = 30 ∨ j = 31 ∨ j = 32 ∨ j = 33 ∨ j = 34 ∨ j = 35 ∨ j = 36 ∨ j = 37 ∨ j = 38 by omega) with rfl | rfl | rfl | rfl | rfl | rfl | rfl | rfl | rfl | rfl | rfl | rfl | rfl | rfl | rfl | rfl | rfl | rfl | rfl | rfl | rfl | rfl | rfl | rfl | rfl | rfl | rfl | rfl | rfl | rfl | rfl | rfl | rfl | rfl | rfl | rfl | rfl | rfl | rfl <;> rfl) (Nat.le_of_ble_eq_true rfl) (Nat.le_of_ble_eq_true rfl) d_law_8 (fun q6 H hP hD hS => ?_)
  refine W.widen (k := 82) (n := 1845) (Nat.le_of_ble_eq_true rfl) (Nat.le_of_ble_eq_true rfl) ?_
  refine lv_dup hx hb d_law_11 rfl ?_
  refine x_callI (own := RL) (index := 12) (n := 0) (As := []) (rest := [.ref q6]) (wr := (q_ws (q_Vx ad cy) σ0)) ⟨hx, hb, hml, hown⟩ hts hK hKI hA hP hD hS (c_iX6 (l := l) q6 _) [81] (List.range 81) rfl (by decide +kernel) rfl (by decide +kernel) (by decide +kernel) wd_776 wd_777 wd_108 wc_yX6_init rfl (by decide +kernel) ⟨Nat.le_of_ble_eq_true rfl, Nat.le_of_ble_eq_true rfl⟩ rfl rfl hl.1 (Nat.le_of_ble_eq_true rfl) d_law_12 ⟨Nat.le_of_ble_eq_true rfl, Nat.le_of_ble_eq_true rfl⟩ (fun u H locs hu hP hD hS => ?_)
  obtain ⟨am, μ0⟩ := u
  obtain ⟨hu, hM⟩ := hu
  have hu : am 0 0 = q6 := hu
  have hM : MiX μ0 := hM
  refine W.widen (k := 97) (n := 3244) (Nat.le_of_ble_eq_true rfl) (Nat.le_of_ble_eq_true rfl) ?_
  have hP : va_P D vwCl (q_ws (q_Vx ad cy) σ0 ++ q_ws (q_Vm am cy) μ0) H := hP
  have hD : va_D (fun q : Nat => s.heap.size ≤ q) (q_ws (q_Vx ad cy) σ0 ++ q_ws (q_Vm am cy) μ0) := hD
  rw [← hu]
  refine lv_astore_n (lv' := [(2, .ref (am 0 0)), (1, .ref (ad 0 0)), (0, .ref b)]) hx hb d_law_15 rfl hl (by decide) rfl (fun ls hl => ?_)
  refine lv_iconst (v := (0 : Int32)) hx hb d_law_16 (by decide) ?_
  refine lv_istore_n (lv' := [(3, .int (0 : Int32)), (2, .ref (am 0 0)), (1, .ref (ad 0 0)), (0, .ref b)]) hx hb d_law_17 rfl hl (by decide) rfl (fun ls hl => ?_)
  obtain ⟨hD1, hD2, hdj⟩ := hD.split
  have hAx := q_A.of hD1
  have hAm := q_A.of hD2
  refine law_loop hr hlocks ⟨hx, hb, hml, hown, hts, hK, hKS.narrow hAx, hKS.narrow hAm, q_N.of hD1, q_N.of hD2, hAx, hAm, fun q h1 h2 => ?_, hX, hbl, hL⟩ (L + 1) 0 (by omega) (by omega) σ0 μ0 H locs ls ⟨inv0 hM, hP.left, hP.right, hS, lv_sub hl [0, 3, 2, 1] rfl⟩
  obtain ⟨i, ei, hi⟩ := q_A.ws (σ := σ0) h1
  obtain ⟨j, ej, hj⟩ := q_A.ws (σ := μ0) h2
  exact hdj i j _ _ hi hj rfl

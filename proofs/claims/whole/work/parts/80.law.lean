set_option maxHeartbeats 8000000 in
set_option maxRecDepth 100000 in
theorem law_loop {p : Program} {l : Launch} {e : Env} {s : State} {m : MethodId} {below : List Frame} {meth : Method} {c : Code} {b L : Nat} {xs : Nat → Int32} {D : va_G} {ad am : Nat → Nat → Nat} {cy : Nat → ClassId} {t : Nat → Nat} (hr : meth.sig.returnType = ret) (hlocks : meth.locks = false) (X : LwX p s m c b L xs D ad am cy t) : ∀ (f I : Nat), L < I + f → I ≤ L + 6 → ∀ (σ : Gm) (μ : Wm) (H : Heap) (locs : List Loc) (ls : Array Slot), LwG s b D ad am cy I σ μ H locs ls → W p l e room_1 s m #[Value.ref b] below meth c H locs 97 3244 (lw_Z below #[Value.ref b] s) (F0 m 18 ls []) := by
  have step : ∀ (I : Nat), I ≤ L + 6 → (I + 6 ≤ L → ∀ (σ : Gm) (μ : Wm) (H : Heap) (locs : List Loc) (ls : Array Slot), LwG s b D ad am cy (I + 6) σ μ H locs ls → W p l e room_1 s m #[Value.ref b] below meth c H locs 97 3244 (lw_Z below #[Value.ref b] s) (F0 m 18 ls [])) → ∀ (σ : Gm) (μ : Wm) (H : Heap) (locs : List Loc) (ls : Array Slot), LwG s b D ad am cy I σ μ H locs ls → W p l e room_1 s m #[Value.ref b] below meth c H locs 97 3244 (lw_Z below #[Value.ref b] s) (F0 m 18 ls []) := by
    intro I hI0 ih σ μ H locs ls G
    obtain ⟨hx, hb, hml, hown, hts, hK, hKx, hKm, hNx, hNm, hAx, hAm, hdj, hX, hbl, hL⟩ := id X
    obtain ⟨hV, hPx, hPm, hS, hl⟩ := id G
    have hbA : ¬ (fun q : Nat => s.heap.size ≤ q) b := Nat.not_le.mpr hbl
    refine lv_iload_n hx hb d_law_18 rfl (lv_at hl 0 rfl) ?_
    refine lv_aload_n hx hb d_law_19 rfl (lv_at hl 1 rfl) ?_
    refine va_slen hx hb hX hbl hbA hS d_law_20 ?_
    refine lv_bipush (v := (6 : Int32)) hx hb d_law_21 (by decide) ?_
    refine lv_isub hx hb d_law_23 ?_
    have ht : (Int32.ofNat L - (6 : Int32)).toInt = (L : Int) - 6 := by
      show (nI L - nI 6).toInt = _
      rw [Int32.toInt_sub, nI_toInt (by omega), nI_toInt (by omega)]
      apply Int.bmod_eq_of_le <;> omega
    have hgt : Int32.ofNat L - (6 : Int32) < nI I ↔ L < I + 6 := by
      rw [Int32.lt_iff_toInt_lt, ht, nI_toInt (by omega)]
      omega
    refine lv_icmp_gt (tgt := 1055) hx hb d_law_24 (by decide) (fun _ => ?_) (fun c0 => ?_)
    · refine lv_iconst (v := (1 : Int32)) hx hb d_law_1055 (by decide) ?_
      refine va_forget (fun q hq => hS.2.2 q hq) ?_
      refine W.widen (k := 600000) (n := 7302250) (Nat.le_of_ble_eq_true rfl) (Nat.le_of_ble_eq_true rfl) ?_
      exact lw_ret hx hb hr hlocks d_law_1056
    have hI : I + 6 ≤ L := by
      have h9 : ¬ L < I + 6 := fun q => c0 (hgt.mpr q)
      omega
    have tl : ∀ (σ : Gm) (μ : Wm) (H : Heap) (locs : List Loc) (ls : Array Slot), LwG s b D ad am cy I σ μ H locs ls → W p l e room_1 s m #[Value.ref b] below meth c H locs 97 3244 (lw_Z below #[Value.ref b] s) (F0 m 1049 ls []) := by
      intro σ μ H locs ls G
      obtain ⟨hV, hPx, hPm, hS, hl⟩ := G
      refine lv_iinc (v := nI (I + 6)) (lv' := [(3, .int (nI (I + 6))), (0, .ref b), (1, .ref (ad 0 0)), (2, .ref (am 0 0))]) hx hb d_law_1049 hl (k := 0) rfl (nI_add I 6) (by decide) rfl (fun ls hl => ?_)
      refine lv_goto (tgt := 18) hx hb d_law_1052 (by decide) ?_
      exact ih hI σ μ H locs ls ⟨hV, hPx, hPm, hS, hl⟩
    refine lv_aload_n hx hb d_law_27 rfl (lv_at hl 1 rfl) ?_
    refine lv_iload_n hx hb d_law_28 rfl (lv_at hl 0 rfl) ?_
    refine va_sld hx hb hX hbl hbA hS (inb_in (inb_nI (show I < L by omega) (by omega))) d_law_29 ?_
    refine lv_bipush (v := (31 : Int32)) hx hb d_law_30 (by decide) ?_
    refine lv_iand hx hb d_law_32 ?_
    generalize (xs (nI I).toNatClampNeg) &&& (31 : Int32) = w
    by_cases hw : w.toInt < 0 ∨ 26 < w.toInt
    · exact lv_tableOut hx hb d_law_33 hw (by decide) (tl σ μ H locs ls G)
    have ew : w = nI w.toInt.toNat := t_nI (Int32.le_iff_toInt_le.mpr (by rw [show (0 : Int32).toInt = 0 by decide]; omega))
    have hj : w.toInt.toNat ≤ 26 := by omega
    generalize w.toInt.toNat = j at ew hj
    subst ew
    rcases (show j = 0 ∨ j = 1 ∨ j = 2 ∨ j = 3 ∨ j = 4 ∨ j = 5 ∨ j = 6 ∨ j = 7 ∨ j = 8 ∨ j = 9 ∨ j = 10 ∨ j = 11 ∨ j = 12 ∨ j = 13 ∨ j = 14 ∨ j = 15 ∨ j = 16 ∨ j = 17 ∨ j = 18 ∨ j = 19 ∨ j = 20 ∨ j = 21 ∨ j = 22 ∨ j = 23 ∨ j = 24 ∨ j = 25 ∨ j = 26 by omega) with rfl | rfl | rfl | rfl | rfl | rfl | rfl | rfl | rfl | rfl | rfl | rfl | rfl | rfl | rfl | rfl | rfl | rfl | rfl | rfl | rfl | rfl | rfl | rfl | rfl | rfl | rfl
    · exact lv_tableIn (off := 123) (tgt := 156) hx hb d_law_33 (by decide) (by decide) (by decide) (by decide) (lw_c0 X hI G tl)
    · exact lv_tableIn (off := 166) (tgt := 199) hx hb d_law_33 (by decide) (by decide) (by decide) (by decide) (lw_c1 X hI G tl)
    · exact lv_tableIn (off := 199) (tgt := 232) hx hb d_law_33 (by decide) (by decide) (by decide) (by decide) (lw_c2 X hI G tl)
    · exact lv_tableIn (off := 232) (tgt := 265) hx hb d_law_33 (by decide) (by decide) (by decide) (by decide) (lw_c3 X hI G tl)
    · exact lv_tableIn (off := 265) (tgt := 298) hx hb d_law_33 (by decide) (by decide) (by decide) (by decide) (lw_c4 X hI G tl)
    · exact lv_tableIn (off := 298) (tgt := 331) hx hb d_law_33 (by decide) (by decide) (by decide) (by decide) (lw_c5 X hI G tl)
    · exact lv_tableIn (off := 321) (tgt := 354) hx hb d_law_33 (by decide) (by decide) (by decide) (by decide) (lw_c6 X hI G tl)
    · exact lv_tableIn (off := 334) (tgt := 367) hx hb d_law_33 (by decide) (by decide) (by decide) (by decide) (lw_c7 X hI G tl)
    · exact lv_tableIn (off := 357) (tgt := 390) hx hb d_law_33 (by decide) (by decide) (by decide) (by decide) (lw_c8 X hI G tl)
    · exact lv_tableIn (off := 380) (tgt := 413) hx hb d_law_33 (by decide) (by decide) (by decide) (by decide) (lw_c9 X hI G tl)
    · exact lv_tableIn (off := 403) (tgt := 436) hx hb d_law_33 (by decide) (by decide) (by decide) (by decide) (lw_c10 X hI G tl)
    · exact lv_tableIn (off := 446) (tgt := 479) hx hb d_law_33 (by decide) (by decide) (by decide) (by decide) (lw_c11 X hI G tl)
    · exact lv_tableIn (off := 479) (tgt := 512) hx hb d_law_33 (by decide) (by decide) (by decide) (by decide) (lw_c12 X hI G tl)
    · exact lv_tableIn (off := 512) (tgt := 545) hx hb d_law_33 (by decide) (by decide) (by decide) (by decide) (lw_c13 X hI G tl)
    · exact lv_tableIn (off := 535) (tgt := 568) hx hb d_law_33 (by decide) (by decide) (by decide) (by decide) (lw_c14 X hI G tl)
    · exact lv_tableIn (off := 559) (tgt := 592) hx hb d_law_33 (by decide) (by decide) (by decide) (by decide) (lw_c15 X hI G tl)
    · exact lv_tableIn (off := 602) (tgt := 635) hx hb d_law_33 (by decide) (by decide) (by decide) (by decide) (lw_c16 X hI G tl)
    · exact lv_tableIn (off := 645) (tgt := 678) hx hb d_law_33 (by decide) (by decide) (by decide) (by decide) (lw_c17 X hI G tl)
    · exact lv_tableIn (off := 678) (tgt := 711) hx hb d_law_33 (by decide) (by decide) (by decide) (by decide) (lw_c18 X hI G tl)
    · exact lv_tableIn (off := 732) (tgt := 765) hx hb d_law_33 (by decide) (by decide) (by decide) (by decide) (lw_c19 X hI G tl)
    · exact lv_tableIn (off := 745) (tgt := 778) hx hb d_law_33 (by decide) (by decide) (by decide) (by decide) (lw_c20 X hI G tl)
    · exact lv_tableIn (off := 758) (tgt := 791) hx hb d_law_33 (by decide) (by decide) (by decide) (by decide) (lw_c21 X hI G tl)
    · exact lv_tableIn (off := 781) (tgt := 814) hx hb d_law_33 (by decide) (by decide) (by decide) (by decide) (lw_c22 X hI G tl)
    · exact lv_tableIn (off := 824) (tgt := 857) hx hb d_law_33 (by decide) (by decide) (by decide) (by decide) (lw_c23 X hI G tl)
    · exact lv_tableIn (off := 867) (tgt := 900) hx hb d_law_33 (by decide) (by decide) (by decide) (by decide) (lw_c24 X hI G tl)
    · exact lv_tableIn (off := 930) (tgt := 963) hx hb d_law_33 (by decide) (by decide) (by decide) (by decide) (lw_c25 X hI G tl)
    · exact lv_tableIn (off := 983) (tgt := 1016) hx hb d_law_33 (by decide) (by decide) (by decide) (by decide) (lw_c26 X hI G tl)
  intro f
  induction f with
  | zero => exact fun I h1 h2 => step I h2 (fun h3 => by omega)
  | succ f ih => exact fun I h1 h2 => step I h2 (fun h3 => ih (I + 6) (by omega) (by omega))
